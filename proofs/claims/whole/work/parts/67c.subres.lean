/-- the subresultant of order j of two polynomials with degrees m and n -/
def qSb (a b : Nat → Int) (m n j : Nat) : Nat → Int := qD (m + n - 2 * j - 1) (m + n - j - 1) (qR a b (n - j) (m - j))

theorem qs1_pow {s : Int} (h : qs1 s) : ∀ k : Nat, qs1 (s ^ k) := by
  intro k
  induction k with
  | zero => exact Or.inl (Int.pow_zero s)
  | succ k ih => rw [Int.pow_succ]; exact qs1_mul ih h

theorem qs1_abs (c : Int) : ∃ s : Int, qs1 s ∧ c = s * (c.natAbs : Int) := by
  by_cases h : 0 ≤ c
  · exact ⟨1, Or.inl rfl, by omega⟩
  · exact ⟨-1, Or.inr rfl, by omega⟩

theorem q_mul_pow (a b : Int) (k : Nat) : (a * b) ^ k = a ^ k * b ^ k := by
  induction k with
  | zero => rw [Int.pow_zero, Int.pow_zero, Int.pow_zero]; rfl
  | succ k ih => rw [Int.pow_succ, Int.pow_succ, Int.pow_succ, ih]; grind

theorem q_pow_pow (a : Int) (k i : Nat) : (a ^ k) ^ i = a ^ (k * i) := by
  induction i with
  | zero => rw [Nat.mul_zero, Int.pow_zero, Int.pow_zero]
  | succ i ih => rw [Int.pow_succ, ih, Nat.mul_succ, Int.pow_add]

theorem q_pow_pos {a : Int} (h : 0 < a) (k : Nat) : 0 < a ^ k := by
  induction k with
  | zero => rw [Int.pow_zero]; exact Int.one_pos
  | succ k ih => rw [Int.pow_succ]; exact Int.mul_pos ih h

theorem qs1_cpow (c : Int) (k : Nat) : ∃ s : Int, qs1 s ∧ c ^ k = s * (c.natAbs : Int) ^ k := by
  obtain ⟨s, hs, h⟩ := qs1_abs c
  refine ⟨s ^ k, qs1_pow hs k, ?_⟩
  rw [← q_mul_pow, ← h]

/-- only rows of b -/
theorem qR0_peel {n : Nat} {b : Nat → Int} (hb : ∀ t : Nat, n < t → b t = 0) (t : Nat) : ∀ z : Nat, qD z (n + z) (fun i => qx (z - i) b) t = (b n) ^ z * b t := by
  intro z
  induction z with
  | zero => rw [Int.pow_zero, Int.one_mul]; rfl
  | succ z ih =>
    rw [qD_peel t (fun i hi => ?_)]
    · have e1 : qx (z + 1 - 0) b (n + (z + 1)) = b n := by
        unfold qx
        rw [if_pos (by omega)]
        congr 1; omega
      have e2 : (fun i => qx (z + 1 - (i + 1)) b) = (fun i => qx (z - i) b) := by
        funext i; congr 1; omega
      have e3 : n + (z + 1) - 1 = n + z := by omega
      rw [e1, e2, e3, ih, Int.pow_succ]; grind
    · show qx (z + 1 - (i + 1)) b (n + (z + 1)) = 0
      unfold qx
      rw [if_pos (by omega)]
      exact hb _ (by omega)

/-- what is known along the chain: each pair's subresultants are the first pair's, times known factors -/
def qIn (f0 f1 : Nat → Int) (n0 n1 : Nat) (a b : Nat → Int) (m n : Nat) (g h : Int) : Prop :=
  (∀ t : Nat, n < t → b t = 0) ∧ b n ≠ 0 ∧ 0 < g ∧ 0 < h ∧ n ≤ m ∧
  ∀ j : Nat, j ≤ n → j < m → ∃ s : Int, qs1 s ∧ ∀ t : Nat, qSb a b m n j t = s * (g ^ (n - j) * h ^ (m - j - 1)) * qSb f0 f1 n0 n1 j t

theorem q_cancel {w x y : Int} (hw : 0 < w) (h : w * x = w * y) : x = y :=
  Int.eq_of_mul_eq_mul_left (by omega) h

theorem qIn_rest {f0 f1 : Nat → Int} {n0 n1 : Nat} {a b : Nat → Int} {m n : Nat} {g h : Int} (H : qIn f0 f1 n0 n1 a b m n g h) {r Q : Nat → Int} {l : Nat} (hn : l < n)
    (hr : ∀ j : Nat, r j = ((b n).natAbs : Int) ^ (m - n + 1) * a j + qS (m - n + 1) (fun i => Q i * qx i b j)) (hl : ∀ t : Nat, l < t → r t = 0) :
    ∃ s : Int, qs1 s ∧ ∀ t : Nat, r t = s * (g * h ^ (m - n)) * qSb f0 f1 n0 n1 (n - 1) t := by
  obtain ⟨hb, hc, hg, hh, hm, HS⟩ := H
  obtain ⟨s, hs, h1⟩ := HS (n - 1) (by omega) (by omega)
  obtain ⟨s2, hs2, h2⟩ := qR_peel (p := 1) (n := n) (l := l) (q1 := 0) (b := b) (r := r) (by omega) (by omega) hb hl (m - n + 1)
  obtain ⟨s3, hs3, h3⟩ := qs1_cpow (b n) (m - n + 1)
  refine ⟨s * s2 * s3, qs1_mul (qs1_mul hs hs2) hs3, fun t => ?_⟩
  have h4 := qR_sub (k := m + n - 2 * (n - 1) - 1) (top := m + n - (n - 1) - 1) (p := 1) (q := m - n + 1) (d := m - n) (a := a) (b := b) (r := r) t (by omega) (by omega) hr
  have h5 := h2 t
  have e1 : 1 + (0 + (m - n + 1)) - 1 = m + n - 2 * (n - 1) - 1 := by omega
  have e2 : n + (0 + (m - n + 1)) - 1 = m + n - (n - 1) - 1 := by omega
  have e4 : (0 + (m - n + 1)) = m - n + 1 := by omega
  have e3 : qD (1 + 0 - 1) (n + 0 - 1) (qR r b 1 0) t = r t := by
    show qR r b 1 0 0 t = r t
    unfold qR qx
    rw [if_pos (by omega), if_pos (by omega)]; rfl
  rw [e1, e2, e3, e4, h4, h3, Int.pow_one] at h5
  have h6 := h1 t
  unfold qSb at h6
  rw [show n - (n - 1) = 1 by omega, show m - (n - 1) = m - n + 1 by omega, show m - n + 1 - 1 = m - n by omega, Int.pow_one] at h6
  rw [h6] at h5
  have hp : 0 < ((b n).natAbs : Int) ^ (m - n + 1) := q_pow_pos (by omega) _
  refine q_cancel hp ?_
  have k1 := qs1_sq hs2
  have k2 := qs1_sq hs3
  rw [show qD (n0 + n1 - 2 * (n - 1) - 1) (n0 + n1 - (n - 1) - 1) (qR f0 f1 (n1 - (n - 1)) (n0 - (n - 1))) t = qSb f0 f1 n0 n1 (n - 1) t from rfl] at h5
  generalize qSb f0 f1 n0 n1 (n - 1) t = S at h5 ⊢
  generalize ((b n).natAbs : Int) ^ (m - n + 1) = U at *
  generalize g * h ^ (m - n) = V at *
  calc U * r t = (s2 * s2) * (s3 * s3) * (U * r t) := by rw [k1, k2]; grind
    _ = s2 * s3 * (s2 * (s3 * U) * r t) := by grind
    _ = s2 * s3 * (U * (s * V * S)) := by rw [h5]
    _ = U * (s * s2 * s3 * V * S) := by grind

theorem qIn_lead {f0 f1 : Nat → Int} {n0 n1 : Nat} {a b : Nat → Int} {m n : Nat} {g h : Int} (H : qIn f0 f1 n0 n1 a b m n g h) (hm : n < m) :
    ((b n).natAbs : Int) ^ (m - n) = h ^ (m - n - 1) * ((qSb f0 f1 n0 n1 n n).natAbs : Int) := by
  obtain ⟨hb, hc, hg, hh, _, HS⟩ := H
  obtain ⟨s, hs, h1⟩ := HS n (by omega) (by omega)
  have h2 := h1 n
  have h3 := qR0_peel hb n (m - n - 1)
  have h4 : qSb a b m n n n = (b n) ^ (m - n - 1) * b n := by
    rw [← h3]
    unfold qSb
    rw [show m + n - 2 * n - 1 = m - n - 1 by omega, show m + n - n - 1 = n + (m - n - 1) by omega]
    refine qD_congr n (fun i hi => ?_)
    unfold qR
    rw [if_neg (by omega)]
    congr 1; omega
  rw [h4, ← Int.pow_succ, show (m - n - 1).succ = m - n by omega, Nat.sub_self, Int.pow_zero, Int.one_mul] at h2
  have h5 : (((b n) ^ (m - n)).natAbs : Int) = ((b n).natAbs : Int) ^ (m - n) := by rw [Int.natAbs_pow]; exact Int.natCast_pow _ _
  rw [← h5, h2, Int.natAbs_mul, Int.natAbs_mul]
  have hp := q_pow_pos hh (m - n - 1)
  have h6 : s.natAbs = 1 := by rcases hs with rfl | rfl <;> rfl
  rw [h6, Nat.one_mul]
  have h7 : ((h ^ (m - n - 1)).natAbs : Int) = h ^ (m - n - 1) := by omega
  rw [Int.natCast_mul, h7]

theorem q_expo {cc h h' : Int} {m n l j : Nat} (hj : j ≤ l) (hl : l < n) (hm : n ≤ m) (hh : (m = n ∧ h' = h) ∨ (n < m ∧ h' * h ^ (m - n - 1) = cc ^ (m - n))) :
    cc ^ (m - l) * h ^ ((m - n) * (n - j)) * (cc ^ (l - j) * h' ^ (n - j - 1)) = (cc ^ (m - n + 1)) ^ (n - j) * h ^ (m - j - 1) := by
  rw [q_pow_pow]
  rcases hh with ⟨rfl, rfl⟩ | ⟨h1, h2⟩
  · have e1 : cc ^ ((m - m + 1) * (m - j)) = cc ^ (m - l) * cc ^ (l - j) := by
      rw [← Int.pow_add]; congr 1
      rw [Nat.sub_self, Nat.zero_add, Nat.one_mul]; omega
    rw [e1, Nat.sub_self, Nat.zero_mul, Int.pow_zero]; grind
  · obtain ⟨d, rfl⟩ : ∃ d, m = n + (d + 1) := ⟨m - n - 1, by omega⟩
    obtain ⟨p, rfl⟩ : ∃ p, n = j + (p + 1) := ⟨n - j - 1, by omega⟩
    rw [show j + (p + 1) + (d + 1) - (j + (p + 1)) = d + 1 by omega] at h2 ⊢
    rw [show d + 1 - 1 = d by omega] at h2
    rw [show j + (p + 1) - j = p + 1 by omega, show p + 1 - 1 = p by omega, show j + (p + 1) + (d + 1) - j - 1 = d + 1 + p by omega]
    have e1 : h ^ ((d + 1) * (p + 1)) = h ^ (d * p) * h ^ (d + 1 + p) := by
      rw [← Int.pow_add]; congr 1; rw [Nat.succ_mul, Nat.mul_succ]; omega
    have e2 : cc ^ ((d + 1 + 1) * (p + 1)) = cc ^ ((d + 1) * p) * (cc ^ (j + (p + 1) + (d + 1) - l) * cc ^ (l - j)) := by
      rw [← Int.pow_add, ← Int.pow_add]; congr 1
      rw [Nat.succ_mul, Nat.mul_succ]; omega
    have e3 : cc ^ ((d + 1) * p) = h' ^ p * h ^ (d * p) := by
      rw [← q_pow_pow, ← h2, q_mul_pow, q_pow_pow]
    rw [e1, e2, e3]; grind

theorem qIn_next {f0 f1 : Nat → Int} {n0 n1 : Nat} {a b : Nat → Int} {m n : Nat} {g h : Int} (H : qIn f0 f1 n0 n1 a b m n g h) {r Q f2 : Nat → Int} {l : Nat} {h' : Int} (hn : l < n)
    (hr : ∀ j : Nat, r j = ((b n).natAbs : Int) ^ (m - n + 1) * a j + qS (m - n + 1) (fun i => Q i * qx i b j)) (hl : ∀ t : Nat, l < t → r t = 0)
    (hf : ∀ t : Nat, r t = -(g * h ^ (m - n)) * f2 t) (hf0 : f2 l ≠ 0) (hh' : 0 < h')
    (he : (m = n ∧ h' = h) ∨ (n < m ∧ h' * h ^ (m - n - 1) = ((b n).natAbs : Int) ^ (m - n))) :
    qIn f0 f1 n0 n1 b f2 n l ((b n).natAbs : Int) h' := by
  obtain ⟨hb, hc, hg, hh, hm, HS⟩ := H
  have hcp : 0 < ((b n).natAbs : Int) := by omega
  have hw : 0 < g * h ^ (m - n) := Int.mul_pos hg (q_pow_pos hh _)
  refine ⟨fun t ht => ?_, hf0, hcp, hh', by omega, fun j hj hj2 => ?_⟩
  · have h1 := hl t ht
    rw [hf t] at h1
    rcases Int.mul_eq_zero.1 h1 with h2 | h2
    · omega
    · exact h2
  · obtain ⟨s, hs, h1⟩ := HS j (by omega) (by omega)
    obtain ⟨s2, hs2, h2⟩ := qR_peel (p := n - j) (n := n) (l := l) (q1 := l - j) (b := b) (r := r) (by omega) (by omega) hb hl (m - l)
    obtain ⟨s3, hs3, h3⟩ := qs1_cpow (b n) (m - l)
    obtain ⟨s4, hs4, h4⟩ := qR_turn (k := n - j + (l - j) - 1) (top := n + (l - j) - 1) (p := n - j) (q := l - j) (a := f2) (b := b) (by omega)
    obtain ⟨s5, hs5, h5⟩ := qs1_cpow (-(g * h ^ (m - n))) (n - j)
    refine ⟨s * s2 * s3 * s4 * s5, qs1_mul (qs1_mul (qs1_mul (qs1_mul hs hs2) hs3) hs4) hs5, fun t => ?_⟩
    have a1 := h2 t
    have a2 := qR_sub (k := m + n - 2 * j - 1) (top := m + n - j - 1) (p := n - j) (q := m - j) (d := m - n) (a := a) (b := b) (r := r) t (by omega) (by omega) hr
    have a3 := h1 t
    unfold qSb at a3
    have hrf : r = (fun t => -(g * h ^ (m - n)) * f2 t) := funext hf
    have a4 := qR_scale (k := n - j + (l - j) - 1) (top := n + (l - j) - 1) (p := n - j) (q := l - j) (a := f2) (b := b) (-(g * h ^ (m - n))) (by omega) t
    rw [← hrf, h4 t] at a4
    rw [show n - j + (l - j + (m - l)) - 1 = m + n - 2 * j - 1 by omega, show n + (l - j + (m - l)) - 1 = m + n - j - 1 by omega, show l - j + (m - l) = m - j by omega, a2, a3, a4, h3, h5] at a1
    have e0 : ((-(g * h ^ (m - n))).natAbs : Int) = g * h ^ (m - n) := by omega
    rw [e0, q_mul_pow g, q_pow_pow h] at a1
    have e1 := q_expo (cc := ((b n).natAbs : Int)) hj hn hm he
    have e2 : qSb b f2 n l j t = qD (n - j + (l - j) - 1) (n + (l - j) - 1) (qR b f2 (l - j) (n - j)) t := by
      unfold qSb
      rw [show n + l - 2 * j - 1 = n - j + (l - j) - 1 by omega, show n + l - j - 1 = n + (l - j) - 1 by omega]
    rw [← e2] at a1
    rw [show qD (n0 + n1 - 2 * j - 1) (n0 + n1 - j - 1) (qR f0 f1 (n1 - j) (n0 - j)) t = qSb f0 f1 n0 n1 j t from rfl] at a1
    have hG := q_pow_pos hg (n - j)
    have hC := q_pow_pos hcp (m - l)
    have hH := q_pow_pos hh ((m - n) * (n - j))
    have k2 := qs1_sq hs2
    have k3 := qs1_sq hs3
    have k4 := qs1_sq hs4
    have k5 := qs1_sq hs5
    refine q_cancel (Int.mul_pos hG (Int.mul_pos hC hH)) ?_
    generalize qSb b f2 n l j t = B at a1 ⊢
    generalize qSb f0 f1 n0 n1 j t = S at a1 ⊢
    generalize ((b n).natAbs : Int) ^ (m - l) = C1 at *
    generalize h ^ ((m - n) * (n - j)) = H1 at *
    generalize g ^ (n - j) = G1 at *
    generalize (((b n).natAbs : Int) ^ (m - n + 1)) ^ (n - j) = U1 at *
    generalize h ^ (m - j - 1) = H2 at *
    generalize ((b n).natAbs : Int) ^ (l - j) * h' ^ (n - j - 1) = Z1 at *
    have a5 : s2 * s3 * s4 * s5 * (U1 * (s * (G1 * H2) * S)) = C1 * (G1 * H1) * B := by
      rw [a1]
      calc s2 * s3 * s4 * s5 * (s2 * (s3 * C1) * (s5 * (G1 * H1) * (s4 * B))) = (s2 * s2) * (s3 * s3) * (s4 * s4) * (s5 * s5) * (C1 * (G1 * H1) * B) := by grind
        _ = C1 * (G1 * H1) * B := by rw [k2, k3, k4, k5]; grind
    calc G1 * (C1 * H1) * B = C1 * (G1 * H1) * B := by grind
      _ = s2 * s3 * s4 * s5 * (U1 * (s * (G1 * H2) * S)) := a5.symm
      _ = G1 * (U1 * H2) * (s * s2 * s3 * s4 * s5 * S) := by grind
      _ = G1 * (C1 * H1 * Z1) * (s * s2 * s3 * s4 * s5 * S) := by rw [e1]
      _ = G1 * (C1 * H1) * (s * s2 * s3 * s4 * s5 * Z1 * S) := by grind
