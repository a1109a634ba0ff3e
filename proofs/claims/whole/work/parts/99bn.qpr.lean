/-- along a chain of remainders, taken up to factors: each pair's subresultants are the first pair's, up to factors -/
def qPr (f0 f1 : Nat → Int) (n0 n1 : Nat) (a b : Nat → Int) (m n : Nat) : Prop := (∀ t : Nat, n < t → b t = 0) ∧ b n ≠ 0 ∧ n ≤ m ∧ ∀ j : Nat, j ≤ n → j < m → ∃ u v : Int, u ≠ 0 ∧ v ≠ 0 ∧ ∀ t : Nat, u * qSb a b m n j t = v * qSb f0 f1 n0 n1 j t
theorem qPr_self {f0 f1 : Nat → Int} {n0 n1 : Nat} (h : ∀ t : Nat, n1 < t → f1 t = 0) (h0 : f1 n1 ≠ 0) (hn : n1 ≤ n0) : qPr f0 f1 n0 n1 f0 f1 n0 n1 := ⟨h, h0, hn, fun _ _ _ => ⟨1, 1, by decide, by decide, fun _ => rfl⟩⟩
theorem qs1_ne {s : Int} (h : qs1 s) : s ≠ 0 := by rcases h with g | g <;> rw [g] <;> decide
theorem qPr_rest {f0 f1 : Nat → Int} {n0 n1 : Nat} {a b : Nat → Int} {m n : Nat} (H : qPr f0 f1 n0 n1 a b m n) {r Q : Nat → Int} {l : Nat} {u : Int} (hu : u ≠ 0) (hn : l < n)
    (hr : ∀ j : Nat, r j = u * a j + qS (m - n + 1) (fun i => Q i * qx i b j)) (hl : ∀ t : Nat, l < t → r t = 0) : ∃ x y : Int, x ≠ 0 ∧ y ≠ 0 ∧ ∀ t : Nat, x * r t = y * qSb f0 f1 n0 n1 (n - 1) t := by
  obtain ⟨hb, hc, hm, HS⟩ := H
  obtain ⟨x, y, hx, hy, h1⟩ := HS (n - 1) (by omega) (by omega)
  obtain ⟨s2, hs2, h2⟩ := qR_peel (p := 1) (n := n) (l := l) (q1 := 0) (b := b) (r := r) (by omega) (by omega) hb hl (m - n + 1)
  refine ⟨x * (s2 * (b n) ^ (m - n + 1)), u * y, Int.mul_ne_zero hx (Int.mul_ne_zero (qs1_ne hs2) (Int.pow_ne_zero hc)), Int.mul_ne_zero hu hy, fun t => ?_⟩
  have h4 := qR_sub (k := m + n - 2 * (n - 1) - 1) (top := m + n - (n - 1) - 1) (p := 1) (q := m - n + 1) (d := m - n) (a := a) (b := b) (r := r) t (by omega) (by omega) hr
  have h5 := h2 t
  have e1 : 1 + (0 + (m - n + 1)) - 1 = m + n - 2 * (n - 1) - 1 := by omega
  have e2 : n + (0 + (m - n + 1)) - 1 = m + n - (n - 1) - 1 := by omega
  have e4 : (0 + (m - n + 1)) = m - n + 1 := by omega
  have e3 : qD (1 + 0 - 1) (n + 0 - 1) (qR r b 1 0) t = r t := by
    show qR r b 1 0 0 t = r t
    unfold qR qx
    rw [if_pos (by omega), if_pos (by omega)]; rfl
  rw [e1, e2, e3, e4, h4, Int.pow_one] at h5
  have h6 := h1 t
  unfold qSb at h6
  rw [show n - (n - 1) = 1 by omega, show m - (n - 1) = m - n + 1 by omega] at h6
  rw [Int.mul_assoc, ← h5, ← Int.mul_assoc, Int.mul_comm x u, Int.mul_assoc, h6, Int.mul_assoc]
  rfl
theorem qPr_next {f0 f1 : Nat → Int} {n0 n1 : Nat} {a b : Nat → Int} {m n : Nat} (H : qPr f0 f1 n0 n1 a b m n) {r Q f2 : Nat → Int} {l : Nat} {u c e : Int} (hu : u ≠ 0) (hce : c ≠ 0 ∧ e ≠ 0) (hn : l < n)
    (hr : ∀ j : Nat, r j = u * a j + qS (m - n + 1) (fun i => Q i * qx i b j)) (hl : ∀ t : Nat, l < t → r t = 0)
    (hf : ∀ t : Nat, c * r t = e * f2 t) (hf0 : f2 l ≠ 0) : qPr f0 f1 n0 n1 b f2 n l := by
  obtain ⟨hb, hc, hm, HS⟩ := H
  refine ⟨fun t ht => ?_, hf0, by omega, fun j hj hj2 => ?_⟩
  · have h1 := hf t
    rw [hl t ht] at h1
    rcases Int.mul_eq_zero.1 (show e * f2 t = 0 by omega) with h2 | h2
    · exact absurd h2 hce.2
    · exact h2
  · obtain ⟨x, y, hx, hy, h1⟩ := HS j (by omega) (by omega)
    obtain ⟨s2, hs2, h2⟩ := qR_peel (p := n - j) (n := n) (l := l) (q1 := l - j) (b := b) (r := r) (by omega) (by omega) hb hl (m - l)
    obtain ⟨s4, hs4, h4⟩ := qR_turn (k := n - j + (l - j) - 1) (top := n + (l - j) - 1) (p := n - j) (q := l - j) (a := f2) (b := b) (by omega)
    refine ⟨x * (s2 * (b n) ^ (m - l)) * (e ^ (n - j) * s4), c ^ (n - j) * u ^ (n - j) * y, Int.mul_ne_zero (Int.mul_ne_zero hx (Int.mul_ne_zero (qs1_ne hs2) (Int.pow_ne_zero hc))) (Int.mul_ne_zero (Int.pow_ne_zero hce.2) (qs1_ne hs4)), Int.mul_ne_zero (Int.mul_ne_zero (Int.pow_ne_zero hce.1) (Int.pow_ne_zero hu)) hy, fun t => ?_⟩
    have a1 := h2 t
    have a2 := qR_sub (k := m + n - 2 * j - 1) (top := m + n - j - 1) (p := n - j) (q := m - j) (d := m - n) (a := a) (b := b) (r := r) t (by omega) (by omega) hr
    have a3 := h1 t
    unfold qSb at a3
    have hrf : (fun t => c * r t) = (fun t => e * f2 t) := funext hf
    have a4 := qR_scale (k := n - j + (l - j) - 1) (top := n + (l - j) - 1) (p := n - j) (q := l - j) (a := f2) (b := b) e (by omega) t
    have a5 := qR_scale (k := n - j + (l - j) - 1) (top := n + (l - j) - 1) (p := n - j) (q := l - j) (a := r) (b := b) c (by omega) t
    rw [hrf, a4, h4 t] at a5
    rw [show n - j + (l - j + (m - l)) - 1 = m + n - 2 * j - 1 by omega, show n + (l - j + (m - l)) - 1 = m + n - j - 1 by omega, show l - j + (m - l) = m - j by omega, a2] at a1
    have e2 : qSb b f2 n l j t = qD (n - j + (l - j) - 1) (n + (l - j) - 1) (qR b f2 (l - j) (n - j)) t := by
      unfold qSb
      rw [show n + l - 2 * j - 1 = n - j + (l - j) - 1 by omega, show n + l - j - 1 = n + (l - j) - 1 by omega]
    rw [← e2] at a5
    have e3 : qD (n0 + n1 - 2 * j - 1) (n0 + n1 - j - 1) (qR f0 f1 (n1 - j) (n0 - j)) t = qSb f0 f1 n0 n1 j t := rfl
    rw [e3] at a3
    generalize qSb b f2 n l j t = B at a5 ⊢
    generalize qSb f0 f1 n0 n1 j t = S at a3 ⊢
    generalize qD (n - j + (l - j) - 1) (n + (l - j) - 1) (qR r b (n - j) (l - j)) t = R at a1 a5
    generalize qD (m + n - 2 * j - 1) (m + n - j - 1) (qR a b (n - j) (m - j)) t = A at a1 a3
    generalize e ^ (n - j) = E at *
    generalize c ^ (n - j) = C at *
    generalize u ^ (n - j) = U at *
    generalize (b n) ^ (m - l) = Z at *
    calc x * (s2 * Z) * (E * s4) * B = x * (s2 * Z) * (E * (s4 * B)) := by grind
      _ = x * (s2 * Z) * (C * R) := by rw [a5]
      _ = C * x * (s2 * Z * R) := by grind
      _ = C * x * (U * A) := by rw [a1]
      _ = C * U * (x * A) := by grind
      _ = C * U * y * S := by rw [a3]; grind
/-- a primitive row that is alike a bounded one is bounded -/
theorem prim_bd {r s : Nat → Int} {n : Nat} {x y : Int} (hx : x ≠ 0) (hy : y ≠ 0) (hr : gN r n = 1) (h : ∀ t : Nat, t < n → x * r t = y * s t) : ∀ t : Nat, t < n → (r t).natAbs ≤ (s t).natAbs := by
  have h1 : y ∣ x := by
    have h2 : y.natAbs ∣ gN (fun t => x * r t) n := gN_dvd2 (fun i hi => by rw [Int.natAbs_dvd]; exact ⟨s i, h i hi⟩)
    have h3 : gN (fun t => x * r t) n = x.natAbs * gN r n := by
      clear hr h h2
      induction n with
      | zero => rfl
      | succ n ih =>
        show Int.gcd (x * r n) (gN (fun t => x * r t) n) = x.natAbs * Int.gcd (r n) (gN r n)
        rw [ih]
        show Nat.gcd (x * r n).natAbs ((((x.natAbs * gN r n : Nat)) : Int).natAbs) = x.natAbs * Nat.gcd (r n).natAbs (((gN r n : Nat) : Int).natAbs)
        rw [Int.natAbs_mul, Int.natAbs_natCast, Int.natAbs_natCast, Nat.gcd_mul_left]
    rw [h3, hr, Nat.mul_one] at h2
    exact Int.natAbs_dvd_natAbs.1 h2
  obtain ⟨k, rfl⟩ := h1
  have hk : k ≠ 0 := fun g => hx (by rw [g]; omega)
  intro t ht
  have h2 := h t ht
  rw [Int.mul_assoc] at h2
  have h3 : k * r t = s t := Int.eq_of_mul_eq_mul_left hy h2
  rw [← h3, Int.natAbs_mul]
  have := Nat.mul_le_mul_right (r t).natAbs (show 1 ≤ k.natAbs by omega)
  omega
