/-- i powers of x more -/
def qx (i : Nat) (f : Nat → Int) : Nat → Int := fun t => if i ≤ t then f (t - i) else 0

/-- one of two signs -/
def qs1 (s : Int) : Prop := s = 1 ∨ s = -1

theorem qs1_mul {s u : Int} (h : qs1 s) (h' : qs1 u) : qs1 (s * u) := by
  rcases h with rfl | rfl <;> rcases h' with rfl | rfl
  · exact Or.inl rfl
  · exact Or.inr rfl
  · exact Or.inr rfl
  · exact Or.inl rfl

theorem qs1_g (i : Nat) : qs1 (qg i) := by
  unfold qg qs1; split
  · exact Or.inl rfl
  · exact Or.inr rfl

theorem qs1_sq {s : Int} (h : qs1 s) : s * s = 1 := by
  rcases h with rfl | rfl <;> rfl

/-- the last row to the front -/
theorem qD_front {k n : Nat} (t : Nat) : ∀ (i : Nat) (P : Nat → Nat → Int), i < k + 1 → qD k n (fun j => if j = 0 then P i else if j ≤ i then P (j - 1) else P j) t = qg i * qD k n P t := by
  intro i
  induction i with
  | zero =>
    intro P _
    have h1 : qg 0 = 1 := rfl
    rw [h1, Int.one_mul]
    refine qD_congr t (fun j hj => ?_)
    by_cases h : j = 0
    · rw [if_pos h, h]
    · rw [if_neg h, if_neg (by omega)]
  | succ i ih =>
    intro P hi
    have h1 := ih (qw i P) (by omega)
    rw [qD_swap t hi] at h1
    rw [qg_succ, Int.neg_mul, ← Int.mul_neg, ← h1]
    refine qD_congr t (fun j hj => ?_)
    by_cases h2 : j = 0
    · rw [if_pos h2, if_pos h2]
      exact (if_pos rfl).symm
    · rw [if_neg h2, if_neg h2]
      by_cases h3 : j ≤ i
      · rw [if_pos (by omega), if_pos h3]
        show _ = (if j - 1 = i then P (i + 1) else if j - 1 = i + 1 then P i else P (j - 1))
        rw [if_neg (by omega), if_neg (by omega)]
      · rw [if_neg h3]
        show _ = (if j = i then P (i + 1) else if j = i + 1 then P i else P j)
        rw [if_neg (show ¬ j = i by omega)]
        by_cases h4 : j = i + 1
        · rw [if_pos (show j ≤ i + 1 by omega), if_pos h4, h4]; rfl
        · rw [if_neg (show ¬ j ≤ i + 1 by omega), if_neg h4]

/-- the last q rows to the front -/
theorem qD_rot {k n : Nat} (P : Nat → Nat → Int) : ∀ (q : Nat), q ≤ k + 1 → ∃ s : Int, qs1 s ∧ ∀ t : Nat, qD k n (fun j => if j < q then P (j + (k + 1 - q)) else P (j - q)) t = s * qD k n P t := by
  intro q
  induction q with
  | zero =>
    intro _
    refine ⟨1, Or.inl rfl, fun t => ?_⟩
    rw [Int.one_mul]
    exact qD_congr t (fun j hj => by rw [if_neg (by omega)]; rfl)
  | succ q ih =>
    intro hq
    obtain ⟨s, hs, h⟩ := ih (by omega)
    refine ⟨qg k * s, qs1_mul (qs1_g k) hs, fun t => ?_⟩
    have h1 := qD_front (k := k) (n := n) t k (fun j => if j < q then P (j + (k + 1 - q)) else P (j - q)) (by omega)
    rw [h t, ← Int.mul_assoc] at h1
    rw [← h1]
    refine qD_congr t (fun j hj => ?_)
    by_cases h2 : j = 0
    · rw [if_pos (by omega), if_pos h2, if_neg (by omega)]
      congr 1; omega
    · rw [if_neg h2, if_pos (show j ≤ k by omega)]
      by_cases h3 : j < q + 1
      · rw [if_pos h3, if_pos (by omega)]; congr 1; omega
      · rw [if_neg h3, if_neg (by omega)]; congr 1; omega

/-- one row alone has the upper column -/
theorem qD_peel_at {k n i : Nat} {P : Nat → Nat → Int} (t : Nat) (hi : i < k + 2) (h : ∀ j : Nat, j < k + 2 → j ≠ i → P j n = 0) : qD (k + 1) n P t = qg i * P i n * qD k (n - 1) (qd i P) t := by
  show qS (k + 2) _ = _
  rw [qS_one hi (fun j hj hn => ?_)]
  rw [h j hj hn, Int.mul_zero, Int.zero_mul]

/-- a row that is a sum -/
theorem qD_sum {k n i : Nat} {P : Nat → Nat → Int} (t : Nat) (hi : i < k + 1) (u : Int) (x : Nat → Int) (v : Nat → Int) (y : Nat → Nat → Int) : ∀ (K : Nat),
    qD k n (qu P i (fun j => u * x j + qS K (fun e => v e * y e j))) t = u * qD k n (qu P i x) t + qS K (fun e => v e * qD k n (qu P i (y e)) t) := by
  intro K
  induction K with
  | zero =>
    have h := qD_lin (k := k) (n := n) (P := P) (i := i) t u 0 x x hi
    rw [Int.zero_mul] at h
    rw [show (fun j => u * x j + qS 0 (fun e => v e * y e j)) = (fun j => u * x j + 0 * x j) from funext (fun j => by rw [Int.zero_mul]; rfl), h]
    rfl
  | succ K ih =>
    have h := qD_lin (k := k) (n := n) (P := P) (i := i) t 1 (v K) (fun j => u * x j + qS K (fun e => v e * y e j)) (y K) hi
    rw [show (fun j => u * x j + qS (K + 1) (fun e => v e * y e j)) = (fun j => 1 * (u * x j + qS K (fun e => v e * y e j)) + v K * y K j) from funext (fun j => by
      show u * x j + (qS K _ + v K * y K j) = _
      rw [Int.one_mul, Int.add_assoc]), h, ih, Int.one_mul]
    show _ = u * qD k n (qu P i x) t + (qS K _ + v K * _)
    rw [Int.add_assoc]

/-- p rows of a, q rows of b, highest powers first -/
def qR (a b : Nat → Int) (p q : Nat) : Nat → Nat → Int := fun i => if i < p then qx (p - 1 - i) a else qx (p + q - 1 - i) b

/-- the first e of a's rows are r's -/
def qR1 (a b r : Nat → Int) (p q e : Nat) : Nat → Nat → Int := fun i => if i < e then qx (p - 1 - i) r else qR a b p q i

theorem qR1_step {k top p q e d : Nat} {a b r : Nat → Int} {u : Int} {Q : Nat → Int} (t : Nat) (hk : k + 1 = p + q) (hd : p + d = q) (he : e < p)
    (hr : ∀ j : Nat, r j = u * a j + qS (d + 1) (fun i => Q i * qx i b j)) :
    qD k top (qR1 a b r p q (e + 1)) t = u * qD k top (qR1 a b r p q e) t := by
  have h := qD_sum (k := k) (n := top) (i := e) (P := qR1 a b r p q e) t (by omega) u (qx (p - 1 - e) a) Q (fun i => qx (i + (p - 1 - e)) b) (d + 1)
  rw [qS_zero (k := d + 1) (fun i hi => ?_)] at h
  · rw [Int.add_zero] at h
    rw [show qR1 a b r p q (e + 1) = qu (qR1 a b r p q e) e (fun j => u * qx (p - 1 - e) a j + qS (d + 1) (fun i => Q i * qx (i + (p - 1 - e)) b j)) from ?_, h]
    · congr 1
      refine qD_congr t (fun j hj => ?_)
      unfold qu
      by_cases h1 : j = e
      · rw [if_pos h1, h1]
        unfold qR1 qR
        rw [if_neg (by omega), if_pos he]
      · rw [if_neg h1]
    · funext i j
      unfold qu
      by_cases h1 : i = e
      · rw [if_pos h1, h1]
        show (if e < e + 1 then qx (p - 1 - e) r else _) j = _
        rw [if_pos (by omega)]
        unfold qx
        by_cases h2 : p - 1 - e ≤ j
        · rw [if_pos h2, if_pos h2, hr]
          congr 1
          refine qS_congr (fun o ho => ?_)
          congr 1
          unfold qx
          by_cases h3 : o ≤ j - (p - 1 - e)
          · rw [if_pos h3, if_pos (by omega)]; congr 1; omega
          · rw [if_neg h3, if_neg (by omega)]
        · rw [if_neg h2, if_neg h2, Int.mul_zero, qS_zero]
          · rfl
          · intro o ho
            rw [if_neg (by omega), Int.mul_zero]
      · rw [if_neg h1]
        unfold qR1
        by_cases h2 : i < e
        · rw [if_pos h2, if_pos (by omega)]
        · rw [if_neg h2, if_neg (by omega)]
  · rw [qD_two' (i := e) (j := p + (q - p - i + e)) t (by omega) (by omega) (by omega) ?_, Int.mul_zero]
    rw [qu_same, qu_other _ _ (by omega)]
    unfold qR1 qR
    rw [if_neg (by omega), if_neg (by omega)]
    congr 1; omega

theorem qR1_all {k top p q d : Nat} {a b r : Nat → Int} {u : Int} {Q : Nat → Int} (t : Nat) (hk : k + 1 = p + q) (hd : p + d = q)
    (hr : ∀ j : Nat, r j = u * a j + qS (d + 1) (fun i => Q i * qx i b j)) : ∀ e : Nat, e ≤ p →
    qD k top (qR1 a b r p q e) t = u ^ e * qD k top (qR a b p q) t := by
  intro e
  induction e with
  | zero =>
    intro _
    rw [Int.pow_zero, Int.one_mul]
    exact qD_congr t (fun j hj => if_neg (by omega))
  | succ e ih =>
    intro he
    rw [qR1_step t hk hd (by omega) hr, ih (by omega), Int.pow_succ, Int.mul_comm (u ^ e) u, Int.mul_assoc]

/-- the p rows of a made rows of r -/
theorem qR_sub {k top p q d : Nat} {a b r : Nat → Int} {u : Int} {Q : Nat → Int} (t : Nat) (hk : k + 1 = p + q) (hd : p + d = q)
    (hr : ∀ j : Nat, r j = u * a j + qS (d + 1) (fun i => Q i * qx i b j)) :
    qD k top (qR r b p q) t = u ^ p * qD k top (qR a b p q) t := by
  rw [← qR1_all t hk hd hr p (Nat.le_refl p)]
  refine qD_congr t (fun j hj => ?_)
  unfold qR1 qR
  by_cases h : j < p
  · rw [if_pos h, if_pos h]
  · rw [if_neg h, if_neg h, if_neg h]

/-- b's upper rows go -/
theorem qR_peel {p n l q1 : Nat} {b r : Nat → Int} (hp : 1 ≤ p) (hl : l + p ≤ n + q1) (hb : ∀ t : Nat, n < t → b t = 0) (hr : ∀ t : Nat, l < t → r t = 0) : ∀ (z : Nat),
    ∃ s : Int, qs1 s ∧ ∀ t : Nat, qD (p + (q1 + z) - 1) (n + (q1 + z) - 1) (qR r b p (q1 + z)) t = s * (b n) ^ z * qD (p + q1 - 1) (n + q1 - 1) (qR r b p q1) t := by
  intro z
  induction z with
  | zero => exact ⟨1, Or.inl rfl, fun t => by rw [Int.pow_zero, Int.one_mul, Int.one_mul]; rfl⟩
  | succ z ih =>
    obtain ⟨s, hs, h⟩ := ih
    refine ⟨qg p * s, qs1_mul (qs1_g p) hs, fun t => ?_⟩
    obtain ⟨k, hk⟩ : ∃ k, p + (q1 + (z + 1)) - 1 = k + 1 := ⟨p + (q1 + z) - 1, by omega⟩
    rw [hk, qD_peel_at (i := p) t (by omega) (fun j hj hn => ?_)]
    · have e1 : k = p + (q1 + z) - 1 := by omega
      have e2 : n + (q1 + (z + 1)) - 1 - 1 = n + (q1 + z) - 1 := by omega
      have e3 : qR r b p (q1 + (z + 1)) p (n + (q1 + (z + 1)) - 1) = b n := by
        unfold qR qx
        rw [if_neg (by omega), if_pos (by omega)]
        congr 1; omega
      rw [e1, e2, e3, qD_congr (P := qd p (qR r b p (q1 + (z + 1)))) (R := qR r b p (q1 + z)) t (fun j hj => ?_), h t, Int.pow_succ]
      · simp only [Int.mul_assoc, Int.mul_comm, Int.mul_left_comm]
      · unfold qd qR
        by_cases h1 : j < p
        · rw [if_pos h1, if_pos h1, if_pos h1]
        · rw [if_neg h1, if_neg h1, if_neg (by omega)]
          congr 1; omega
    · unfold qR
      by_cases h1 : j < p
      · rw [if_pos h1]
        unfold qx
        rw [if_pos (by omega)]
        exact hr _ (by omega)
      · rw [if_neg h1]
        unfold qx
        split
        · exact hb _ (by omega)
        · rfl

/-- rows of b first -/
theorem qR_turn {k top p q : Nat} {a b : Nat → Int} (hk : k + 1 = p + q) : ∃ s : Int, qs1 s ∧ ∀ t : Nat, qD k top (qR a b p q) t = s * qD k top (qR b a q p) t := by
  obtain ⟨s, hs, h⟩ := qD_rot (k := k) (n := top) (qR a b p q) q (by omega)
  refine ⟨s, hs, fun t => ?_⟩
  have h1 := h t
  rw [qD_congr (R := qR b a q p) t (fun j hj => ?_)] at h1
  · rw [h1, ← Int.mul_assoc, qs1_sq hs, Int.one_mul]
  · unfold qR
    by_cases h2 : j < q
    · rw [if_pos h2, if_pos h2, if_neg (by omega)]; congr 1; omega
    · rw [if_neg h2, if_neg h2, if_pos (by omega)]; congr 1; omega

/-- rows times a number -/
theorem qR_scale {k top p q : Nat} {a b : Nat → Int} (u : Int) (hk : k + 1 = p + q) (t : Nat) : qD k top (qR (fun j => u * a j) b p q) t = u ^ p * qD k top (qR a b p q) t := by
  have aux : ∀ e : Nat, e ≤ p → qD k top (qR1 a b (fun j => u * a j) p q e) t = u ^ e * qD k top (qR a b p q) t := by
    intro e
    induction e with
    | zero =>
      intro _
      rw [Int.pow_zero, Int.one_mul]
      exact qD_congr t (fun j hj => if_neg (by omega))
    | succ e ih =>
      intro he
      have h := qD_lin (k := k) (n := top) (P := qR1 a b (fun j => u * a j) p q e) (i := e) t u 0 (qx (p - 1 - e) a) (qx (p - 1 - e) a) (by omega)
      rw [Int.zero_mul, Int.add_zero] at h
      rw [Int.pow_succ, Int.mul_comm (u ^ e) u, Int.mul_assoc, ← ih (by omega)]
      rw [qD_congr (P := qR1 a b (fun j => u * a j) p q (e + 1)) (R := qu (qR1 a b (fun j => u * a j) p q e) e (fun j => u * qx (p - 1 - e) a j + 0 * qx (p - 1 - e) a j)) t (fun j hj => ?_), h]
      · congr 1
        refine qD_congr t (fun j hj => ?_)
        unfold qu
        by_cases h1 : j = e
        · rw [if_pos h1, h1]; unfold qR1 qR; rw [if_neg (by omega), if_pos (by omega)]
        · rw [if_neg h1]
      · unfold qu
        by_cases h1 : j = e
        · rw [if_pos h1, h1]
          unfold qR1
          rw [if_pos (by omega)]
          funext o
          unfold qx
          split
          · rw [Int.zero_mul, Int.add_zero]
          · rw [Int.mul_zero, Int.zero_mul]; rfl
        · rw [if_neg h1]
          unfold qR1
          by_cases h2 : j < e
          · rw [if_pos h2, if_pos (by omega)]
          · rw [if_neg h2, if_neg (by omega)]
  rw [← aux p (Nat.le_refl p)]
  refine qD_congr t (fun j hj => ?_)
  unfold qR1 qR
  by_cases h : j < p
  · rw [if_pos h, if_pos h]
  · rw [if_neg h, if_neg h, if_neg h]
