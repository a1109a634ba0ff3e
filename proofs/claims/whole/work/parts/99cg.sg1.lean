/-- going to the right; nothing is asked at the last point -/
theorem go_right2 {B : Rat} {A A' Q R G : Rat → Rat} (hA : slope B A A') (hQ : nice B Q) (hG : nice B G) (e1 : ∀ x : Rat, A x = Q x * G x) {z y : Rat} (hz : ab B z) (hy : ab B y) (hzy : z < y) (e2 : ∀ x : Rat, z ≤ x → x < y → A' x = R x * G x) (hR : ∀ x : Rat, z ≤ x → x < y → 0 ≤ R x) (hQz : 0 < Q z) (hAz : 0 < A z) : 0 < Q y ∧ A z / 2 ≤ A y := by
  obtain ⟨C, c0, c1⟩ := hA
  obtain ⟨M, m0, m1, m2⟩ := hQ
  obtain ⟨N, n0, n1, _⟩ := hG
  obtain ⟨n, hn1, hn⟩ := arch ((C * ((y - z) * (y - z)) * 2 + M * (y - z) * N * 4) / A z)
  have hn0 : (0 : Rat) < (n : Rat) := by have := nat_le hn1; grind
  have hnA : C * ((y - z) * (y - z)) * 2 + M * (y - z) * N * 4 ≤ (n : Rat) * A z := by
    have h3 := Rat.mul_le_mul_of_nonneg_left hn (c := A z) (by grind)
    have e : A z * ((C * ((y - z) * (y - z)) * 2 + M * (y - z) * N * 4) / A z) = C * ((y - z) * (y - z)) * 2 + M * (y - z) * N * 4 := by grind
    rw [e] at h3
    grind
  have p1 : 0 ≤ C * ((y - z) * (y - z)) := Rat.mul_nonneg c0 (sq_nn _)
  have p2 : 0 ≤ M * (y - z) * N := Rat.mul_nonneg (Rat.mul_nonneg m0 (by grind)) n0
  -- the step
  obtain ⟨k, hk⟩ : ∃ k : Rat, k = (y - z) / (n : Rat) := ⟨_, rfl⟩
  have hkn : k * (n : Rat) = y - z := by rw [hk]; grind
  have hkp : 0 < k := by rw [hk]; exact div_pos' (by grind) hn0
  have hk0 : 0 ≤ k := Rat.le_of_lt hkp
  have q1 : C * (k * k) * (n : Rat) * 2 ≤ A z := by
    have h5 : (n : Rat) * (C * (k * k) * (n : Rat) * 2) ≤ (n : Rat) * A z := by
      have e : (n : Rat) * (C * (k * k) * (n : Rat) * 2) = C * ((k * n) * (k * n)) * 2 := by grind
      rw [e, hkn]; grind
    exact Rat.le_of_mul_le_mul_left h5 hn0
  have q2 : M * k * N * 4 ≤ A z := by
    have h5 : (n : Rat) * (M * k * N * 4) ≤ (n : Rat) * A z := by
      have e : (n : Rat) * (M * k * N * 4) = M * (k * n) * N * 4 := by grind
      rw [e, hkn]; grind
    exact Rat.le_of_mul_le_mul_left h5 hn0
  have hin : ∀ i : Nat, i ≤ n → z ≤ z + (i : Rat) * k ∧ z + (i : Rat) * k ≤ y := fun i hi => by
    have h1 := Rat.mul_nonneg (natr i) hk0
    have h2 := Rat.mul_le_mul_of_nonneg_left (nat_le hi) hk0
    grind
  have hinB : ∀ x : Rat, z ≤ x → x ≤ y → ab B x := fun x h1 h2 => by unfold ab at *; constructor <;> grind
  have main : ∀ i : Nat, i ≤ n → 0 < Q (z + (i : Rat) * k) ∧ A z - (i : Rat) * (C * (k * k)) ≤ A (z + (i : Rat) * k) := by
    intro i
    induction i with
    | zero =>
      intro _
      have e : z + ((0 : Nat) : Rat) * k = z := by grind
      rw [e]
      exact ⟨hQz, by grind⟩
    | succ i ih =>
      intro hi
      obtain ⟨h1, h2⟩ := ih (by omega)
      obtain ⟨x, hx⟩ : ∃ x : Rat, x = z + (i : Rat) * k := ⟨_, rfl⟩
      have e : z + ((i + 1 : Nat) : Rat) * k = x + k := by rw [hx]; grind
      rw [e]
      rw [← hx] at h1 h2
      have i1 := hin i (by omega)
      have i2 := hin (i + 1) hi
      rw [e] at i2
      rw [← hx] at i1
      have bx := hinB x i1.1 i1.2
      have bx2 := hinB (x + k) i2.1 i2.2
      have h3 := c1 x (x + k) bx bx2
      have ek : x + k - x = k := by grind
      rw [ek] at h3
      have ckk : 0 ≤ C * (k * k) := Rat.mul_nonneg c0 (sq_nn k)
      have hile : ((i + 1 : Nat) : Rat) * (C * (k * k)) ≤ (n : Rat) * (C * (k * k)) := by
        have := Rat.mul_le_mul_of_nonneg_left (nat_le hi) ckk
        grind
      have hi1 : ((i + 1 : Nat) : Rat) * (C * (k * k)) = (i : Rat) * (C * (k * k)) + C * (k * k) := by grind
      -- A x is at least half
      have hAx : A z / 2 ≤ A x := by grind
      have hAx0 : 0 < A x := by grind
      -- G x is positive
      have hG0 : 0 < G x := by
        rcases Rat.le_total (a := G x) (b := 0) with g | g
        · have := Rat.mul_nonneg (a := Q x) (b := - G x) (by grind) (by grind)
          have := e1 x
          grind
        · by_cases g2 : G x = 0
          · have := e1 x
            rw [g2] at this
            grind
          · grind
      have hA'x : 0 ≤ A' x := by
        have hxy : x < y := by grind
        rw [e2 x i1.1 hxy]
        exact Rat.mul_nonneg (hR x i1.1 hxy) (by grind)
      have h4 : 0 ≤ A' x * k := Rat.mul_nonneg hA'x hk0
      have h5 : A z - ((i + 1 : Nat) : Rat) * (C * (k * k)) ≤ A (x + k) := by
        unfold ab at h3
        rw [hi1]
        grind
      refine ⟨?_, h5⟩
      -- Q stays positive
      rcases Rat.le_total (a := Q (x + k)) (b := 0) with g | g
      · exfalso
        have h6 := m2 x (x + k) bx bx2 (by grind)
        rw [ek] at h6
        have h7 : ab (M * k) (Q (x + k)) := by unfold ab at *; constructor <;> grind
        have h8 := ab_mul h7 (n1 (x + k) bx2)
        have h9 := e1 (x + k)
        unfold ab at h8
        grind
      · by_cases g2 : Q (x + k) = 0
        · exfalso
          have h9 := e1 (x + k)
          rw [g2] at h9
          grind
        · grind
  have h1 := main n (Nat.le_refl _)
  have e : z + (n : Rat) * k = y := by grind
  rw [e] at h1
  exact ⟨h1.1, by grind⟩

/-- going to the left; nothing is asked at the last point -/
theorem go_left2 {B : Rat} {A A' Q R G : Rat → Rat} (hA : slope B A A') (hQ : nice B Q) (hG : nice B G) (e1 : ∀ x : Rat, A x = Q x * G x)
    {x z : Rat} (hx : ab B x) (hz : ab B z) (hxz : x < z) (e2 : ∀ w : Rat, x < w → w ≤ z → A' w = R w * G w) (hR : ∀ w : Rat, x < w → w ≤ z → 0 ≤ R w) (hQz : Q z < 0) (hAz : 0 < A z) : Q x < 0 ∧ A z / 2 ≤ A x := by
  have h := go_right2 (B := B) (A := fun w => A (-w)) (A' := fun w => - A' (-w)) (Q := fun w => - Q (-w)) (R := fun w => R (-w)) (G := fun w => - G (-w)) (slope_refl hA) (nice_neg (nice_refl hQ)) (nice_neg (nice_refl hG))
    (fun w => by show A (-w) = _; rw [e1]; grind) (z := -z) (y := -x) (ab_neg hz) (ab_neg hx) (by grind)
    (fun w h1 h2 => by show - A' (-w) = _; rw [e2 (-w) (by grind) (by grind)]; grind)
    (fun w h1 h2 => hR (-w) (by grind) (by grind)) (by show 0 < - Q (- -z); rw [show - -z = z by grind]; grind) (by show 0 < A (- -z); rw [show - -z = z by grind]; exact hAz)
  have e3 : - -x = x := by grind
  have e4 : - -z = z := by grind
  simp only [e3, e4] at h
  exact ⟨by grind, h.2⟩
/-- the direction, when R is known between the points only -/
theorem dir_open {B : Rat} {A A' Q R G : Rat → Rat} (hA : slope B A A') (hQ : nice B Q) (hG : nice B G) (e1 : ∀ x : Rat, A x = Q x * G x)
    {x y : Rat} (hx : ab B x) (hy : ab B y) (e2 : ∀ w : Rat, x < w → w < y → A' w = R w * G w) (hR : ∀ w : Rat, x < w → w < y → 0 ≤ R w) (hd : ∃ z : Rat, x < z ∧ z < y ∧ A z ≠ 0) : ¬ (0 ≤ Q x ∧ Q y ≤ 0) := by
  rintro ⟨h1, h2⟩
  obtain ⟨z, z1, z2, z3⟩ := hd
  have bz : ab B z := by unfold ab at *; constructor <;> grind
  have key : ∀ (A A' G : Rat → Rat), slope B A A' → nice B G → (∀ x : Rat, A x = Q x * G x) → (∀ w : Rat, x < w → w < y → A' w = R w * G w) → 0 < A z → False := by
    intro A A' G hA hG e1 e2 hAz
    have hQz : Q z ≠ 0 := fun h => by have := e1 z; rw [h] at this; grind
    by_cases c : 0 < Q z
    · have := (go_right2 hA hQ hG e1 bz hy z2 (fun w g1 g2 => e2 w (by grind) g2) (fun w g1 g2 => hR w (by grind) g2) c hAz).1
      grind
    · have := (go_left2 hA hQ hG e1 hx bz z1 (fun w g1 g2 => e2 w g1 (by grind)) (fun w g1 g2 => hR w g1 (by grind)) (by grind) hAz).1
      grind
  by_cases c : 0 < A z
  · exact key A A' G hA hG e1 e2 c
  · exact key (fun x => - A x) (fun x => - A' x) (fun x => - G x) (slope_neg hA) (nice_neg hG) (fun x => by rw [e1]; grind) (fun w g1 g2 => by rw [e2 w g1 g2]; grind) (by grind)
/-- the direction at A's roots, turned by B's sign -/
theorem dir_B {C : Rat} {A A' Q R G B : Rat → Rat} (hA : slope C A A') (hQ : nice C Q) (hG : nice C G) (e1 : ∀ x : Rat, A x = Q x * G x) (e2 : ∀ x : Rat, A' x * B x = R x * G x)
    {x y : Rat} (hx : ab C x) (hy : ab C y) {r s : Int} (hr : r = 1 ∨ r = -1) (hs : s = 1 ∨ s = -1) (hR : ∀ w : Rat, x < w → w < y → rsg (R w) = r) (hB : ∀ w : Rat, x < w → w < y → rsg (B w) = s) (hd : ∃ z : Rat, x < z ∧ z < y ∧ A z ≠ 0) : ¬ (0 ≤ r * s * rsg (Q x) ∧ r * s * rsg (Q y) ≤ 0) := by
  have hrs : r * s = 1 ∨ r * s = -1 := by rcases hr with u | u <;> rcases hs with w | w <;> rw [u, w] <;> decide
  have hdiv : ∀ w : Rat, x < w → w < y → rsg (R w / B w) = r * s := fun w w1 w2 => by
    have h1 := hR w w1 w2
    have h2 := hB w w1 w2
    have hB0 : B w ≠ 0 := fun g => by rw [g, rsg_zero] at h2; omega
    have e : R w = R w / B w * B w := by grind
    have h3 : rsg (R w) = rsg (R w / B w) * rsg (B w) := by rw [← sgn_mul_r, ← e]
    rw [h1, h2] at h3
    rcases rsg_three (R w / B w) with u | u | u <;> rw [u] at h3 ⊢ <;> rcases hr with a | a <;> rcases hs with b | b <;> rw [a, b] at h3 ⊢ <;> revert h3 <;> decide
  have e3 : ∀ w : Rat, x < w → w < y → A' w = R w / B w * G w := fun w w1 w2 => by
    have hB0 : B w ≠ 0 := fun g => by have := hB w w1 w2; rw [g, rsg_zero] at this; omega
    have := e2 w
    have h5 : B w * (A' w - R w / B w * G w) = 0 := by grind
    rcases Rat.mul_eq_zero.1 h5 with u | u
    · exact absurd u hB0
    · grind
  rintro ⟨g1, g2⟩
  rcases hrs with u | u <;> rw [u] at g1 g2 hdiv
  · refine dir_open (R := fun w => R w / B w) hA hQ hG e1 hx hy e3 (fun w w1 w2 => ?_) hd ⟨?_, ?_⟩
    · have := hdiv w w1 w2
      rcases rsg_cases (R w / B w) with ⟨a, _⟩ | ⟨a, b⟩ | ⟨a, b⟩
      · exact Rat.le_of_lt a
      · rw [b] at this; omega
      · rw [b] at this; omega
    · rcases rsg_cases (Q x) with ⟨a, b⟩ | ⟨a, b⟩ | ⟨a, b⟩
      · exact Rat.le_of_lt a
      · rw [a]; exact Rat.le_refl
      · rw [b] at g1; omega
    · rcases rsg_cases (Q y) with ⟨a, b⟩ | ⟨a, b⟩ | ⟨a, b⟩
      · rw [b] at g2; omega
      · rw [a]; exact Rat.le_refl
      · exact Rat.le_of_lt a
  · refine dir_open (Q := fun w => - Q w) (G := fun w => - G w) (R := fun w => -(R w / B w)) hA (nice_neg hQ) (nice_neg hG) (fun w => by rw [e1]; grind) hx hy (fun w w1 w2 => by rw [e3 w w1 w2]; grind) (fun w w1 w2 => ?_) hd ⟨?_, ?_⟩
    · have := hdiv w w1 w2
      rcases rsg_cases (R w / B w) with ⟨a, b⟩ | ⟨a, b⟩ | ⟨a, b⟩
      · rw [b] at this; omega
      · rw [b] at this; omega
      · grind
    · rcases rsg_cases (Q x) with ⟨a, b⟩ | ⟨a, b⟩ | ⟨a, b⟩
      · rw [b] at g1; omega
      · rw [a]; grind
      · grind
    · rcases rsg_cases (Q y) with ⟨a, b⟩ | ⟨a, b⟩ | ⟨a, b⟩
      · grind
      · rw [a]; grind
      · rw [b] at g2; omega
