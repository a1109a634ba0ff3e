theorem natr (n : Nat) : (0 : Rat) ≤ (n : Rat) := by
  have h : ((0 : Int) : Rat) ≤ ((n : Int) : Rat) := Rat.intCast_le_intCast.2 (by omega)
  exact h
theorem nat_succ (n : Nat) : ((n + 1 : Nat) : Rat) = (n : Rat) + 1 := by grind
theorem nat_le {n m : Nat} (h : n ≤ m) : (n : Rat) ≤ (m : Rat) := by
  have h : ((n : Int) : Rat) ≤ ((m : Int) : Rat) := Rat.intCast_le_intCast.2 (by omega)
  exact h
/-- going to the right: where Q and R are positive, A = Q G grows and Q stays positive -/
theorem go_right {B : Rat} {A A' Q R G : Rat → Rat} (hA : slope B A A') (hQ : nice B Q) (hG : nice B G) (e1 : ∀ x : Rat, A x = Q x * G x) (e2 : ∀ x : Rat, A' x = R x * G x)
    {z y : Rat} (hz : ab B z) (hy : ab B y) (hzy : z ≤ y) (hR : ∀ x : Rat, z ≤ x → x ≤ y → 0 ≤ R x) (hQz : 0 < Q z) (hAz : 0 < A z) : 0 < Q y ∧ A z / 2 ≤ A y := by
  obtain ⟨C, c0, c1⟩ := hA
  obtain ⟨M, m0, m1, m2⟩ := hQ
  obtain ⟨N, n0, n1, _⟩ := hG
  obtain ⟨n, hn1, hn⟩ := arch ((C * ((y - z) * (y - z)) * 2 + M * (y - z) * N * 4) / A z)
  have hn0 : (0 : Rat) < (n : Rat) := by have := nat_le hn1; grind
  have hnA : C * ((y - z) * (y - z)) * 2 + M * (y - z) * N * 4 ≤ (n : Rat) * A z := by
    have h3 := Rat.mul_le_mul_of_nonneg_left hn (c := A z) (by grind)
    have e : A z * ((C * ((y - z) * (y - z)) * 2 + M * (y - z) * N * 4) / A z) = C * ((y - z) * (y - z)) * 2 + M * (y - z) * N * 4 := by grind
    rw [e] at h3
    grind
  have p1 : 0 ≤ C * ((y - z) * (y - z)) := Rat.mul_nonneg c0 (sq_nn _)
  have p2 : 0 ≤ M * (y - z) * N := Rat.mul_nonneg (Rat.mul_nonneg m0 (by grind)) n0
  -- the step
  obtain ⟨k, hk⟩ : ∃ k : Rat, k = (y - z) / (n : Rat) := ⟨_, rfl⟩
  have hkn : k * (n : Rat) = y - z := by rw [hk]; grind
  have hk0 : 0 ≤ k := by
    have h5 : (n : Rat) * 0 ≤ (n : Rat) * k := by grind
    exact Rat.le_of_mul_le_mul_left h5 hn0
  have q1 : C * (k * k) * (n : Rat) * 2 ≤ A z := by
    have h5 : (n : Rat) * (C * (k * k) * (n : Rat) * 2) ≤ (n : Rat) * A z := by
      have e : (n : Rat) * (C * (k * k) * (n : Rat) * 2) = C * ((k * n) * (k * n)) * 2 := by grind
      rw [e, hkn]; grind
    exact Rat.le_of_mul_le_mul_left h5 hn0
  have q2 : M * k * N * 4 ≤ A z := by
    have h5 : (n : Rat) * (M * k * N * 4) ≤ (n : Rat) * A z := by
      have e : (n : Rat) * (M * k * N * 4) = M * (k * n) * N * 4 := by grind
      rw [e, hkn]; grind
    exact Rat.le_of_mul_le_mul_left h5 hn0
  have hin : ∀ i : Nat, i ≤ n → z ≤ z + (i : Rat) * k ∧ z + (i : Rat) * k ≤ y := fun i hi => by
    have h1 := Rat.mul_nonneg (natr i) hk0
    have h2 := Rat.mul_le_mul_of_nonneg_left (nat_le hi) hk0
    grind
  have hinB : ∀ x : Rat, z ≤ x → x ≤ y → ab B x := fun x h1 h2 => by unfold ab at *; constructor <;> grind
  have main : ∀ i : Nat, i ≤ n → 0 < Q (z + (i : Rat) * k) ∧ A z - (i : Rat) * (C * (k * k)) ≤ A (z + (i : Rat) * k) := by
    intro i
    induction i with
    | zero =>
      intro _
      have e : z + ((0 : Nat) : Rat) * k = z := by grind
      rw [e]
      exact ⟨hQz, by grind⟩
    | succ i ih =>
      intro hi
      obtain ⟨h1, h2⟩ := ih (by omega)
      obtain ⟨x, hx⟩ : ∃ x : Rat, x = z + (i : Rat) * k := ⟨_, rfl⟩
      have e : z + ((i + 1 : Nat) : Rat) * k = x + k := by rw [hx]; grind
      rw [e]
      rw [← hx] at h1 h2
      have i1 := hin i (by omega)
      have i2 := hin (i + 1) hi
      rw [e] at i2
      rw [← hx] at i1
      have bx := hinB x i1.1 i1.2
      have bx2 := hinB (x + k) i2.1 i2.2
      have h3 := c1 x (x + k) bx bx2
      have ek : x + k - x = k := by grind
      rw [ek] at h3
      have ckk : 0 ≤ C * (k * k) := Rat.mul_nonneg c0 (sq_nn k)
      have hile : ((i + 1 : Nat) : Rat) * (C * (k * k)) ≤ (n : Rat) * (C * (k * k)) := by
        have := Rat.mul_le_mul_of_nonneg_left (nat_le hi) ckk
        grind
      have hi1 : ((i + 1 : Nat) : Rat) * (C * (k * k)) = (i : Rat) * (C * (k * k)) + C * (k * k) := by grind
      -- A x is at least half
      have hAx : A z / 2 ≤ A x := by grind
      have hAx0 : 0 < A x := by grind
      -- G x is positive
      have hG0 : 0 < G x := by
        rcases Rat.le_total (a := G x) (b := 0) with g | g
        · have := Rat.mul_nonneg (a := Q x) (b := - G x) (by grind) (by grind)
          have := e1 x
          grind
        · by_cases g2 : G x = 0
          · have := e1 x
            rw [g2] at this
            grind
          · grind
      have hA'x : 0 ≤ A' x := by
        rw [e2]
        exact Rat.mul_nonneg (hR x i1.1 i1.2) (by grind)
      have h4 : 0 ≤ A' x * k := Rat.mul_nonneg hA'x hk0
      have h5 : A z - ((i + 1 : Nat) : Rat) * (C * (k * k)) ≤ A (x + k) := by
        unfold ab at h3
        rw [hi1]
        grind
      refine ⟨?_, h5⟩
      -- Q stays positive
      rcases Rat.le_total (a := Q (x + k)) (b := 0) with g | g
      · exfalso
        have h6 := m2 x (x + k) bx bx2 (by grind)
        rw [ek] at h6
        have h7 : ab (M * k) (Q (x + k)) := by unfold ab at *; constructor <;> grind
        have h8 := ab_mul h7 (n1 (x + k) bx2)
        have h9 := e1 (x + k)
        unfold ab at h8
        grind
      · by_cases g2 : Q (x + k) = 0
        · exfalso
          have h9 := e1 (x + k)
          rw [g2] at h9
          grind
        · grind
  have h1 := main n (Nat.le_refl _)
  have e : z + (n : Rat) * k = y := by grind
  rw [e] at h1
  exact ⟨h1.1, by grind⟩

/-- going to the left -/
theorem go_left {B : Rat} {A A' Q R G : Rat → Rat} (hA : slope B A A') (hQ : nice B Q) (hG : nice B G) (e1 : ∀ x : Rat, A x = Q x * G x) (e2 : ∀ x : Rat, A' x = R x * G x)
    {x z : Rat} (hx : ab B x) (hz : ab B z) (hxz : x ≤ z) (hR : ∀ w : Rat, x ≤ w → w ≤ z → 0 ≤ R w) (hQz : Q z < 0) (hAz : 0 < A z) : Q x < 0 ∧ A z / 2 ≤ A x := by
  have h := go_right (B := B) (A := fun w => A (-w)) (A' := fun w => - A' (-w)) (Q := fun w => - Q (-w)) (R := fun w => R (-w)) (G := fun w => - G (-w)) (slope_refl hA) (nice_neg (nice_refl hQ)) (nice_neg (nice_refl hG))
    (fun w => by show A (-w) = _; rw [e1]; grind) (fun w => by show - A' (-w) = _; rw [e2]; grind) (z := -z) (y := -x) (ab_neg hz) (ab_neg hx) (by grind)
    (fun w h1 h2 => hR (-w) (by grind) (by grind)) (by show 0 < - Q (- -z); rw [show - -z = z by grind]; grind) (by show 0 < A (- -z); rw [show - -z = z by grind]; exact hAz)
  have e3 : - -x = x := by grind
  have e4 : - -z = z := by grind
  simp only [e3, e4] at h
  exact ⟨by grind, h.2⟩
/-- the direction: where R is positive Q does not come down through zero -/
theorem dir_pos {B : Rat} {A A' Q R G : Rat → Rat} (hA : slope B A A') (hQ : nice B Q) (hG : nice B G) (e1 : ∀ x : Rat, A x = Q x * G x) (e2 : ∀ x : Rat, A' x = R x * G x)
    {x y : Rat} (hx : ab B x) (hy : ab B y) (hxy : x < y) (hR : ∀ w : Rat, x ≤ w → w ≤ y → 0 ≤ R w) (hd : ∃ z : Rat, x < z ∧ z < y ∧ A z ≠ 0) : ¬ (0 ≤ Q x ∧ Q y ≤ 0) := by
  rintro ⟨h1, h2⟩
  obtain ⟨z, z1, z2, z3⟩ := hd
  have bz : ab B z := by unfold ab at *; constructor <;> grind
  -- the sign of A may be turned
  have key : ∀ (A A' G : Rat → Rat), slope B A A' → nice B G → (∀ x : Rat, A x = Q x * G x) → (∀ x : Rat, A' x = R x * G x) → 0 < A z → False := by
    intro A A' G hA hG e1 e2 hAz
    have hQz : Q z ≠ 0 := fun h => by have := e1 z; rw [h] at this; grind
    by_cases c : 0 < Q z
    · have := (go_right hA hQ hG e1 e2 bz hy (by grind) (fun w g1 g2 => hR w (by grind) g2) c hAz).1
      grind
    · have := (go_left hA hQ hG e1 e2 hx bz (by grind) (fun w g1 g2 => hR w g1 (by grind)) (by grind) hAz).1
      grind
  by_cases c : 0 < A z
  · exact key A A' G hA hG e1 e2 c
  · exact key (fun x => - A x) (fun x => - A' x) (fun x => - G x) (slope_neg hA) (nice_neg hG) (fun x => by rw [e1]; grind) (fun x => by rw [e2]; grind) (by grind)
/-- between values of unlike sign there are small ones -/
theorem ivt {B : Rat} {f : Rat → Rat} (hf : nice B f) {x y : Rat} (hx : ab B x) (hy : ab B y) (hxy : x ≤ y) (h : f x * f y ≤ 0) {d : Rat} (hd : 0 < d) : ∃ z : Rat, x ≤ z ∧ z ≤ y ∧ ab d (f z) := by
  obtain ⟨M, m0, m1, m2⟩ := hf
  obtain ⟨n, hn1, hn⟩ := arch (M * (y - x) / d)
  have hn0 : (0 : Rat) < (n : Rat) := by have := nat_le hn1; grind
  have hnd : M * (y - x) ≤ (n : Rat) * d := by
    have h3 := Rat.mul_le_mul_of_nonneg_left hn (c := d) (by grind)
    have e : d * (M * (y - x) / d) = M * (y - x) := by grind
    rw [e] at h3
    grind
  obtain ⟨k, hk⟩ : ∃ k : Rat, k = (y - x) / (n : Rat) := ⟨_, rfl⟩
  have hkn : k * (n : Rat) = y - x := by rw [hk]; grind
  have hk0 : 0 ≤ k := by
    have h5 : (n : Rat) * 0 ≤ (n : Rat) * k := by grind
    exact Rat.le_of_mul_le_mul_left h5 hn0
  have q2 : M * k ≤ d := by
    have h5 : (n : Rat) * (M * k) ≤ (n : Rat) * d := by
      have e : (n : Rat) * (M * k) = M * (k * n) := by grind
      rw [e, hkn]; grind
    exact Rat.le_of_mul_le_mul_left h5 hn0
  have hin : ∀ i : Nat, i ≤ n → x ≤ x + (i : Rat) * k ∧ x + (i : Rat) * k ≤ y := fun i hi => by
    have h1 := Rat.mul_nonneg (natr i) hk0
    have h2 := Rat.mul_le_mul_of_nonneg_left (nat_le hi) hk0
    grind
  have hinB : ∀ w : Rat, x ≤ w → w ≤ y → ab B w := fun w h1 h2 => by unfold ab at *; constructor <;> grind
  -- the first step that turns the sign
  refine Classical.byContradiction fun hno => ?_
  have hbig : ∀ z : Rat, x ≤ z → z ≤ y → ¬ ab d (f z) := fun z h1 h2 h3 => hno ⟨z, h1, h2, h3⟩
  have main : ∀ i : Nat, i ≤ n → 0 < f x * f (x + (i : Rat) * k) := by
    intro i
    induction i with
    | zero =>
      intro _
      have e : x + ((0 : Nat) : Rat) * k = x := by grind
      rw [e]
      have h1 := hbig x (by grind) hxy
      have h2 := sq_nn (f x)
      have h3 : f x ≠ 0 := fun h => h1 (by rw [h]; exact ab_zero (by grind))
      have h4 : f x * f x ≠ 0 := fun h => by rcases Rat.mul_eq_zero.1 h with g | g <;> exact h3 g
      grind
    | succ i ih =>
      intro hi
      have h1 := ih (by omega)
      obtain ⟨w, hw⟩ : ∃ w : Rat, w = x + (i : Rat) * k := ⟨_, rfl⟩
      have e : x + ((i + 1 : Nat) : Rat) * k = w + k := by rw [hw]; grind
      rw [e]
      rw [← hw] at h1
      have i1 := hin i (by omega)
      have i2 := hin (i + 1) hi
      rw [e] at i2
      rw [← hw] at i1
      have h3 := m2 w (w + k) (hinB _ i1.1 i1.2) (hinB _ i2.1 i2.2) (by grind)
      rw [show w + k - w = k by grind] at h3
      have h4 := hbig w i1.1 i1.2
      have h5 := hbig (w + k) i2.1 i2.2
      unfold ab at h3 h4 h5
      by_cases c : 0 < f x
      · have h6 : 0 < f w := by
          rcases Rat.le_total (a := f w) (b := 0) with g | g
          · have := Rat.mul_nonneg (a := f x) (b := - f w) (by grind) (by grind)
            grind
          · grind
        have h7 : 0 < f (w + k) := by grind
        exact Rat.mul_pos c h7
      · have h6 : f w < 0 := by
          rcases Rat.le_total (a := f w) (b := 0) with g | g
          · grind
          · have := Rat.mul_nonneg (a := - f x) (b := f w) (by grind) (by grind)
            grind
        have h7 : f (w + k) < 0 := by grind
        have := Rat.mul_nonneg (a := - f x) (b := f w) 
        have h8 : f x ≠ 0 := fun g => by rw [g] at h1; grind
        have h9 := Rat.mul_pos (a := - f x) (b := - f (w + k)) (by grind) (by grind)
        grind
  have h1 := main n (Nat.le_refl _)
  have e : x + (n : Rat) * k = y := by grind
  rw [e] at h1
  grind
