/-- far out the value is not small -/
theorem rv_low {c : Nat → Int} {M X x : Rat} {n : Nat} (hX : 1 ≤ X) (hx : x = X ∨ x = -X) (hM : ∀ i : Nat, i < n → ab M (c i : Rat)) : ∀ k : Nat, k ≤ n → ab (M * (X ^ k - 1)) ((X - 1) * rv c k x)
  | 0, _ => by
    show ab (M * (X ^ 0 - 1)) ((X - 1) * 0)
    unfold ab; constructor <;> grind
  | k + 1, hk => by
    have h1 := rv_low hX hx hM k (by omega)
    have hab : ab X x := by unfold ab; rcases hx with g | g <;> rw [g] <;> constructor <;> grind
    have h2 := ab_mul (hM k (by omega)) (ab_pow hab k)
    have h3 := ab_add h1 (ab_mul (show ab (X - 1) (X - 1) by unfold ab; constructor <;> grind) h2)
    have e : (X - 1) * rv c (k + 1) x = (X - 1) * rv c k x + (X - 1) * ((c k : Rat) * x ^ k) := by
      show (X - 1) * (rv c k x + (c k : Rat) * x ^ k) = _
      grind
    rw [e]
    refine ab_le h3 ?_
    rw [show X ^ (k + 1) = X ^ k * X by grind]
    grind
theorem pow_ge_one {X : Rat} (hX : 1 ≤ X) : ∀ n : Nat, 1 ≤ X ^ n
  | 0 => by grind
  | n + 1 => by
    rw [show X ^ (n + 1) = X ^ n * X by grind]
    have h1 := pow_ge_one hX n
    have := Rat.mul_nonneg (show 0 ≤ X ^ n - 1 by grind) (show 0 ≤ X - 1 by grind)
    grind
theorem rv_apart {c : Nat → Int} {M L e X x : Rat} {n : Nat} (hX : 1 ≤ X) (hx : x = X ∨ x = -X) (hM0 : 0 ≤ M) (hM : ∀ i : Nat, i < n → ab M (c i : Rat)) (hL : (c n : Rat) ≤ -L ∨ L ≤ (c n : Rat)) (hL0 : 0 ≤ L) (he : e ≤ L * (X - 1) - M) (he0 : 0 < e) : (X - 1) * rv c (n + 1) x ≤ -e ∨ e ≤ (X - 1) * rv c (n + 1) x := by
  have h1 := rv_low hX hx hM n (Nat.le_refl _)
  have hp := pow_ge_one hX n
  have e1 : (X - 1) * rv c (n + 1) x = (X - 1) * rv c n x + (X - 1) * ((c n : Rat) * x ^ n) := by
    show (X - 1) * (rv c n x + (c n : Rat) * x ^ n) = _
    grind
  have hxn : x ^ n = X ^ n ∨ x ^ n = - X ^ n := by
    rcases hx with g | g
    · rw [g]; exact Or.inl rfl
    · rw [g]
      have key : ∀ n : Nat, (-X) ^ n = X ^ n ∨ (-X) ^ n = - X ^ n := by
        intro n
        induction n with
        | zero => left; grind
        | succ n ih =>
          rw [show (-X) ^ (n + 1) = (-X) ^ n * (-X) by grind, show X ^ (n + 1) = X ^ n * X by grind]
          rcases ih with u | u <;> rw [u]
          · right; grind
          · left; grind
      exact key n
  rw [e1]
  obtain ⟨y, hy⟩ : ∃ y : Rat, y = (X - 1) * rv c n x := ⟨_, rfl⟩
  rw [← hy] at h1 ⊢
  unfold ab at h1
  -- the top term's size
  have big : ∀ z : Rat, L ≤ z → M * (X ^ n - 1) + e ≤ (X - 1) * (z * X ^ n) := fun z hz => by
    have t1 : 0 ≤ (z - L) * ((X - 1) * X ^ n) := Rat.mul_nonneg (by grind) (Rat.mul_nonneg (by grind) (by grind))
    have t2 : 0 ≤ (L * (X - 1) - M - e) * X ^ n := Rat.mul_nonneg (by grind) (by grind)
    have t3 : 0 ≤ e * (X ^ n - 1) := Rat.mul_nonneg (by grind) (by grind)
    grind
  rcases hL with g | g <;> rcases hxn with u | u <;> rw [u]
  · have := big (-(c n : Rat)) (by grind); left; grind
  · have := big (-(c n : Rat)) (by grind); right; grind
  · have := big (c n : Rat) (by grind); right; grind
  · have := big (c n : Rat) (by grind); left; grind
/-- where the polynomial is not small nothing is counted -/
theorem cnt_nz {Q G P : Rat → Rat} {W : Rat → Int} (h : cnt Q W) (hG : ∀ B : Rat, 0 ≤ B → nice B G) (e : ∀ x : Rat, P x = Q x * G x) {x y d : Rat} (hxy : x ≤ y) (hd : 0 < d) (hP : ∀ z : Rat, x ≤ z → z ≤ y → ¬ ab d (P z)) : W y = W x := by
  by_cases c : x < y
  · obtain ⟨B, hB, bx, bY⟩ := both_B x y
    obtain ⟨M, m0, m1, _⟩ := hG B hB
    obtain ⟨n, k, n1, k0, ek, h1⟩ := cnt_grid h c
    have hin : ∀ i : Nat, i ≤ n → x ≤ x + (i : Rat) * k ∧ x + (i : Rat) * k ≤ y := fun i hi => by
      have h1 := Rat.mul_nonneg (natr i) (Rat.le_of_lt k0)
      have h2 := Rat.mul_le_mul_of_nonneg_left (nat_le hi) (Rat.le_of_lt k0)
      grind
    have hz : ∀ j : Nat, j ≤ n → jsum (fun i => rsg (Q (x + (i : Rat) * k))) j = 0 := by
      intro j
      induction j with
      | zero => intro _; rfl
      | succ j ih =>
        intro hj
        show jsum _ j + jmp (rsg (Q (x + (j : Rat) * k))) (rsg (Q (x + ((j + 1 : Nat) : Rat) * k))) = 0
        rw [ih (by omega)]
        unfold jmp
        by_cases c2 : rsg (Q (x + (j : Rat) * k)) ≠ 0 ∧ rsg (Q (x + ((j + 1 : Nat) : Rat) * k)) ≠ rsg (Q (x + (j : Rat) * k))
        · exfalso
          have h3 := (sgn_mul_le.2 c2).2
          have i1 := hin j (by omega)
          have i2 := hin (j + 1) hj
          obtain ⟨z, z1, z2, z3⟩ := ivt (h.1 B hB) (in_B bx bY i1.1 i1.2) (in_B bx bY i2.1 i2.2) (by grind) h3 (d := d / (M + 1)) (div_pos' hd (by grind))
          refine hP z (by grind) (by grind) ?_
          rw [e]
          have h4 := ab_mul z3 (m1 z (in_B bx bY (by grind) (by grind)))
          refine ab_le h4 ?_
          have := mul_div_le m0 (Rat.le_of_lt (div_pos' hd (show 0 < M + 1 by grind))) (Rat.le_refl (a := d / (M + 1)))
          grind
        · rw [if_neg c2]; rfl
    have := hz n (Nat.le_refl _)
    omega
  · rw [show x = y by grind]
theorem cast_le_ab {z : Int} {M : Int} (h : (z.natAbs : Int) ≤ M) : ab (M : Rat) (z : Rat) := by
  have h1 : ((z : Int) : Rat) ≤ (M : Rat) := Rat.intCast_le_intCast.2 (by omega)
  have h2 : ((-M : Int) : Rat) ≤ ((z : Int) : Rat) := Rat.intCast_le_intCast.2 (by omega)
  rw [Rat.intCast_neg] at h2
  exact ⟨h2, h1⟩
/-- beyond a bound of the roots nothing is counted -/
theorem cnt_out {F : Nat → Int} {N : Nat} {Q Q1 : Rat → Rat} {W : Rat → Int} {G : Nat → Int} {m : Nat} (h : sq F N Q Q1 W G m) (hN : 1 ≤ N) {M L b : Int} (hM0 : 0 ≤ M) (hM : ∀ i : Nat, i + 1 < N → ((F i).natAbs : Int) ≤ M) (hL : L ≤ ((F (N - 1)).natAbs : Int)) (hL0 : 0 < L) (hb : M < L * (b - 1)) :
    (∀ x y : Rat, (b : Rat) ≤ x → x ≤ y → W y = W x) ∧ ∀ x y : Rat, x ≤ y → y ≤ -(b : Rat) → W y = W x := by
  obtain ⟨n, rfl⟩ : ∃ n : Nat, N = n + 1 := ⟨N - 1, by omega⟩
  rw [Nat.add_sub_cancel] at hL
  have hb1 : 1 < b := by
    rcases Int.lt_or_le 1 b with c | c
    · exact c
    · have := Int.mul_le_mul_of_nonneg_left (show b - 1 ≤ 0 by omega) (show 0 ≤ L by omega)
      omega
  have hbr : (1 : Rat) ≤ (b : Rat) := by
    have : ((1 : Int) : Rat) ≤ (b : Rat) := Rat.intCast_le_intCast.2 (by omega)
    exact this
  have hLr : (0 : Rat) ≤ (L : Rat) := by
    have : ((0 : Int) : Rat) ≤ (L : Rat) := Rat.intCast_le_intCast.2 (by omega)
    exact this
  have hMr : (0 : Rat) ≤ (M : Rat) := by
    have : ((0 : Int) : Rat) ≤ (M : Rat) := Rat.intCast_le_intCast.2 hM0
    exact this
  have he : (1 : Rat) ≤ (L : Rat) * ((b : Rat) - 1) - (M : Rat) := by
    have : ((M + 1 : Int) : Rat) ≤ ((L * (b - 1) : Int) : Rat) := Rat.intCast_le_intCast.2 (by omega)
    rw [Rat.intCast_mul, Rat.intCast_add, Rat.intCast_sub] at this
    have o1 : ((1 : Int) : Rat) = 1 := rfl
    rw [o1] at this
    grind
  have hc : ((F n : Int) : Rat) ≤ -(L : Rat) ∨ (L : Rat) ≤ ((F n : Int) : Rat) := by
    rcases Int.lt_or_le (F n) 0 with g | g
    · left
      have : ((F n : Int) : Rat) ≤ ((-L : Int) : Rat) := Rat.intCast_le_intCast.2 (by omega)
      rw [Rat.intCast_neg] at this
      exact this
    · right
      exact Rat.intCast_le_intCast.2 (by omega)
  -- on a bounded stretch beyond b the polynomial is not small
  have key : ∀ (Y X z : Rat), (b : Rat) ≤ X → X ≤ Y → (z = X ∨ z = -X) → ¬ ab (1 / (Y + 1)) (rv F (n + 1) z) := fun Y X z h1 h2 h3 g => by
    have h4 := rv_apart (c := F) (n := n) (M := (M : Rat)) (L := (L : Rat)) (e := 1) (X := X) (x := z) (by grind) h3 hMr (fun i hi => cast_le_ab (hM i (by omega))) hc hLr (by
      have := Rat.mul_nonneg hLr (show 0 ≤ X - (b : Rat) by grind)
      grind) (by grind)
    have h5 := ab_mul (show ab (X - 1) (X - 1) by unfold ab; constructor <;> grind) g
    have hY : 0 < Y + 1 := by grind
    have h6 : (X - 1) * (1 / (Y + 1)) < 1 := by
      have e1 : (Y + 1) * (1 / (Y + 1)) = 1 := by grind
      have h7 := Rat.mul_pos (show 0 < Y + 1 - (X - 1) by grind) (div_pos' (show (0 : Rat) < 1 by grind) hY)
      grind
    unfold ab at h5
    rcases h4 with u | u <;> grind
  have hGn : ∀ B : Rat, 0 ≤ B → nice B (fun x => rv G m x) := fun B hB => rv_nice hB _ _
  refine ⟨fun x y h1 h2 => ?_, fun x y h1 h2 => ?_⟩
  · exact cnt_nz h.1 hGn h.2.2.1 h2 (d := 1 / (y + 1)) (div_pos' (by grind) (by grind)) (fun z g1 g2 => key y z z (by grind) g2 (Or.inl rfl))
  · exact cnt_nz h.1 hGn h.2.2.1 h1 (d := 1 / (-x + 1)) (div_pos' (by grind) (by grind)) (fun z g1 g2 => key (-x) (-z) z (by grind) (by grind) (Or.inr (by grind)))
