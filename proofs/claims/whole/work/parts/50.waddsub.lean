theorem iZ_and30 (z : Int) : iZ z &&& iZ 1073741823 = iZ (z % 1073741824) := by
  apply Int32.toBitVec_inj.1
  apply BitVec.eq_of_toNat_eq
  show ((BitVec.ofInt 32 z) &&& (BitVec.ofInt 32 1073741823)).toNat = (BitVec.ofInt 32 (z % 1073741824)).toNat
  rw [BitVec.toNat_and, BitVec.toNat_ofInt, BitVec.toNat_ofInt, BitVec.toNat_ofInt]
  have e : (((2 ^ 32 : Nat)) : Int) = 4294967296 := by decide
  rw [e, show ((1073741823 : Int) % 4294967296).toNat = 2 ^ 30 - 1 by decide, Nat.and_two_pow_sub_one_eq_mod, show (2 : Nat) ^ 30 = 1073741824 by decide]
  omega
theorem iush30 {z : Int} (h : 0 ≤ z ∧ z < 2147483648) : ((iZ z).toUInt32 >>> ((iZ 30).toUInt32 &&& Int32.toUInt32 31)).toInt32 = iZ (z / 1073741824) := by
  apply Int32.toBitVec_inj.1
  apply BitVec.eq_of_toNat_eq
  show ((BitVec.ofInt 32 z) >>> (30 : Nat)).toNat = (BitVec.ofInt 32 (z / 1073741824)).toNat
  rw [BitVec.toNat_ushiftRight, BitVec.toNat_ofInt, BitVec.toNat_ofInt, Nat.shiftRight_eq_div_pow]
  have e : (((2 ^ 32 : Nat)) : Int) = 4294967296 := by decide
  rw [e, show (2 : Nat) ^ 30 = 1073741824 by decide]
  omega
theorem wN_lt_of {n n2 k k2 : Nat} {f g : Nat → Int32} {x y : Int} (hx : wN n f k x) (hy : wN n2 g k2 y) (h : k < k2) : x.natAbs < y.natAbs := by
  rcases Nat.lt_or_ge x.natAbs y.natAbs with q | q
  · exact q
  · have h1 := wN_lt hx
    have h2 := wN_size (N := k) hy (by omega)
    omega
theorem sgn_addm {x y : Int} (h : x = 0 ∨ x.sign = y.sign) : y.sign * ((x.natAbs : Int) + (y.natAbs : Int)) = x + y := by
  rcases sgn_cases x with ⟨h1, h2⟩ | ⟨h1, h2⟩ | ⟨h1, h2⟩ <;> rcases sgn_cases y with ⟨h3, h4⟩ | ⟨h3, h4⟩ | ⟨h3, h4⟩ <;> rw [h4] <;> rw [h2, h4] at h <;> omega
theorem sgn_subm {x y : Int} (h0 : x ≠ 0) (h1 : y ≠ 0) (h : x.sign ≠ y.sign) : y.sign * ((y.natAbs : Int) - (x.natAbs : Int)) = x + y ∧ x.sign * ((x.natAbs : Int) - (y.natAbs : Int)) = x + y := by
  rcases sgn_cases x with ⟨h1, h2⟩ | ⟨h1, h2⟩ | ⟨h1, h2⟩ <;> rcases sgn_cases y with ⟨h3, h4⟩ | ⟨h3, h4⟩ | ⟨h3, h4⟩ <;> rw [h2, h4] <;> rw [h2, h4] at h <;> omega
theorem sgn_one {y : Int} (h : y.sign ≠ 0) : y.sign = 1 ∨ y.sign = -1 := by
  rcases sgn_cases y with ⟨h1, h2⟩ | ⟨h1, h2⟩ | ⟨h1, h2⟩ <;> omega
set_option maxHeartbeats 4000000 in
set_option maxRecDepth 100000 in
/-- isSmaller: of the magnitudes -/
theorem cw_isSmaller (l : Launch) (D : va_G) (G : Nat → ClassId) (X : va_W) (a b n k a2 b2 n2 k2 : Nat) (f g : Nat → Int32) (s1 s2 : Int32) (x y : Int) (hn : n ≤ 2048) (hn2 : n2 ≤ 2048) (hx : wN n f k x) (hy : wN n2 g k2 y) (sz hs : Nat) : Met l yX3_isSmaller (wC yX3_isSmaller cX3_isSmaller 3 (some .boolean)) ({ frames := 0, cells := 0, slots := 0, locals := 0 }) (va_Pc [.ref a, .ref a2] (cPre nT D G ((a, .inr (3, [.ref b, .int (iZ ((k : Int))), .int (s1)])) :: (b, .inl (G 0, n, .inl f)) :: (a2, .inr (3, [.ref b2, .int (iZ ((k2 : Int))), .int (s2)])) :: (b2, .inl (G 0, n2, .inl g)) :: X : va_W) sz hs)) (va_Qi (fun (r : Int32) (u : cS) => r = iZ (if x.natAbs < y.natAbs then 1 else 0) ∧ u = (((a, .inr (3, [.ref b, .int (iZ ((k : Int))), .int (s1)])) :: (b, .inl (G 0, n, .inl f)) :: (a2, .inr (3, [.ref b2, .int (iZ ((k2 : Int))), .int (s2)])) :: (b2, .inl (G 0, n2, .inl g)) :: X : va_W), 0, 0)) (cAt D G (va_A ((a, .inr (3, [.ref b, .int (iZ ((k : Int))), .int (s1)])) :: (b, .inl (G 0, n, .inl f)) :: (a2, .inr (3, [.ref b2, .int (iZ ((k2 : Int))), .int (s2)])) :: (b2, .inl (G 0, n2, .inl g)) :: X : va_W) sz) sz hs) (va_A ((a, .inr (3, [.ref b, .int (iZ ((k : Int))), .int (s1)])) :: (b, .inl (G 0, n, .inl f)) :: (a2, .inr (3, [.ref b2, .int (iZ ((k2 : Int))), .int (s2)])) :: (b2, .inl (G 0, n2, .inl g)) :: X : va_W) sz)) 0 0 (va_A ((a, .inr (3, [.ref b, .int (iZ ((k : Int))), .int (s1)])) :: (b, .inl (G 0, n, .inl f)) :: (a2, .inr (3, [.ref b2, .int (iZ ((k2 : Int))), .int (s2)])) :: (b2, .inl (G 0, n2, .inl g)) :: X : va_W) sz) := by
  refine g_met (cc := cX3_isSmaller) (maxL := 3) (ret := (some .boolean)) (own := RX3) (by decide) rfl rfl (Nat.le_of_ble_eq_true rfl) ?_
  intro p e s m below meth c hsz hhs hN hA C hr hlk
  refine w_sub [(0, .ref a), (1, .ref a2)] [0, 1] rfl ?_
  obtain ⟨hx1, hx2, hx3, hx4⟩ := id hx
  obtain ⟨hy1, hy2, hy3, hy4⟩ := id hy
  refine w_aload_n C dX3_isSmaller_0 0 rfl ?_
  refine w_get (ci := 3) (ref := "RootIsolator$Whole") (T := TX3) (Cn := RX3) (N := 3) C (fun w h => wC_in (inX3 w h)) 0 rfl rfl 1 (by decide) (wC_in fX3_13) rfl rfl dX3_isSmaller_1 ?_
  refine w_aload_n C dX3_isSmaller_4 1 rfl ?_
  refine w_get (ci := 3) (ref := "RootIsolator$Whole") (T := TX3) (Cn := RX3) (N := 3) C (fun w h => wC_in (inX3 w h)) 2 rfl rfl 1 (by decide) (wC_in fX3_13) rfl rfl dX3_isSmaller_5 ?_
  refine w_icmp_eq C 28 dX3_isSmaller_8 (by decide) ⟨⟨by omega, by omega⟩, by omega, by omega⟩ (fun c8 => ?_) (fun c8 => ?_)
  · obtain rfl : k = k2 := by omega
    refine w_aload_n C dX3_isSmaller_28 0 rfl ?_
    refine w_get (ci := 3) (ref := "RootIsolator$Whole") (T := TX3) (Cn := RX3) (N := 3) C (fun w h => wC_in (inX3 w h)) 0 rfl rfl 1 (by decide) (wC_in fX3_13) rfl rfl dX3_isSmaller_29 ?_
    refine w_iconst C dX3_isSmaller_32 ?_
    refine w_isub C dX3_isSmaller_33 ?_
    refine w_istore_n C [(2, .int (iZ ((k : Int) - 1))), (0, .ref a), (1, .ref a2)] dX3_isSmaller_34 rfl (by decide) rfl ?_
    have lp : ∀ (d : Nat) (j : Nat), j < d → j ≤ k → (∀ i, j ≤ i → i < k → f i = g i) → ZW p l e ({ frames := 0, cells := 0, slots := 0, locals := 0 }) s m ([.ref a, .ref a2] : List Value).toArray below meth c D (va_A ((a, .inr (3, [.ref b, .int (iZ ((k : Int))), .int (s1)])) :: (b, .inl (G 0, n, .inl f)) :: (a2, .inr (3, [.ref b2, .int (iZ ((k : Int))), .int (s2)])) :: (b2, .inl (G 0, n2, .inl g)) :: X : va_W) sz) 3 0 0 (MQ below (va_Qi (fun (r : Int32) (u : cS) => r = iZ (if x.natAbs < y.natAbs then 1 else 0) ∧ u = (((a, .inr (3, [.ref b, .int (iZ ((k : Int))), .int (s1)])) :: (b, .inl (G 0, n, .inl f)) :: (a2, .inr (3, [.ref b2, .int (iZ ((k : Int))), .int (s2)])) :: (b2, .inl (G 0, n2, .inl g)) :: X : va_W), 0, 0)) (cAt D G (va_A ((a, .inr (3, [.ref b, .int (iZ ((k : Int))), .int (s1)])) :: (b, .inl (G 0, n, .inl f)) :: (a2, .inr (3, [.ref b2, .int (iZ ((k : Int))), .int (s2)])) :: (b2, .inl (G 0, n2, .inl g)) :: X : va_W) sz) sz hs) (va_A ((a, .inr (3, [.ref b, .int (iZ ((k : Int))), .int (s1)])) :: (b, .inl (G 0, n, .inl f)) :: (a2, .inr (3, [.ref b2, .int (iZ ((k : Int))), .int (s2)])) :: (b2, .inl (G 0, n2, .inl g)) :: X : va_W) sz)) ([.ref a, .ref a2] : List Value).toArray s 0 0 (va_A ((a, .inr (3, [.ref b, .int (iZ ((k : Int))), .int (s1)])) :: (b, .inl (G 0, n, .inl f)) :: (a2, .inr (3, [.ref b2, .int (iZ ((k : Int))), .int (s2)])) :: (b2, .inl (G 0, n2, .inl g)) :: X : va_W) sz)) ((a, .inr (3, [.ref b, .int (iZ ((k : Int))), .int (s1)])) :: (b, .inl (G 0, n, .inl f)) :: (a2, .inr (3, [.ref b2, .int (iZ ((k : Int))), .int (s2)])) :: (b2, .inl (G 0, n2, .inl g)) :: X : va_W) 35 [(2, .int (iZ ((j : Int) - 1))), (0, .ref a), (1, .ref a2)] [] := by
      intro d
      induction d with
      | zero =>
        intro j hd hj he
        exact absurd hd (by omega)
      | succ d ih2 =>
        intro j hd hj he
        refine w_iload_n C dX3_isSmaller_35 0 rfl ?_
        refine w_if_lt C 81 dX3_isSmaller_36 (by decide) ⟨by omega, by omega⟩ (fun c36 => ?_) (fun c36 => ?_)
        · refine w_iconst C dX3_isSmaller_81 ?_
          exact g_zret hsz hhs C hr (by decide) hlk ⟨by omega, by omega⟩ ⟨congrArg iZ (if_neg (by have h1 := zw_congr (f := f) (g := g) (n := k) (fun i hi => he i (by omega) hi); omega)).symm, rfl⟩ dX3_isSmaller_82
        · refine w_aload_n C dX3_isSmaller_39 1 rfl ?_
          refine w_get (ci := 3) (ref := "RootIsolator$Whole") (T := TX3) (Cn := RX3) (N := 3) C (fun w h => wC_in (inX3 w h)) 0 rfl rfl 0 (by decide) (wC_in fX3_9) rfl rfl dX3_isSmaller_40 ?_
          refine w_iload_n C dX3_isSmaller_43 0 rfl ?_
          refine w_iald C 1 0 rfl rfl (j - 1) ((f (j - 1)).toInt) ⟨by omega, by omega, by omega⟩ ((iZ_self _).symm) dX3_isSmaller_44 ?_
          refine w_aload_n C dX3_isSmaller_45 2 rfl ?_
          refine w_get (ci := 3) (ref := "RootIsolator$Whole") (T := TX3) (Cn := RX3) (N := 3) C (fun w h => wC_in (inX3 w h)) 2 rfl rfl 0 (by decide) (wC_in fX3_9) rfl rfl dX3_isSmaller_46 ?_
          refine w_iload_n C dX3_isSmaller_49 0 rfl ?_
          refine w_iald C 3 0 rfl rfl (j - 1) ((g (j - 1)).toInt) ⟨by omega, by omega, by omega⟩ ((iZ_self _).symm) dX3_isSmaller_50 ?_
          refine w_icmp_eq C 75 dX3_isSmaller_51 (by decide) ⟨i32r _, i32r _⟩ (fun c51 => ?_) (fun c51 => ?_)
          · refine w_iinc C (((j - 1 : Nat) : Int) - 1) (by omega) [(2, .int (iZ (((j - 1 : Nat) : Int) - 1))), (0, .ref a), (1, .ref a2)] dX3_isSmaller_75 0 rfl (by decide) rfl ?_
            refine w_goto C 35 dX3_isSmaller_78 (by decide) ?_
            exact ih2 (j - 1) (by omega) (by omega) (fun i h1 h2 => by
              rcases Nat.lt_or_ge i j with q | q
              · have : i = j - 1 := by omega
                subst this; exact Int32.toInt_inj.1 c51
              · exact he i q h2)
          · refine w_aload_n C dX3_isSmaller_54 1 rfl ?_
            refine w_get (ci := 3) (ref := "RootIsolator$Whole") (T := TX3) (Cn := RX3) (N := 3) C (fun w h => wC_in (inX3 w h)) 0 rfl rfl 0 (by decide) (wC_in fX3_9) rfl rfl dX3_isSmaller_55 ?_
            refine w_iload_n C dX3_isSmaller_58 0 rfl ?_
            refine w_iald C 1 0 rfl rfl (j - 1) ((f (j - 1)).toInt) ⟨by omega, by omega, by omega⟩ ((iZ_self _).symm) dX3_isSmaller_59 ?_
            refine w_aload_n C dX3_isSmaller_60 2 rfl ?_
            refine w_get (ci := 3) (ref := "RootIsolator$Whole") (T := TX3) (Cn := RX3) (N := 3) C (fun w h => wC_in (inX3 w h)) 2 rfl rfl 0 (by decide) (wC_in fX3_9) rfl rfl dX3_isSmaller_61 ?_
            refine w_iload_n C dX3_isSmaller_64 0 rfl ?_
            refine w_iald C 3 0 rfl rfl (j - 1) ((g (j - 1)).toInt) ⟨by omega, by omega, by omega⟩ ((iZ_self _).symm) dX3_isSmaller_65 ?_
            refine w_icmp_ge C 73 dX3_isSmaller_66 (by decide) ⟨i32r _, i32r _⟩ (fun c66 => ?_) (fun c66 => ?_)
            · refine w_iconst C dX3_isSmaller_73 ?_
              exact g_zret hsz hhs C hr (by decide) hlk ⟨by omega, by omega⟩ ⟨congrArg iZ (if_neg (by have h1 := zw_lt_of (f := g) (g := f) (k := j - 1) (n := k) (by omega) hy2 hx2 (fun i h1 h2 => (he i (by omega) h2).symm) (by omega); omega)).symm, rfl⟩ dX3_isSmaller_74
            · refine w_iconst C dX3_isSmaller_69 ?_
              refine w_goto C 74 dX3_isSmaller_70 (by decide) ?_
              exact g_zret hsz hhs C hr (by decide) hlk ⟨by omega, by omega⟩ ⟨congrArg iZ (if_pos (by have h1 := zw_lt_of (f := f) (g := g) (k := j - 1) (n := k) (by omega) hx2 hy2 (fun i h1 h2 => he i (by omega) h2) (by omega); omega)).symm, rfl⟩ dX3_isSmaller_74
    exact lp (k + 1) k (by omega) (Nat.le_refl _) (fun i h1 h2 => absurd h1 (by omega))
  · refine w_aload_n C dX3_isSmaller_11 0 rfl ?_
    refine w_get (ci := 3) (ref := "RootIsolator$Whole") (T := TX3) (Cn := RX3) (N := 3) C (fun w h => wC_in (inX3 w h)) 0 rfl rfl 1 (by decide) (wC_in fX3_13) rfl rfl dX3_isSmaller_12 ?_
    refine w_aload_n C dX3_isSmaller_15 1 rfl ?_
    refine w_get (ci := 3) (ref := "RootIsolator$Whole") (T := TX3) (Cn := RX3) (N := 3) C (fun w h => wC_in (inX3 w h)) 2 rfl rfl 1 (by decide) (wC_in fX3_13) rfl rfl dX3_isSmaller_16 ?_
    refine w_icmp_ge C 26 dX3_isSmaller_19 (by decide) ⟨⟨by omega, by omega⟩, by omega, by omega⟩ (fun c19 => ?_) (fun c19 => ?_)
    · refine w_iconst C dX3_isSmaller_26 ?_
      exact g_zret hsz hhs C hr (by decide) hlk ⟨by omega, by omega⟩ ⟨congrArg iZ (if_neg (by have := wN_lt_of hy hx (by omega); omega)).symm, rfl⟩ dX3_isSmaller_27
    · refine w_iconst C dX3_isSmaller_22 ?_
      refine w_goto C 27 dX3_isSmaller_23 (by decide) ?_
      exact g_zret hsz hhs C hr (by decide) hlk ⟨by omega, by omega⟩ ⟨congrArg iZ (if_pos (wN_lt_of hx hy (by omega))).symm, rfl⟩ dX3_isSmaller_27
set_option maxHeartbeats 4000000 in
set_option maxRecDepth 100000 in
/-- addMagnitude -/
theorem cw_addMagnitude (l : Launch) (D : va_G) (G : Nat → ClassId) (X : va_W) (a b n k a2 b2 n2 k2 : Nat) (f g : Nat → Int32) (s1 s2 : Int32) (x y : Int) (N : Nat) (hn : n ≤ 2048) (hn2 : n2 ≤ 2048) (hx : wN n f k x) (hy : wN n2 g k2 y) (hN : N = max k k2) (hNn : N + 1 ≤ n) (sz hs : Nat) : Met l yX3_addMagnitude (wC yX3_addMagnitude cX3_addMagnitude 6 none) ({ frames := 0, cells := 0, slots := 0, locals := 0 }) (va_Pc [.ref a, .ref a2] (cPre nT D G ((a, .inr (3, [.ref b, .int (iZ ((k : Int))), .int (s1)])) :: (b, .inl (G 0, n, .inl f)) :: (a2, .inr (3, [.ref b2, .int (iZ ((k2 : Int))), .int (s2)])) :: (b2, .inl (G 0, n2, .inl g)) :: X : va_W) sz hs)) (va_Qv (fun u : cS => ∃ f1 : Nat → Int32, lim f1 (N + 1) ∧ zw f1 (N + 1) = (x.natAbs : Int) + (y.natAbs : Int) ∧ u = (((a, .inr (3, [.ref b, .int (iZ ((k : Int))), .int (s1)])) :: (b, .inl (G 0, n, .inl f1)) :: (a2, .inr (3, [.ref b2, .int (iZ ((k2 : Int))), .int (s2)])) :: (b2, .inl (G 0, n2, .inl g)) :: X : va_W), 0, 0)) (cAt D G (va_A ((a, .inr (3, [.ref b, .int (iZ ((k : Int))), .int (s1)])) :: (b, .inl (G 0, n, .inl f)) :: (a2, .inr (3, [.ref b2, .int (iZ ((k2 : Int))), .int (s2)])) :: (b2, .inl (G 0, n2, .inl g)) :: X : va_W) sz) sz hs) (va_A ((a, .inr (3, [.ref b, .int (iZ ((k : Int))), .int (s1)])) :: (b, .inl (G 0, n, .inl f)) :: (a2, .inr (3, [.ref b2, .int (iZ ((k2 : Int))), .int (s2)])) :: (b2, .inl (G 0, n2, .inl g)) :: X : va_W) sz)) 0 0 (va_A ((a, .inr (3, [.ref b, .int (iZ ((k : Int))), .int (s1)])) :: (b, .inl (G 0, n, .inl f)) :: (a2, .inr (3, [.ref b2, .int (iZ ((k2 : Int))), .int (s2)])) :: (b2, .inl (G 0, n2, .inl g)) :: X : va_W) sz) := by
  refine g_met (cc := cX3_addMagnitude) (maxL := 6) (ret := none) (own := RX3) (by decide) rfl rfl (Nat.le_of_ble_eq_true rfl) ?_
  intro p e s m below meth c hsz hhs hN hA C hr hlk
  refine w_sub [(0, .ref a), (1, .ref a2)] [0, 1] rfl ?_
  obtain ⟨hx1, hx2, hx3, hx4⟩ := id hx
  obtain ⟨hy1, hy2, hy3, hy4⟩ := id hy
  have lp : ∀ (d : Nat) (i : Nat) (cy : Int) (h : Nat → Int32), N < i + d → i ≤ N → 0 ≤ cy ∧ cy ≤ 1 → (∀ j : Nat, i ≤ j → h j = f j) → lim h i → zw h i + cy * 2 ^ (30 * i) = zq (wd f k) i + zq (wd g k2) i → ZW p l e ({ frames := 0, cells := 0, slots := 0, locals := 0 }) s m ([.ref a, .ref a2] : List Value).toArray below meth c D (va_A ((a, .inr (3, [.ref b, .int (iZ ((k : Int))), .int (s1)])) :: (b, .inl (G 0, n, .inl f)) :: (a2, .inr (3, [.ref b2, .int (iZ ((k2 : Int))), .int (s2)])) :: (b2, .inl (G 0, n2, .inl g)) :: X : va_W) sz) 6 0 0 (MQ below (va_Qv (fun u : cS => ∃ f1 : Nat → Int32, lim f1 (N + 1) ∧ zw f1 (N + 1) = (x.natAbs : Int) + (y.natAbs : Int) ∧ u = (((a, .inr (3, [.ref b, .int (iZ ((k : Int))), .int (s1)])) :: (b, .inl (G 0, n, .inl f1)) :: (a2, .inr (3, [.ref b2, .int (iZ ((k2 : Int))), .int (s2)])) :: (b2, .inl (G 0, n2, .inl g)) :: X : va_W), 0, 0)) (cAt D G (va_A ((a, .inr (3, [.ref b, .int (iZ ((k : Int))), .int (s1)])) :: (b, .inl (G 0, n, .inl f)) :: (a2, .inr (3, [.ref b2, .int (iZ ((k2 : Int))), .int (s2)])) :: (b2, .inl (G 0, n2, .inl g)) :: X : va_W) sz) sz hs) (va_A ((a, .inr (3, [.ref b, .int (iZ ((k : Int))), .int (s1)])) :: (b, .inl (G 0, n, .inl f)) :: (a2, .inr (3, [.ref b2, .int (iZ ((k2 : Int))), .int (s2)])) :: (b2, .inl (G 0, n2, .inl g)) :: X : va_W) sz)) ([.ref a, .ref a2] : List Value).toArray s 0 0 (va_A ((a, .inr (3, [.ref b, .int (iZ ((k : Int))), .int (s1)])) :: (b, .inl (G 0, n, .inl f)) :: (a2, .inr (3, [.ref b2, .int (iZ ((k2 : Int))), .int (s2)])) :: (b2, .inl (G 0, n2, .inl g)) :: X : va_W) sz)) ((a, .inr (3, [.ref b, .int (iZ ((k : Int))), .int (s1)])) :: (b, .inl (G 0, n, .inl h)) :: (a2, .inr (3, [.ref b2, .int (iZ ((k2 : Int))), .int (s2)])) :: (b2, .inl (G 0, n2, .inl g)) :: X : va_W) 28 [(4, .int (iZ ((i : Int)))), (3, .int (iZ (cy))), (2, .int (iZ ((N : Int)))), (0, .ref a), (1, .ref a2)] [] := by
    intro d
    induction d with
    | zero =>
      intro i cy h hd hi hcy hout hl hv
      exact absurd hd (by omega)
    | succ d ih =>
      intro i cy h hd hi hcy hout hl hv
      refine w_iload C dX3_addMagnitude_28 0 rfl ?_
      refine w_iload_n C dX3_addMagnitude_30 2 rfl ?_
      refine w_icmp_ge C 103 dX3_addMagnitude_31 (by decide) ⟨⟨by omega, by omega⟩, by omega, by omega⟩ (fun c31 => ?_) (fun c31 => ?_)
      · have hkn : i = N := by omega
        subst hkn
        refine w_aload_n C dX3_addMagnitude_103 3 rfl ?_
        refine w_get (ci := 3) (ref := "RootIsolator$Whole") (T := TX3) (Cn := RX3) (N := 3) C (fun w h => wC_in (inX3 w h)) 0 rfl rfl 0 (by decide) (wC_in fX3_9) rfl rfl dX3_addMagnitude_104 ?_
        refine w_iload_n C dX3_addMagnitude_107 2 rfl ?_
        refine w_iload_n C dX3_addMagnitude_108 1 rfl ?_
        refine w_iast C ((a, .inr (3, [.ref b, .int (iZ ((k : Int))), .int (s1)])) :: (b, .inl (G 0, n, .inl (upd h (i) (iZ (cy))))) :: (a2, .inr (3, [.ref b2, .int (iZ ((k2 : Int))), .int (s2)])) :: (b2, .inl (G 0, n2, .inl g)) :: X : va_W) 1 0 rfl rfl (i) ⟨by omega, by omega, by omega⟩ rfl dX3_addMagnitude_109 ?_
        exact g_vret hsz hhs C hr hlk ⟨by omega, by omega⟩ (⟨_, lim_upd hl (by rw [iZ_toInt (by omega) (by omega)]; omega), by rw [zw_upd_top, iZ_toInt (by omega) (by omega), hx4, hy4, hv, zq_wd (by omega), zq_wd (by omega)], rfl⟩) dX3_addMagnitude_110
      · refine w_iload C dX3_addMagnitude_34 0 rfl ?_
        refine w_aload_n C dX3_addMagnitude_36 3 rfl ?_
        refine w_get (ci := 3) (ref := "RootIsolator$Whole") (T := TX3) (Cn := RX3) (N := 3) C (fun w h => wC_in (inX3 w h)) 0 rfl rfl 1 (by decide) (wC_in fX3_13) rfl rfl dX3_addMagnitude_37 ?_
        have J1 : ZW p l e ({ frames := 0, cells := 0, slots := 0, locals := 0 }) s m ([.ref a, .ref a2] : List Value).toArray below meth c D (va_A ((a, .inr (3, [.ref b, .int (iZ ((k : Int))), .int (s1)])) :: (b, .inl (G 0, n, .inl f)) :: (a2, .inr (3, [.ref b2, .int (iZ ((k2 : Int))), .int (s2)])) :: (b2, .inl (G 0, n2, .inl g)) :: X : va_W) sz) 6 0 0 (MQ below (va_Qv (fun u : cS => ∃ f1 : Nat → Int32, lim f1 (N + 1) ∧ zw f1 (N + 1) = (x.natAbs : Int) + (y.natAbs : Int) ∧ u = (((a, .inr (3, [.ref b, .int (iZ ((k : Int))), .int (s1)])) :: (b, .inl (G 0, n, .inl f1)) :: (a2, .inr (3, [.ref b2, .int (iZ ((k2 : Int))), .int (s2)])) :: (b2, .inl (G 0, n2, .inl g)) :: X : va_W), 0, 0)) (cAt D G (va_A ((a, .inr (3, [.ref b, .int (iZ ((k : Int))), .int (s1)])) :: (b, .inl (G 0, n, .inl f)) :: (a2, .inr (3, [.ref b2, .int (iZ ((k2 : Int))), .int (s2)])) :: (b2, .inl (G 0, n2, .inl g)) :: X : va_W) sz) sz hs) (va_A ((a, .inr (3, [.ref b, .int (iZ ((k : Int))), .int (s1)])) :: (b, .inl (G 0, n, .inl f)) :: (a2, .inr (3, [.ref b2, .int (iZ ((k2 : Int))), .int (s2)])) :: (b2, .inl (G 0, n2, .inl g)) :: X : va_W) sz)) ([.ref a, .ref a2] : List Value).toArray s 0 0 (va_A ((a, .inr (3, [.ref b, .int (iZ ((k : Int))), .int (s1)])) :: (b, .inl (G 0, n, .inl f)) :: (a2, .inr (3, [.ref b2, .int (iZ ((k2 : Int))), .int (s2)])) :: (b2, .inl (G 0, n2, .inl g)) :: X : va_W) sz)) ((a, .inr (3, [.ref b, .int (iZ ((k : Int))), .int (s1)])) :: (b, .inl (G 0, n, .inl h)) :: (a2, .inr (3, [.ref b2, .int (iZ ((k2 : Int))), .int (s2)])) :: (b2, .inl (G 0, n2, .inl g)) :: X : va_W) 54 [(4, .int (iZ ((i : Int)))), (3, .int (iZ (cy))), (2, .int (iZ ((N : Int)))), (0, .ref a), (1, .ref a2)] [.int (iZ (wd f k i))] := by
          refine w_iload C dX3_addMagnitude_54 0 rfl ?_
          refine w_aload_n C dX3_addMagnitude_56 4 rfl ?_
          refine w_get (ci := 3) (ref := "RootIsolator$Whole") (T := TX3) (Cn := RX3) (N := 3) C (fun w h => wC_in (inX3 w h)) 2 rfl rfl 1 (by decide) (wC_in fX3_13) rfl rfl dX3_addMagnitude_57 ?_
          have J2 : ZW p l e ({ frames := 0, cells := 0, slots := 0, locals := 0 }) s m ([.ref a, .ref a2] : List Value).toArray below meth c D (va_A ((a, .inr (3, [.ref b, .int (iZ ((k : Int))), .int (s1)])) :: (b, .inl (G 0, n, .inl f)) :: (a2, .inr (3, [.ref b2, .int (iZ ((k2 : Int))), .int (s2)])) :: (b2, .inl (G 0, n2, .inl g)) :: X : va_W) sz) 6 0 0 (MQ below (va_Qv (fun u : cS => ∃ f1 : Nat → Int32, lim f1 (N + 1) ∧ zw f1 (N + 1) = (x.natAbs : Int) + (y.natAbs : Int) ∧ u = (((a, .inr (3, [.ref b, .int (iZ ((k : Int))), .int (s1)])) :: (b, .inl (G 0, n, .inl f1)) :: (a2, .inr (3, [.ref b2, .int (iZ ((k2 : Int))), .int (s2)])) :: (b2, .inl (G 0, n2, .inl g)) :: X : va_W), 0, 0)) (cAt D G (va_A ((a, .inr (3, [.ref b, .int (iZ ((k : Int))), .int (s1)])) :: (b, .inl (G 0, n, .inl f)) :: (a2, .inr (3, [.ref b2, .int (iZ ((k2 : Int))), .int (s2)])) :: (b2, .inl (G 0, n2, .inl g)) :: X : va_W) sz) sz hs) (va_A ((a, .inr (3, [.ref b, .int (iZ ((k : Int))), .int (s1)])) :: (b, .inl (G 0, n, .inl f)) :: (a2, .inr (3, [.ref b2, .int (iZ ((k2 : Int))), .int (s2)])) :: (b2, .inl (G 0, n2, .inl g)) :: X : va_W) sz)) ([.ref a, .ref a2] : List Value).toArray s 0 0 (va_A ((a, .inr (3, [.ref b, .int (iZ ((k : Int))), .int (s1)])) :: (b, .inl (G 0, n, .inl f)) :: (a2, .inr (3, [.ref b2, .int (iZ ((k2 : Int))), .int (s2)])) :: (b2, .inl (G 0, n2, .inl g)) :: X : va_W) sz)) ((a, .inr (3, [.ref b, .int (iZ ((k : Int))), .int (s1)])) :: (b, .inl (G 0, n, .inl h)) :: (a2, .inr (3, [.ref b2, .int (iZ ((k2 : Int))), .int (s2)])) :: (b2, .inl (G 0, n2, .inl g)) :: X : va_W) 74 [(4, .int (iZ ((i : Int)))), (3, .int (iZ (cy))), (2, .int (iZ ((N : Int)))), (0, .ref a), (1, .ref a2)] [.int (iZ (wd g k2 i)), .int (iZ (wd f k i))] := by
            refine w_iadd C dX3_addMagnitude_74 ?_
            obtain ⟨w, hw⟩ : ∃ w : Int, w = (wd f k i + wd g k2 i) + cy := ⟨_, rfl⟩
            have hd1 := wd_r hx2 i
            have hd2 := wd_r hy2 i
            have hxr : 0 ≤ w ∧ w < 2147483648 := by omega
            refine w_iload_n C dX3_addMagnitude_75 1 rfl ?_
            refine w_iadd C dX3_addMagnitude_76 ?_
            refine w_top C (w) (hw.symm) ?_
            refine w_istore C [(5, .int (iZ (w))), (4, .int (iZ ((i : Int)))), (3, .int (iZ (cy))), (2, .int (iZ ((N : Int)))), (0, .ref a), (1, .ref a2)] dX3_addMagnitude_77 (by decide) rfl ?_
            refine w_aload_n C dX3_addMagnitude_79 4 rfl ?_
            refine w_get (ci := 3) (ref := "RootIsolator$Whole") (T := TX3) (Cn := RX3) (N := 3) C (fun w h => wC_in (inX3 w h)) 0 rfl rfl 0 (by decide) (wC_in fX3_9) rfl rfl dX3_addMagnitude_80 ?_
            refine w_iload C dX3_addMagnitude_83 1 rfl ?_
            refine w_iload C dX3_addMagnitude_85 0 rfl ?_
            refine w_ldc C (1073741823) dX3_addMagnitude_87 (wC_in kcX3_47) ?_
            refine w_iand C dX3_addMagnitude_89 (v := (iZ (w % 1073741824))) (iZ_and30 w) ?_
            refine w_iast C ((a, .inr (3, [.ref b, .int (iZ ((k : Int))), .int (s1)])) :: (b, .inl (G 0, n, .inl (upd h (i) (iZ (w % 1073741824))))) :: (a2, .inr (3, [.ref b2, .int (iZ ((k2 : Int))), .int (s2)])) :: (b2, .inl (G 0, n2, .inl g)) :: X : va_W) 1 0 rfl rfl (i) ⟨by omega, by omega, by omega⟩ rfl dX3_addMagnitude_90 ?_
            refine w_iload C dX3_addMagnitude_91 0 rfl ?_
            refine w_bipush C dX3_addMagnitude_93 (by decide) ?_
            refine w_iushr C dX3_addMagnitude_95 (v := (iZ (w / 1073741824))) (iush30 hxr) ?_
            refine w_istore_n C [(3, .int (iZ (w / 1073741824))), (5, .int (iZ (w))), (4, .int (iZ ((i : Int)))), (2, .int (iZ ((N : Int)))), (0, .ref a), (1, .ref a2)] dX3_addMagnitude_96 rfl (by decide) rfl ?_
            refine w_iinc C (((i + 1 : Nat) : Int)) (by omega) [(4, .int (iZ (((i + 1 : Nat) : Int)))), (3, .int (iZ (w / 1073741824))), (5, .int (iZ (w))), (2, .int (iZ ((N : Int)))), (0, .ref a), (1, .ref a2)] dX3_addMagnitude_97 2 rfl (by decide) rfl ?_
            refine w_goto C 28 dX3_addMagnitude_100 (by decide) ?_
            refine w_sub [(4, .int (iZ (((i + 1 : Nat) : Int)))), (3, .int (iZ (w / 1073741824))), (2, .int (iZ ((N : Int)))), (0, .ref a), (1, .ref a2)] [0, 1, 3, 4, 5] rfl ?_
            exact ih (i + 1) (w / 1073741824) _ (by omega) (by omega) (by omega) (fun j hj => by rw [upd_ne (by omega)]; exact hout j (by omega)) (lim_upd hl (by rw [iZ_toInt (by omega) (by omega)]; omega)) (by
              have e1 := dig30 w (2 ^ (30 * i))
              have e2 : w * 2 ^ (30 * i) = cy * 2 ^ (30 * i) + wd f k i * 2 ^ (30 * i) + wd g k2 i * 2 ^ (30 * i) := by rw [hw, Int.add_mul, Int.add_mul]; omega
              rw [zw_upd_top, iZ_toInt (by omega) (by omega), p30]
              simp only [zq]
              omega)
          refine w_icmp_ge C 73 dX3_addMagnitude_60 (by decide) ⟨⟨by omega, by omega⟩, by omega, by omega⟩ (fun c60 => ?_) (fun c60 => ?_)
          · refine w_iconst C dX3_addMagnitude_73 ?_
            refine w_top C (wd g k2 i) ((wd_out (by omega)).symm) ?_
            exact J2
          · refine w_aload_n C dX3_addMagnitude_63 4 rfl ?_
            refine w_get (ci := 3) (ref := "RootIsolator$Whole") (T := TX3) (Cn := RX3) (N := 3) C (fun w h => wC_in (inX3 w h)) 2 rfl rfl 0 (by decide) (wC_in fX3_9) rfl rfl dX3_addMagnitude_64 ?_
            refine w_iload C dX3_addMagnitude_67 0 rfl ?_
            refine w_iald C 3 0 rfl rfl (i) ((g (i)).toInt) ⟨by omega, by omega, by omega⟩ ((iZ_self _).symm) dX3_addMagnitude_69 ?_
            refine w_goto C 74 dX3_addMagnitude_70 (by decide) ?_
            refine w_top C (wd g k2 i) ((wd_in (by omega)).symm) ?_
            exact J2
        refine w_icmp_ge C 53 dX3_addMagnitude_40 (by decide) ⟨⟨by omega, by omega⟩, by omega, by omega⟩ (fun c40 => ?_) (fun c40 => ?_)
        · refine w_iconst C dX3_addMagnitude_53 ?_
          refine w_top C (wd f k i) ((wd_out (by omega)).symm) ?_
          exact J1
        · refine w_aload_n C dX3_addMagnitude_43 3 rfl ?_
          refine w_get (ci := 3) (ref := "RootIsolator$Whole") (T := TX3) (Cn := RX3) (N := 3) C (fun w h => wC_in (inX3 w h)) 0 rfl rfl 0 (by decide) (wC_in fX3_9) rfl rfl dX3_addMagnitude_44 ?_
          refine w_iload C dX3_addMagnitude_47 0 rfl ?_
          refine w_iald C 1 0 rfl rfl (i) ((f i).toInt) ⟨by omega, by omega, by omega⟩ ((hout i (Nat.le_refl i)).trans (iZ_self _).symm) dX3_addMagnitude_49 ?_
          refine w_goto C 54 dX3_addMagnitude_50 (by decide) ?_
          refine w_top C (wd f k i) ((wd_in (by omega)).symm) ?_
          exact J1
  refine w_aload_n C dX3_addMagnitude_0 0 rfl ?_
  refine w_get (ci := 3) (ref := "RootIsolator$Whole") (T := TX3) (Cn := RX3) (N := 3) C (fun w h => wC_in (inX3 w h)) 0 rfl rfl 1 (by decide) (wC_in fX3_13) rfl rfl dX3_addMagnitude_1 ?_
  refine w_aload_n C dX3_addMagnitude_4 1 rfl ?_
  refine w_get (ci := 3) (ref := "RootIsolator$Whole") (T := TX3) (Cn := RX3) (N := 3) C (fun w h => wC_in (inX3 w h)) 2 rfl rfl 1 (by decide) (wC_in fX3_13) rfl rfl dX3_addMagnitude_5 ?_
  have J3 : ZW p l e ({ frames := 0, cells := 0, slots := 0, locals := 0 }) s m ([.ref a, .ref a2] : List Value).toArray below meth c D (va_A ((a, .inr (3, [.ref b, .int (iZ ((k : Int))), .int (s1)])) :: (b, .inl (G 0, n, .inl f)) :: (a2, .inr (3, [.ref b2, .int (iZ ((k2 : Int))), .int (s2)])) :: (b2, .inl (G 0, n2, .inl g)) :: X : va_W) sz) 6 0 0 (MQ below (va_Qv (fun u : cS => ∃ f1 : Nat → Int32, lim f1 (N + 1) ∧ zw f1 (N + 1) = (x.natAbs : Int) + (y.natAbs : Int) ∧ u = (((a, .inr (3, [.ref b, .int (iZ ((k : Int))), .int (s1)])) :: (b, .inl (G 0, n, .inl f1)) :: (a2, .inr (3, [.ref b2, .int (iZ ((k2 : Int))), .int (s2)])) :: (b2, .inl (G 0, n2, .inl g)) :: X : va_W), 0, 0)) (cAt D G (va_A ((a, .inr (3, [.ref b, .int (iZ ((k : Int))), .int (s1)])) :: (b, .inl (G 0, n, .inl f)) :: (a2, .inr (3, [.ref b2, .int (iZ ((k2 : Int))), .int (s2)])) :: (b2, .inl (G 0, n2, .inl g)) :: X : va_W) sz) sz hs) (va_A ((a, .inr (3, [.ref b, .int (iZ ((k : Int))), .int (s1)])) :: (b, .inl (G 0, n, .inl f)) :: (a2, .inr (3, [.ref b2, .int (iZ ((k2 : Int))), .int (s2)])) :: (b2, .inl (G 0, n2, .inl g)) :: X : va_W) sz)) ([.ref a, .ref a2] : List Value).toArray s 0 0 (va_A ((a, .inr (3, [.ref b, .int (iZ ((k : Int))), .int (s1)])) :: (b, .inl (G 0, n, .inl f)) :: (a2, .inr (3, [.ref b2, .int (iZ ((k2 : Int))), .int (s2)])) :: (b2, .inl (G 0, n2, .inl g)) :: X : va_W) sz)) ((a, .inr (3, [.ref b, .int (iZ ((k : Int))), .int (s1)])) :: (b, .inl (G 0, n, .inl f)) :: (a2, .inr (3, [.ref b2, .int (iZ ((k2 : Int))), .int (s2)])) :: (b2, .inl (G 0, n2, .inl g)) :: X : va_W) 22 [(0, .ref a), (1, .ref a2)] [.int (iZ ((N : Int)))] := by
    refine w_istore_n C [(2, .int (iZ ((N : Int)))), (0, .ref a), (1, .ref a2)] dX3_addMagnitude_22 rfl (by decide) rfl ?_
    refine w_iconst C dX3_addMagnitude_23 ?_
    refine w_istore_n C [(3, .int (iZ (0))), (2, .int (iZ ((N : Int)))), (0, .ref a), (1, .ref a2)] dX3_addMagnitude_24 rfl (by decide) rfl ?_
    refine w_iconst C dX3_addMagnitude_25 ?_
    refine w_istore C [(4, .int (iZ (0))), (3, .int (iZ (0))), (2, .int (iZ ((N : Int)))), (0, .ref a), (1, .ref a2)] dX3_addMagnitude_26 (by decide) rfl ?_
    exact lp (N + 1) 0 0 f (by omega) (by omega) (by omega) (fun _ _ => rfl) (fun i hi2 => absurd hi2 (by omega)) (by simp [zw, zq])
  refine w_icmp_le C 18 dX3_addMagnitude_8 (by decide) ⟨⟨by omega, by omega⟩, by omega, by omega⟩ (fun c8 => ?_) (fun c8 => ?_)
  · refine w_aload_n C dX3_addMagnitude_18 1 rfl ?_
    refine w_get (ci := 3) (ref := "RootIsolator$Whole") (T := TX3) (Cn := RX3) (N := 3) C (fun w h => wC_in (inX3 w h)) 2 rfl rfl 1 (by decide) (wC_in fX3_13) rfl rfl dX3_addMagnitude_19 ?_
    refine w_top C ((N : Int)) (by omega) ?_
    exact J3
  · refine w_aload_n C dX3_addMagnitude_11 0 rfl ?_
    refine w_get (ci := 3) (ref := "RootIsolator$Whole") (T := TX3) (Cn := RX3) (N := 3) C (fun w h => wC_in (inX3 w h)) 0 rfl rfl 1 (by decide) (wC_in fX3_13) rfl rfl dX3_addMagnitude_12 ?_
    refine w_goto C 22 dX3_addMagnitude_15 (by decide) ?_
    refine w_top C ((N : Int)) (by omega) ?_
    exact J3
set_option maxHeartbeats 4000000 in
set_option maxRecDepth 100000 in
theorem cw_takeFromA (l : Launch) (D : va_G) (G : Nat → ClassId) (X : va_W) (a b n k a2 b2 n2 k2 : Nat) (f g : Nat → Int32) (s1 s2 : Int32) (x y : Int) (hn : n ≤ 2048) (hn2 : n2 ≤ 2048) (hx : wN n f k x) (hy : wN n2 g k2 y) (hle : x.natAbs ≤ y.natAbs) (hNn : k2 ≤ n) (sz hs : Nat) : Met l yX3_takeFrom (wC yX3_takeFrom cX3_takeFrom 8 none) ({ frames := 0, cells := 0, slots := 0, locals := 0 }) (va_Pc [.ref a, .ref b2, .int (iZ ((k2 : Int))), .ref b, .int (iZ ((k : Int)))] (cPre nT D G ((a, .inr (3, [.ref b, .int (iZ ((k : Int))), .int (s1)])) :: (b, .inl (G 0, n, .inl f)) :: (a2, .inr (3, [.ref b2, .int (iZ ((k2 : Int))), .int (s2)])) :: (b2, .inl (G 0, n2, .inl g)) :: X : va_W) sz hs)) (va_Qv (fun u : cS => ∃ f1 : Nat → Int32, lim f1 k2 ∧ zw f1 k2 = (y.natAbs : Int) - (x.natAbs : Int) ∧ u = (((a, .inr (3, [.ref b, .int (iZ ((k : Int))), .int (s1)])) :: (b, .inl (G 0, n, .inl f1)) :: (a2, .inr (3, [.ref b2, .int (iZ ((k2 : Int))), .int (s2)])) :: (b2, .inl (G 0, n2, .inl g)) :: X : va_W), 0, 0)) (cAt D G (va_A ((a, .inr (3, [.ref b, .int (iZ ((k : Int))), .int (s1)])) :: (b, .inl (G 0, n, .inl f)) :: (a2, .inr (3, [.ref b2, .int (iZ ((k2 : Int))), .int (s2)])) :: (b2, .inl (G 0, n2, .inl g)) :: X : va_W) sz) sz hs) (va_A ((a, .inr (3, [.ref b, .int (iZ ((k : Int))), .int (s1)])) :: (b, .inl (G 0, n, .inl f)) :: (a2, .inr (3, [.ref b2, .int (iZ ((k2 : Int))), .int (s2)])) :: (b2, .inl (G 0, n2, .inl g)) :: X : va_W) sz)) 0 0 (va_A ((a, .inr (3, [.ref b, .int (iZ ((k : Int))), .int (s1)])) :: (b, .inl (G 0, n, .inl f)) :: (a2, .inr (3, [.ref b2, .int (iZ ((k2 : Int))), .int (s2)])) :: (b2, .inl (G 0, n2, .inl g)) :: X : va_W) sz) := by
  refine g_met (cc := cX3_takeFrom) (maxL := 8) (ret := none) (own := RX3) (by decide) rfl rfl (Nat.le_of_ble_eq_true rfl) ?_
  intro p e s m below meth c hsz hhs hN hA C hr hlk
  refine w_sub [(0, .ref a), (1, .ref b2), (2, .int (iZ ((k2 : Int)))), (3, .ref b), (4, .int (iZ ((k : Int))))] [0, 1, 2, 3, 4] rfl ?_
  obtain ⟨hx1, hx2, hx3, hx4⟩ := id hx
  obtain ⟨hy1, hy2, hy3, hy4⟩ := id hy
  have hks : k ≤ k2 := wN_size (N := k2) hx (by have := wN_lt hy; omega)
  have lp : ∀ (d : Nat) (i : Nat) (bw : Int) (h : Nat → Int32), k2 < i + d → i ≤ k2 → 0 ≤ bw ∧ bw ≤ 1 → (∀ j : Nat, i ≤ j → h j = f j) → lim h i → zw h i - bw * 2 ^ (30 * i) = zq (wd g k2) i - zq (wd f k) i → ZW p l e ({ frames := 0, cells := 0, slots := 0, locals := 0 }) s m ([.ref a, .ref b2, .int (iZ ((k2 : Int))), .ref b, .int (iZ ((k : Int)))] : List Value).toArray below meth c D (va_A ((a, .inr (3, [.ref b, .int (iZ ((k : Int))), .int (s1)])) :: (b, .inl (G 0, n, .inl f)) :: (a2, .inr (3, [.ref b2, .int (iZ ((k2 : Int))), .int (s2)])) :: (b2, .inl (G 0, n2, .inl g)) :: X : va_W) sz) 8 0 0 (MQ below (va_Qv (fun u : cS => ∃ f1 : Nat → Int32, lim f1 k2 ∧ zw f1 k2 = (y.natAbs : Int) - (x.natAbs : Int) ∧ u = (((a, .inr (3, [.ref b, .int (iZ ((k : Int))), .int (s1)])) :: (b, .inl (G 0, n, .inl f1)) :: (a2, .inr (3, [.ref b2, .int (iZ ((k2 : Int))), .int (s2)])) :: (b2, .inl (G 0, n2, .inl g)) :: X : va_W), 0, 0)) (cAt D G (va_A ((a, .inr (3, [.ref b, .int (iZ ((k : Int))), .int (s1)])) :: (b, .inl (G 0, n, .inl f)) :: (a2, .inr (3, [.ref b2, .int (iZ ((k2 : Int))), .int (s2)])) :: (b2, .inl (G 0, n2, .inl g)) :: X : va_W) sz) sz hs) (va_A ((a, .inr (3, [.ref b, .int (iZ ((k : Int))), .int (s1)])) :: (b, .inl (G 0, n, .inl f)) :: (a2, .inr (3, [.ref b2, .int (iZ ((k2 : Int))), .int (s2)])) :: (b2, .inl (G 0, n2, .inl g)) :: X : va_W) sz)) ([.ref a, .ref b2, .int (iZ ((k2 : Int))), .ref b, .int (iZ ((k : Int)))] : List Value).toArray s 0 0 (va_A ((a, .inr (3, [.ref b, .int (iZ ((k : Int))), .int (s1)])) :: (b, .inl (G 0, n, .inl f)) :: (a2, .inr (3, [.ref b2, .int (iZ ((k2 : Int))), .int (s2)])) :: (b2, .inl (G 0, n2, .inl g)) :: X : va_W) sz)) ((a, .inr (3, [.ref b, .int (iZ ((k : Int))), .int (s1)])) :: (b, .inl (G 0, n, .inl h)) :: (a2, .inr (3, [.ref b2, .int (iZ ((k2 : Int))), .int (s2)])) :: (b2, .inl (G 0, n2, .inl g)) :: X : va_W) 6 [(6, .int (iZ ((i : Int)))), (5, .int (iZ (bw))), (0, .ref a), (1, .ref b2), (2, .int (iZ ((k2 : Int)))), (3, .ref b), (4, .int (iZ ((k : Int))))] [] := by
    intro d
    induction d with
    | zero =>
      intro i bw h hd hi hbw hout hl hv
      exact absurd hd (by omega)
    | succ d ih =>
      intro i bw h hd hi hbw hout hl hv
      refine w_iload C dX3_takeFrom_6 0 rfl ?_
      refine w_iload_n C dX3_takeFrom_8 4 rfl ?_
      refine w_icmp_ge C 67 dX3_takeFrom_9 (by decide) ⟨⟨by omega, by omega⟩, by omega, by omega⟩ (fun c9 => ?_) (fun c9 => ?_)
      · have hkn : i = k2 := by omega
        subst hkn
        have hfin : zw h i = (y.natAbs : Int) - (x.natAbs : Int) := by
          rw [zq_wd (Nat.le_refl _), zq_wd hks] at hv
          have h1 := zw_lt hl
          have h2 := p30_pos i
          rcases (show bw = 0 ∨ bw = 1 by omega) with q | q
          · subst q; omega
          · subst q; omega
        exact g_vret hsz hhs C hr hlk ⟨by omega, by omega⟩ (⟨h, hl, hfin, rfl⟩) dX3_takeFrom_67
      · refine w_aload_n C dX3_takeFrom_12 3 rfl ?_
        refine w_iload C dX3_takeFrom_13 0 rfl ?_
        refine w_iald C 3 0 rfl rfl (i) ((g i).toInt) ⟨by omega, by omega, by omega⟩ ((iZ_self _).symm) dX3_takeFrom_15 ?_
        refine w_top C (wd g k2 i) ((wd_in (by omega)).symm) ?_
        refine w_iload C dX3_takeFrom_16 0 rfl ?_
        refine w_iload C dX3_takeFrom_18 6 rfl ?_
        have J1 : ZW p l e ({ frames := 0, cells := 0, slots := 0, locals := 0 }) s m ([.ref a, .ref b2, .int (iZ ((k2 : Int))), .ref b, .int (iZ ((k : Int)))] : List Value).toArray below meth c D (va_A ((a, .inr (3, [.ref b, .int (iZ ((k : Int))), .int (s1)])) :: (b, .inl (G 0, n, .inl f)) :: (a2, .inr (3, [.ref b2, .int (iZ ((k2 : Int))), .int (s2)])) :: (b2, .inl (G 0, n2, .inl g)) :: X : va_W) sz) 8 0 0 (MQ below (va_Qv (fun u : cS => ∃ f1 : Nat → Int32, lim f1 k2 ∧ zw f1 k2 = (y.natAbs : Int) - (x.natAbs : Int) ∧ u = (((a, .inr (3, [.ref b, .int (iZ ((k : Int))), .int (s1)])) :: (b, .inl (G 0, n, .inl f1)) :: (a2, .inr (3, [.ref b2, .int (iZ ((k2 : Int))), .int (s2)])) :: (b2, .inl (G 0, n2, .inl g)) :: X : va_W), 0, 0)) (cAt D G (va_A ((a, .inr (3, [.ref b, .int (iZ ((k : Int))), .int (s1)])) :: (b, .inl (G 0, n, .inl f)) :: (a2, .inr (3, [.ref b2, .int (iZ ((k2 : Int))), .int (s2)])) :: (b2, .inl (G 0, n2, .inl g)) :: X : va_W) sz) sz hs) (va_A ((a, .inr (3, [.ref b, .int (iZ ((k : Int))), .int (s1)])) :: (b, .inl (G 0, n, .inl f)) :: (a2, .inr (3, [.ref b2, .int (iZ ((k2 : Int))), .int (s2)])) :: (b2, .inl (G 0, n2, .inl g)) :: X : va_W) sz)) ([.ref a, .ref b2, .int (iZ ((k2 : Int))), .ref b, .int (iZ ((k : Int)))] : List Value).toArray s 0 0 (va_A ((a, .inr (3, [.ref b, .int (iZ ((k : Int))), .int (s1)])) :: (b, .inl (G 0, n, .inl f)) :: (a2, .inr (3, [.ref b2, .int (iZ ((k2 : Int))), .int (s2)])) :: (b2, .inl (G 0, n2, .inl g)) :: X : va_W) sz)) ((a, .inr (3, [.ref b, .int (iZ ((k : Int))), .int (s1)])) :: (b, .inl (G 0, n, .inl h)) :: (a2, .inr (3, [.ref b2, .int (iZ ((k2 : Int))), .int (s2)])) :: (b2, .inl (G 0, n2, .inl g)) :: X : va_W) 31 [(6, .int (iZ ((i : Int)))), (5, .int (iZ (bw))), (0, .ref a), (1, .ref b2), (2, .int (iZ ((k2 : Int)))), (3, .ref b), (4, .int (iZ ((k : Int))))] [.int (iZ (wd f k i)), .int (iZ (wd g k2 i))] := by
          refine w_isub C dX3_takeFrom_31 ?_
          obtain ⟨w, hw⟩ : ∃ w : Int, w = (wd g k2 i - wd f k i) - bw := ⟨_, rfl⟩
          have hd1 := wd_r hy2 i
          have hd2 := wd_r hx2 i
          have hxr : -1073741824 ≤ w ∧ w < 1073741824 := by omega
          refine w_iload C dX3_takeFrom_32 1 rfl ?_
          refine w_isub C dX3_takeFrom_34 ?_
          refine w_top C (w) (hw.symm) ?_
          refine w_istore C [(7, .int (iZ (w))), (6, .int (iZ ((i : Int)))), (5, .int (iZ (bw))), (0, .ref a), (1, .ref b2), (2, .int (iZ ((k2 : Int)))), (3, .ref b), (4, .int (iZ ((k : Int))))] dX3_takeFrom_35 (by decide) rfl ?_
          refine w_aload_n C dX3_takeFrom_37 3 rfl ?_
          refine w_get (ci := 3) (ref := "RootIsolator$Whole") (T := TX3) (Cn := RX3) (N := 3) C (fun w h => wC_in (inX3 w h)) 0 rfl rfl 0 (by decide) (wC_in fX3_9) rfl rfl dX3_takeFrom_38 ?_
          refine w_iload C dX3_takeFrom_41 1 rfl ?_
          refine w_iload C dX3_takeFrom_43 0 rfl ?_
          refine w_ldc C (1073741823) dX3_takeFrom_45 (wC_in kcX3_47) ?_
          refine w_iand C dX3_takeFrom_47 (v := (iZ (w % 1073741824))) (iZ_and30 w) ?_
          refine w_iast C ((a, .inr (3, [.ref b, .int (iZ ((k : Int))), .int (s1)])) :: (b, .inl (G 0, n, .inl (upd h (i) (iZ (w % 1073741824))))) :: (a2, .inr (3, [.ref b2, .int (iZ ((k2 : Int))), .int (s2)])) :: (b2, .inl (G 0, n2, .inl g)) :: X : va_W) 1 0 rfl rfl (i) ⟨by omega, by omega, by omega⟩ rfl dX3_takeFrom_48 ?_
          refine w_iload C dX3_takeFrom_49 0 rfl ?_
          have J2 : ZW p l e ({ frames := 0, cells := 0, slots := 0, locals := 0 }) s m ([.ref a, .ref b2, .int (iZ ((k2 : Int))), .ref b, .int (iZ ((k : Int)))] : List Value).toArray below meth c D (va_A ((a, .inr (3, [.ref b, .int (iZ ((k : Int))), .int (s1)])) :: (b, .inl (G 0, n, .inl f)) :: (a2, .inr (3, [.ref b2, .int (iZ ((k2 : Int))), .int (s2)])) :: (b2, .inl (G 0, n2, .inl g)) :: X : va_W) sz) 8 0 0 (MQ below (va_Qv (fun u : cS => ∃ f1 : Nat → Int32, lim f1 k2 ∧ zw f1 k2 = (y.natAbs : Int) - (x.natAbs : Int) ∧ u = (((a, .inr (3, [.ref b, .int (iZ ((k : Int))), .int (s1)])) :: (b, .inl (G 0, n, .inl f1)) :: (a2, .inr (3, [.ref b2, .int (iZ ((k2 : Int))), .int (s2)])) :: (b2, .inl (G 0, n2, .inl g)) :: X : va_W), 0, 0)) (cAt D G (va_A ((a, .inr (3, [.ref b, .int (iZ ((k : Int))), .int (s1)])) :: (b, .inl (G 0, n, .inl f)) :: (a2, .inr (3, [.ref b2, .int (iZ ((k2 : Int))), .int (s2)])) :: (b2, .inl (G 0, n2, .inl g)) :: X : va_W) sz) sz hs) (va_A ((a, .inr (3, [.ref b, .int (iZ ((k : Int))), .int (s1)])) :: (b, .inl (G 0, n, .inl f)) :: (a2, .inr (3, [.ref b2, .int (iZ ((k2 : Int))), .int (s2)])) :: (b2, .inl (G 0, n2, .inl g)) :: X : va_W) sz)) ([.ref a, .ref b2, .int (iZ ((k2 : Int))), .ref b, .int (iZ ((k : Int)))] : List Value).toArray s 0 0 (va_A ((a, .inr (3, [.ref b, .int (iZ ((k : Int))), .int (s1)])) :: (b, .inl (G 0, n, .inl f)) :: (a2, .inr (3, [.ref b2, .int (iZ ((k2 : Int))), .int (s2)])) :: (b2, .inl (G 0, n2, .inl g)) :: X : va_W) sz)) ((a, .inr (3, [.ref b, .int (iZ ((k : Int))), .int (s1)])) :: (b, .inl (G 0, n, .inl (upd h (i) (iZ (w % 1073741824))))) :: (a2, .inr (3, [.ref b2, .int (iZ ((k2 : Int))), .int (s2)])) :: (b2, .inl (G 0, n2, .inl g)) :: X : va_W) 59 [(7, .int (iZ (w))), (6, .int (iZ ((i : Int)))), (5, .int (iZ (bw))), (0, .ref a), (1, .ref b2), (2, .int (iZ ((k2 : Int)))), (3, .ref b), (4, .int (iZ ((k : Int))))] [.int (iZ (-(w / 1073741824)))] := by
            refine w_istore C [(5, .int (iZ (-(w / 1073741824)))), (7, .int (iZ (w))), (6, .int (iZ ((i : Int)))), (0, .ref a), (1, .ref b2), (2, .int (iZ ((k2 : Int)))), (3, .ref b), (4, .int (iZ ((k : Int))))] dX3_takeFrom_59 (by decide) rfl ?_
            refine w_iinc C (((i + 1 : Nat) : Int)) (by omega) [(6, .int (iZ (((i + 1 : Nat) : Int)))), (5, .int (iZ (-(w / 1073741824)))), (7, .int (iZ (w))), (0, .ref a), (1, .ref b2), (2, .int (iZ ((k2 : Int)))), (3, .ref b), (4, .int (iZ ((k : Int))))] dX3_takeFrom_61 2 rfl (by decide) rfl ?_
            refine w_goto C 6 dX3_takeFrom_64 (by decide) ?_
            refine w_sub [(6, .int (iZ (((i + 1 : Nat) : Int)))), (5, .int (iZ (-(w / 1073741824)))), (0, .ref a), (1, .ref b2), (2, .int (iZ ((k2 : Int)))), (3, .ref b), (4, .int (iZ ((k : Int))))] [0, 1, 3, 4, 5, 6, 7] rfl ?_
            exact ih (i + 1) (-(w / 1073741824)) _ (by omega) (by omega) (by omega) (fun j hj => by rw [upd_ne (by omega)]; exact hout j (by omega)) (lim_upd hl (by rw [iZ_toInt (by omega) (by omega)]; omega)) (by
              have e1 := dig30 w (2 ^ (30 * i))
              have e2 : w * 2 ^ (30 * i) = wd g k2 i * 2 ^ (30 * i) - wd f k i * 2 ^ (30 * i) - bw * 2 ^ (30 * i) := by rw [hw, Int.sub_mul, Int.sub_mul]
              rw [zw_upd_top, iZ_toInt (by omega) (by omega), p30, Int.neg_mul]
              simp only [zq]
              omega)
          refine w_if_ge C 58 dX3_takeFrom_51 (by decide) ⟨by omega, by omega⟩ (fun c51 => ?_) (fun c51 => ?_)
          · refine w_iconst C dX3_takeFrom_58 ?_
            refine w_top C (-(w / 1073741824)) (by omega) ?_
            exact J2
          · refine w_iconst C dX3_takeFrom_54 ?_
            refine w_goto C 59 dX3_takeFrom_55 (by decide) ?_
            refine w_top C (-(w / 1073741824)) (by omega) ?_
            exact J2
        refine w_icmp_ge C 30 dX3_takeFrom_20 (by decide) ⟨⟨by omega, by omega⟩, by omega, by omega⟩ (fun c20 => ?_) (fun c20 => ?_)
        · refine w_iconst C dX3_takeFrom_30 ?_
          refine w_top C (wd f k i) ((wd_out (by omega)).symm) ?_
          exact J1
        · refine w_aload_n C dX3_takeFrom_23 5 rfl ?_
          refine w_iload C dX3_takeFrom_24 0 rfl ?_
          refine w_iald C 1 0 rfl rfl (i) ((f i).toInt) ⟨by omega, by omega, by omega⟩ ((hout i (Nat.le_refl i)).trans (iZ_self _).symm) dX3_takeFrom_26 ?_
          refine w_goto C 31 dX3_takeFrom_27 (by decide) ?_
          refine w_top C (wd f k i) ((wd_in (by omega)).symm) ?_
          exact J1
  refine w_iconst C dX3_takeFrom_0 ?_
  refine w_istore C [(5, .int (iZ (0))), (0, .ref a), (1, .ref b2), (2, .int (iZ ((k2 : Int)))), (3, .ref b), (4, .int (iZ ((k : Int))))] dX3_takeFrom_1 (by decide) rfl ?_
  refine w_iconst C dX3_takeFrom_3 ?_
  refine w_istore C [(6, .int (iZ (0))), (5, .int (iZ (0))), (0, .ref a), (1, .ref b2), (2, .int (iZ ((k2 : Int)))), (3, .ref b), (4, .int (iZ ((k : Int))))] dX3_takeFrom_4 (by decide) rfl ?_
  exact lp (k2 + 1) 0 0 f (by omega) (by omega) (by omega) (fun _ _ => rfl) (fun i hi2 => absurd hi2 (by omega)) (by simp [zw, zq])
set_option maxHeartbeats 4000000 in
set_option maxRecDepth 100000 in
theorem cw_takeFromB (l : Launch) (D : va_G) (G : Nat → ClassId) (X : va_W) (a b n k a2 b2 n2 k2 : Nat) (f g : Nat → Int32) (s1 s2 : Int32) (x y : Int) (hn : n ≤ 2048) (hn2 : n2 ≤ 2048) (hx : wN n f k x) (hy : wN n2 g k2 y) (hle : y.natAbs ≤ x.natAbs) (hNn : k ≤ n) (sz hs : Nat) : Met l yX3_takeFrom (wC yX3_takeFrom cX3_takeFrom 8 none) ({ frames := 0, cells := 0, slots := 0, locals := 0 }) (va_Pc [.ref a, .ref b, .int (iZ ((k : Int))), .ref b2, .int (iZ ((k2 : Int)))] (cPre nT D G ((a, .inr (3, [.ref b, .int (iZ ((k : Int))), .int (s1)])) :: (b, .inl (G 0, n, .inl f)) :: (a2, .inr (3, [.ref b2, .int (iZ ((k2 : Int))), .int (s2)])) :: (b2, .inl (G 0, n2, .inl g)) :: X : va_W) sz hs)) (va_Qv (fun u : cS => ∃ f1 : Nat → Int32, lim f1 k ∧ zw f1 k = (x.natAbs : Int) - (y.natAbs : Int) ∧ u = (((a, .inr (3, [.ref b, .int (iZ ((k : Int))), .int (s1)])) :: (b, .inl (G 0, n, .inl f1)) :: (a2, .inr (3, [.ref b2, .int (iZ ((k2 : Int))), .int (s2)])) :: (b2, .inl (G 0, n2, .inl g)) :: X : va_W), 0, 0)) (cAt D G (va_A ((a, .inr (3, [.ref b, .int (iZ ((k : Int))), .int (s1)])) :: (b, .inl (G 0, n, .inl f)) :: (a2, .inr (3, [.ref b2, .int (iZ ((k2 : Int))), .int (s2)])) :: (b2, .inl (G 0, n2, .inl g)) :: X : va_W) sz) sz hs) (va_A ((a, .inr (3, [.ref b, .int (iZ ((k : Int))), .int (s1)])) :: (b, .inl (G 0, n, .inl f)) :: (a2, .inr (3, [.ref b2, .int (iZ ((k2 : Int))), .int (s2)])) :: (b2, .inl (G 0, n2, .inl g)) :: X : va_W) sz)) 0 0 (va_A ((a, .inr (3, [.ref b, .int (iZ ((k : Int))), .int (s1)])) :: (b, .inl (G 0, n, .inl f)) :: (a2, .inr (3, [.ref b2, .int (iZ ((k2 : Int))), .int (s2)])) :: (b2, .inl (G 0, n2, .inl g)) :: X : va_W) sz) := by
  refine g_met (cc := cX3_takeFrom) (maxL := 8) (ret := none) (own := RX3) (by decide) rfl rfl (Nat.le_of_ble_eq_true rfl) ?_
  intro p e s m below meth c hsz hhs hN hA C hr hlk
  refine w_sub [(0, .ref a), (1, .ref b), (2, .int (iZ ((k : Int)))), (3, .ref b2), (4, .int (iZ ((k2 : Int))))] [0, 1, 2, 3, 4] rfl ?_
  obtain ⟨hx1, hx2, hx3, hx4⟩ := id hx
  obtain ⟨hy1, hy2, hy3, hy4⟩ := id hy
  have hks : k2 ≤ k := wN_size (N := k) hy (by have := wN_lt hx; omega)
  have lp : ∀ (d : Nat) (i : Nat) (bw : Int) (h : Nat → Int32), k < i + d → i ≤ k → 0 ≤ bw ∧ bw ≤ 1 → (∀ j : Nat, i ≤ j → h j = f j) → lim h i → zw h i - bw * 2 ^ (30 * i) = zq (wd f k) i - zq (wd g k2) i → ZW p l e ({ frames := 0, cells := 0, slots := 0, locals := 0 }) s m ([.ref a, .ref b, .int (iZ ((k : Int))), .ref b2, .int (iZ ((k2 : Int)))] : List Value).toArray below meth c D (va_A ((a, .inr (3, [.ref b, .int (iZ ((k : Int))), .int (s1)])) :: (b, .inl (G 0, n, .inl f)) :: (a2, .inr (3, [.ref b2, .int (iZ ((k2 : Int))), .int (s2)])) :: (b2, .inl (G 0, n2, .inl g)) :: X : va_W) sz) 8 0 0 (MQ below (va_Qv (fun u : cS => ∃ f1 : Nat → Int32, lim f1 k ∧ zw f1 k = (x.natAbs : Int) - (y.natAbs : Int) ∧ u = (((a, .inr (3, [.ref b, .int (iZ ((k : Int))), .int (s1)])) :: (b, .inl (G 0, n, .inl f1)) :: (a2, .inr (3, [.ref b2, .int (iZ ((k2 : Int))), .int (s2)])) :: (b2, .inl (G 0, n2, .inl g)) :: X : va_W), 0, 0)) (cAt D G (va_A ((a, .inr (3, [.ref b, .int (iZ ((k : Int))), .int (s1)])) :: (b, .inl (G 0, n, .inl f)) :: (a2, .inr (3, [.ref b2, .int (iZ ((k2 : Int))), .int (s2)])) :: (b2, .inl (G 0, n2, .inl g)) :: X : va_W) sz) sz hs) (va_A ((a, .inr (3, [.ref b, .int (iZ ((k : Int))), .int (s1)])) :: (b, .inl (G 0, n, .inl f)) :: (a2, .inr (3, [.ref b2, .int (iZ ((k2 : Int))), .int (s2)])) :: (b2, .inl (G 0, n2, .inl g)) :: X : va_W) sz)) ([.ref a, .ref b, .int (iZ ((k : Int))), .ref b2, .int (iZ ((k2 : Int)))] : List Value).toArray s 0 0 (va_A ((a, .inr (3, [.ref b, .int (iZ ((k : Int))), .int (s1)])) :: (b, .inl (G 0, n, .inl f)) :: (a2, .inr (3, [.ref b2, .int (iZ ((k2 : Int))), .int (s2)])) :: (b2, .inl (G 0, n2, .inl g)) :: X : va_W) sz)) ((a, .inr (3, [.ref b, .int (iZ ((k : Int))), .int (s1)])) :: (b, .inl (G 0, n, .inl h)) :: (a2, .inr (3, [.ref b2, .int (iZ ((k2 : Int))), .int (s2)])) :: (b2, .inl (G 0, n2, .inl g)) :: X : va_W) 6 [(6, .int (iZ ((i : Int)))), (5, .int (iZ (bw))), (0, .ref a), (1, .ref b), (2, .int (iZ ((k : Int)))), (3, .ref b2), (4, .int (iZ ((k2 : Int))))] [] := by
    intro d
    induction d with
    | zero =>
      intro i bw h hd hi hbw hout hl hv
      exact absurd hd (by omega)
    | succ d ih =>
      intro i bw h hd hi hbw hout hl hv
      refine w_iload C dX3_takeFrom_6 0 rfl ?_
      refine w_iload_n C dX3_takeFrom_8 4 rfl ?_
      refine w_icmp_ge C 67 dX3_takeFrom_9 (by decide) ⟨⟨by omega, by omega⟩, by omega, by omega⟩ (fun c9 => ?_) (fun c9 => ?_)
      · have hkn : i = k := by omega
        subst hkn
        have hfin : zw h i = (x.natAbs : Int) - (y.natAbs : Int) := by
          rw [zq_wd (Nat.le_refl _), zq_wd hks] at hv
          have h1 := zw_lt hl
          have h2 := p30_pos i
          rcases (show bw = 0 ∨ bw = 1 by omega) with q | q
          · subst q; omega
          · subst q; omega
        exact g_vret hsz hhs C hr hlk ⟨by omega, by omega⟩ (⟨h, hl, hfin, rfl⟩) dX3_takeFrom_67
      · refine w_aload_n C dX3_takeFrom_12 3 rfl ?_
        refine w_iload C dX3_takeFrom_13 0 rfl ?_
        refine w_iald C 1 0 rfl rfl (i) ((f i).toInt) ⟨by omega, by omega, by omega⟩ ((hout i (Nat.le_refl i)).trans (iZ_self _).symm) dX3_takeFrom_15 ?_
        refine w_top C (wd f k i) ((wd_in (by omega)).symm) ?_
        refine w_iload C dX3_takeFrom_16 0 rfl ?_
        refine w_iload C dX3_takeFrom_18 6 rfl ?_
        have J1 : ZW p l e ({ frames := 0, cells := 0, slots := 0, locals := 0 }) s m ([.ref a, .ref b, .int (iZ ((k : Int))), .ref b2, .int (iZ ((k2 : Int)))] : List Value).toArray below meth c D (va_A ((a, .inr (3, [.ref b, .int (iZ ((k : Int))), .int (s1)])) :: (b, .inl (G 0, n, .inl f)) :: (a2, .inr (3, [.ref b2, .int (iZ ((k2 : Int))), .int (s2)])) :: (b2, .inl (G 0, n2, .inl g)) :: X : va_W) sz) 8 0 0 (MQ below (va_Qv (fun u : cS => ∃ f1 : Nat → Int32, lim f1 k ∧ zw f1 k = (x.natAbs : Int) - (y.natAbs : Int) ∧ u = (((a, .inr (3, [.ref b, .int (iZ ((k : Int))), .int (s1)])) :: (b, .inl (G 0, n, .inl f1)) :: (a2, .inr (3, [.ref b2, .int (iZ ((k2 : Int))), .int (s2)])) :: (b2, .inl (G 0, n2, .inl g)) :: X : va_W), 0, 0)) (cAt D G (va_A ((a, .inr (3, [.ref b, .int (iZ ((k : Int))), .int (s1)])) :: (b, .inl (G 0, n, .inl f)) :: (a2, .inr (3, [.ref b2, .int (iZ ((k2 : Int))), .int (s2)])) :: (b2, .inl (G 0, n2, .inl g)) :: X : va_W) sz) sz hs) (va_A ((a, .inr (3, [.ref b, .int (iZ ((k : Int))), .int (s1)])) :: (b, .inl (G 0, n, .inl f)) :: (a2, .inr (3, [.ref b2, .int (iZ ((k2 : Int))), .int (s2)])) :: (b2, .inl (G 0, n2, .inl g)) :: X : va_W) sz)) ([.ref a, .ref b, .int (iZ ((k : Int))), .ref b2, .int (iZ ((k2 : Int)))] : List Value).toArray s 0 0 (va_A ((a, .inr (3, [.ref b, .int (iZ ((k : Int))), .int (s1)])) :: (b, .inl (G 0, n, .inl f)) :: (a2, .inr (3, [.ref b2, .int (iZ ((k2 : Int))), .int (s2)])) :: (b2, .inl (G 0, n2, .inl g)) :: X : va_W) sz)) ((a, .inr (3, [.ref b, .int (iZ ((k : Int))), .int (s1)])) :: (b, .inl (G 0, n, .inl h)) :: (a2, .inr (3, [.ref b2, .int (iZ ((k2 : Int))), .int (s2)])) :: (b2, .inl (G 0, n2, .inl g)) :: X : va_W) 31 [(6, .int (iZ ((i : Int)))), (5, .int (iZ (bw))), (0, .ref a), (1, .ref b), (2, .int (iZ ((k : Int)))), (3, .ref b2), (4, .int (iZ ((k2 : Int))))] [.int (iZ (wd g k2 i)), .int (iZ (wd f k i))] := by
          refine w_isub C dX3_takeFrom_31 ?_
          obtain ⟨w, hw⟩ : ∃ w : Int, w = (wd f k i - wd g k2 i) - bw := ⟨_, rfl⟩
          have hd1 := wd_r hx2 i
          have hd2 := wd_r hy2 i
          have hxr : -1073741824 ≤ w ∧ w < 1073741824 := by omega
          refine w_iload C dX3_takeFrom_32 1 rfl ?_
          refine w_isub C dX3_takeFrom_34 ?_
          refine w_top C (w) (hw.symm) ?_
          refine w_istore C [(7, .int (iZ (w))), (6, .int (iZ ((i : Int)))), (5, .int (iZ (bw))), (0, .ref a), (1, .ref b), (2, .int (iZ ((k : Int)))), (3, .ref b2), (4, .int (iZ ((k2 : Int))))] dX3_takeFrom_35 (by decide) rfl ?_
          refine w_aload_n C dX3_takeFrom_37 3 rfl ?_
          refine w_get (ci := 3) (ref := "RootIsolator$Whole") (T := TX3) (Cn := RX3) (N := 3) C (fun w h => wC_in (inX3 w h)) 0 rfl rfl 0 (by decide) (wC_in fX3_9) rfl rfl dX3_takeFrom_38 ?_
          refine w_iload C dX3_takeFrom_41 1 rfl ?_
          refine w_iload C dX3_takeFrom_43 0 rfl ?_
          refine w_ldc C (1073741823) dX3_takeFrom_45 (wC_in kcX3_47) ?_
          refine w_iand C dX3_takeFrom_47 (v := (iZ (w % 1073741824))) (iZ_and30 w) ?_
          refine w_iast C ((a, .inr (3, [.ref b, .int (iZ ((k : Int))), .int (s1)])) :: (b, .inl (G 0, n, .inl (upd h (i) (iZ (w % 1073741824))))) :: (a2, .inr (3, [.ref b2, .int (iZ ((k2 : Int))), .int (s2)])) :: (b2, .inl (G 0, n2, .inl g)) :: X : va_W) 1 0 rfl rfl (i) ⟨by omega, by omega, by omega⟩ rfl dX3_takeFrom_48 ?_
          refine w_iload C dX3_takeFrom_49 0 rfl ?_
          have J2 : ZW p l e ({ frames := 0, cells := 0, slots := 0, locals := 0 }) s m ([.ref a, .ref b, .int (iZ ((k : Int))), .ref b2, .int (iZ ((k2 : Int)))] : List Value).toArray below meth c D (va_A ((a, .inr (3, [.ref b, .int (iZ ((k : Int))), .int (s1)])) :: (b, .inl (G 0, n, .inl f)) :: (a2, .inr (3, [.ref b2, .int (iZ ((k2 : Int))), .int (s2)])) :: (b2, .inl (G 0, n2, .inl g)) :: X : va_W) sz) 8 0 0 (MQ below (va_Qv (fun u : cS => ∃ f1 : Nat → Int32, lim f1 k ∧ zw f1 k = (x.natAbs : Int) - (y.natAbs : Int) ∧ u = (((a, .inr (3, [.ref b, .int (iZ ((k : Int))), .int (s1)])) :: (b, .inl (G 0, n, .inl f1)) :: (a2, .inr (3, [.ref b2, .int (iZ ((k2 : Int))), .int (s2)])) :: (b2, .inl (G 0, n2, .inl g)) :: X : va_W), 0, 0)) (cAt D G (va_A ((a, .inr (3, [.ref b, .int (iZ ((k : Int))), .int (s1)])) :: (b, .inl (G 0, n, .inl f)) :: (a2, .inr (3, [.ref b2, .int (iZ ((k2 : Int))), .int (s2)])) :: (b2, .inl (G 0, n2, .inl g)) :: X : va_W) sz) sz hs) (va_A ((a, .inr (3, [.ref b, .int (iZ ((k : Int))), .int (s1)])) :: (b, .inl (G 0, n, .inl f)) :: (a2, .inr (3, [.ref b2, .int (iZ ((k2 : Int))), .int (s2)])) :: (b2, .inl (G 0, n2, .inl g)) :: X : va_W) sz)) ([.ref a, .ref b, .int (iZ ((k : Int))), .ref b2, .int (iZ ((k2 : Int)))] : List Value).toArray s 0 0 (va_A ((a, .inr (3, [.ref b, .int (iZ ((k : Int))), .int (s1)])) :: (b, .inl (G 0, n, .inl f)) :: (a2, .inr (3, [.ref b2, .int (iZ ((k2 : Int))), .int (s2)])) :: (b2, .inl (G 0, n2, .inl g)) :: X : va_W) sz)) ((a, .inr (3, [.ref b, .int (iZ ((k : Int))), .int (s1)])) :: (b, .inl (G 0, n, .inl (upd h (i) (iZ (w % 1073741824))))) :: (a2, .inr (3, [.ref b2, .int (iZ ((k2 : Int))), .int (s2)])) :: (b2, .inl (G 0, n2, .inl g)) :: X : va_W) 59 [(7, .int (iZ (w))), (6, .int (iZ ((i : Int)))), (5, .int (iZ (bw))), (0, .ref a), (1, .ref b), (2, .int (iZ ((k : Int)))), (3, .ref b2), (4, .int (iZ ((k2 : Int))))] [.int (iZ (-(w / 1073741824)))] := by
            refine w_istore C [(5, .int (iZ (-(w / 1073741824)))), (7, .int (iZ (w))), (6, .int (iZ ((i : Int)))), (0, .ref a), (1, .ref b), (2, .int (iZ ((k : Int)))), (3, .ref b2), (4, .int (iZ ((k2 : Int))))] dX3_takeFrom_59 (by decide) rfl ?_
            refine w_iinc C (((i + 1 : Nat) : Int)) (by omega) [(6, .int (iZ (((i + 1 : Nat) : Int)))), (5, .int (iZ (-(w / 1073741824)))), (7, .int (iZ (w))), (0, .ref a), (1, .ref b), (2, .int (iZ ((k : Int)))), (3, .ref b2), (4, .int (iZ ((k2 : Int))))] dX3_takeFrom_61 2 rfl (by decide) rfl ?_
            refine w_goto C 6 dX3_takeFrom_64 (by decide) ?_
            refine w_sub [(6, .int (iZ (((i + 1 : Nat) : Int)))), (5, .int (iZ (-(w / 1073741824)))), (0, .ref a), (1, .ref b), (2, .int (iZ ((k : Int)))), (3, .ref b2), (4, .int (iZ ((k2 : Int))))] [0, 1, 3, 4, 5, 6, 7] rfl ?_
            exact ih (i + 1) (-(w / 1073741824)) _ (by omega) (by omega) (by omega) (fun j hj => by rw [upd_ne (by omega)]; exact hout j (by omega)) (lim_upd hl (by rw [iZ_toInt (by omega) (by omega)]; omega)) (by
              have e1 := dig30 w (2 ^ (30 * i))
              have e2 : w * 2 ^ (30 * i) = wd f k i * 2 ^ (30 * i) - wd g k2 i * 2 ^ (30 * i) - bw * 2 ^ (30 * i) := by rw [hw, Int.sub_mul, Int.sub_mul]
              rw [zw_upd_top, iZ_toInt (by omega) (by omega), p30, Int.neg_mul]
              simp only [zq]
              omega)
          refine w_if_ge C 58 dX3_takeFrom_51 (by decide) ⟨by omega, by omega⟩ (fun c51 => ?_) (fun c51 => ?_)
          · refine w_iconst C dX3_takeFrom_58 ?_
            refine w_top C (-(w / 1073741824)) (by omega) ?_
            exact J2
          · refine w_iconst C dX3_takeFrom_54 ?_
            refine w_goto C 59 dX3_takeFrom_55 (by decide) ?_
            refine w_top C (-(w / 1073741824)) (by omega) ?_
            exact J2
        refine w_icmp_ge C 30 dX3_takeFrom_20 (by decide) ⟨⟨by omega, by omega⟩, by omega, by omega⟩ (fun c20 => ?_) (fun c20 => ?_)
        · refine w_iconst C dX3_takeFrom_30 ?_
          refine w_top C (wd g k2 i) ((wd_out (by omega)).symm) ?_
          exact J1
        · refine w_aload_n C dX3_takeFrom_23 5 rfl ?_
          refine w_iload C dX3_takeFrom_24 0 rfl ?_
          refine w_iald C 3 0 rfl rfl (i) ((g i).toInt) ⟨by omega, by omega, by omega⟩ ((iZ_self _).symm) dX3_takeFrom_26 ?_
          refine w_goto C 31 dX3_takeFrom_27 (by decide) ?_
          refine w_top C (wd g k2 i) ((wd_in (by omega)).symm) ?_
          exact J1
  refine w_iconst C dX3_takeFrom_0 ?_
  refine w_istore C [(5, .int (iZ (0))), (0, .ref a), (1, .ref b), (2, .int (iZ ((k : Int)))), (3, .ref b2), (4, .int (iZ ((k2 : Int))))] dX3_takeFrom_1 (by decide) rfl ?_
  refine w_iconst C dX3_takeFrom_3 ?_
  refine w_istore C [(6, .int (iZ (0))), (5, .int (iZ (0))), (0, .ref a), (1, .ref b), (2, .int (iZ ((k : Int)))), (3, .ref b2), (4, .int (iZ ((k2 : Int))))] dX3_takeFrom_4 (by decide) rfl ?_
  exact lp (k + 1) 0 0 f (by omega) (by omega) (by omega) (fun _ _ => rfl) (fun i hi2 => absurd hi2 (by omega)) (by simp [zw, zq])
