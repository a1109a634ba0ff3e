set_option maxHeartbeats 4000000 in
set_option maxRecDepth 100000 in
theorem cw_isPower (l : Launch) (D : va_G) (G : Nat → ClassId) (X : va_W) (z : Int) (hz : -2147483648 ≤ z ∧ z < 2147483648) (sz hs : Nat) : Met l yX4_isPower (wC yX4_isPower cX4_isPower 1 (some .boolean)) ({ frames := 0, cells := 0, slots := 0, locals := 0 }) (va_Pc [.int (iZ (z))] (cPre nT D G (X : va_W) sz hs)) (va_Qi (fun (r : Int32) (u : cS) => r = iZ (if 0 ≤ z ∧ z ≤ 8 then 1 else 0) ∧ u = ((X : va_W), 0, 0)) (cAt D G (va_A (X : va_W) sz) sz hs) (va_A (X : va_W) sz)) 0 0 (va_A (X : va_W) sz) := by
  refine g_met (cc := cX4_isPower) (maxL := 1) (ret := (some .boolean)) (own := RX4) (by decide) rfl rfl (Nat.le_of_ble_eq_true rfl) ?_
  intro p e s m below meth c hsz hhs hNs hA C hr hlk
  refine w_sub [(0, .int (iZ (z)))] [0] rfl ?_
  refine w_iload_n C dX4_isPower_0 0 rfl ?_
  refine w_if_lt C 14 dX4_isPower_1 (by decide) ⟨by omega, by omega⟩ (fun c1 => ?_) (fun c1 => ?_)
  · refine w_iconst C dX4_isPower_14 ?_
    exact g_zret hsz hhs C hr (by decide) hlk ⟨by omega, by omega⟩ ⟨congrArg iZ (if_neg (by omega)).symm, rfl⟩ dX4_isPower_15
  · refine w_iload_n C dX4_isPower_4 0 rfl ?_
    refine w_bipush C dX4_isPower_5 (by decide) ?_
    refine w_icmp_gt C 14 dX4_isPower_7 (by decide) ⟨⟨by omega, by omega⟩, by omega, by omega⟩ (fun c7 => ?_) (fun c7 => ?_)
    · refine w_iconst C dX4_isPower_14 ?_
      exact g_zret hsz hhs C hr (by decide) hlk ⟨by omega, by omega⟩ ⟨congrArg iZ (if_neg (by omega)).symm, rfl⟩ dX4_isPower_15
    · refine w_iconst C dX4_isPower_10 ?_
      refine w_goto C 15 dX4_isPower_11 (by decide) ?_
      exact g_zret hsz hhs C hr (by decide) hlk ⟨by omega, by omega⟩ ⟨congrArg iZ (if_pos ⟨by omega, by omega⟩).symm, rfl⟩ dX4_isPower_15
set_option maxHeartbeats 4000000 in
set_option maxRecDepth 100000 in
theorem cw_isLevel (l : Launch) (D : va_G) (G : Nat → ClassId) (X : va_W) (z : Int) (hz : -2147483648 ≤ z ∧ z < 2147483648) (sz hs : Nat) : Met l yX4_isLevel (wC yX4_isLevel cX4_isLevel 1 (some .boolean)) ({ frames := 0, cells := 0, slots := 0, locals := 0 }) (va_Pc [.int (iZ (z))] (cPre nT D G (X : va_W) sz hs)) (va_Qi (fun (r : Int32) (u : cS) => r = iZ (if 0 ≤ z ∧ z ≤ 30 then 1 else 0) ∧ u = ((X : va_W), 0, 0)) (cAt D G (va_A (X : va_W) sz) sz hs) (va_A (X : va_W) sz)) 0 0 (va_A (X : va_W) sz) := by
  refine g_met (cc := cX4_isLevel) (maxL := 1) (ret := (some .boolean)) (own := RX4) (by decide) rfl rfl (Nat.le_of_ble_eq_true rfl) ?_
  intro p e s m below meth c hsz hhs hNs hA C hr hlk
  refine w_sub [(0, .int (iZ (z)))] [0] rfl ?_
  refine w_iload_n C dX4_isLevel_0 0 rfl ?_
  refine w_if_lt C 14 dX4_isLevel_1 (by decide) ⟨by omega, by omega⟩ (fun c1 => ?_) (fun c1 => ?_)
  · refine w_iconst C dX4_isLevel_14 ?_
    exact g_zret hsz hhs C hr (by decide) hlk ⟨by omega, by omega⟩ ⟨congrArg iZ (if_neg (by omega)).symm, rfl⟩ dX4_isLevel_15
  · refine w_iload_n C dX4_isLevel_4 0 rfl ?_
    refine w_bipush C dX4_isLevel_5 (by decide) ?_
    refine w_icmp_gt C 14 dX4_isLevel_7 (by decide) ⟨⟨by omega, by omega⟩, by omega, by omega⟩ (fun c7 => ?_) (fun c7 => ?_)
    · refine w_iconst C dX4_isLevel_14 ?_
      exact g_zret hsz hhs C hr (by decide) hlk ⟨by omega, by omega⟩ ⟨congrArg iZ (if_neg (by omega)).symm, rfl⟩ dX4_isLevel_15
    · refine w_iconst C dX4_isLevel_10 ?_
      refine w_goto C 15 dX4_isLevel_11 (by decide) ?_
      exact g_zret hsz hhs C hr (by decide) hlk ⟨by omega, by omega⟩ ⟨congrArg iZ (if_pos ⟨by omega, by omega⟩).symm, rfl⟩ dX4_isLevel_15
set_option maxHeartbeats 4000000 in
set_option maxRecDepth 100000 in
theorem cw_isPolynomial (l : Launch) (D : va_G) (G : Nat → ClassId) (X : va_W) (z : Int) (hz : -2147483648 ≤ z ∧ z < 2147483648) (sz hs : Nat) : Met l yX4_isPolynomial (wC yX4_isPolynomial cX4_isPolynomial 1 (some .boolean)) ({ frames := 0, cells := 0, slots := 0, locals := 0 }) (va_Pc [.int (iZ (z))] (cPre nT D G (X : va_W) sz hs)) (va_Qi (fun (r : Int32) (u : cS) => r = iZ (if z = 0 ∨ z = 1 then 1 else 0) ∧ u = ((X : va_W), 0, 0)) (cAt D G (va_A (X : va_W) sz) sz hs) (va_A (X : va_W) sz)) 0 0 (va_A (X : va_W) sz) := by
  refine g_met (cc := cX4_isPolynomial) (maxL := 1) (ret := (some .boolean)) (own := RX4) (by decide) rfl rfl (Nat.le_of_ble_eq_true rfl) ?_
  intro p e s m below meth c hsz hhs hNs hA C hr hlk
  refine w_sub [(0, .int (iZ (z)))] [0] rfl ?_
  refine w_iload_n C dX4_isPolynomial_0 0 rfl ?_
  refine w_if_eq C 9 dX4_isPolynomial_1 (by decide) ⟨by omega, by omega⟩ (fun c1 => ?_) (fun c1 => ?_)
  · refine w_iconst C dX4_isPolynomial_9 ?_
    refine w_goto C 14 dX4_isPolynomial_10 (by decide) ?_
    exact g_zret hsz hhs C hr (by decide) hlk ⟨by omega, by omega⟩ ⟨congrArg iZ (if_pos (by omega)).symm, rfl⟩ dX4_isPolynomial_14
  · refine w_iload_n C dX4_isPolynomial_4 0 rfl ?_
    refine w_iconst C dX4_isPolynomial_5 ?_
    refine w_icmp_ne C 13 dX4_isPolynomial_6 (by decide) ⟨⟨by omega, by omega⟩, by omega, by omega⟩ (fun c6 => ?_) (fun c6 => ?_)
    · refine w_iconst C dX4_isPolynomial_13 ?_
      exact g_zret hsz hhs C hr (by decide) hlk ⟨by omega, by omega⟩ ⟨congrArg iZ (if_neg (by omega)).symm, rfl⟩ dX4_isPolynomial_14
    · refine w_iconst C dX4_isPolynomial_9 ?_
      refine w_goto C 14 dX4_isPolynomial_10 (by decide) ?_
      exact g_zret hsz hhs C hr (by decide) hlk ⟨by omega, by omega⟩ ⟨congrArg iZ (if_pos (by omega)).symm, rfl⟩ dX4_isPolynomial_14
set_option maxHeartbeats 4000000 in
set_option maxRecDepth 100000 in
theorem cw_isNumber (l : Launch) (D : va_G) (G : Nat → ClassId) (X : va_W) (z : Int) (hz : -9223372036854775808 ≤ z ∧ z < 9223372036854775808) (sz hs : Nat) : Met l yX4_isNumber (wC yX4_isNumber cX4_isNumber 2 (some .boolean)) ({ frames := 0, cells := 0, slots := 0, locals := 0 }) (va_Pc [.long (lZ (z))] (cPre nT D G (X : va_W) sz hs)) (va_Qi (fun (r : Int32) (u : cS) => r = iZ (if -1000000000 ≤ z ∧ z ≤ 1000000000 then 1 else 0) ∧ u = ((X : va_W), 0, 0)) (cAt D G (va_A (X : va_W) sz) sz hs) (va_A (X : va_W) sz)) 0 0 (va_A (X : va_W) sz) := by
  refine g_met (cc := cX4_isNumber) (maxL := 2) (ret := (some .boolean)) (own := RX4) (by decide) rfl rfl (Nat.le_of_ble_eq_true rfl) ?_
  intro p e s m below meth c hsz hhs hNs hA C hr hlk
  refine w_sub [(0, .long (lZ (z)))] [0] rfl ?_
  refine w_lload_n C dX4_isNumber_0 0 rfl ?_
  refine w_ldc2 C (-1000000000) dX4_isNumber_1 (wC_in kclX4_174) ?_
  refine w_lif_lt C 20 dX4_isNumber_4 dX4_isNumber_5 (by decide) ⟨⟨by omega, by omega⟩, by omega, by omega⟩ (fun c4 => ?_) (fun c4 => ?_)
  · refine w_iconst C dX4_isNumber_20 ?_
    exact g_zret hsz hhs C hr (by decide) hlk ⟨by omega, by omega⟩ ⟨congrArg iZ (if_neg (by omega)).symm, rfl⟩ dX4_isNumber_21
  · refine w_lload_n C dX4_isNumber_8 0 rfl ?_
    refine w_ldc2 C (1000000000) dX4_isNumber_9 (wC_in kclX4_176) ?_
    refine w_lif_gt C 20 dX4_isNumber_12 dX4_isNumber_13 (by decide) ⟨⟨by omega, by omega⟩, by omega, by omega⟩ (fun c12 => ?_) (fun c12 => ?_)
    · refine w_iconst C dX4_isNumber_20 ?_
      exact g_zret hsz hhs C hr (by decide) hlk ⟨by omega, by omega⟩ ⟨congrArg iZ (if_neg (by omega)).symm, rfl⟩ dX4_isNumber_21
    · refine w_iconst C dX4_isNumber_16 ?_
      refine w_goto C 21 dX4_isNumber_17 (by decide) ?_
      exact g_zret hsz hhs C hr (by decide) hlk ⟨by omega, by omega⟩ ⟨congrArg iZ (if_pos ⟨by omega, by omega⟩).symm, rfl⟩ dX4_isNumber_21
set_option maxHeartbeats 4000000 in
set_option maxRecDepth 100000 in
theorem cw_topPower (l : Launch) (D : va_G) (G : Nat → ClassId) (X : va_W) (ra : Nat) (g : Nat → Int32)  (sz hs : Nat) : Met l yX4_topPower (wC yX4_topPower cX4_topPower 2 (some .int)) ({ frames := 0, cells := 0, slots := 0, locals := 0 }) (va_Pc [.ref ra] (cPre nT D G ((ra, .inl (G 0, 9, .inl g)) :: X : va_W) sz hs)) (va_Qi (fun (r : Int32) (u : cS) => ∃ N : Nat, tpN (gp g) 9 N ∧ r = iZ (if N = 0 then -3 else (N : Int) - 1) ∧ u = (((ra, .inl (G 0, 9, .inl g)) :: X : va_W), 0, 0)) (cAt D G (va_A ((ra, .inl (G 0, 9, .inl g)) :: X : va_W) sz) sz hs) (va_A ((ra, .inl (G 0, 9, .inl g)) :: X : va_W) sz)) 0 0 (va_A ((ra, .inl (G 0, 9, .inl g)) :: X : va_W) sz) := by
  refine g_met (cc := cX4_topPower) (maxL := 2) (ret := (some .int)) (own := RX4) (by decide) rfl rfl (Nat.le_of_ble_eq_true rfl) ?_
  intro p e s m below meth c hsz hhs hNs hA C hr hlk
  refine w_sub [(0, .ref ra)] [0] rfl ?_
  have lp : ∀ (d : Nat) (i : Nat), i < d → i ≤ 9 → (∀ j : Nat, i ≤ j → j < 9 → gp g j = 0) → ZW p l e ({ frames := 0, cells := 0, slots := 0, locals := 0 }) s m ([.ref ra] : List Value).toArray below meth c D (va_A ((ra, .inl (G 0, 9, .inl g)) :: X : va_W) sz) 2 0 0 (MQ below (va_Qi (fun (r : Int32) (u : cS) => ∃ N : Nat, tpN (gp g) 9 N ∧ r = iZ (if N = 0 then -3 else (N : Int) - 1) ∧ u = (((ra, .inl (G 0, 9, .inl g)) :: X : va_W), 0, 0)) (cAt D G (va_A ((ra, .inl (G 0, 9, .inl g)) :: X : va_W) sz) sz hs) (va_A ((ra, .inl (G 0, 9, .inl g)) :: X : va_W) sz)) ([.ref ra] : List Value).toArray s 0 0 (va_A ((ra, .inl (G 0, 9, .inl g)) :: X : va_W) sz)) ((ra, .inl (G 0, 9, .inl g)) :: X : va_W) 5 [(1, .int (iZ ((i : Int) - 1))), (0, .ref ra)] [] := by
    intro d
    induction d with
    | zero =>
      intro i hd hi h0
      exact absurd hd (by omega)
    | succ d ih =>
      intro i hd hi h0
      refine w_iload_n C dX4_topPower_5 0 rfl ?_
      refine w_if_lt C 23 dX4_topPower_6 (by decide) ⟨by omega, by omega⟩ (fun c6 => ?_) (fun c6 => ?_)
      · refine w_bipush C dX4_topPower_23 (by decide) ?_
        exact g_iret hsz hhs C hr hlk ⟨by omega, by omega⟩ ⟨0, ⟨by omega, fun j _ h3 => h0 j (by omega) h3, fun j hj => absurd hj (by omega)⟩, by rw [if_pos rfl], rfl⟩ dX4_topPower_25
      · refine w_aload_n C dX4_topPower_9 1 rfl ?_
        refine w_iload_n C dX4_topPower_10 0 rfl ?_
        refine w_iald C 0 0 rfl rfl (i - 1) ((g (i - 1)).toInt) ⟨by omega, by omega, by omega⟩ ((iZ_self _).symm) dX4_topPower_11 ?_
        refine w_if_eq C 17 dX4_topPower_12 (by decide) (i32r _) (fun c12 => ?_) (fun c12 => ?_)
        · refine w_iinc C (((i - 1 : Nat) : Int) - 1) (by omega) [(1, .int (iZ (((i - 1 : Nat) : Int) - 1))), (0, .ref ra)] dX4_topPower_17 0 rfl (by decide) rfl ?_
          refine w_goto C 5 dX4_topPower_20 (by decide) ?_
          exact ih (i - 1) (by omega) (by omega) (fun j h1 h2 => by
            rcases Nat.lt_or_ge j i with q | q
            · rw [show j = i - 1 by omega]; unfold gp; rw [if_pos (by omega)]; exact c12
            · exact h0 j q h2)
        · refine w_iload_n C dX4_topPower_15 0 rfl ?_
          exact g_iret hsz hhs C hr hlk ⟨by omega, by omega⟩ ⟨i, ⟨hi, h0, fun j hj => by rw [show j = i - 1 by omega]; unfold gp; rw [if_pos (by omega)]; exact c12⟩, by rw [if_neg (by omega)], rfl⟩ dX4_topPower_16
  refine w_aload_n C dX4_topPower_0 0 rfl ?_
  refine w_alen C 0 0 rfl rfl dX4_topPower_1 ?_
  refine w_iconst C dX4_topPower_2 ?_
  refine w_isub C dX4_topPower_3 ?_
  refine w_top C (((9 : Nat) : Int) - 1) (rfl) ?_
  refine w_istore_n C [(1, .int (iZ (((9 : Nat) : Int) - 1))), (0, .ref ra)] dX4_topPower_4 rfl (by decide) rfl ?_
  exact lp 10 9 (by omega) (by omega) (fun j h1 h2 => absurd h1 (by omega))
set_option maxHeartbeats 4000000 in
set_option maxRecDepth 100000 in
theorem cw_take (l : Launch) (D : va_G) (G : Nat → ClassId) (X : va_W) (fx ra : Nat) (h : Nat → Int64) (g : Nat → Int32)  (sz hs : Nat) : Met l yX4_take (wC yX4_take cX4_take 3 (some .boolean)) ({ frames := 1, cells := 0, slots := 0, locals := 21 }) (va_Pc [.ref fx, .ref ra] (cPre nT D G ((fx, .inl (G 1, 9, .inr (.inl h))) :: (ra, .inl (G 0, 9, .inl g)) :: X : va_W) sz hs)) (va_Qi (fun (r : Int32) (u : cS) => ((∀ i : Nat, i < 9 → -1000000000 ≤ (h i).toInt ∧ (h i).toInt ≤ 1000000000) ∧ r = iZ 1 ∧ ∃ g1 : Nat → Int32, (∀ i : Nat, i < 9 → g1 i = iZ (h i).toInt) ∧ u = (((fx, .inl (G 1, 9, .inr (.inl h))) :: (ra, .inl (G 0, 9, .inl g1)) :: X : va_W), 0, 0)) ∨ (¬ (∀ i : Nat, i < 9 → -1000000000 ≤ (h i).toInt ∧ (h i).toInt ≤ 1000000000) ∧ r = iZ 0 ∧ u = (((fx, .inl (G 1, 9, .inr (.inl h))) :: (ra, .inl (G 0, 9, .inl g)) :: X : va_W), 0, 0))) (cAt D G (va_A ((fx, .inl (G 1, 9, .inr (.inl h))) :: (ra, .inl (G 0, 9, .inl g)) :: X : va_W) sz) sz hs) (va_A ((fx, .inl (G 1, 9, .inr (.inl h))) :: (ra, .inl (G 0, 9, .inl g)) :: X : va_W) sz)) 0 0 (va_A ((fx, .inl (G 1, 9, .inr (.inl h))) :: (ra, .inl (G 0, 9, .inl g)) :: X : va_W) sz) := by
  refine g_met (cc := cX4_take) (maxL := 3) (ret := (some .boolean)) (own := RX4) (by decide) rfl rfl (Nat.le_of_ble_eq_true rfl) ?_
  intro p e s m below meth c hsz hhs hNs hA C hr hlk
  refine w_sub [(0, .ref fx), (1, .ref ra)] [0, 1] rfl ?_
  have lp : ∀ (d : Nat) (i : Nat), 9 < i + d → i ≤ 9 → (∀ j : Nat, j < i → -1000000000 ≤ (h j).toInt ∧ (h j).toInt ≤ 1000000000) → ZW p l e ({ frames := 1, cells := 0, slots := 0, locals := 21 }) s m ([.ref fx, .ref ra] : List Value).toArray below meth c D (va_A ((fx, .inl (G 1, 9, .inr (.inl h))) :: (ra, .inl (G 0, 9, .inl g)) :: X : va_W) sz) 3 0 0 (MQ below (va_Qi (fun (r : Int32) (u : cS) => ((∀ i : Nat, i < 9 → -1000000000 ≤ (h i).toInt ∧ (h i).toInt ≤ 1000000000) ∧ r = iZ 1 ∧ ∃ g1 : Nat → Int32, (∀ i : Nat, i < 9 → g1 i = iZ (h i).toInt) ∧ u = (((fx, .inl (G 1, 9, .inr (.inl h))) :: (ra, .inl (G 0, 9, .inl g1)) :: X : va_W), 0, 0)) ∨ (¬ (∀ i : Nat, i < 9 → -1000000000 ≤ (h i).toInt ∧ (h i).toInt ≤ 1000000000) ∧ r = iZ 0 ∧ u = (((fx, .inl (G 1, 9, .inr (.inl h))) :: (ra, .inl (G 0, 9, .inl g)) :: X : va_W), 0, 0))) (cAt D G (va_A ((fx, .inl (G 1, 9, .inr (.inl h))) :: (ra, .inl (G 0, 9, .inl g)) :: X : va_W) sz) sz hs) (va_A ((fx, .inl (G 1, 9, .inr (.inl h))) :: (ra, .inl (G 0, 9, .inl g)) :: X : va_W) sz)) ([.ref fx, .ref ra] : List Value).toArray s 0 0 (va_A ((fx, .inl (G 1, 9, .inr (.inl h))) :: (ra, .inl (G 0, 9, .inl g)) :: X : va_W) sz)) ((fx, .inl (G 1, 9, .inr (.inl h))) :: (ra, .inl (G 0, 9, .inl g)) :: X : va_W) 2 [(2, .int (iZ ((i : Int)))), (0, .ref fx), (1, .ref ra)] [] := by
    intro d
    induction d with
    | zero =>
      intro i hd hi hok
      exact absurd hd (by omega)
    | succ d ih =>
      intro i hd hi hok
      refine w_iload_n C dX4_take_2 0 rfl ?_
      refine w_aload_n C dX4_take_3 1 rfl ?_
      refine w_alen C 0 1 rfl rfl dX4_take_4 ?_
      refine w_icmp_ge C 25 dX4_take_5 (by decide) ⟨⟨by omega, by omega⟩, by omega, by omega⟩ (fun c5 => ?_) (fun c5 => ?_)
      · refine w_iconst C dX4_take_25 ?_
        refine w_istore_n C [(2, .int (iZ (0))), (0, .ref fx), (1, .ref ra)] dX4_take_26 rfl (by decide) rfl ?_
        have lp2 : ∀ (d : Nat) (k : Nat) (g1 : Nat → Int32), 9 < k + d → k ≤ 9 → (∀ j : Nat, j < k → g1 j = iZ (h j).toInt) → ZW p l e ({ frames := 1, cells := 0, slots := 0, locals := 21 }) s m ([.ref fx, .ref ra] : List Value).toArray below meth c D (va_A ((fx, .inl (G 1, 9, .inr (.inl h))) :: (ra, .inl (G 0, 9, .inl g)) :: X : va_W) sz) 3 0 0 (MQ below (va_Qi (fun (r : Int32) (u : cS) => ((∀ i : Nat, i < 9 → -1000000000 ≤ (h i).toInt ∧ (h i).toInt ≤ 1000000000) ∧ r = iZ 1 ∧ ∃ g1 : Nat → Int32, (∀ i : Nat, i < 9 → g1 i = iZ (h i).toInt) ∧ u = (((fx, .inl (G 1, 9, .inr (.inl h))) :: (ra, .inl (G 0, 9, .inl g1)) :: X : va_W), 0, 0)) ∨ (¬ (∀ i : Nat, i < 9 → -1000000000 ≤ (h i).toInt ∧ (h i).toInt ≤ 1000000000) ∧ r = iZ 0 ∧ u = (((fx, .inl (G 1, 9, .inr (.inl h))) :: (ra, .inl (G 0, 9, .inl g)) :: X : va_W), 0, 0))) (cAt D G (va_A ((fx, .inl (G 1, 9, .inr (.inl h))) :: (ra, .inl (G 0, 9, .inl g)) :: X : va_W) sz) sz hs) (va_A ((fx, .inl (G 1, 9, .inr (.inl h))) :: (ra, .inl (G 0, 9, .inl g)) :: X : va_W) sz)) ([.ref fx, .ref ra] : List Value).toArray s 0 0 (va_A ((fx, .inl (G 1, 9, .inr (.inl h))) :: (ra, .inl (G 0, 9, .inl g)) :: X : va_W) sz)) ((fx, .inl (G 1, 9, .inr (.inl h))) :: (ra, .inl (G 0, 9, .inl g1)) :: X : va_W) 27 [(2, .int (iZ ((k : Int)))), (0, .ref fx), (1, .ref ra)] [] := by
          intro d
          induction d with
          | zero =>
            intro k g1 hd hk h1
            exact absurd hd (by omega)
          | succ d ih3 =>
            intro k g1 hd hk h1
            refine w_iload_n C dX4_take_27 0 rfl ?_
            refine w_aload_n C dX4_take_28 1 rfl ?_
            refine w_alen C 0 1 rfl rfl dX4_take_29 ?_
            refine w_icmp_ge C 52 dX4_take_30 (by decide) ⟨⟨by omega, by omega⟩, by omega, by omega⟩ (fun c30 => ?_) (fun c30 => ?_)
            · refine w_iconst C dX4_take_52 ?_
              exact g_zret hsz hhs C hr (by decide) hlk ⟨by omega, by omega⟩ (Or.inl ⟨fun j hj => hok j (by omega), rfl, g1, fun j hj => h1 j (by omega), rfl⟩) dX4_take_53
            · refine w_iload_n C dX4_take_33 0 rfl ?_
              refine w_aload_n C dX4_take_34 2 rfl ?_
              refine w_alen C 1 0 rfl rfl dX4_take_35 ?_
              refine w_icmp_ge C 52 dX4_take_36 (by decide) ⟨⟨by omega, by omega⟩, by omega, by omega⟩ (fun c36 => ?_) (fun c36 => ?_)
              · refine w_iconst C dX4_take_52 ?_
                exact g_zret hsz hhs C hr (by decide) hlk ⟨by omega, by omega⟩ (Or.inl ⟨fun j hj => hok j (by omega), rfl, g1, fun j hj => h1 j (by omega), rfl⟩) dX4_take_53
              · refine w_aload_n C dX4_take_39 2 rfl ?_
                refine w_iload_n C dX4_take_40 0 rfl ?_
                refine w_aload_n C dX4_take_41 1 rfl ?_
                refine w_iload_n C dX4_take_42 0 rfl ?_
                refine w_lald C 0 1 rfl rfl (k) ((h (k)).toInt) ⟨by omega, by omega, by omega⟩ ((lZ_self _).symm) dX4_take_43 ?_
                refine w_l2i C dX4_take_44 ?_
                refine w_iast C ((fx, .inl (G 1, 9, .inr (.inl h))) :: (ra, .inl (G 0, 9, .inl (upd g1 (k) (iZ ((h (k)).toInt))))) :: X : va_W) 1 0 rfl rfl (k) ⟨by omega, by omega, by omega⟩ rfl dX4_take_45 ?_
                refine w_iinc C (((k + 1 : Nat) : Int)) (by omega) [(2, .int (iZ (((k + 1 : Nat) : Int)))), (0, .ref fx), (1, .ref ra)] dX4_take_46 0 rfl (by decide) rfl ?_
                refine w_goto C 27 dX4_take_49 (by decide) ?_
                exact ih3 (k + 1) _ (by omega) (by omega) (fun j hj => by
                  rcases Nat.lt_or_ge j k with q | q
                  · rw [upd_ne (by omega)]; exact h1 j q
                  · rw [show j = k by omega, upd_eq])
        exact lp2 10 0 g (by omega) (by omega) (fun j hj => absurd hj (by omega))
      · refine w_aload_n C dX4_take_8 1 rfl ?_
        refine w_iload_n C dX4_take_9 0 rfl ?_
        refine w_lald C 0 1 rfl rfl (i) ((h (i)).toInt) ⟨by omega, by omega, by omega⟩ ((lZ_self _).symm) dX4_take_10 ?_
        refine g_callSi [.long (lZ ((h (i)).toInt))] hA C hNs nT_ok (cw_isNumber l D G ((fx, .inl (G 1, 9, .inr (.inl h))) :: (ra, .inl (G 0, 9, .inl g)) :: X : va_W) (h i).toInt (i64r _)) (cwS 1 C.1.2.2.2.2 (wC_S kX4_75 stX4_isNumber iniX4 cdX4_isNumber) rfl rfl rfl (by decide +kernel) ⟨Nat.le_of_ble_eq_true rfl, Nat.le_of_ble_eq_true rfl⟩) rfl ⟨Nat.le_refl _, Nat.le_refl _⟩ (Nat.le_of_ble_eq_true rfl) dX4_take_11 [.long (lZ ((h (i)).toInt))] rfl (fun r v201 hv201 => ?_)
        obtain ⟨rfl, rfl⟩ := hv201
        refine w_cs 0 0 rfl rfl ?_
        refine w_if_ne C 19 dX4_take_14 (by decide) ⟨by split <;> omega, by split <;> omega⟩ (fun c14 => ?_) (fun c14 => ?_)
        · have hoi : -1000000000 ≤ (h i).toInt ∧ (h i).toInt ≤ 1000000000 := Classical.byContradiction fun q => c14 (if_neg q)
          refine w_iinc C (((i + 1 : Nat) : Int)) (by omega) [(2, .int (iZ (((i + 1 : Nat) : Int)))), (0, .ref fx), (1, .ref ra)] dX4_take_19 0 rfl (by decide) rfl ?_
          refine w_goto C 2 dX4_take_22 (by decide) ?_
          exact ih (i + 1) (by omega) (by omega) (fun j hj => by
            rcases Nat.lt_or_ge j i with q | q
            · exact hok j q
            · rw [show j = i by omega]; exact hoi)
        · have hoi : ¬ (-1000000000 ≤ (h i).toInt ∧ (h i).toInt ≤ 1000000000) := fun q => absurd c14 (by rw [if_pos q]; decide)
          refine w_iconst C dX4_take_17 ?_
          exact g_zret hsz hhs C hr (by decide) hlk ⟨by omega, by omega⟩ (Or.inr ⟨fun q => hoi (q i (by omega)), rfl, rfl⟩) dX4_take_18
  refine w_iconst C dX4_take_0 ?_
  refine w_istore_n C [(2, .int (iZ (0))), (0, .ref fx), (1, .ref ra)] dX4_take_1 rfl (by decide) rfl ?_
  exact lp 10 0 (by omega) (by omega) (fun j hj => absurd hj (by omega))
