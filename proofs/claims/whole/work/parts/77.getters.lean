set_option maxHeartbeats 4000000 in
set_option maxRecDepth 100000 in
theorem cw_chosen0 (l : Launch) (D : va_G) (G : Nat → ClassId) (X : va_W) (ri ra rb lv ce en re cx px pq fx lo hi : Nat) (fd hfl : Int32)  (sz hs : Nat) : Met l yX4_chosen (wC yX4_chosen cX4_chosen 2 (some (.array .int))) ({ frames := 0, cells := 0, slots := 0, locals := 0 }) (va_Pc [.ref ri, .int (iZ (0))] (cPre nT D G ((ri, .inr (4, [.ref ra, .ref rb, .int (fd), .ref lv, .ref ce, .ref en, .ref re, .ref cx, .int (hfl), .ref px, .ref pq, .ref fx, .ref lo, .ref hi])) :: X : va_W) sz hs)) (va_Qr (fun (u : cS) => u = (((ri, .inr (4, [.ref ra, .ref rb, .int (fd), .ref lv, .ref ce, .ref en, .ref re, .ref cx, .int (hfl), .ref px, .ref pq, .ref fx, .ref lo, .ref hi])) :: X : va_W), 0, 0)) (fun u a t => a = ra ∧ cAt D G (va_A ((ri, .inr (4, [.ref ra, .ref rb, .int (fd), .ref lv, .ref ce, .ref en, .ref re, .ref cx, .int (hfl), .ref px, .ref pq, .ref fx, .ref lo, .ref hi])) :: X : va_W) sz) sz hs u t) (va_A ((ri, .inr (4, [.ref ra, .ref rb, .int (fd), .ref lv, .ref ce, .ref en, .ref re, .ref cx, .int (hfl), .ref px, .ref pq, .ref fx, .ref lo, .ref hi])) :: X : va_W) sz)) 0 0 (va_A ((ri, .inr (4, [.ref ra, .ref rb, .int (fd), .ref lv, .ref ce, .ref en, .ref re, .ref cx, .int (hfl), .ref px, .ref pq, .ref fx, .ref lo, .ref hi])) :: X : va_W) sz) := by
  refine g_met (cc := cX4_chosen) (maxL := 2) (ret := (some (.array .int))) (own := RX4) (by decide) rfl rfl (Nat.le_of_ble_eq_true rfl) ?_
  intro p e s m below meth c hsz hhs hNs hA C hr hlk
  refine w_sub [(0, .ref ri), (1, .int (iZ (0)))] [0, 1] rfl ?_
  refine w_iload_n C dX4_chosen_0 1 rfl ?_
  refine w_if_ne C 11 dX4_chosen_1 (by decide) ⟨by omega, by omega⟩ (fun c1 => ?_) (fun c1 => ?_)
  · exact absurd c1 (by omega)
  · refine w_aload_n C dX4_chosen_4 0 rfl ?_
    refine w_get (ci := 4) (ref := "RootIsolator") (T := TX4) (Cn := RX4) (N := 14) C (fun w h => wC_in (inX4 w h)) 0 rfl rfl 0 (by decide) (wC_in fX4_9) rfl rfl dX4_chosen_5 ?_
    refine w_goto C 15 dX4_chosen_8 (by decide) ?_
    exact g_rret hsz hhs C hr (Or.inr ⟨_, rfl⟩) hlk ⟨by omega, by omega⟩ rfl dX4_chosen_15
set_option maxHeartbeats 4000000 in
set_option maxRecDepth 100000 in
theorem cw_chosen1 (l : Launch) (D : va_G) (G : Nat → ClassId) (X : va_W) (ri ra rb lv ce en re cx px pq fx lo hi : Nat) (fd hfl : Int32)  (sz hs : Nat) : Met l yX4_chosen (wC yX4_chosen cX4_chosen 2 (some (.array .int))) ({ frames := 0, cells := 0, slots := 0, locals := 0 }) (va_Pc [.ref ri, .int (iZ (1))] (cPre nT D G ((ri, .inr (4, [.ref ra, .ref rb, .int (fd), .ref lv, .ref ce, .ref en, .ref re, .ref cx, .int (hfl), .ref px, .ref pq, .ref fx, .ref lo, .ref hi])) :: X : va_W) sz hs)) (va_Qr (fun (u : cS) => u = (((ri, .inr (4, [.ref ra, .ref rb, .int (fd), .ref lv, .ref ce, .ref en, .ref re, .ref cx, .int (hfl), .ref px, .ref pq, .ref fx, .ref lo, .ref hi])) :: X : va_W), 0, 0)) (fun u a t => a = rb ∧ cAt D G (va_A ((ri, .inr (4, [.ref ra, .ref rb, .int (fd), .ref lv, .ref ce, .ref en, .ref re, .ref cx, .int (hfl), .ref px, .ref pq, .ref fx, .ref lo, .ref hi])) :: X : va_W) sz) sz hs u t) (va_A ((ri, .inr (4, [.ref ra, .ref rb, .int (fd), .ref lv, .ref ce, .ref en, .ref re, .ref cx, .int (hfl), .ref px, .ref pq, .ref fx, .ref lo, .ref hi])) :: X : va_W) sz)) 0 0 (va_A ((ri, .inr (4, [.ref ra, .ref rb, .int (fd), .ref lv, .ref ce, .ref en, .ref re, .ref cx, .int (hfl), .ref px, .ref pq, .ref fx, .ref lo, .ref hi])) :: X : va_W) sz) := by
  refine g_met (cc := cX4_chosen) (maxL := 2) (ret := (some (.array .int))) (own := RX4) (by decide) rfl rfl (Nat.le_of_ble_eq_true rfl) ?_
  intro p e s m below meth c hsz hhs hNs hA C hr hlk
  refine w_sub [(0, .ref ri), (1, .int (iZ (1)))] [0, 1] rfl ?_
  refine w_iload_n C dX4_chosen_0 1 rfl ?_
  refine w_if_ne C 11 dX4_chosen_1 (by decide) ⟨by omega, by omega⟩ (fun c1 => ?_) (fun c1 => ?_)
  · refine w_aload_n C dX4_chosen_11 0 rfl ?_
    refine w_get (ci := 4) (ref := "RootIsolator") (T := TX4) (Cn := RX4) (N := 14) C (fun w h => wC_in (inX4 w h)) 0 rfl rfl 1 (by decide) (wC_in fX4_13) rfl rfl dX4_chosen_12 ?_
    exact g_rret hsz hhs C hr (Or.inr ⟨_, rfl⟩) hlk ⟨by omega, by omega⟩ rfl dX4_chosen_15
  · exact absurd c1 (by omega)
set_option maxHeartbeats 4000000 in
set_option maxRecDepth 100000 in
theorem cw_isFound (l : Launch) (D : va_G) (G : Nat → ClassId) (X : va_W) (ri ra rb lv ce en re cx px pq fx lo hi : Nat) (fd hfl : Int32) (z : Int) (hz : -2147483648 ≤ z ∧ z < 2147483648) (sz hs : Nat) : Met l yX4_isFound (wC yX4_isFound cX4_isFound 2 (some .boolean)) ({ frames := 0, cells := 0, slots := 0, locals := 0 }) (va_Pc [.ref ri, .int (iZ (z))] (cPre nT D G ((ri, .inr (4, [.ref ra, .ref rb, .int (fd), .ref lv, .ref ce, .ref en, .ref re, .ref cx, .int (hfl), .ref px, .ref pq, .ref fx, .ref lo, .ref hi])) :: X : va_W) sz hs)) (va_Qi (fun (r : Int32) (u : cS) => r = iZ (if 0 ≤ z ∧ z < fd.toInt ∧ z < 8 then 1 else 0) ∧ u = (((ri, .inr (4, [.ref ra, .ref rb, .int (fd), .ref lv, .ref ce, .ref en, .ref re, .ref cx, .int (hfl), .ref px, .ref pq, .ref fx, .ref lo, .ref hi])) :: X : va_W), 0, 0)) (cAt D G (va_A ((ri, .inr (4, [.ref ra, .ref rb, .int (fd), .ref lv, .ref ce, .ref en, .ref re, .ref cx, .int (hfl), .ref px, .ref pq, .ref fx, .ref lo, .ref hi])) :: X : va_W) sz) sz hs) (va_A ((ri, .inr (4, [.ref ra, .ref rb, .int (fd), .ref lv, .ref ce, .ref en, .ref re, .ref cx, .int (hfl), .ref px, .ref pq, .ref fx, .ref lo, .ref hi])) :: X : va_W) sz)) 0 0 (va_A ((ri, .inr (4, [.ref ra, .ref rb, .int (fd), .ref lv, .ref ce, .ref en, .ref re, .ref cx, .int (hfl), .ref px, .ref pq, .ref fx, .ref lo, .ref hi])) :: X : va_W) sz) := by
  refine g_met (cc := cX4_isFound) (maxL := 2) (ret := (some .boolean)) (own := RX4) (by decide) rfl rfl (Nat.le_of_ble_eq_true rfl) ?_
  intro p e s m below meth c hsz hhs hNs hA C hr hlk
  refine w_sub [(0, .ref ri), (1, .int (iZ (z)))] [0, 1] rfl ?_
  refine w_iload_n C dX4_isFound_0 1 rfl ?_
  refine w_if_lt C 22 dX4_isFound_1 (by decide) ⟨by omega, by omega⟩ (fun c1 => ?_) (fun c1 => ?_)
  · refine w_iconst C dX4_isFound_22 ?_
    exact g_zret hsz hhs C hr (by decide) hlk ⟨by omega, by omega⟩ ⟨congrArg iZ (if_neg (by omega)).symm, rfl⟩ dX4_isFound_23
  · refine w_iload_n C dX4_isFound_4 1 rfl ?_
    refine w_aload_n C dX4_isFound_5 0 rfl ?_
    refine w_get (ci := 4) (ref := "RootIsolator") (T := TX4) (Cn := RX4) (N := 14) C (fun w h => wC_in (inX4 w h)) 0 rfl rfl 2 (by decide) (wC_in fX4_16) rfl rfl dX4_isFound_6 ?_
    refine w_topR C (fd.toInt) ((iZ_self fd).symm) ?_
    refine w_icmp_ge C 22 dX4_isFound_9 (by decide) ⟨hz, i32r fd⟩ (fun c9 => ?_) (fun c9 => ?_)
    · refine w_iconst C dX4_isFound_22 ?_
      exact g_zret hsz hhs C hr (by decide) hlk ⟨by omega, by omega⟩ ⟨congrArg iZ (if_neg (by omega)).symm, rfl⟩ dX4_isFound_23
    · refine w_iload_n C dX4_isFound_12 1 rfl ?_
      refine w_bipush C dX4_isFound_13 (by decide) ?_
      refine w_icmp_ge C 22 dX4_isFound_15 (by decide) ⟨⟨by omega, by omega⟩, by omega, by omega⟩ (fun c15 => ?_) (fun c15 => ?_)
      · refine w_iconst C dX4_isFound_22 ?_
        exact g_zret hsz hhs C hr (by decide) hlk ⟨by omega, by omega⟩ ⟨congrArg iZ (if_neg (by omega)).symm, rfl⟩ dX4_isFound_23
      · refine w_iconst C dX4_isFound_18 ?_
        refine w_goto C 23 dX4_isFound_19 (by decide) ?_
        exact g_zret hsz hhs C hr (by decide) hlk ⟨by omega, by omega⟩ ⟨congrArg iZ (if_pos ⟨by omega, by omega, by omega⟩).symm, rfl⟩ dX4_isFound_23
set_option maxHeartbeats 4000000 in
set_option maxRecDepth 100000 in
theorem cw_level (l : Launch) (D : va_G) (G : Nat → ClassId) (X : va_W) (ri ra rb lv ce en re cx px pq fx lo hi : Nat) (fd hfl : Int32) (z : Int) (g : Nat → Int32) (hz : -2147483648 ≤ z ∧ z < 2147483648) (sz hs : Nat) : Met l yX4_level (wC yX4_level cX4_level 2 (some .int)) ({ frames := 1, cells := 0, slots := 0, locals := 21 }) (va_Pc [.ref ri, .int (iZ (z))] (cPre nT D G ((ri, .inr (4, [.ref ra, .ref rb, .int (fd), .ref lv, .ref ce, .ref en, .ref re, .ref cx, .int (hfl), .ref px, .ref pq, .ref fx, .ref lo, .ref hi])) :: (lv, .inl (G 0, 8, .inl g)) :: X : va_W) sz hs)) (va_Qi (fun (r : Int32) (u : cS) => r = (if 0 ≤ z ∧ z < fd.toInt ∧ z < 8 then g z.toNat else iZ (-1)) ∧ u = (((ri, .inr (4, [.ref ra, .ref rb, .int (fd), .ref lv, .ref ce, .ref en, .ref re, .ref cx, .int (hfl), .ref px, .ref pq, .ref fx, .ref lo, .ref hi])) :: (lv, .inl (G 0, 8, .inl g)) :: X : va_W), 0, 0)) (cAt D G (va_A ((ri, .inr (4, [.ref ra, .ref rb, .int (fd), .ref lv, .ref ce, .ref en, .ref re, .ref cx, .int (hfl), .ref px, .ref pq, .ref fx, .ref lo, .ref hi])) :: (lv, .inl (G 0, 8, .inl g)) :: X : va_W) sz) sz hs) (va_A ((ri, .inr (4, [.ref ra, .ref rb, .int (fd), .ref lv, .ref ce, .ref en, .ref re, .ref cx, .int (hfl), .ref px, .ref pq, .ref fx, .ref lo, .ref hi])) :: (lv, .inl (G 0, 8, .inl g)) :: X : va_W) sz)) 0 0 (va_A ((ri, .inr (4, [.ref ra, .ref rb, .int (fd), .ref lv, .ref ce, .ref en, .ref re, .ref cx, .int (hfl), .ref px, .ref pq, .ref fx, .ref lo, .ref hi])) :: (lv, .inl (G 0, 8, .inl g)) :: X : va_W) sz) := by
  refine g_met (cc := cX4_level) (maxL := 2) (ret := (some .int)) (own := RX4) (by decide) rfl rfl (Nat.le_of_ble_eq_true rfl) ?_
  intro p e s m below meth c hsz hhs hNs hA C hr hlk
  refine w_sub [(0, .ref ri), (1, .int (iZ (z)))] [0, 1] rfl ?_
  refine w_aload_n C dX4_level_0 0 rfl ?_
  refine w_iload_n C dX4_level_1 1 rfl ?_
  refine g_calli [.int (iZ (z))] hA C hNs nT_ok (cw_isFound l D G ((lv, .inl (G 0, 8, .inl g)) :: X : va_W) ri ra rb lv ce en re cx px pq fx lo hi fd hfl z hz) (cwV 1 C.1.2.2.2.2 (wC_V kX4_129 nX4_isFound slX4_isFound iniX4 cdX4_isFound) rfl rfl rfl (by decide +kernel) ⟨Nat.le_of_ble_eq_true rfl, Nat.le_of_ble_eq_true rfl⟩) (q0 := 0) rfl rfl rfl rfl ⟨Nat.le_refl _, Nat.le_refl _⟩ (Nat.le_of_ble_eq_true rfl) dX4_level_2 [.int (iZ (z)), .ref ri] rfl (fun r v1 hv1 => ?_)
  obtain ⟨rfl, rfl⟩ := hv1
  refine w_cs 0 0 rfl rfl ?_
  refine w_if_eq C 17 dX4_level_5 (by decide) ⟨by split <;> omega, by split <;> omega⟩ (fun c5 => ?_) (fun c5 => ?_)
  · have hno : ¬ (0 ≤ z ∧ z < fd.toInt ∧ z < 8) := fun q => absurd c5 (by rw [if_pos q]; decide)
    refine w_iconst C dX4_level_17 ?_
    exact g_iret hsz hhs C hr hlk ⟨by omega, by omega⟩ ⟨by rw [if_neg hno], rfl⟩ dX4_level_18
  · have hyes : 0 ≤ z ∧ z < fd.toInt ∧ z < 8 := Classical.byContradiction fun q => c5 (if_neg q)
    refine w_aload_n C dX4_level_8 0 rfl ?_
    refine w_get (ci := 4) (ref := "RootIsolator") (T := TX4) (Cn := RX4) (N := 14) C (fun w h => wC_in (inX4 w h)) 0 rfl rfl 3 (by decide) (wC_in fX4_20) rfl rfl dX4_level_9 ?_
    refine w_iload_n C dX4_level_12 1 rfl ?_
    refine w_iald C 1 0 rfl rfl (z.toNat) ((g (z.toNat)).toInt) ⟨by omega, by omega, by omega⟩ ((iZ_self _).symm) dX4_level_13 ?_
    refine w_goto C 18 dX4_level_14 (by decide) ?_
    exact g_iret hsz hhs C hr hlk ⟨by omega, by omega⟩ ⟨by rw [if_pos hyes, iZ_self], rfl⟩ dX4_level_18
set_option maxHeartbeats 4000000 in
set_option maxRecDepth 100000 in
theorem cw_exact (l : Launch) (D : va_G) (G : Nat → ClassId) (X : va_W) (ri ra rb lv ce en re cx px pq fx lo hi : Nat) (fd hfl : Int32) (z : Int) (g : Nat → Int32) (hz : -2147483648 ≤ z ∧ z < 2147483648) (sz hs : Nat) : Met l yX4_exact (wC yX4_exact cX4_exact 2 (some .int)) ({ frames := 1, cells := 0, slots := 0, locals := 21 }) (va_Pc [.ref ri, .int (iZ (z))] (cPre nT D G ((ri, .inr (4, [.ref ra, .ref rb, .int (fd), .ref lv, .ref ce, .ref en, .ref re, .ref cx, .int (hfl), .ref px, .ref pq, .ref fx, .ref lo, .ref hi])) :: (en, .inl (G 0, 8, .inl g)) :: X : va_W) sz hs)) (va_Qi (fun (r : Int32) (u : cS) => r = (if 0 ≤ z ∧ z < fd.toInt ∧ z < 8 then g z.toNat else iZ (-1)) ∧ u = (((ri, .inr (4, [.ref ra, .ref rb, .int (fd), .ref lv, .ref ce, .ref en, .ref re, .ref cx, .int (hfl), .ref px, .ref pq, .ref fx, .ref lo, .ref hi])) :: (en, .inl (G 0, 8, .inl g)) :: X : va_W), 0, 0)) (cAt D G (va_A ((ri, .inr (4, [.ref ra, .ref rb, .int (fd), .ref lv, .ref ce, .ref en, .ref re, .ref cx, .int (hfl), .ref px, .ref pq, .ref fx, .ref lo, .ref hi])) :: (en, .inl (G 0, 8, .inl g)) :: X : va_W) sz) sz hs) (va_A ((ri, .inr (4, [.ref ra, .ref rb, .int (fd), .ref lv, .ref ce, .ref en, .ref re, .ref cx, .int (hfl), .ref px, .ref pq, .ref fx, .ref lo, .ref hi])) :: (en, .inl (G 0, 8, .inl g)) :: X : va_W) sz)) 0 0 (va_A ((ri, .inr (4, [.ref ra, .ref rb, .int (fd), .ref lv, .ref ce, .ref en, .ref re, .ref cx, .int (hfl), .ref px, .ref pq, .ref fx, .ref lo, .ref hi])) :: (en, .inl (G 0, 8, .inl g)) :: X : va_W) sz) := by
  refine g_met (cc := cX4_exact) (maxL := 2) (ret := (some .int)) (own := RX4) (by decide) rfl rfl (Nat.le_of_ble_eq_true rfl) ?_
  intro p e s m below meth c hsz hhs hNs hA C hr hlk
  refine w_sub [(0, .ref ri), (1, .int (iZ (z)))] [0, 1] rfl ?_
  refine w_aload_n C dX4_exact_0 0 rfl ?_
  refine w_iload_n C dX4_exact_1 1 rfl ?_
  refine g_calli [.int (iZ (z))] hA C hNs nT_ok (cw_isFound l D G ((en, .inl (G 0, 8, .inl g)) :: X : va_W) ri ra rb lv ce en re cx px pq fx lo hi fd hfl z hz) (cwV 1 C.1.2.2.2.2 (wC_V kX4_129 nX4_isFound slX4_isFound iniX4 cdX4_isFound) rfl rfl rfl (by decide +kernel) ⟨Nat.le_of_ble_eq_true rfl, Nat.le_of_ble_eq_true rfl⟩) (q0 := 0) rfl rfl rfl rfl ⟨Nat.le_refl _, Nat.le_refl _⟩ (Nat.le_of_ble_eq_true rfl) dX4_exact_2 [.int (iZ (z)), .ref ri] rfl (fun r v1 hv1 => ?_)
  obtain ⟨rfl, rfl⟩ := hv1
  refine w_cs 0 0 rfl rfl ?_
  refine w_if_eq C 17 dX4_exact_5 (by decide) ⟨by split <;> omega, by split <;> omega⟩ (fun c5 => ?_) (fun c5 => ?_)
  · have hno : ¬ (0 ≤ z ∧ z < fd.toInt ∧ z < 8) := fun q => absurd c5 (by rw [if_pos q]; decide)
    refine w_iconst C dX4_exact_17 ?_
    exact g_iret hsz hhs C hr hlk ⟨by omega, by omega⟩ ⟨by rw [if_neg hno], rfl⟩ dX4_exact_18
  · have hyes : 0 ≤ z ∧ z < fd.toInt ∧ z < 8 := Classical.byContradiction fun q => c5 (if_neg q)
    refine w_aload_n C dX4_exact_8 0 rfl ?_
    refine w_get (ci := 4) (ref := "RootIsolator") (T := TX4) (Cn := RX4) (N := 14) C (fun w h => wC_in (inX4 w h)) 0 rfl rfl 5 (by decide) (wC_in fX4_27) rfl rfl dX4_exact_9 ?_
    refine w_iload_n C dX4_exact_12 1 rfl ?_
    refine w_iald C 1 0 rfl rfl (z.toNat) ((g (z.toNat)).toInt) ⟨by omega, by omega, by omega⟩ ((iZ_self _).symm) dX4_exact_13 ?_
    refine w_goto C 18 dX4_exact_14 (by decide) ?_
    exact g_iret hsz hhs C hr hlk ⟨by omega, by omega⟩ ⟨by rw [if_pos hyes, iZ_self], rfl⟩ dX4_exact_18
set_option maxHeartbeats 4000000 in
set_option maxRecDepth 100000 in
theorem cw_multiplicity (l : Launch) (D : va_G) (G : Nat → ClassId) (X : va_W) (ri ra rb lv ce en re cx px pq fx lo hi : Nat) (fd hfl : Int32) (z : Int) (g : Nat → Int32) (hz : -2147483648 ≤ z ∧ z < 2147483648) (sz hs : Nat) : Met l yX4_multiplicity (wC yX4_multiplicity cX4_multiplicity 2 (some .int)) ({ frames := 1, cells := 0, slots := 0, locals := 21 }) (va_Pc [.ref ri, .int (iZ (z))] (cPre nT D G ((ri, .inr (4, [.ref ra, .ref rb, .int (fd), .ref lv, .ref ce, .ref en, .ref re, .ref cx, .int (hfl), .ref px, .ref pq, .ref fx, .ref lo, .ref hi])) :: (re, .inl (G 0, 8, .inl g)) :: X : va_W) sz hs)) (va_Qi (fun (r : Int32) (u : cS) => r = (if 0 ≤ z ∧ z < fd.toInt ∧ z < 8 then g z.toNat else iZ (-1)) ∧ u = (((ri, .inr (4, [.ref ra, .ref rb, .int (fd), .ref lv, .ref ce, .ref en, .ref re, .ref cx, .int (hfl), .ref px, .ref pq, .ref fx, .ref lo, .ref hi])) :: (re, .inl (G 0, 8, .inl g)) :: X : va_W), 0, 0)) (cAt D G (va_A ((ri, .inr (4, [.ref ra, .ref rb, .int (fd), .ref lv, .ref ce, .ref en, .ref re, .ref cx, .int (hfl), .ref px, .ref pq, .ref fx, .ref lo, .ref hi])) :: (re, .inl (G 0, 8, .inl g)) :: X : va_W) sz) sz hs) (va_A ((ri, .inr (4, [.ref ra, .ref rb, .int (fd), .ref lv, .ref ce, .ref en, .ref re, .ref cx, .int (hfl), .ref px, .ref pq, .ref fx, .ref lo, .ref hi])) :: (re, .inl (G 0, 8, .inl g)) :: X : va_W) sz)) 0 0 (va_A ((ri, .inr (4, [.ref ra, .ref rb, .int (fd), .ref lv, .ref ce, .ref en, .ref re, .ref cx, .int (hfl), .ref px, .ref pq, .ref fx, .ref lo, .ref hi])) :: (re, .inl (G 0, 8, .inl g)) :: X : va_W) sz) := by
  refine g_met (cc := cX4_multiplicity) (maxL := 2) (ret := (some .int)) (own := RX4) (by decide) rfl rfl (Nat.le_of_ble_eq_true rfl) ?_
  intro p e s m below meth c hsz hhs hNs hA C hr hlk
  refine w_sub [(0, .ref ri), (1, .int (iZ (z)))] [0, 1] rfl ?_
  refine w_aload_n C dX4_multiplicity_0 0 rfl ?_
  refine w_iload_n C dX4_multiplicity_1 1 rfl ?_
  refine g_calli [.int (iZ (z))] hA C hNs nT_ok (cw_isFound l D G ((re, .inl (G 0, 8, .inl g)) :: X : va_W) ri ra rb lv ce en re cx px pq fx lo hi fd hfl z hz) (cwV 1 C.1.2.2.2.2 (wC_V kX4_129 nX4_isFound slX4_isFound iniX4 cdX4_isFound) rfl rfl rfl (by decide +kernel) ⟨Nat.le_of_ble_eq_true rfl, Nat.le_of_ble_eq_true rfl⟩) (q0 := 0) rfl rfl rfl rfl ⟨Nat.le_refl _, Nat.le_refl _⟩ (Nat.le_of_ble_eq_true rfl) dX4_multiplicity_2 [.int (iZ (z)), .ref ri] rfl (fun r v1 hv1 => ?_)
  obtain ⟨rfl, rfl⟩ := hv1
  refine w_cs 0 0 rfl rfl ?_
  refine w_if_eq C 17 dX4_multiplicity_5 (by decide) ⟨by split <;> omega, by split <;> omega⟩ (fun c5 => ?_) (fun c5 => ?_)
  · have hno : ¬ (0 ≤ z ∧ z < fd.toInt ∧ z < 8) := fun q => absurd c5 (by rw [if_pos q]; decide)
    refine w_iconst C dX4_multiplicity_17 ?_
    exact g_iret hsz hhs C hr hlk ⟨by omega, by omega⟩ ⟨by rw [if_neg hno], rfl⟩ dX4_multiplicity_18
  · have hyes : 0 ≤ z ∧ z < fd.toInt ∧ z < 8 := Classical.byContradiction fun q => c5 (if_neg q)
    refine w_aload_n C dX4_multiplicity_8 0 rfl ?_
    refine w_get (ci := 4) (ref := "RootIsolator") (T := TX4) (Cn := RX4) (N := 14) C (fun w h => wC_in (inX4 w h)) 0 rfl rfl 6 (by decide) (wC_in fX4_30) rfl rfl dX4_multiplicity_9 ?_
    refine w_iload_n C dX4_multiplicity_12 1 rfl ?_
    refine w_iald C 1 0 rfl rfl (z.toNat) ((g (z.toNat)).toInt) ⟨by omega, by omega, by omega⟩ ((iZ_self _).symm) dX4_multiplicity_13 ?_
    refine w_goto C 18 dX4_multiplicity_14 (by decide) ?_
    exact g_iret hsz hhs C hr hlk ⟨by omega, by omega⟩ ⟨by rw [if_pos hyes, iZ_self], rfl⟩ dX4_multiplicity_18
set_option maxHeartbeats 4000000 in
set_option maxRecDepth 100000 in
theorem cw_cell (l : Launch) (D : va_G) (G : Nat → ClassId) (X : va_W) (ri ra rb lv ce en re cx px pq fx lo hi : Nat) (fd hfl : Int32) (z : Int) (g : Nat → Int64) (hz : -2147483648 ≤ z ∧ z < 2147483648) (sz hs : Nat) : Met l yX4_cell (wC yX4_cell cX4_cell 2 (some .long)) ({ frames := 1, cells := 0, slots := 0, locals := 21 }) (va_Pc [.ref ri, .int (iZ (z))] (cPre nT D G ((ri, .inr (4, [.ref ra, .ref rb, .int (fd), .ref lv, .ref ce, .ref en, .ref re, .ref cx, .int (hfl), .ref px, .ref pq, .ref fx, .ref lo, .ref hi])) :: (ce, .inl (G 1, 8, .inr (.inl g))) :: X : va_W) sz hs)) (va_Ql (fun (r : Int64) (u : cS) => r = (if 0 ≤ z ∧ z < fd.toInt ∧ z < 8 then g z.toNat else lZ 0) ∧ u = (((ri, .inr (4, [.ref ra, .ref rb, .int (fd), .ref lv, .ref ce, .ref en, .ref re, .ref cx, .int (hfl), .ref px, .ref pq, .ref fx, .ref lo, .ref hi])) :: (ce, .inl (G 1, 8, .inr (.inl g))) :: X : va_W), 0, 0)) (cAt D G (va_A ((ri, .inr (4, [.ref ra, .ref rb, .int (fd), .ref lv, .ref ce, .ref en, .ref re, .ref cx, .int (hfl), .ref px, .ref pq, .ref fx, .ref lo, .ref hi])) :: (ce, .inl (G 1, 8, .inr (.inl g))) :: X : va_W) sz) sz hs) (va_A ((ri, .inr (4, [.ref ra, .ref rb, .int (fd), .ref lv, .ref ce, .ref en, .ref re, .ref cx, .int (hfl), .ref px, .ref pq, .ref fx, .ref lo, .ref hi])) :: (ce, .inl (G 1, 8, .inr (.inl g))) :: X : va_W) sz)) 0 0 (va_A ((ri, .inr (4, [.ref ra, .ref rb, .int (fd), .ref lv, .ref ce, .ref en, .ref re, .ref cx, .int (hfl), .ref px, .ref pq, .ref fx, .ref lo, .ref hi])) :: (ce, .inl (G 1, 8, .inr (.inl g))) :: X : va_W) sz) := by
  refine g_met (cc := cX4_cell) (maxL := 2) (ret := (some .long)) (own := RX4) (by decide) rfl rfl (Nat.le_of_ble_eq_true rfl) ?_
  intro p e s m below meth c hsz hhs hNs hA C hr hlk
  refine w_sub [(0, .ref ri), (1, .int (iZ (z)))] [0, 1] rfl ?_
  refine w_aload_n C dX4_cell_0 0 rfl ?_
  refine w_iload_n C dX4_cell_1 1 rfl ?_
  refine g_calli [.int (iZ (z))] hA C hNs nT_ok (cw_isFound l D G ((ce, .inl (G 1, 8, .inr (.inl g))) :: X : va_W) ri ra rb lv ce en re cx px pq fx lo hi fd hfl z hz) (cwV 1 C.1.2.2.2.2 (wC_V kX4_129 nX4_isFound slX4_isFound iniX4 cdX4_isFound) rfl rfl rfl (by decide +kernel) ⟨Nat.le_of_ble_eq_true rfl, Nat.le_of_ble_eq_true rfl⟩) (q0 := 0) rfl rfl rfl rfl ⟨Nat.le_refl _, Nat.le_refl _⟩ (Nat.le_of_ble_eq_true rfl) dX4_cell_2 [.int (iZ (z)), .ref ri] rfl (fun r v1 hv1 => ?_)
  obtain ⟨rfl, rfl⟩ := hv1
  refine w_cs 0 0 rfl rfl ?_
  refine w_if_eq C 17 dX4_cell_5 (by decide) ⟨by split <;> omega, by split <;> omega⟩ (fun c5 => ?_) (fun c5 => ?_)
  · have hno : ¬ (0 ≤ z ∧ z < fd.toInt ∧ z < 8) := fun q => absurd c5 (by rw [if_pos q]; decide)
    refine w_lconst C 0 dX4_cell_17 rfl ?_
    exact g_lret hsz hhs C hr hlk ⟨by omega, by omega⟩ ⟨by rw [if_neg hno], rfl⟩ dX4_cell_18
  · have hyes : 0 ≤ z ∧ z < fd.toInt ∧ z < 8 := Classical.byContradiction fun q => c5 (if_neg q)
    refine w_aload_n C dX4_cell_8 0 rfl ?_
    refine w_get (ci := 4) (ref := "RootIsolator") (T := TX4) (Cn := RX4) (N := 14) C (fun w h => wC_in (inX4 w h)) 0 rfl rfl 4 (by decide) (wC_in fX4_23) rfl rfl dX4_cell_9 ?_
    refine w_iload_n C dX4_cell_12 1 rfl ?_
    refine w_lald C 1 1 rfl rfl (z.toNat) ((g (z.toNat)).toInt) ⟨by omega, by omega, by omega⟩ ((lZ_self _).symm) dX4_cell_13 ?_
    refine w_goto C 18 dX4_cell_14 (by decide) ?_
    exact g_lret hsz hhs C hr hlk ⟨by omega, by omega⟩ ⟨by rw [if_pos hyes, lZ_self], rfl⟩ dX4_cell_18
