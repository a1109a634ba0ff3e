theorem acI : Cond.arrayClass .int ∈ wG := wG_t 50 (by decide +kernel) rfl
theorem kX3_acp : Cond.methodLink RX3 26 arraycopyName ∈ wG := wG_t 244 (by decide +kernel) rfl
theorem stacp : Cond.static arraycopyName ∈ wG := wG_t 245 (by decide +kernel) rfl
theorem natacp : Cond.native arraycopyName ∈ wG := wG_t 246 (by decide +kernel) rfl
set_option maxHeartbeats 4000000 in
set_option maxRecDepth 100000 in
/-- trim: the size without upper zeros -/
theorem cw_trim (l : Launch) (D : va_G) (G : Nat → ClassId) (X : va_W) (a b n N : Nat) (f : Nat → Int32) (k0 : Int32) (sg : Int) (hn : N ≤ n) (hn2 : n ≤ 2048) (hsg : -1 ≤ sg ∧ sg ≤ 1) (sz hs : Nat) : Met l yX3_trim (wC yX3_trim cX3_trim 2 none) ({ frames := 0, cells := 0, slots := 0, locals := 0 }) (va_Pc [.ref a, .int (iZ ((N : Int)))] (cPre nT D G ((a, .inr (3, [.ref b, .int (k0), .int (iZ (sg))])) :: (b, .inl (G 0, n, .inl f)) :: X : va_W) sz hs)) (va_Qv (fun u : cS => ∃ j : Nat, j ≤ N ∧ (∀ i, j ≤ i → i < N → f i = 0) ∧ (∀ i, j = i + 1 → f i ≠ 0) ∧ u = (((a, .inr (3, [.ref b, .int (iZ ((j : Int))), .int (iZ (if j = 0 then 0 else sg))])) :: (b, .inl (G 0, n, .inl f)) :: X : va_W), 0, 0)) (cAt D G (va_A ((a, .inr (3, [.ref b, .int (k0), .int (iZ (sg))])) :: (b, .inl (G 0, n, .inl f)) :: X : va_W) sz) sz hs) (va_A ((a, .inr (3, [.ref b, .int (k0), .int (iZ (sg))])) :: (b, .inl (G 0, n, .inl f)) :: X : va_W) sz)) 0 0 (va_A ((a, .inr (3, [.ref b, .int (k0), .int (iZ (sg))])) :: (b, .inl (G 0, n, .inl f)) :: X : va_W) sz) := by
  refine g_met (cc := cX3_trim) (maxL := 2) (ret := none) (own := RX3) (by decide) rfl rfl (Nat.le_of_ble_eq_true rfl) ?_
  intro p e s m below meth c hsz hhs hN hA C hr hlk
  refine w_sub [(0, .ref a), (1, .int (iZ ((N : Int))))] [0, 1] rfl ?_
  have lp : ∀ (d : Nat) (j : Nat), j < d → j ≤ N → (∀ i, j ≤ i → i < N → f i = 0) → ZW p l e ({ frames := 0, cells := 0, slots := 0, locals := 0 }) s m ([.ref a, .int (iZ ((N : Int)))] : List Value).toArray below meth c D (va_A ((a, .inr (3, [.ref b, .int (k0), .int (iZ (sg))])) :: (b, .inl (G 0, n, .inl f)) :: X : va_W) sz) 2 0 0 (MQ below (va_Qv (fun u : cS => ∃ j : Nat, j ≤ N ∧ (∀ i, j ≤ i → i < N → f i = 0) ∧ (∀ i, j = i + 1 → f i ≠ 0) ∧ u = (((a, .inr (3, [.ref b, .int (iZ ((j : Int))), .int (iZ (if j = 0 then 0 else sg))])) :: (b, .inl (G 0, n, .inl f)) :: X : va_W), 0, 0)) (cAt D G (va_A ((a, .inr (3, [.ref b, .int (k0), .int (iZ (sg))])) :: (b, .inl (G 0, n, .inl f)) :: X : va_W) sz) sz hs) (va_A ((a, .inr (3, [.ref b, .int (k0), .int (iZ (sg))])) :: (b, .inl (G 0, n, .inl f)) :: X : va_W) sz)) ([.ref a, .int (iZ ((N : Int)))] : List Value).toArray s 0 0 (va_A ((a, .inr (3, [.ref b, .int (k0), .int (iZ (sg))])) :: (b, .inl (G 0, n, .inl f)) :: X : va_W) sz)) ((a, .inr (3, [.ref b, .int (iZ ((j : Int))), .int (iZ (sg))])) :: (b, .inl (G 0, n, .inl f)) :: X : va_W) 5 [(0, .ref a), (1, .int (iZ ((N : Int))))] [] := by
    intro d
    induction d with
    | zero =>
      intro j hd hj hz
      exact absurd hd (by omega)
    | succ d ih =>
      intro j hd hj hz
      refine w_aload_n C dX3_trim_5 0 rfl ?_
      refine w_get (ci := 3) (ref := "RootIsolator$Whole") (T := TX3) (Cn := RX3) (N := 3) C (fun w h => wC_in (inX3 w h)) 0 rfl rfl 1 (by decide) (wC_in fX3_13) rfl rfl dX3_trim_6 ?_
      refine w_if_le C 39 dX3_trim_9 (by decide) ⟨by omega, by omega⟩ (fun c9 => ?_) (fun c9 => ?_)
      · refine w_aload_n C dX3_trim_39 0 rfl ?_
        refine w_get (ci := 3) (ref := "RootIsolator$Whole") (T := TX3) (Cn := RX3) (N := 3) C (fun w h => wC_in (inX3 w h)) 0 rfl rfl 1 (by decide) (wC_in fX3_13) rfl rfl dX3_trim_40 ?_
        refine w_if_ne C 51 dX3_trim_43 (by decide) ⟨by omega, by omega⟩ (fun c43 => ?_) (fun c43 => ?_)
        · exact g_vret hsz hhs C hr hlk ⟨by omega, by omega⟩ (⟨j, hj, hz, (fun i hi => absurd hi (by omega)), by rw [if_neg (by omega)]⟩) dX3_trim_51
        · refine w_aload_n C dX3_trim_46 0 rfl ?_
          refine w_iconst C dX3_trim_47 ?_
          refine w_put (ci := 3) (ref := "RootIsolator$Whole") (T := TX3) (Cn := RX3) (N := 3) (ty := .int) C ((a, .inr (3, [.ref b, .int (iZ ((j : Int))), .int (iZ (0))])) :: (b, .inl (G 0, n, .inl f)) :: X : va_W) (fun w h => wC_in (inX3 w h)) tyX3 tyX3_ok nmX3 0 rfl rfl 2 (by decide) (wC_in fX3_17) rfl rfl (by decide +kernel) rfl rfl (Nat.le_of_ble_eq_true rfl) rfl dX3_trim_48 ?_
          exact g_vret hsz hhs C hr hlk ⟨by omega, by omega⟩ (⟨j, hj, hz, (fun i hi => absurd hi (by omega)), by rw [if_pos (by omega)]⟩) dX3_trim_51
      · refine w_aload_n C dX3_trim_12 0 rfl ?_
        refine w_get (ci := 3) (ref := "RootIsolator$Whole") (T := TX3) (Cn := RX3) (N := 3) C (fun w h => wC_in (inX3 w h)) 0 rfl rfl 0 (by decide) (wC_in fX3_9) rfl rfl dX3_trim_13 ?_
        refine w_aload_n C dX3_trim_16 0 rfl ?_
        refine w_get (ci := 3) (ref := "RootIsolator$Whole") (T := TX3) (Cn := RX3) (N := 3) C (fun w h => wC_in (inX3 w h)) 0 rfl rfl 1 (by decide) (wC_in fX3_13) rfl rfl dX3_trim_17 ?_
        refine w_iconst C dX3_trim_20 ?_
        refine w_isub C dX3_trim_21 ?_
        refine w_iald C 1 0 rfl rfl (j - 1) ((f (j - 1)).toInt) ⟨by omega, by omega, by omega⟩ ((iZ_self _).symm) dX3_trim_22 ?_
        refine w_if_ne C 39 dX3_trim_23 (by decide) (i32r _) (fun c23 => ?_) (fun c23 => ?_)
        · have hj1 : 0 < j := by omega
          refine w_aload_n C dX3_trim_39 0 rfl ?_
          refine w_get (ci := 3) (ref := "RootIsolator$Whole") (T := TX3) (Cn := RX3) (N := 3) C (fun w h => wC_in (inX3 w h)) 0 rfl rfl 1 (by decide) (wC_in fX3_13) rfl rfl dX3_trim_40 ?_
          refine w_if_ne C 51 dX3_trim_43 (by decide) ⟨by omega, by omega⟩ (fun c43 => ?_) (fun c43 => ?_)
          · exact g_vret hsz hhs C hr hlk ⟨by omega, by omega⟩ (⟨j, hj, hz, (fun i hi => by subst hi; intro q; rw [Nat.add_sub_cancel] at c23; exact c23 (by rw [q]; rfl)), by rw [if_neg (by omega)]⟩) dX3_trim_51
          · refine w_aload_n C dX3_trim_46 0 rfl ?_
            refine w_iconst C dX3_trim_47 ?_
            refine w_put (ci := 3) (ref := "RootIsolator$Whole") (T := TX3) (Cn := RX3) (N := 3) (ty := .int) C ((a, .inr (3, [.ref b, .int (iZ ((j : Int))), .int (iZ (0))])) :: (b, .inl (G 0, n, .inl f)) :: X : va_W) (fun w h => wC_in (inX3 w h)) tyX3 tyX3_ok nmX3 0 rfl rfl 2 (by decide) (wC_in fX3_17) rfl rfl (by decide +kernel) rfl rfl (Nat.le_of_ble_eq_true rfl) rfl dX3_trim_48 ?_
            exact g_vret hsz hhs C hr hlk ⟨by omega, by omega⟩ (⟨j, hj, hz, (fun i hi => by subst hi; intro q; rw [Nat.add_sub_cancel] at c23; exact c23 (by rw [q]; rfl)), by rw [if_pos (by omega)]⟩) dX3_trim_51
        · refine w_aload_n C dX3_trim_26 0 rfl ?_
          refine w_dup C dX3_trim_27 rfl ?_
          refine w_get (ci := 3) (ref := "RootIsolator$Whole") (T := TX3) (Cn := RX3) (N := 3) C (fun w h => wC_in (inX3 w h)) 0 rfl rfl 1 (by decide) (wC_in fX3_13) rfl rfl dX3_trim_28 ?_
          refine w_iconst C dX3_trim_31 ?_
          refine w_isub C dX3_trim_32 ?_
          refine w_top C (((j - 1 : Nat) : Int)) (by omega) ?_
          refine w_put (ci := 3) (ref := "RootIsolator$Whole") (T := TX3) (Cn := RX3) (N := 3) (ty := .int) C ((a, .inr (3, [.ref b, .int (iZ (((j - 1 : Nat) : Int))), .int (iZ (sg))])) :: (b, .inl (G 0, n, .inl f)) :: X : va_W) (fun w h => wC_in (inX3 w h)) tyX3 tyX3_ok nmX3 0 rfl rfl 1 (by decide) (wC_in fX3_13) rfl rfl (by decide +kernel) rfl rfl (Nat.le_of_ble_eq_true rfl) rfl dX3_trim_33 ?_
          refine w_goto C 5 dX3_trim_36 (by decide) ?_
          exact ih (j - 1) (by omega) (by omega) (fun i h1 h2 => by
            rcases Nat.lt_or_ge i j with q | q
            · have : i = j - 1 := by omega
              subst this; rw [← iZ_self (f _), c23]; rfl
            · exact hz i q h2)
  refine w_aload_n C dX3_trim_0 0 rfl ?_
  refine w_iload_n C dX3_trim_1 1 rfl ?_
  refine w_put (ci := 3) (ref := "RootIsolator$Whole") (T := TX3) (Cn := RX3) (N := 3) (ty := .int) C ((a, .inr (3, [.ref b, .int (iZ ((N : Int))), .int (iZ (sg))])) :: (b, .inl (G 0, n, .inl f)) :: X : va_W) (fun w h => wC_in (inX3 w h)) tyX3 tyX3_ok nmX3 0 rfl rfl 1 (by decide) (wC_in fX3_13) rfl rfl (by decide +kernel) rfl rfl (Nat.le_of_ble_eq_true rfl) rfl dX3_trim_2 ?_
  exact lp (N + 1) N (by omega) (Nat.le_refl _) (fun i h1 h2 => absurd h1 (by omega))
set_option maxHeartbeats 4000000 in
set_option maxRecDepth 100000 in
theorem cw_negate (l : Launch) (D : va_G) (G : Nat → ClassId) (X : va_W) (a b n : Nat) (f : Nat → Int32) (k0 : Int32) (sg : Int)  (sz hs : Nat) : Met l yX3_negate (wC yX3_negate cX3_negate 1 none) ({ frames := 0, cells := 0, slots := 0, locals := 0 }) (va_Pc [.ref a] (cPre nT D G ((a, .inr (3, [.ref b, .int (k0), .int (iZ (sg))])) :: (b, .inl (G 0, n, .inl f)) :: X : va_W) sz hs)) (va_Qv (fun u : cS => u = (((a, .inr (3, [.ref b, .int (k0), .int (iZ (-(sg)))])) :: (b, .inl (G 0, n, .inl f)) :: X : va_W), 0, 0)) (cAt D G (va_A ((a, .inr (3, [.ref b, .int (k0), .int (iZ (sg))])) :: (b, .inl (G 0, n, .inl f)) :: X : va_W) sz) sz hs) (va_A ((a, .inr (3, [.ref b, .int (k0), .int (iZ (sg))])) :: (b, .inl (G 0, n, .inl f)) :: X : va_W) sz)) 0 0 (va_A ((a, .inr (3, [.ref b, .int (k0), .int (iZ (sg))])) :: (b, .inl (G 0, n, .inl f)) :: X : va_W) sz) := by
  refine g_met (cc := cX3_negate) (maxL := 1) (ret := none) (own := RX3) (by decide) rfl rfl (Nat.le_of_ble_eq_true rfl) ?_
  intro p e s m below meth c hsz hhs hN hA C hr hlk
  refine w_sub [(0, .ref a)] [0] rfl ?_
  refine w_aload_n C dX3_negate_0 0 rfl ?_
  refine w_aload_n C dX3_negate_1 0 rfl ?_
  refine w_get (ci := 3) (ref := "RootIsolator$Whole") (T := TX3) (Cn := RX3) (N := 3) C (fun w h => wC_in (inX3 w h)) 0 rfl rfl 2 (by decide) (wC_in fX3_17) rfl rfl dX3_negate_2 ?_
  refine w_ineg C dX3_negate_5 ?_
  refine w_put (ci := 3) (ref := "RootIsolator$Whole") (T := TX3) (Cn := RX3) (N := 3) (ty := .int) C ((a, .inr (3, [.ref b, .int (k0), .int (iZ (-(sg)))])) :: (b, .inl (G 0, n, .inl f)) :: X : va_W) (fun w h => wC_in (inX3 w h)) tyX3 tyX3_ok nmX3 0 rfl rfl 2 (by decide) (wC_in fX3_17) rfl rfl (by decide +kernel) rfl rfl (Nat.le_of_ble_eq_true rfl) rfl dX3_negate_6 ?_
  exact g_vret hsz hhs C hr hlk ⟨by omega, by omega⟩ (rfl) dX3_negate_9
set_option maxHeartbeats 4000000 in
set_option maxRecDepth 100000 in
theorem cw_dropSign (l : Launch) (D : va_G) (G : Nat → ClassId) (X : va_W) (a b n : Nat) (f : Nat → Int32) (k0 : Int32) (z : Int)  (sz hs : Nat) : Met l yX3_dropSign (wC yX3_dropSign cX3_dropSign 1 none) ({ frames := 0, cells := 0, slots := 0, locals := 0 }) (va_Pc [.ref a] (cPre nT D G ((a, .inr (3, [.ref b, .int (k0), .int (iZ (z.sign))])) :: (b, .inl (G 0, n, .inl f)) :: X : va_W) sz hs)) (va_Qv (fun u : cS => u = (((a, .inr (3, [.ref b, .int (k0), .int (iZ ((z.natAbs : Int).sign))])) :: (b, .inl (G 0, n, .inl f)) :: X : va_W), 0, 0)) (cAt D G (va_A ((a, .inr (3, [.ref b, .int (k0), .int (iZ (z.sign))])) :: (b, .inl (G 0, n, .inl f)) :: X : va_W) sz) sz hs) (va_A ((a, .inr (3, [.ref b, .int (k0), .int (iZ (z.sign))])) :: (b, .inl (G 0, n, .inl f)) :: X : va_W) sz)) 0 0 (va_A ((a, .inr (3, [.ref b, .int (k0), .int (iZ (z.sign))])) :: (b, .inl (G 0, n, .inl f)) :: X : va_W) sz) := by
  refine g_met (cc := cX3_dropSign) (maxL := 1) (ret := none) (own := RX3) (by decide) rfl rfl (Nat.le_of_ble_eq_true rfl) ?_
  intro p e s m below meth c hsz hhs hN hA C hr hlk
  refine w_sub [(0, .ref a)] [0] rfl ?_
  have hs1 := sgn_r z
  refine w_aload_n C dX3_dropSign_0 0 rfl ?_
  refine w_aload_n C dX3_dropSign_1 0 rfl ?_
  refine w_get (ci := 3) (ref := "RootIsolator$Whole") (T := TX3) (Cn := RX3) (N := 3) C (fun w h => wC_in (inX3 w h)) 0 rfl rfl 2 (by decide) (wC_in fX3_17) rfl rfl dX3_dropSign_2 ?_
  have J1 : ZW p l e ({ frames := 0, cells := 0, slots := 0, locals := 0 }) s m ([.ref a] : List Value).toArray below meth c D (va_A ((a, .inr (3, [.ref b, .int (k0), .int (iZ (z.sign))])) :: (b, .inl (G 0, n, .inl f)) :: X : va_W) sz) 1 0 0 (MQ below (va_Qv (fun u : cS => u = (((a, .inr (3, [.ref b, .int (k0), .int (iZ ((z.natAbs : Int).sign))])) :: (b, .inl (G 0, n, .inl f)) :: X : va_W), 0, 0)) (cAt D G (va_A ((a, .inr (3, [.ref b, .int (k0), .int (iZ (z.sign))])) :: (b, .inl (G 0, n, .inl f)) :: X : va_W) sz) sz hs) (va_A ((a, .inr (3, [.ref b, .int (k0), .int (iZ (z.sign))])) :: (b, .inl (G 0, n, .inl f)) :: X : va_W) sz)) ([.ref a] : List Value).toArray s 0 0 (va_A ((a, .inr (3, [.ref b, .int (k0), .int (iZ (z.sign))])) :: (b, .inl (G 0, n, .inl f)) :: X : va_W) sz)) ((a, .inr (3, [.ref b, .int (k0), .int (iZ (z.sign))])) :: (b, .inl (G 0, n, .inl f)) :: X : va_W) 13 [(0, .ref a)] [.int (iZ ((z.natAbs : Int).sign)), .ref a] := by
    refine w_put (ci := 3) (ref := "RootIsolator$Whole") (T := TX3) (Cn := RX3) (N := 3) (ty := .int) C ((a, .inr (3, [.ref b, .int (k0), .int (iZ ((z.natAbs : Int).sign))])) :: (b, .inl (G 0, n, .inl f)) :: X : va_W) (fun w h => wC_in (inX3 w h)) tyX3 tyX3_ok nmX3 0 rfl rfl 2 (by decide) (wC_in fX3_17) rfl rfl (by decide +kernel) rfl rfl (Nat.le_of_ble_eq_true rfl) rfl dX3_dropSign_13 ?_
    exact g_vret hsz hhs C hr hlk ⟨by omega, by omega⟩ (rfl) dX3_dropSign_16
  refine w_if_ne C 12 dX3_dropSign_5 (by decide) ⟨by omega, by omega⟩ (fun c5 => ?_) (fun c5 => ?_)
  · refine w_iconst C dX3_dropSign_12 ?_
    refine w_top C ((z.natAbs : Int).sign) (by rw [Int.sign_eq_one_of_pos]; have hz : z ≠ 0 := fun h => c5 (by rw [h]; rfl); omega) ?_
    exact J1
  · refine w_iconst C dX3_dropSign_8 ?_
    refine w_goto C 13 dX3_dropSign_9 (by decide) ?_
    refine w_top C ((z.natAbs : Int).sign) (by rw [sgn_zero c5]; rfl) ?_
    exact J1
