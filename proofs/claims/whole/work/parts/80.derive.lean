/-- the numbers that derive makes -/
def dvz (g : Nat → Int32) (i : Nat) : Int := if i < 8 then ((i + 1 : Nat) : Int) * (g (i + 1)).toInt else 0
theorem dvz_r (g : Nat → Int32) (i : Nat) : -9223372036854775808 ≤ dvz g i ∧ dvz g i < 9223372036854775808 := by
  unfold dvz
  split
  · have h1 := i32r (g (i + 1))
    have h2 := q_abs_mul_le (x := ((i + 1 : Nat) : Int)) (y := (g (i + 1)).toInt) (A := 8) (B := 2147483648) (by omega) (by omega)
    omega
  · omega
theorem updL_eq {f : Nat → Int64} {i : Nat} {v : Int64} : vp_updL f i v i = v := if_pos rfl
theorem updL_ne {f : Nat → Int64} {i j : Nat} {v : Int64} (h : j ≠ i) : vp_updL f i v j = f j := if_neg h
def tmz (g : Nat → Int32) (r0 : Int) (i : Nat) : Int := (if 0 < i then (g (i - 1)).toInt else 0) - r0 * (g i).toInt
theorem tmz_r (g : Nat → Int32) {r0 : Int} (hr : -2147483648 ≤ r0 ∧ r0 < 2147483648) (i : Nat) : -9223372036854775808 ≤ tmz g r0 i ∧ tmz g r0 i < 9223372036854775808 := by
  unfold tmz
  have h1 := i32r (g i)
  have h3 := i32r (g (i - 1))
  have h2 := q_abs_mul_le (x := r0) (y := (g i).toInt) (A := 2147483648) (B := 2147483648) (by omega) (by omega)
  split <;> omega
set_option maxHeartbeats 4000000 in
set_option maxRecDepth 100000 in
theorem cw_replaceA (l : Launch) (D : va_G) (G : Nat → ClassId) (X : va_W) (ri ra rb lv ce en re cx px pq fx lo hi : Nat) (fd hfl : Int32) (g g2 : Nat → Int32) (h : Nat → Int64)  (sz hs : Nat) : Met l yX4_replaceA (wC yX4_replaceA cX4_replaceA 1 (some .int)) ({ frames := 2, cells := 0, slots := 0, locals := 43 }) (va_Pc [.ref ri] (cPre nT D G ((ri, .inr (4, [.ref ra, .ref rb, .int (fd), .ref lv, .ref ce, .ref en, .ref re, .ref cx, .int (hfl), .ref px, .ref pq, .ref fx, .ref lo, .ref hi])) :: (ra, .inl (G 0, 9, .inl g)) :: (rb, .inl (G 0, 9, .inl g2)) :: (fx, .inl (G 1, 9, .inr (.inl h))) :: X : va_W) sz hs)) (va_Qi (fun (r : Int32) (u : cS) => ((∀ i : Nat, i < 9 → -1000000000 ≤ (h i).toInt ∧ (h i).toInt ≤ 1000000000) ∧ ∃ (g9 : Nat → Int32) (N : Nat), (∀ i : Nat, i < 9 → g9 i = iZ (h i).toInt) ∧ tpN (gp g9) 9 N ∧ r = iZ (tpv N) ∧ u = (((ri, .inr (4, [.ref ra, .ref rb, .int (iZ ((-1))), .ref lv, .ref ce, .ref en, .ref re, .ref cx, .int (iZ ((-1))), .ref px, .ref pq, .ref fx, .ref lo, .ref hi])) :: (ra, .inl (G 0, 9, .inl g9)) :: (rb, .inl (G 0, 9, .inl g2)) :: (fx, .inl (G 1, 9, .inr (.inl h))) :: X : va_W), 0, 0)) ∨ (¬ (∀ i : Nat, i < 9 → -1000000000 ≤ (h i).toInt ∧ (h i).toInt ≤ 1000000000) ∧ r = iZ (-5) ∧ u = (((ri, .inr (4, [.ref ra, .ref rb, .int (fd), .ref lv, .ref ce, .ref en, .ref re, .ref cx, .int (hfl), .ref px, .ref pq, .ref fx, .ref lo, .ref hi])) :: (ra, .inl (G 0, 9, .inl g)) :: (rb, .inl (G 0, 9, .inl g2)) :: (fx, .inl (G 1, 9, .inr (.inl h))) :: X : va_W), 0, 0))) (cAt D G (va_A ((ri, .inr (4, [.ref ra, .ref rb, .int (fd), .ref lv, .ref ce, .ref en, .ref re, .ref cx, .int (hfl), .ref px, .ref pq, .ref fx, .ref lo, .ref hi])) :: (ra, .inl (G 0, 9, .inl g)) :: (rb, .inl (G 0, 9, .inl g2)) :: (fx, .inl (G 1, 9, .inr (.inl h))) :: X : va_W) sz) sz hs) (va_A ((ri, .inr (4, [.ref ra, .ref rb, .int (fd), .ref lv, .ref ce, .ref en, .ref re, .ref cx, .int (hfl), .ref px, .ref pq, .ref fx, .ref lo, .ref hi])) :: (ra, .inl (G 0, 9, .inl g)) :: (rb, .inl (G 0, 9, .inl g2)) :: (fx, .inl (G 1, 9, .inr (.inl h))) :: X : va_W) sz)) 0 0 (va_A ((ri, .inr (4, [.ref ra, .ref rb, .int (fd), .ref lv, .ref ce, .ref en, .ref re, .ref cx, .int (hfl), .ref px, .ref pq, .ref fx, .ref lo, .ref hi])) :: (ra, .inl (G 0, 9, .inl g)) :: (rb, .inl (G 0, 9, .inl g2)) :: (fx, .inl (G 1, 9, .inr (.inl h))) :: X : va_W) sz) := by
  refine g_met (cc := cX4_replaceA) (maxL := 1) (ret := (some .int)) (own := RX4) (by decide) rfl rfl (Nat.le_of_ble_eq_true rfl) ?_
  intro p e s m below meth c hsz hhs hNs hA C hr hlk
  refine w_sub [(0, .ref ri)] [0] rfl ?_
  refine w_aload_n C dX4_replaceA_0 0 rfl ?_
  refine w_get (ci := 4) (ref := "RootIsolator") (T := TX4) (Cn := RX4) (N := 14) C (fun w h => wC_in (inX4 w h)) 0 rfl rfl 11 (by decide) (wC_in fX4_59) rfl rfl dX4_replaceA_1 ?_
  refine w_aload_n C dX4_replaceA_4 0 rfl ?_
  refine w_get (ci := 4) (ref := "RootIsolator") (T := TX4) (Cn := RX4) (N := 14) C (fun w h => wC_in (inX4 w h)) 0 rfl rfl 0 (by decide) (wC_in fX4_9) rfl rfl dX4_replaceA_5 ?_
  refine w_perm ((fx, .inl (G 1, 9, .inr (.inl h))) :: (ra, .inl (G 0, 9, .inl g)) :: (ri, .inr (4, [.ref ra, .ref rb, .int (fd), .ref lv, .ref ce, .ref en, .ref re, .ref cx, .int (hfl), .ref px, .ref pq, .ref fx, .ref lo, .ref hi])) :: (rb, .inl (G 0, 9, .inl g2)) :: X : va_W) (((List.perm_middle (l₁ := ((ri, .inr (4, [.ref ra, .ref rb, .int (fd), .ref lv, .ref ce, .ref en, .ref re, .ref cx, .int (hfl), .ref px, .ref pq, .ref fx, .ref lo, .ref hi])) :: (ra, .inl (G 0, 9, .inl g)) :: (rb, .inl (G 0, 9, .inl g2)) :: [] : va_W)) (l₂ := (X : va_W))).trans (List.Perm.cons _ (((List.perm_middle (l₁ := ((ri, .inr (4, [.ref ra, .ref rb, .int (fd), .ref lv, .ref ce, .ref en, .ref re, .ref cx, .int (hfl), .ref px, .ref pq, .ref fx, .ref lo, .ref hi])) :: [] : va_W)) (l₂ := ((rb, .inl (G 0, 9, .inl g2)) :: X : va_W))).trans (List.Perm.cons _ (List.Perm.refl _))))))) ?_
  refine g_callSi [.ref fx, .ref ra] hA C hNs nT_ok (cw_take l D G ((ri, .inr (4, [.ref ra, .ref rb, .int (fd), .ref lv, .ref ce, .ref en, .ref re, .ref cx, .int (hfl), .ref px, .ref pq, .ref fx, .ref lo, .ref hi])) :: (rb, .inl (G 0, 9, .inl g2)) :: X : va_W) fx ra h g) (cwS 2 C.1.2.2.2.2 (wC_S kX4_150 stX4_take iniX4 cdX4_take) rfl rfl rfl (by decide +kernel) ⟨Nat.le_of_ble_eq_true rfl, Nat.le_of_ble_eq_true rfl⟩) rfl ⟨Nat.le_refl _, Nat.le_refl _⟩ (Nat.le_of_ble_eq_true rfl) dX4_replaceA_8 [.ref ra, .ref fx] rfl (fun r v1 hv1 => ?_)
  rcases hv1 with ⟨hok, rfl, g9, hg9, rfl⟩ | ⟨hok, rfl, rfl⟩
  · refine w_cs 0 0 rfl rfl ?_
    refine w_perm ((ri, .inr (4, [.ref ra, .ref rb, .int (fd), .ref lv, .ref ce, .ref en, .ref re, .ref cx, .int (hfl), .ref px, .ref pq, .ref fx, .ref lo, .ref hi])) :: (ra, .inl (G 0, 9, .inl g9)) :: (rb, .inl (G 0, 9, .inl g2)) :: (fx, .inl (G 1, 9, .inr (.inl h))) :: X : va_W) (((List.perm_middle (l₁ := ((ri, .inr (4, [.ref ra, .ref rb, .int (fd), .ref lv, .ref ce, .ref en, .ref re, .ref cx, .int (hfl), .ref px, .ref pq, .ref fx, .ref lo, .ref hi])) :: (ra, .inl (G 0, 9, .inl g9)) :: (rb, .inl (G 0, 9, .inl g2)) :: [] : va_W)) (l₂ := (X : va_W))).trans (List.Perm.cons _ (((List.perm_middle (l₁ := ((ri, .inr (4, [.ref ra, .ref rb, .int (fd), .ref lv, .ref ce, .ref en, .ref re, .ref cx, .int (hfl), .ref px, .ref pq, .ref fx, .ref lo, .ref hi])) :: [] : va_W)) (l₂ := ((rb, .inl (G 0, 9, .inl g2)) :: X : va_W))).trans (List.Perm.cons _ (List.Perm.refl _))))))).symm ?_
    refine w_if_ne C 17 dX4_replaceA_11 (by decide) ⟨by omega, by omega⟩ (fun ct => ?_) (fun ct => ?_)
    · refine w_aload_n C dX4_replaceA_17 0 rfl ?_
      refine w_iconst C dX4_replaceA_18 ?_
      refine w_put (ci := 4) (ref := "RootIsolator") (T := TX4) (Cn := RX4) (N := 14) (ty := .int) C ((ri, .inr (4, [.ref ra, .ref rb, .int (fd), .ref lv, .ref ce, .ref en, .ref re, .ref cx, .int (iZ ((-1))), .ref px, .ref pq, .ref fx, .ref lo, .ref hi])) :: (ra, .inl (G 0, 9, .inl g9)) :: (rb, .inl (G 0, 9, .inl g2)) :: (fx, .inl (G 1, 9, .inr (.inl h))) :: X : va_W) (fun w h => wC_in (inX4 w h)) tyX4 tyX4_ok nmX4 0 rfl rfl 8 (by decide) (wC_in fX4_40) rfl rfl (by decide +kernel) rfl rfl (Nat.le_of_ble_eq_true rfl) rfl dX4_replaceA_19 ?_
      refine w_aload_n C dX4_replaceA_22 0 rfl ?_
      refine w_iconst C dX4_replaceA_23 ?_
      refine w_put (ci := 4) (ref := "RootIsolator") (T := TX4) (Cn := RX4) (N := 14) (ty := .int) C ((ri, .inr (4, [.ref ra, .ref rb, .int (iZ ((-1))), .ref lv, .ref ce, .ref en, .ref re, .ref cx, .int (iZ ((-1))), .ref px, .ref pq, .ref fx, .ref lo, .ref hi])) :: (ra, .inl (G 0, 9, .inl g9)) :: (rb, .inl (G 0, 9, .inl g2)) :: (fx, .inl (G 1, 9, .inr (.inl h))) :: X : va_W) (fun w h => wC_in (inX4 w h)) tyX4 tyX4_ok nmX4 0 rfl rfl 2 (by decide) (wC_in fX4_16) rfl rfl (by decide +kernel) rfl rfl (Nat.le_of_ble_eq_true rfl) rfl dX4_replaceA_24 ?_
      refine w_aload_n C dX4_replaceA_27 0 rfl ?_
      refine w_get (ci := 4) (ref := "RootIsolator") (T := TX4) (Cn := RX4) (N := 14) C (fun w h => wC_in (inX4 w h)) 0 rfl rfl 0 (by decide) (wC_in fX4_9) rfl rfl dX4_replaceA_28 ?_
      refine w_perm ((ra, .inl (G 0, 9, .inl g9)) :: (ri, .inr (4, [.ref ra, .ref rb, .int (iZ ((-1))), .ref lv, .ref ce, .ref en, .ref re, .ref cx, .int (iZ ((-1))), .ref px, .ref pq, .ref fx, .ref lo, .ref hi])) :: (rb, .inl (G 0, 9, .inl g2)) :: (fx, .inl (G 1, 9, .inr (.inl h))) :: X : va_W) (((List.perm_middle (l₁ := ((ri, .inr (4, [.ref ra, .ref rb, .int (iZ ((-1))), .ref lv, .ref ce, .ref en, .ref re, .ref cx, .int (iZ ((-1))), .ref px, .ref pq, .ref fx, .ref lo, .ref hi])) :: [] : va_W)) (l₂ := ((rb, .inl (G 0, 9, .inl g2)) :: (fx, .inl (G 1, 9, .inr (.inl h))) :: X : va_W))).trans (List.Perm.cons _ (List.Perm.refl _)))) ?_
      refine g_callSi [.ref ra] hA C hNs nT_ok (cw_topPower l D G ((ri, .inr (4, [.ref ra, .ref rb, .int (iZ ((-1))), .ref lv, .ref ce, .ref en, .ref re, .ref cx, .int (iZ ((-1))), .ref px, .ref pq, .ref fx, .ref lo, .ref hi])) :: (rb, .inl (G 0, 9, .inl g2)) :: (fx, .inl (G 1, 9, .inr (.inl h))) :: X : va_W) ra g9) (cwS 1 C.1.2.2.2.2 (wC_S kX4_83 stX4_topPower iniX4 cdX4_topPower) rfl rfl rfl (by decide +kernel) ⟨Nat.le_of_ble_eq_true rfl, Nat.le_of_ble_eq_true rfl⟩) rfl ⟨Nat.le_refl _, Nat.le_refl _⟩ (Nat.le_of_ble_eq_true rfl) dX4_replaceA_31 [.ref ra] rfl (fun r v2 hv2 => ?_)
      obtain ⟨Nv2, htv2, rfl, rfl⟩ := hv2
      refine w_cs 0 0 rfl rfl ?_
      refine w_perm ((ri, .inr (4, [.ref ra, .ref rb, .int (iZ ((-1))), .ref lv, .ref ce, .ref en, .ref re, .ref cx, .int (iZ ((-1))), .ref px, .ref pq, .ref fx, .ref lo, .ref hi])) :: (ra, .inl (G 0, 9, .inl g9)) :: (rb, .inl (G 0, 9, .inl g2)) :: (fx, .inl (G 1, 9, .inr (.inl h))) :: X : va_W) (((List.perm_middle (l₁ := ((ri, .inr (4, [.ref ra, .ref rb, .int (iZ ((-1))), .ref lv, .ref ce, .ref en, .ref re, .ref cx, .int (iZ ((-1))), .ref px, .ref pq, .ref fx, .ref lo, .ref hi])) :: [] : va_W)) (l₂ := ((rb, .inl (G 0, 9, .inl g2)) :: (fx, .inl (G 1, 9, .inr (.inl h))) :: X : va_W))).trans (List.Perm.cons _ (List.Perm.refl _)))).symm ?_
      exact g_iret hsz hhs C hr hlk ⟨by omega, by omega⟩ (Or.inl ⟨hok, g9, Nv2, hg9, htv2, rfl, rfl⟩) dX4_replaceA_34
    · exact absurd ct (by omega)
  · refine w_cs 0 0 rfl rfl ?_
    refine w_perm ((ri, .inr (4, [.ref ra, .ref rb, .int (fd), .ref lv, .ref ce, .ref en, .ref re, .ref cx, .int (hfl), .ref px, .ref pq, .ref fx, .ref lo, .ref hi])) :: (ra, .inl (G 0, 9, .inl g)) :: (rb, .inl (G 0, 9, .inl g2)) :: (fx, .inl (G 1, 9, .inr (.inl h))) :: X : va_W) (((List.perm_middle (l₁ := ((ri, .inr (4, [.ref ra, .ref rb, .int (fd), .ref lv, .ref ce, .ref en, .ref re, .ref cx, .int (hfl), .ref px, .ref pq, .ref fx, .ref lo, .ref hi])) :: (ra, .inl (G 0, 9, .inl g)) :: (rb, .inl (G 0, 9, .inl g2)) :: [] : va_W)) (l₂ := (X : va_W))).trans (List.Perm.cons _ (((List.perm_middle (l₁ := ((ri, .inr (4, [.ref ra, .ref rb, .int (fd), .ref lv, .ref ce, .ref en, .ref re, .ref cx, .int (hfl), .ref px, .ref pq, .ref fx, .ref lo, .ref hi])) :: [] : va_W)) (l₂ := ((rb, .inl (G 0, 9, .inl g2)) :: X : va_W))).trans (List.Perm.cons _ (List.Perm.refl _))))))).symm ?_
    refine w_if_ne C 17 dX4_replaceA_11 (by decide) ⟨by omega, by omega⟩ (fun ct => ?_) (fun ct => ?_)
    · exact absurd ct (by omega)
    · refine w_bipush C dX4_replaceA_14 (by decide) ?_
      exact g_iret hsz hhs C hr hlk ⟨by omega, by omega⟩ (Or.inr ⟨hok, rfl, rfl⟩) dX4_replaceA_16
set_option maxHeartbeats 4000000 in
set_option maxRecDepth 100000 in
theorem cw_derive (l : Launch) (D : va_G) (G : Nat → ClassId) (X : va_W) (ri ra rb lv ce en re cx px pq fx lo hi : Nat) (fd hfl : Int32) (g g2 : Nat → Int32) (h : Nat → Int64)  (sz hs : Nat) : Met l yX4_derive (wC yX4_derive cX4_derive 2 (some .int)) ({ frames := 2, cells := 0, slots := 0, locals := 43 }) (va_Pc [.ref ri] (cPre nT D G ((ri, .inr (4, [.ref ra, .ref rb, .int (fd), .ref lv, .ref ce, .ref en, .ref re, .ref cx, .int (hfl), .ref px, .ref pq, .ref fx, .ref lo, .ref hi])) :: (ra, .inl (G 0, 9, .inl g)) :: (rb, .inl (G 0, 9, .inl g2)) :: (fx, .inl (G 1, 9, .inr (.inl h))) :: X : va_W) sz hs)) (va_Qi (fun (r : Int32) (u : cS) => ∃ h9 : Nat → Int64, (∀ i : Nat, i < 9 → (h9 i).toInt = dvz g i) ∧ (((∀ i : Nat, i < 9 → -1000000000 ≤ (h9 i).toInt ∧ (h9 i).toInt ≤ 1000000000) ∧ ∃ (g9 : Nat → Int32) (N : Nat), (∀ i : Nat, i < 9 → g9 i = iZ (h9 i).toInt) ∧ tpN (gp g9) 9 N ∧ r = iZ (tpv N) ∧ u = (((ri, .inr (4, [.ref ra, .ref rb, .int (fd), .ref lv, .ref ce, .ref en, .ref re, .ref cx, .int (iZ ((-1))), .ref px, .ref pq, .ref fx, .ref lo, .ref hi])) :: (ra, .inl (G 0, 9, .inl g)) :: (rb, .inl (G 0, 9, .inl g9)) :: (fx, .inl (G 1, 9, .inr (.inl h9))) :: X : va_W), 0, 0)) ∨ (¬ (∀ i : Nat, i < 9 → -1000000000 ≤ (h9 i).toInt ∧ (h9 i).toInt ≤ 1000000000) ∧ r = iZ (-5) ∧ u = (((ri, .inr (4, [.ref ra, .ref rb, .int (fd), .ref lv, .ref ce, .ref en, .ref re, .ref cx, .int (hfl), .ref px, .ref pq, .ref fx, .ref lo, .ref hi])) :: (ra, .inl (G 0, 9, .inl g)) :: (rb, .inl (G 0, 9, .inl g2)) :: (fx, .inl (G 1, 9, .inr (.inl h9))) :: X : va_W), 0, 0)))) (cAt D G (va_A ((ri, .inr (4, [.ref ra, .ref rb, .int (fd), .ref lv, .ref ce, .ref en, .ref re, .ref cx, .int (hfl), .ref px, .ref pq, .ref fx, .ref lo, .ref hi])) :: (ra, .inl (G 0, 9, .inl g)) :: (rb, .inl (G 0, 9, .inl g2)) :: (fx, .inl (G 1, 9, .inr (.inl h))) :: X : va_W) sz) sz hs) (va_A ((ri, .inr (4, [.ref ra, .ref rb, .int (fd), .ref lv, .ref ce, .ref en, .ref re, .ref cx, .int (hfl), .ref px, .ref pq, .ref fx, .ref lo, .ref hi])) :: (ra, .inl (G 0, 9, .inl g)) :: (rb, .inl (G 0, 9, .inl g2)) :: (fx, .inl (G 1, 9, .inr (.inl h))) :: X : va_W) sz)) 0 0 (va_A ((ri, .inr (4, [.ref ra, .ref rb, .int (fd), .ref lv, .ref ce, .ref en, .ref re, .ref cx, .int (hfl), .ref px, .ref pq, .ref fx, .ref lo, .ref hi])) :: (ra, .inl (G 0, 9, .inl g)) :: (rb, .inl (G 0, 9, .inl g2)) :: (fx, .inl (G 1, 9, .inr (.inl h))) :: X : va_W) sz) := by
  refine g_met (cc := cX4_derive) (maxL := 2) (ret := (some .int)) (own := RX4) (by decide) rfl rfl (Nat.le_of_ble_eq_true rfl) ?_
  intro p e s m below meth c hsz hhs hNs hA C hr hlk
  refine w_sub [(0, .ref ri)] [0] rfl ?_
  have lp : ∀ (d : Nat) (k : Nat) (hh : Nat → Int64), 9 < k + d → 1 ≤ k ∧ k ≤ 9 → (∀ i : Nat, i + 1 < k → (hh i).toInt = dvz g i) → ZW p l e ({ frames := 2, cells := 0, slots := 0, locals := 43 }) s m ([.ref ri] : List Value).toArray below meth c D (va_A ((ri, .inr (4, [.ref ra, .ref rb, .int (fd), .ref lv, .ref ce, .ref en, .ref re, .ref cx, .int (hfl), .ref px, .ref pq, .ref fx, .ref lo, .ref hi])) :: (ra, .inl (G 0, 9, .inl g)) :: (rb, .inl (G 0, 9, .inl g2)) :: (fx, .inl (G 1, 9, .inr (.inl h))) :: X : va_W) sz) 2 0 0 (MQ below (va_Qi (fun (r : Int32) (u : cS) => ∃ h9 : Nat → Int64, (∀ i : Nat, i < 9 → (h9 i).toInt = dvz g i) ∧ (((∀ i : Nat, i < 9 → -1000000000 ≤ (h9 i).toInt ∧ (h9 i).toInt ≤ 1000000000) ∧ ∃ (g9 : Nat → Int32) (N : Nat), (∀ i : Nat, i < 9 → g9 i = iZ (h9 i).toInt) ∧ tpN (gp g9) 9 N ∧ r = iZ (tpv N) ∧ u = (((ri, .inr (4, [.ref ra, .ref rb, .int (fd), .ref lv, .ref ce, .ref en, .ref re, .ref cx, .int (iZ ((-1))), .ref px, .ref pq, .ref fx, .ref lo, .ref hi])) :: (ra, .inl (G 0, 9, .inl g)) :: (rb, .inl (G 0, 9, .inl g9)) :: (fx, .inl (G 1, 9, .inr (.inl h9))) :: X : va_W), 0, 0)) ∨ (¬ (∀ i : Nat, i < 9 → -1000000000 ≤ (h9 i).toInt ∧ (h9 i).toInt ≤ 1000000000) ∧ r = iZ (-5) ∧ u = (((ri, .inr (4, [.ref ra, .ref rb, .int (fd), .ref lv, .ref ce, .ref en, .ref re, .ref cx, .int (hfl), .ref px, .ref pq, .ref fx, .ref lo, .ref hi])) :: (ra, .inl (G 0, 9, .inl g)) :: (rb, .inl (G 0, 9, .inl g2)) :: (fx, .inl (G 1, 9, .inr (.inl h9))) :: X : va_W), 0, 0)))) (cAt D G (va_A ((ri, .inr (4, [.ref ra, .ref rb, .int (fd), .ref lv, .ref ce, .ref en, .ref re, .ref cx, .int (hfl), .ref px, .ref pq, .ref fx, .ref lo, .ref hi])) :: (ra, .inl (G 0, 9, .inl g)) :: (rb, .inl (G 0, 9, .inl g2)) :: (fx, .inl (G 1, 9, .inr (.inl h))) :: X : va_W) sz) sz hs) (va_A ((ri, .inr (4, [.ref ra, .ref rb, .int (fd), .ref lv, .ref ce, .ref en, .ref re, .ref cx, .int (hfl), .ref px, .ref pq, .ref fx, .ref lo, .ref hi])) :: (ra, .inl (G 0, 9, .inl g)) :: (rb, .inl (G 0, 9, .inl g2)) :: (fx, .inl (G 1, 9, .inr (.inl h))) :: X : va_W) sz)) ([.ref ri] : List Value).toArray s 0 0 (va_A ((ri, .inr (4, [.ref ra, .ref rb, .int (fd), .ref lv, .ref ce, .ref en, .ref re, .ref cx, .int (hfl), .ref px, .ref pq, .ref fx, .ref lo, .ref hi])) :: (ra, .inl (G 0, 9, .inl g)) :: (rb, .inl (G 0, 9, .inl g2)) :: (fx, .inl (G 1, 9, .inr (.inl h))) :: X : va_W) sz)) ((ri, .inr (4, [.ref ra, .ref rb, .int (fd), .ref lv, .ref ce, .ref en, .ref re, .ref cx, .int (hfl), .ref px, .ref pq, .ref fx, .ref lo, .ref hi])) :: (ra, .inl (G 0, 9, .inl g)) :: (rb, .inl (G 0, 9, .inl g2)) :: (fx, .inl (G 1, 9, .inr (.inl hh))) :: X : va_W) 2 [(1, .int (iZ ((k : Int)))), (0, .ref ri)] [] := by
    intro d
    induction d with
    | zero =>
      intro k hh hd hk hdz
      exact absurd hd (by omega)
    | succ d ih =>
      intro k hh hd hk hdz
      refine w_iload_n C dX4_derive_2 0 rfl ?_
      refine w_bipush C dX4_derive_3 (by decide) ?_
      refine w_icmp_gt C 32 dX4_derive_5 (by decide) ⟨⟨by omega, by omega⟩, by omega, by omega⟩ (fun c5 => ?_) (fun c5 => ?_)
      · have hk9 : k = 9 := by omega
        refine w_aload_n C dX4_derive_32 1 rfl ?_
        refine w_get (ci := 4) (ref := "RootIsolator") (T := TX4) (Cn := RX4) (N := 14) C (fun w h => wC_in (inX4 w h)) 0 rfl rfl 11 (by decide) (wC_in fX4_59) rfl rfl dX4_derive_33 ?_
        refine w_bipush C dX4_derive_36 (by decide) ?_
        refine w_lconst C 0 dX4_derive_38 rfl ?_
        refine w_last C ((ri, .inr (4, [.ref ra, .ref rb, .int (fd), .ref lv, .ref ce, .ref en, .ref re, .ref cx, .int (hfl), .ref px, .ref pq, .ref fx, .ref lo, .ref hi])) :: (ra, .inl (G 0, 9, .inl g)) :: (rb, .inl (G 0, 9, .inl g2)) :: (fx, .inl (G 1, 9, .inr (.inl (vp_updL hh (8) (lZ (0)))))) :: X : va_W) 3 1 rfl rfl (8) ⟨by omega, by omega, by omega⟩ rfl dX4_derive_39 ?_
        obtain ⟨h9, hh9⟩ : ∃ x : Nat → Int64, x = (vp_updL hh (8) (lZ (0))) := ⟨_, rfl⟩
        rw [← hh9]
        have hd9 : (∀ i : Nat, i < 9 → (h9 i).toInt = dvz g i) := fun i hi => by
          rw [hh9]
          by_cases q : i = 8
          · rw [q, updL_eq]; rfl
          · rw [updL_ne q]; exact hdz i (by omega)
        refine w_aload_n C dX4_derive_40 1 rfl ?_
        refine w_get (ci := 4) (ref := "RootIsolator") (T := TX4) (Cn := RX4) (N := 14) C (fun w h => wC_in (inX4 w h)) 0 rfl rfl 11 (by decide) (wC_in fX4_59) rfl rfl dX4_derive_41 ?_
        refine w_aload_n C dX4_derive_44 1 rfl ?_
        refine w_get (ci := 4) (ref := "RootIsolator") (T := TX4) (Cn := RX4) (N := 14) C (fun w h => wC_in (inX4 w h)) 0 rfl rfl 1 (by decide) (wC_in fX4_13) rfl rfl dX4_derive_45 ?_
        refine w_perm ((fx, .inl (G 1, 9, .inr (.inl h9))) :: (rb, .inl (G 0, 9, .inl g2)) :: (ri, .inr (4, [.ref ra, .ref rb, .int (fd), .ref lv, .ref ce, .ref en, .ref re, .ref cx, .int (hfl), .ref px, .ref pq, .ref fx, .ref lo, .ref hi])) :: (ra, .inl (G 0, 9, .inl g)) :: X : va_W) (((List.perm_middle (l₁ := ((ri, .inr (4, [.ref ra, .ref rb, .int (fd), .ref lv, .ref ce, .ref en, .ref re, .ref cx, .int (hfl), .ref px, .ref pq, .ref fx, .ref lo, .ref hi])) :: (ra, .inl (G 0, 9, .inl g)) :: (rb, .inl (G 0, 9, .inl g2)) :: [] : va_W)) (l₂ := (X : va_W))).trans (List.Perm.cons _ (((List.perm_middle (l₁ := ((ri, .inr (4, [.ref ra, .ref rb, .int (fd), .ref lv, .ref ce, .ref en, .ref re, .ref cx, .int (hfl), .ref px, .ref pq, .ref fx, .ref lo, .ref hi])) :: (ra, .inl (G 0, 9, .inl g)) :: [] : va_W)) (l₂ := (X : va_W))).trans (List.Perm.cons _ (List.Perm.refl _))))))) ?_
        refine g_callSi [.ref fx, .ref rb] hA C hNs nT_ok (cw_take l D G ((ri, .inr (4, [.ref ra, .ref rb, .int (fd), .ref lv, .ref ce, .ref en, .ref re, .ref cx, .int (hfl), .ref px, .ref pq, .ref fx, .ref lo, .ref hi])) :: (ra, .inl (G 0, 9, .inl g)) :: X : va_W) fx rb h9 g2) (cwS 2 C.1.2.2.2.2 (wC_S kX4_150 stX4_take iniX4 cdX4_take) rfl rfl rfl (by decide +kernel) ⟨Nat.le_of_ble_eq_true rfl, Nat.le_of_ble_eq_true rfl⟩) rfl ⟨Nat.le_refl _, Nat.le_refl _⟩ (Nat.le_of_ble_eq_true rfl) dX4_derive_48 [.ref rb, .ref fx] rfl (fun r v1 hv1 => ?_)
        rcases hv1 with ⟨hok, rfl, g9, hg9, rfl⟩ | ⟨hok, rfl, rfl⟩
        · refine w_cs 0 0 rfl rfl ?_
          refine w_perm ((ri, .inr (4, [.ref ra, .ref rb, .int (fd), .ref lv, .ref ce, .ref en, .ref re, .ref cx, .int (hfl), .ref px, .ref pq, .ref fx, .ref lo, .ref hi])) :: (ra, .inl (G 0, 9, .inl g)) :: (rb, .inl (G 0, 9, .inl g9)) :: (fx, .inl (G 1, 9, .inr (.inl h9))) :: X : va_W) (((List.perm_middle (l₁ := ((ri, .inr (4, [.ref ra, .ref rb, .int (fd), .ref lv, .ref ce, .ref en, .ref re, .ref cx, .int (hfl), .ref px, .ref pq, .ref fx, .ref lo, .ref hi])) :: (ra, .inl (G 0, 9, .inl g)) :: (rb, .inl (G 0, 9, .inl g9)) :: [] : va_W)) (l₂ := (X : va_W))).trans (List.Perm.cons _ (((List.perm_middle (l₁ := ((ri, .inr (4, [.ref ra, .ref rb, .int (fd), .ref lv, .ref ce, .ref en, .ref re, .ref cx, .int (hfl), .ref px, .ref pq, .ref fx, .ref lo, .ref hi])) :: (ra, .inl (G 0, 9, .inl g)) :: [] : va_W)) (l₂ := (X : va_W))).trans (List.Perm.cons _ (List.Perm.refl _))))))).symm ?_
          refine w_if_ne C 57 dX4_derive_51 (by decide) ⟨by omega, by omega⟩ (fun ct => ?_) (fun ct => ?_)
          · refine w_aload_n C dX4_derive_57 1 rfl ?_
            refine w_iconst C dX4_derive_58 ?_
            refine w_put (ci := 4) (ref := "RootIsolator") (T := TX4) (Cn := RX4) (N := 14) (ty := .int) C ((ri, .inr (4, [.ref ra, .ref rb, .int (fd), .ref lv, .ref ce, .ref en, .ref re, .ref cx, .int (iZ ((-1))), .ref px, .ref pq, .ref fx, .ref lo, .ref hi])) :: (ra, .inl (G 0, 9, .inl g)) :: (rb, .inl (G 0, 9, .inl g9)) :: (fx, .inl (G 1, 9, .inr (.inl h9))) :: X : va_W) (fun w h => wC_in (inX4 w h)) tyX4 tyX4_ok nmX4 0 rfl rfl 8 (by decide) (wC_in fX4_40) rfl rfl (by decide +kernel) rfl rfl (Nat.le_of_ble_eq_true rfl) rfl dX4_derive_59 ?_
            refine w_aload_n C dX4_derive_62 1 rfl ?_
            refine w_get (ci := 4) (ref := "RootIsolator") (T := TX4) (Cn := RX4) (N := 14) C (fun w h => wC_in (inX4 w h)) 0 rfl rfl 1 (by decide) (wC_in fX4_13) rfl rfl dX4_derive_63 ?_
            refine w_perm ((rb, .inl (G 0, 9, .inl g9)) :: (ri, .inr (4, [.ref ra, .ref rb, .int (fd), .ref lv, .ref ce, .ref en, .ref re, .ref cx, .int (iZ ((-1))), .ref px, .ref pq, .ref fx, .ref lo, .ref hi])) :: (ra, .inl (G 0, 9, .inl g)) :: (fx, .inl (G 1, 9, .inr (.inl h9))) :: X : va_W) (((List.perm_middle (l₁ := ((ri, .inr (4, [.ref ra, .ref rb, .int (fd), .ref lv, .ref ce, .ref en, .ref re, .ref cx, .int (iZ ((-1))), .ref px, .ref pq, .ref fx, .ref lo, .ref hi])) :: (ra, .inl (G 0, 9, .inl g)) :: [] : va_W)) (l₂ := ((fx, .inl (G 1, 9, .inr (.inl h9))) :: X : va_W))).trans (List.Perm.cons _ (List.Perm.refl _)))) ?_
            refine g_callSi [.ref rb] hA C hNs nT_ok (cw_topPower l D G ((ri, .inr (4, [.ref ra, .ref rb, .int (fd), .ref lv, .ref ce, .ref en, .ref re, .ref cx, .int (iZ ((-1))), .ref px, .ref pq, .ref fx, .ref lo, .ref hi])) :: (ra, .inl (G 0, 9, .inl g)) :: (fx, .inl (G 1, 9, .inr (.inl h9))) :: X : va_W) rb g9) (cwS 1 C.1.2.2.2.2 (wC_S kX4_83 stX4_topPower iniX4 cdX4_topPower) rfl rfl rfl (by decide +kernel) ⟨Nat.le_of_ble_eq_true rfl, Nat.le_of_ble_eq_true rfl⟩) rfl ⟨Nat.le_refl _, Nat.le_refl _⟩ (Nat.le_of_ble_eq_true rfl) dX4_derive_66 [.ref rb] rfl (fun r v2 hv2 => ?_)
            obtain ⟨Nv2, htv2, rfl, rfl⟩ := hv2
            refine w_cs 0 0 rfl rfl ?_
            refine w_perm ((ri, .inr (4, [.ref ra, .ref rb, .int (fd), .ref lv, .ref ce, .ref en, .ref re, .ref cx, .int (iZ ((-1))), .ref px, .ref pq, .ref fx, .ref lo, .ref hi])) :: (ra, .inl (G 0, 9, .inl g)) :: (rb, .inl (G 0, 9, .inl g9)) :: (fx, .inl (G 1, 9, .inr (.inl h9))) :: X : va_W) (((List.perm_middle (l₁ := ((ri, .inr (4, [.ref ra, .ref rb, .int (fd), .ref lv, .ref ce, .ref en, .ref re, .ref cx, .int (iZ ((-1))), .ref px, .ref pq, .ref fx, .ref lo, .ref hi])) :: (ra, .inl (G 0, 9, .inl g)) :: [] : va_W)) (l₂ := ((fx, .inl (G 1, 9, .inr (.inl h9))) :: X : va_W))).trans (List.Perm.cons _ (List.Perm.refl _)))).symm ?_
            exact g_iret hsz hhs C hr hlk ⟨by omega, by omega⟩ (⟨h9, hd9, Or.inl ⟨hok, g9, Nv2, hg9, htv2, rfl, rfl⟩⟩) dX4_derive_69
          · exact absurd ct (by omega)
        · refine w_cs 0 0 rfl rfl ?_
          refine w_perm ((ri, .inr (4, [.ref ra, .ref rb, .int (fd), .ref lv, .ref ce, .ref en, .ref re, .ref cx, .int (hfl), .ref px, .ref pq, .ref fx, .ref lo, .ref hi])) :: (ra, .inl (G 0, 9, .inl g)) :: (rb, .inl (G 0, 9, .inl g2)) :: (fx, .inl (G 1, 9, .inr (.inl h9))) :: X : va_W) (((List.perm_middle (l₁ := ((ri, .inr (4, [.ref ra, .ref rb, .int (fd), .ref lv, .ref ce, .ref en, .ref re, .ref cx, .int (hfl), .ref px, .ref pq, .ref fx, .ref lo, .ref hi])) :: (ra, .inl (G 0, 9, .inl g)) :: (rb, .inl (G 0, 9, .inl g2)) :: [] : va_W)) (l₂ := (X : va_W))).trans (List.Perm.cons _ (((List.perm_middle (l₁ := ((ri, .inr (4, [.ref ra, .ref rb, .int (fd), .ref lv, .ref ce, .ref en, .ref re, .ref cx, .int (hfl), .ref px, .ref pq, .ref fx, .ref lo, .ref hi])) :: (ra, .inl (G 0, 9, .inl g)) :: [] : va_W)) (l₂ := (X : va_W))).trans (List.Perm.cons _ (List.Perm.refl _))))))).symm ?_
          refine w_if_ne C 57 dX4_derive_51 (by decide) ⟨by omega, by omega⟩ (fun ct => ?_) (fun ct => ?_)
          · exact absurd ct (by omega)
          · refine w_bipush C dX4_derive_54 (by decide) ?_
            exact g_iret hsz hhs C hr hlk ⟨by omega, by omega⟩ (⟨h9, hd9, Or.inr ⟨hok, rfl, rfl⟩⟩) dX4_derive_56
      · refine w_aload_n C dX4_derive_8 1 rfl ?_
        refine w_get (ci := 4) (ref := "RootIsolator") (T := TX4) (Cn := RX4) (N := 14) C (fun w h => wC_in (inX4 w h)) 0 rfl rfl 11 (by decide) (wC_in fX4_59) rfl rfl dX4_derive_9 ?_
        refine w_iload_n C dX4_derive_12 0 rfl ?_
        refine w_iconst C dX4_derive_13 ?_
        refine w_isub C dX4_derive_14 ?_
        refine w_iload_n C dX4_derive_15 0 rfl ?_
        refine w_i2l C dX4_derive_16 ⟨by omega, by omega⟩ ?_
        refine w_aload_n C dX4_derive_17 1 rfl ?_
        refine w_get (ci := 4) (ref := "RootIsolator") (T := TX4) (Cn := RX4) (N := 14) C (fun w h => wC_in (inX4 w h)) 0 rfl rfl 0 (by decide) (wC_in fX4_9) rfl rfl dX4_derive_18 ?_
        refine w_iload_n C dX4_derive_21 0 rfl ?_
        refine w_iald C 1 0 rfl rfl (k) ((g (k)).toInt) ⟨by omega, by omega, by omega⟩ ((iZ_self _).symm) dX4_derive_22 ?_
        refine w_i2l C dX4_derive_23 (i32r _) ?_
        refine w_lmul C dX4_derive_24 ?_
        refine w_last C ((ri, .inr (4, [.ref ra, .ref rb, .int (fd), .ref lv, .ref ce, .ref en, .ref re, .ref cx, .int (hfl), .ref px, .ref pq, .ref fx, .ref lo, .ref hi])) :: (ra, .inl (G 0, 9, .inl g)) :: (rb, .inl (G 0, 9, .inl g2)) :: (fx, .inl (G 1, 9, .inr (.inl (vp_updL hh (k - 1) (lZ ((k : Int) * ((g (k)).toInt))))))) :: X : va_W) 3 1 rfl rfl (k - 1) ⟨by omega, by omega, by omega⟩ rfl dX4_derive_25 ?_
        refine w_iinc C (((k + 1 : Nat) : Int)) (by omega) [(1, .int (iZ (((k + 1 : Nat) : Int)))), (0, .ref ri)] dX4_derive_26 0 rfl (by decide) rfl ?_
        refine w_goto C 2 dX4_derive_29 (by decide) ?_
        exact ih (k + 1) _ (by omega) (by omega) (fun i hi => by
          by_cases q : i = k - 1
          · rw [q, updL_eq]
            have e : (k : Int) * (g k).toInt = dvz g (k - 1) := by unfold dvz; rw [if_pos (by omega), show k - 1 + 1 = k by omega]
            rw [e, lZ_toInt (dvz_r g _).1 (dvz_r g _).2]
          · rw [updL_ne q]; exact hdz i (by omega))
  refine w_iconst C dX4_derive_0 ?_
  refine w_istore_n C [(1, .int (iZ (1))), (0, .ref ri)] dX4_derive_1 rfl (by decide) rfl ?_
  exact lp 9 1 h (by omega) (by omega) (fun i hi => absurd hi (by omega))
set_option maxHeartbeats 4000000 in
set_option maxRecDepth 100000 in
theorem cw_times (l : Launch) (D : va_G) (G : Nat → ClassId) (X : va_W) (ri ra rb lv ce en re cx px pq fx lo hi : Nat) (fd hfl : Int32) (g g2 : Nat → Int32) (h : Nat → Int64) (r0 : Int) (hr0 : -2147483648 ≤ r0 ∧ r0 < 2147483648) (sz hs : Nat) : Met l yX4_times (wC yX4_times cX4_times 4 (some .int)) ({ frames := 3, cells := 0, slots := 0, locals := 63 }) (va_Pc [.ref ri, .int (iZ (r0))] (cPre nT D G ((ri, .inr (4, [.ref ra, .ref rb, .int (fd), .ref lv, .ref ce, .ref en, .ref re, .ref cx, .int (hfl), .ref px, .ref pq, .ref fx, .ref lo, .ref hi])) :: (ra, .inl (G 0, 9, .inl g)) :: (rb, .inl (G 0, 9, .inl g2)) :: (fx, .inl (G 1, 9, .inr (.inl h))) :: X : va_W) sz hs)) (va_Qi (fun (r : Int32) (u : cS) => ∃ N0 : Nat, tpN (gp g) 9 N0 ∧ ((N0 = 0 ∧ r = iZ (-3) ∧ u = (((ri, .inr (4, [.ref ra, .ref rb, .int (fd), .ref lv, .ref ce, .ref en, .ref re, .ref cx, .int (hfl), .ref px, .ref pq, .ref fx, .ref lo, .ref hi])) :: (ra, .inl (G 0, 9, .inl g)) :: (rb, .inl (G 0, 9, .inl g2)) :: (fx, .inl (G 1, 9, .inr (.inl h))) :: X : va_W), 0, 0)) ∨ (N0 = 9 ∧ r = iZ (-5) ∧ u = (((ri, .inr (4, [.ref ra, .ref rb, .int (fd), .ref lv, .ref ce, .ref en, .ref re, .ref cx, .int (hfl), .ref px, .ref pq, .ref fx, .ref lo, .ref hi])) :: (ra, .inl (G 0, 9, .inl g)) :: (rb, .inl (G 0, 9, .inl g2)) :: (fx, .inl (G 1, 9, .inr (.inl h))) :: X : va_W), 0, 0)) ∨ (1 ≤ N0 ∧ N0 ≤ 8 ∧ ∃ h9 : Nat → Int64, (∀ i : Nat, i < 9 → (h9 i).toInt = tmz g r0 i) ∧ (((∀ i : Nat, i < 9 → -1000000000 ≤ (h9 i).toInt ∧ (h9 i).toInt ≤ 1000000000) ∧ ∃ (g9 : Nat → Int32) (N : Nat), (∀ i : Nat, i < 9 → g9 i = iZ (h9 i).toInt) ∧ tpN (gp g9) 9 N ∧ r = iZ (tpv N) ∧ u = (((ri, .inr (4, [.ref ra, .ref rb, .int (iZ ((-1))), .ref lv, .ref ce, .ref en, .ref re, .ref cx, .int (iZ ((-1))), .ref px, .ref pq, .ref fx, .ref lo, .ref hi])) :: (ra, .inl (G 0, 9, .inl g9)) :: (rb, .inl (G 0, 9, .inl g2)) :: (fx, .inl (G 1, 9, .inr (.inl h9))) :: X : va_W), 0, 0)) ∨ (¬ (∀ i : Nat, i < 9 → -1000000000 ≤ (h9 i).toInt ∧ (h9 i).toInt ≤ 1000000000) ∧ r = iZ (-5) ∧ u = (((ri, .inr (4, [.ref ra, .ref rb, .int (fd), .ref lv, .ref ce, .ref en, .ref re, .ref cx, .int (hfl), .ref px, .ref pq, .ref fx, .ref lo, .ref hi])) :: (ra, .inl (G 0, 9, .inl g)) :: (rb, .inl (G 0, 9, .inl g2)) :: (fx, .inl (G 1, 9, .inr (.inl h9))) :: X : va_W), 0, 0)))))) (cAt D G (va_A ((ri, .inr (4, [.ref ra, .ref rb, .int (fd), .ref lv, .ref ce, .ref en, .ref re, .ref cx, .int (hfl), .ref px, .ref pq, .ref fx, .ref lo, .ref hi])) :: (ra, .inl (G 0, 9, .inl g)) :: (rb, .inl (G 0, 9, .inl g2)) :: (fx, .inl (G 1, 9, .inr (.inl h))) :: X : va_W) sz) sz hs) (va_A ((ri, .inr (4, [.ref ra, .ref rb, .int (fd), .ref lv, .ref ce, .ref en, .ref re, .ref cx, .int (hfl), .ref px, .ref pq, .ref fx, .ref lo, .ref hi])) :: (ra, .inl (G 0, 9, .inl g)) :: (rb, .inl (G 0, 9, .inl g2)) :: (fx, .inl (G 1, 9, .inr (.inl h))) :: X : va_W) sz)) 0 0 (va_A ((ri, .inr (4, [.ref ra, .ref rb, .int (fd), .ref lv, .ref ce, .ref en, .ref re, .ref cx, .int (hfl), .ref px, .ref pq, .ref fx, .ref lo, .ref hi])) :: (ra, .inl (G 0, 9, .inl g)) :: (rb, .inl (G 0, 9, .inl g2)) :: (fx, .inl (G 1, 9, .inr (.inl h))) :: X : va_W) sz) := by
  refine g_met (cc := cX4_times) (maxL := 4) (ret := (some .int)) (own := RX4) (by decide) rfl rfl (Nat.le_of_ble_eq_true rfl) ?_
  intro p e s m below meth c hsz hhs hNs hA C hr hlk
  refine w_sub [(0, .ref ri), (1, .int (iZ (r0)))] [0, 1] rfl ?_
  refine w_aload_n C dX4_times_0 0 rfl ?_
  refine w_get (ci := 4) (ref := "RootIsolator") (T := TX4) (Cn := RX4) (N := 14) C (fun w h => wC_in (inX4 w h)) 0 rfl rfl 0 (by decide) (wC_in fX4_9) rfl rfl dX4_times_1 ?_
  refine w_perm ((ra, .inl (G 0, 9, .inl g)) :: (ri, .inr (4, [.ref ra, .ref rb, .int (fd), .ref lv, .ref ce, .ref en, .ref re, .ref cx, .int (hfl), .ref px, .ref pq, .ref fx, .ref lo, .ref hi])) :: (rb, .inl (G 0, 9, .inl g2)) :: (fx, .inl (G 1, 9, .inr (.inl h))) :: X : va_W) (((List.perm_middle (l₁ := ((ri, .inr (4, [.ref ra, .ref rb, .int (fd), .ref lv, .ref ce, .ref en, .ref re, .ref cx, .int (hfl), .ref px, .ref pq, .ref fx, .ref lo, .ref hi])) :: [] : va_W)) (l₂ := ((rb, .inl (G 0, 9, .inl g2)) :: (fx, .inl (G 1, 9, .inr (.inl h))) :: X : va_W))).trans (List.Perm.cons _ (List.Perm.refl _)))) ?_
  refine g_callSi [.ref ra] hA C hNs nT_ok (cw_topPower l D G ((ri, .inr (4, [.ref ra, .ref rb, .int (fd), .ref lv, .ref ce, .ref en, .ref re, .ref cx, .int (hfl), .ref px, .ref pq, .ref fx, .ref lo, .ref hi])) :: (rb, .inl (G 0, 9, .inl g2)) :: (fx, .inl (G 1, 9, .inr (.inl h))) :: X : va_W) ra g) (cwS 1 C.1.2.2.2.2 (wC_S kX4_83 stX4_topPower iniX4 cdX4_topPower) rfl rfl rfl (by decide +kernel) ⟨Nat.le_of_ble_eq_true rfl, Nat.le_of_ble_eq_true rfl⟩) rfl ⟨Nat.le_refl _, Nat.le_refl _⟩ (Nat.le_of_ble_eq_true rfl) dX4_times_4 [.ref ra] rfl (fun r v1 hv1 => ?_)
  obtain ⟨Nv1, htv1, rfl, rfl⟩ := hv1
  refine w_cs 0 0 rfl rfl ?_
  refine w_perm ((ri, .inr (4, [.ref ra, .ref rb, .int (fd), .ref lv, .ref ce, .ref en, .ref re, .ref cx, .int (hfl), .ref px, .ref pq, .ref fx, .ref lo, .ref hi])) :: (ra, .inl (G 0, 9, .inl g)) :: (rb, .inl (G 0, 9, .inl g2)) :: (fx, .inl (G 1, 9, .inr (.inl h))) :: X : va_W) (((List.perm_middle (l₁ := ((ri, .inr (4, [.ref ra, .ref rb, .int (fd), .ref lv, .ref ce, .ref en, .ref re, .ref cx, .int (hfl), .ref px, .ref pq, .ref fx, .ref lo, .ref hi])) :: [] : va_W)) (l₂ := ((rb, .inl (G 0, 9, .inl g2)) :: (fx, .inl (G 1, 9, .inr (.inl h))) :: X : va_W))).trans (List.Perm.cons _ (List.Perm.refl _)))).symm ?_
  obtain ⟨tv, htv⟩ : ∃ x : Int, x = (if Nv1 = 0 then -3 else (Nv1 : Int) - 1) := ⟨_, rfl⟩
  rw [← htv]
  have hN9 := htv1.1
  have htv2 : (Nv1 = 0 ∧ tv = -3) ∨ (1 ≤ Nv1 ∧ tv = (Nv1 : Int) - 1) := by
    rw [htv]; split <;> omega
  obtain ⟨N0, hN0⟩ : ∃ x : Nat, x = Nv1 := ⟨_, rfl⟩
  rw [← hN0] at htv1 hN9 htv2
  have htp := htv1
  refine w_istore_n C [(2, .int (iZ (tv))), (0, .ref ri), (1, .int (iZ (r0)))] dX4_times_7 rfl (by decide) rfl ?_
  refine w_iload_n C dX4_times_8 0 rfl ?_
  refine w_bipush C dX4_times_9 (by decide) ?_
  refine w_icmp_ne C 17 dX4_times_11 (by decide) ⟨⟨by omega, by omega⟩, by omega, by omega⟩ (fun c11 => ?_) (fun c11 => ?_)
  · refine w_iload_n C dX4_times_17 0 rfl ?_
    refine w_bipush C dX4_times_18 (by decide) ?_
    refine w_icmp_lt C 26 dX4_times_20 (by decide) ⟨⟨by omega, by omega⟩, by omega, by omega⟩ (fun c20 => ?_) (fun c20 => ?_)
    · refine w_iconst C dX4_times_26 ?_
      refine w_istore_n C [(3, .int (iZ (0))), (2, .int (iZ (tv))), (0, .ref ri), (1, .int (iZ (r0)))] dX4_times_27 rfl (by decide) rfl ?_
      have lp : ∀ (d : Nat) (k : Nat) (hh : Nat → Int64), 9 < k + d → k ≤ 9 → (∀ i : Nat, i < k → (hh i).toInt = tmz g r0 i) → ZW p l e ({ frames := 3, cells := 0, slots := 0, locals := 63 }) s m ([.ref ri, .int (iZ (r0))] : List Value).toArray below meth c D (va_A ((ri, .inr (4, [.ref ra, .ref rb, .int (fd), .ref lv, .ref ce, .ref en, .ref re, .ref cx, .int (hfl), .ref px, .ref pq, .ref fx, .ref lo, .ref hi])) :: (ra, .inl (G 0, 9, .inl g)) :: (rb, .inl (G 0, 9, .inl g2)) :: (fx, .inl (G 1, 9, .inr (.inl h))) :: X : va_W) sz) 4 0 0 (MQ below (va_Qi (fun (r : Int32) (u : cS) => ∃ N0 : Nat, tpN (gp g) 9 N0 ∧ ((N0 = 0 ∧ r = iZ (-3) ∧ u = (((ri, .inr (4, [.ref ra, .ref rb, .int (fd), .ref lv, .ref ce, .ref en, .ref re, .ref cx, .int (hfl), .ref px, .ref pq, .ref fx, .ref lo, .ref hi])) :: (ra, .inl (G 0, 9, .inl g)) :: (rb, .inl (G 0, 9, .inl g2)) :: (fx, .inl (G 1, 9, .inr (.inl h))) :: X : va_W), 0, 0)) ∨ (N0 = 9 ∧ r = iZ (-5) ∧ u = (((ri, .inr (4, [.ref ra, .ref rb, .int (fd), .ref lv, .ref ce, .ref en, .ref re, .ref cx, .int (hfl), .ref px, .ref pq, .ref fx, .ref lo, .ref hi])) :: (ra, .inl (G 0, 9, .inl g)) :: (rb, .inl (G 0, 9, .inl g2)) :: (fx, .inl (G 1, 9, .inr (.inl h))) :: X : va_W), 0, 0)) ∨ (1 ≤ N0 ∧ N0 ≤ 8 ∧ ∃ h9 : Nat → Int64, (∀ i : Nat, i < 9 → (h9 i).toInt = tmz g r0 i) ∧ (((∀ i : Nat, i < 9 → -1000000000 ≤ (h9 i).toInt ∧ (h9 i).toInt ≤ 1000000000) ∧ ∃ (g9 : Nat → Int32) (N : Nat), (∀ i : Nat, i < 9 → g9 i = iZ (h9 i).toInt) ∧ tpN (gp g9) 9 N ∧ r = iZ (tpv N) ∧ u = (((ri, .inr (4, [.ref ra, .ref rb, .int (iZ ((-1))), .ref lv, .ref ce, .ref en, .ref re, .ref cx, .int (iZ ((-1))), .ref px, .ref pq, .ref fx, .ref lo, .ref hi])) :: (ra, .inl (G 0, 9, .inl g9)) :: (rb, .inl (G 0, 9, .inl g2)) :: (fx, .inl (G 1, 9, .inr (.inl h9))) :: X : va_W), 0, 0)) ∨ (¬ (∀ i : Nat, i < 9 → -1000000000 ≤ (h9 i).toInt ∧ (h9 i).toInt ≤ 1000000000) ∧ r = iZ (-5) ∧ u = (((ri, .inr (4, [.ref ra, .ref rb, .int (fd), .ref lv, .ref ce, .ref en, .ref re, .ref cx, .int (hfl), .ref px, .ref pq, .ref fx, .ref lo, .ref hi])) :: (ra, .inl (G 0, 9, .inl g)) :: (rb, .inl (G 0, 9, .inl g2)) :: (fx, .inl (G 1, 9, .inr (.inl h9))) :: X : va_W), 0, 0)))))) (cAt D G (va_A ((ri, .inr (4, [.ref ra, .ref rb, .int (fd), .ref lv, .ref ce, .ref en, .ref re, .ref cx, .int (hfl), .ref px, .ref pq, .ref fx, .ref lo, .ref hi])) :: (ra, .inl (G 0, 9, .inl g)) :: (rb, .inl (G 0, 9, .inl g2)) :: (fx, .inl (G 1, 9, .inr (.inl h))) :: X : va_W) sz) sz hs) (va_A ((ri, .inr (4, [.ref ra, .ref rb, .int (fd), .ref lv, .ref ce, .ref en, .ref re, .ref cx, .int (hfl), .ref px, .ref pq, .ref fx, .ref lo, .ref hi])) :: (ra, .inl (G 0, 9, .inl g)) :: (rb, .inl (G 0, 9, .inl g2)) :: (fx, .inl (G 1, 9, .inr (.inl h))) :: X : va_W) sz)) ([.ref ri, .int (iZ (r0))] : List Value).toArray s 0 0 (va_A ((ri, .inr (4, [.ref ra, .ref rb, .int (fd), .ref lv, .ref ce, .ref en, .ref re, .ref cx, .int (hfl), .ref px, .ref pq, .ref fx, .ref lo, .ref hi])) :: (ra, .inl (G 0, 9, .inl g)) :: (rb, .inl (G 0, 9, .inl g2)) :: (fx, .inl (G 1, 9, .inr (.inl h))) :: X : va_W) sz)) ((ri, .inr (4, [.ref ra, .ref rb, .int (fd), .ref lv, .ref ce, .ref en, .ref re, .ref cx, .int (hfl), .ref px, .ref pq, .ref fx, .ref lo, .ref hi])) :: (ra, .inl (G 0, 9, .inl g)) :: (rb, .inl (G 0, 9, .inl g2)) :: (fx, .inl (G 1, 9, .inr (.inl hh))) :: X : va_W) 28 [(3, .int (iZ ((k : Int)))), (2, .int (iZ (tv))), (0, .ref ri), (1, .int (iZ (r0)))] [] := by
        intro d
        induction d with
        | zero =>
          intro k hh hd hk hdz
          exact absurd hd (by omega)
        | succ d ih2 =>
          intro k hh hd hk hdz
          refine w_iload_n C dX4_times_28 0 rfl ?_
          refine w_bipush C dX4_times_29 (by decide) ?_
          refine w_icmp_gt C 74 dX4_times_31 (by decide) ⟨⟨by omega, by omega⟩, by omega, by omega⟩ (fun c31 => ?_) (fun c31 => ?_)
          · have hk9 : k = 9 := by omega
            refine w_aload_n C dX4_times_74 2 rfl ?_
            obtain ⟨h9, hh9⟩ : ∃ x : Nat → Int64, x = hh := ⟨_, rfl⟩
            rw [← hh9]
            have hd9 : (∀ i : Nat, i < 9 → (h9 i).toInt = tmz g r0 i) := fun i hi => by
              rw [hh9]
              exact hdz i (by omega)
            refine g_calli [] hA C hNs nT_ok (cw_replaceA l D G X ri ra rb lv ce en re cx px pq fx lo hi fd hfl g g2 h9) (cwV 0 C.1.2.2.2.2 (wC_V kX4_154 nX4_replaceA slX4_replaceA iniX4 cdX4_replaceA) rfl rfl rfl (by decide +kernel) ⟨Nat.le_of_ble_eq_true rfl, Nat.le_of_ble_eq_true rfl⟩) (q0 := 0) rfl rfl rfl rfl ⟨Nat.le_refl _, Nat.le_refl _⟩ (Nat.le_of_ble_eq_true rfl) dX4_times_75 [.ref ri] rfl (fun r v102 hv102 => ?_)
            rcases hv102 with ⟨hok, g9, N, hg9, htN, rfl, rfl⟩ | ⟨hok, rfl, rfl⟩
            · refine w_cs 0 0 rfl rfl ?_
              exact g_iret hsz hhs C hr hlk ⟨by omega, by omega⟩ (⟨N0, htp, Or.inr (Or.inr ⟨by omega, by omega, h9, hd9, Or.inl ⟨hok, g9, N, hg9, htN, rfl, rfl⟩⟩)⟩) dX4_times_78
            · refine w_cs 0 0 rfl rfl ?_
              exact g_iret hsz hhs C hr hlk ⟨by omega, by omega⟩ (⟨N0, htp, Or.inr (Or.inr ⟨by omega, by omega, h9, hd9, Or.inr ⟨hok, rfl, rfl⟩⟩)⟩) dX4_times_78
          · refine w_aload_n C dX4_times_34 2 rfl ?_
            refine w_get (ci := 4) (ref := "RootIsolator") (T := TX4) (Cn := RX4) (N := 14) C (fun w h => wC_in (inX4 w h)) 0 rfl rfl 11 (by decide) (wC_in fX4_59) rfl rfl dX4_times_35 ?_
            refine w_iload_n C dX4_times_38 0 rfl ?_
            refine w_iload_n C dX4_times_39 0 rfl ?_
            have J103 : ZW p l e ({ frames := 3, cells := 0, slots := 0, locals := 63 }) s m ([.ref ri, .int (iZ (r0))] : List Value).toArray below meth c D (va_A ((ri, .inr (4, [.ref ra, .ref rb, .int (fd), .ref lv, .ref ce, .ref en, .ref re, .ref cx, .int (hfl), .ref px, .ref pq, .ref fx, .ref lo, .ref hi])) :: (ra, .inl (G 0, 9, .inl g)) :: (rb, .inl (G 0, 9, .inl g2)) :: (fx, .inl (G 1, 9, .inr (.inl h))) :: X : va_W) sz) 4 0 0 (MQ below (va_Qi (fun (r : Int32) (u : cS) => ∃ N0 : Nat, tpN (gp g) 9 N0 ∧ ((N0 = 0 ∧ r = iZ (-3) ∧ u = (((ri, .inr (4, [.ref ra, .ref rb, .int (fd), .ref lv, .ref ce, .ref en, .ref re, .ref cx, .int (hfl), .ref px, .ref pq, .ref fx, .ref lo, .ref hi])) :: (ra, .inl (G 0, 9, .inl g)) :: (rb, .inl (G 0, 9, .inl g2)) :: (fx, .inl (G 1, 9, .inr (.inl h))) :: X : va_W), 0, 0)) ∨ (N0 = 9 ∧ r = iZ (-5) ∧ u = (((ri, .inr (4, [.ref ra, .ref rb, .int (fd), .ref lv, .ref ce, .ref en, .ref re, .ref cx, .int (hfl), .ref px, .ref pq, .ref fx, .ref lo, .ref hi])) :: (ra, .inl (G 0, 9, .inl g)) :: (rb, .inl (G 0, 9, .inl g2)) :: (fx, .inl (G 1, 9, .inr (.inl h))) :: X : va_W), 0, 0)) ∨ (1 ≤ N0 ∧ N0 ≤ 8 ∧ ∃ h9 : Nat → Int64, (∀ i : Nat, i < 9 → (h9 i).toInt = tmz g r0 i) ∧ (((∀ i : Nat, i < 9 → -1000000000 ≤ (h9 i).toInt ∧ (h9 i).toInt ≤ 1000000000) ∧ ∃ (g9 : Nat → Int32) (N : Nat), (∀ i : Nat, i < 9 → g9 i = iZ (h9 i).toInt) ∧ tpN (gp g9) 9 N ∧ r = iZ (tpv N) ∧ u = (((ri, .inr (4, [.ref ra, .ref rb, .int (iZ ((-1))), .ref lv, .ref ce, .ref en, .ref re, .ref cx, .int (iZ ((-1))), .ref px, .ref pq, .ref fx, .ref lo, .ref hi])) :: (ra, .inl (G 0, 9, .inl g9)) :: (rb, .inl (G 0, 9, .inl g2)) :: (fx, .inl (G 1, 9, .inr (.inl h9))) :: X : va_W), 0, 0)) ∨ (¬ (∀ i : Nat, i < 9 → -1000000000 ≤ (h9 i).toInt ∧ (h9 i).toInt ≤ 1000000000) ∧ r = iZ (-5) ∧ u = (((ri, .inr (4, [.ref ra, .ref rb, .int (fd), .ref lv, .ref ce, .ref en, .ref re, .ref cx, .int (hfl), .ref px, .ref pq, .ref fx, .ref lo, .ref hi])) :: (ra, .inl (G 0, 9, .inl g)) :: (rb, .inl (G 0, 9, .inl g2)) :: (fx, .inl (G 1, 9, .inr (.inl h9))) :: X : va_W), 0, 0)))))) (cAt D G (va_A ((ri, .inr (4, [.ref ra, .ref rb, .int (fd), .ref lv, .ref ce, .ref en, .ref re, .ref cx, .int (hfl), .ref px, .ref pq, .ref fx, .ref lo, .ref hi])) :: (ra, .inl (G 0, 9, .inl g)) :: (rb, .inl (G 0, 9, .inl g2)) :: (fx, .inl (G 1, 9, .inr (.inl h))) :: X : va_W) sz) sz hs) (va_A ((ri, .inr (4, [.ref ra, .ref rb, .int (fd), .ref lv, .ref ce, .ref en, .ref re, .ref cx, .int (hfl), .ref px, .ref pq, .ref fx, .ref lo, .ref hi])) :: (ra, .inl (G 0, 9, .inl g)) :: (rb, .inl (G 0, 9, .inl g2)) :: (fx, .inl (G 1, 9, .inr (.inl h))) :: X : va_W) sz)) ([.ref ri, .int (iZ (r0))] : List Value).toArray s 0 0 (va_A ((ri, .inr (4, [.ref ra, .ref rb, .int (fd), .ref lv, .ref ce, .ref en, .ref re, .ref cx, .int (hfl), .ref px, .ref pq, .ref fx, .ref lo, .ref hi])) :: (ra, .inl (G 0, 9, .inl g)) :: (rb, .inl (G 0, 9, .inl g2)) :: (fx, .inl (G 1, 9, .inr (.inl h))) :: X : va_W) sz)) ((ri, .inr (4, [.ref ra, .ref rb, .int (fd), .ref lv, .ref ce, .ref en, .ref re, .ref cx, .int (hfl), .ref px, .ref pq, .ref fx, .ref lo, .ref hi])) :: (ra, .inl (G 0, 9, .inl g)) :: (rb, .inl (G 0, 9, .inl g2)) :: (fx, .inl (G 1, 9, .inr (.inl hh))) :: X : va_W) 55 [(3, .int (iZ ((k : Int)))), (2, .int (iZ (tv))), (0, .ref ri), (1, .int (iZ (r0)))] [.int (iZ ((if 0 < k then (g (k - 1)).toInt else 0))), .int (iZ ((k : Int))), .ref fx] := by
              refine w_i2l C dX4_times_55 ⟨by have := i32r (g (k - 1)); split <;> omega, by have := i32r (g (k - 1)); split <;> omega⟩ ?_
              refine w_iload_n C dX4_times_56 3 rfl ?_
              refine w_i2l C dX4_times_57 ⟨by omega, by omega⟩ ?_
              refine w_aload_n C dX4_times_58 2 rfl ?_
              refine w_get (ci := 4) (ref := "RootIsolator") (T := TX4) (Cn := RX4) (N := 14) C (fun w h => wC_in (inX4 w h)) 0 rfl rfl 0 (by decide) (wC_in fX4_9) rfl rfl dX4_times_59 ?_
              refine w_iload_n C dX4_times_62 0 rfl ?_
              refine w_iald C 1 0 rfl rfl (k) ((g (k)).toInt) ⟨by omega, by omega, by omega⟩ ((iZ_self _).symm) dX4_times_63 ?_
              refine w_i2l C dX4_times_64 (i32r _) ?_
              refine w_lmul C dX4_times_65 ?_
              refine w_lsub C dX4_times_66 ?_
              refine w_last C ((ri, .inr (4, [.ref ra, .ref rb, .int (fd), .ref lv, .ref ce, .ref en, .ref re, .ref cx, .int (hfl), .ref px, .ref pq, .ref fx, .ref lo, .ref hi])) :: (ra, .inl (G 0, 9, .inl g)) :: (rb, .inl (G 0, 9, .inl g2)) :: (fx, .inl (G 1, 9, .inr (.inl (vp_updL hh (k) (lZ (((if 0 < k then (g (k - 1)).toInt else 0)) - (r0 * ((g (k)).toInt)))))))) :: X : va_W) 3 1 rfl rfl (k) ⟨by omega, by omega, by omega⟩ rfl dX4_times_67 ?_
              refine w_iinc C (((k + 1 : Nat) : Int)) (by omega) [(3, .int (iZ (((k + 1 : Nat) : Int)))), (2, .int (iZ (tv))), (0, .ref ri), (1, .int (iZ (r0)))] dX4_times_68 0 rfl (by decide) rfl ?_
              refine w_goto C 28 dX4_times_71 (by decide) ?_
              exact ih2 (k + 1) _ (by omega) (by omega) (fun i hi => by
                by_cases q : i = k
                · rw [q, updL_eq]
                  exact lZ_toInt (tmz_r g hr0 k).1 (tmz_r g hr0 k).2
                · rw [updL_ne q]; exact hdz i (by omega))
            refine w_if_le C 54 dX4_times_40 (by decide) ⟨by omega, by omega⟩ (fun c40 => ?_) (fun c40 => ?_)
            · refine w_iconst C dX4_times_54 ?_
              refine w_top C ((if 0 < k then (g (k - 1)).toInt else 0)) (by rw [if_neg (by omega)]) ?_
              exact J103
            · refine w_aload_n C dX4_times_43 2 rfl ?_
              refine w_get (ci := 4) (ref := "RootIsolator") (T := TX4) (Cn := RX4) (N := 14) C (fun w h => wC_in (inX4 w h)) 0 rfl rfl 0 (by decide) (wC_in fX4_9) rfl rfl dX4_times_44 ?_
              refine w_iload_n C dX4_times_47 0 rfl ?_
              refine w_iconst C dX4_times_48 ?_
              refine w_isub C dX4_times_49 ?_
              refine w_iald C 1 0 rfl rfl (k - 1) ((g (k - 1)).toInt) ⟨by omega, by omega, by omega⟩ ((iZ_self _).symm) dX4_times_50 ?_
              refine w_goto C 55 dX4_times_51 (by decide) ?_
              refine w_top C ((if 0 < k then (g (k - 1)).toInt else 0)) (by rw [if_pos (by omega)]) ?_
              exact J103
      exact lp 10 0 h (by omega) (by omega) (fun i hi => absurd hi (by omega))
    · refine w_bipush C dX4_times_23 (by decide) ?_
      exact g_iret hsz hhs C hr hlk ⟨by omega, by omega⟩ (⟨N0, htp, Or.inr (Or.inl ⟨by omega, rfl, rfl⟩)⟩) dX4_times_25
  · refine w_bipush C dX4_times_14 (by decide) ?_
    exact g_iret hsz hhs C hr hlk ⟨by omega, by omega⟩ (⟨N0, htp, Or.inl ⟨by omega, rfl, rfl⟩⟩) dX4_times_16
