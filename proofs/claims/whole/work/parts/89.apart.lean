set_option maxHeartbeats 4000000 in
set_option maxRecDepth 100000 in
theorem cw_isApart (l : Launch) (D : va_G) (G : Nat → ClassId) (X : va_W) (ri ra rb lv ce en re cx px pq fx lo hi : Nat) (fd hfl : Int32) (i ct : Nat) (fl fh : Nat → Int64) (hic : i < ct ∧ ct ≤ 8) (sz hs : Nat) : Met l yX4_isApart (wC yX4_isApart cX4_isApart 3 (some .boolean)) ({ frames := 0, cells := 0, slots := 0, locals := 0 }) (va_Pc [.ref ri, .int (iZ ((i : Int))), .int (iZ ((ct : Int)))] (cPre nT D G ((ri, .inr (4, [.ref ra, .ref rb, .int (fd), .ref lv, .ref ce, .ref en, .ref re, .ref cx, .int (hfl), .ref px, .ref pq, .ref fx, .ref lo, .ref hi])) :: (lo, .inl (G 1, 8, .inr (.inl fl))) :: (hi, .inl (G 1, 8, .inr (.inl fh))) :: X : va_W) sz hs)) (va_Qi (fun (r : Int32) (u : cS) => r = iZ (if ((i = 0 ∨ (fh (i - 1)).toInt ≤ (fl i).toInt) ∧ (ct ≤ i + 1 ∨ (fh i).toInt ≤ (fl (i + 1)).toInt)) then 1 else 0) ∧ u = (((ri, .inr (4, [.ref ra, .ref rb, .int (fd), .ref lv, .ref ce, .ref en, .ref re, .ref cx, .int (hfl), .ref px, .ref pq, .ref fx, .ref lo, .ref hi])) :: (lo, .inl (G 1, 8, .inr (.inl fl))) :: (hi, .inl (G 1, 8, .inr (.inl fh))) :: X : va_W), 0, 0)) (cAt D G (va_A ((ri, .inr (4, [.ref ra, .ref rb, .int (fd), .ref lv, .ref ce, .ref en, .ref re, .ref cx, .int (hfl), .ref px, .ref pq, .ref fx, .ref lo, .ref hi])) :: (lo, .inl (G 1, 8, .inr (.inl fl))) :: (hi, .inl (G 1, 8, .inr (.inl fh))) :: X : va_W) sz) sz hs) (va_A ((ri, .inr (4, [.ref ra, .ref rb, .int (fd), .ref lv, .ref ce, .ref en, .ref re, .ref cx, .int (hfl), .ref px, .ref pq, .ref fx, .ref lo, .ref hi])) :: (lo, .inl (G 1, 8, .inr (.inl fl))) :: (hi, .inl (G 1, 8, .inr (.inl fh))) :: X : va_W) sz)) 0 0 (va_A ((ri, .inr (4, [.ref ra, .ref rb, .int (fd), .ref lv, .ref ce, .ref en, .ref re, .ref cx, .int (hfl), .ref px, .ref pq, .ref fx, .ref lo, .ref hi])) :: (lo, .inl (G 1, 8, .inr (.inl fl))) :: (hi, .inl (G 1, 8, .inr (.inl fh))) :: X : va_W) sz) := by
  refine g_met (cc := cX4_isApart) (maxL := 3) (ret := (some .boolean)) (own := RX4) (by decide) rfl rfl (Nat.le_of_ble_eq_true rfl) ?_
  intro p e s m below meth c hsz hhs hNs hA C hr hlk
  refine w_sub [(0, .ref ri), (1, .int (iZ ((i : Int)))), (2, .int (iZ ((ct : Int))))] [0, 1, 2] rfl ?_
  refine w_iload_n C dX4_isApart_0 1 rfl ?_
  refine w_if_eq C 22 dX4_isApart_1 (by decide) ⟨by omega, by omega⟩ (fun c1 => ?_) (fun c1 => ?_)
  · refine w_iload_n C dX4_isApart_22 1 rfl ?_
    refine w_iconst C dX4_isApart_23 ?_
    refine w_iadd C dX4_isApart_24 ?_
    refine w_iload_n C dX4_isApart_25 2 rfl ?_
    refine w_icmp_ge C 47 dX4_isApart_26 (by decide) ⟨⟨by omega, by omega⟩, by omega, by omega⟩ (fun c26 => ?_) (fun c26 => ?_)
    · refine w_iconst C dX4_isApart_47 ?_
      refine w_goto C 52 dX4_isApart_48 (by decide) ?_
      exact g_zret hsz hhs C hr (by decide) hlk ⟨by omega, by omega⟩ ⟨congrArg iZ (if_pos (by omega)).symm, rfl⟩ dX4_isApart_52
    · refine w_aload_n C dX4_isApart_29 0 rfl ?_
      refine w_get (ci := 4) (ref := "RootIsolator") (T := TX4) (Cn := RX4) (N := 14) C (fun w h => wC_in (inX4 w h)) 0 rfl rfl 13 (by decide) (wC_in fX4_65) rfl rfl dX4_isApart_30 ?_
      refine w_iload_n C dX4_isApart_33 1 rfl ?_
      refine w_lald C 2 1 rfl rfl (i) ((fh (i)).toInt) ⟨by omega, by omega, by omega⟩ ((lZ_self _).symm) dX4_isApart_34 ?_
      refine w_aload_n C dX4_isApart_35 0 rfl ?_
      refine w_get (ci := 4) (ref := "RootIsolator") (T := TX4) (Cn := RX4) (N := 14) C (fun w h => wC_in (inX4 w h)) 0 rfl rfl 12 (by decide) (wC_in fX4_62) rfl rfl dX4_isApart_36 ?_
      refine w_iload_n C dX4_isApart_39 1 rfl ?_
      refine w_iconst C dX4_isApart_40 ?_
      refine w_iadd C dX4_isApart_41 ?_
      refine w_lald C 1 1 rfl rfl (i + 1) ((fl (i + 1)).toInt) ⟨by omega, by omega, by omega⟩ ((lZ_self _).symm) dX4_isApart_42 ?_
      refine w_lif_gt C 51 dX4_isApart_43 dX4_isApart_44 (by decide) ⟨i64r _, i64r _⟩ (fun c43 => ?_) (fun c43 => ?_)
      · refine w_iconst C dX4_isApart_51 ?_
        exact g_zret hsz hhs C hr (by decide) hlk ⟨by omega, by omega⟩ ⟨congrArg iZ (if_neg (by omega)).symm, rfl⟩ dX4_isApart_52
      · refine w_iconst C dX4_isApart_47 ?_
        refine w_goto C 52 dX4_isApart_48 (by decide) ?_
        exact g_zret hsz hhs C hr (by decide) hlk ⟨by omega, by omega⟩ ⟨congrArg iZ (if_pos (by omega)).symm, rfl⟩ dX4_isApart_52
  · refine w_aload_n C dX4_isApart_4 0 rfl ?_
    refine w_get (ci := 4) (ref := "RootIsolator") (T := TX4) (Cn := RX4) (N := 14) C (fun w h => wC_in (inX4 w h)) 0 rfl rfl 13 (by decide) (wC_in fX4_65) rfl rfl dX4_isApart_5 ?_
    refine w_iload_n C dX4_isApart_8 1 rfl ?_
    refine w_iconst C dX4_isApart_9 ?_
    refine w_isub C dX4_isApart_10 ?_
    refine w_lald C 2 1 rfl rfl (i - 1) ((fh (i - 1)).toInt) ⟨by omega, by omega, by omega⟩ ((lZ_self _).symm) dX4_isApart_11 ?_
    refine w_aload_n C dX4_isApart_12 0 rfl ?_
    refine w_get (ci := 4) (ref := "RootIsolator") (T := TX4) (Cn := RX4) (N := 14) C (fun w h => wC_in (inX4 w h)) 0 rfl rfl 12 (by decide) (wC_in fX4_62) rfl rfl dX4_isApart_13 ?_
    refine w_iload_n C dX4_isApart_16 1 rfl ?_
    refine w_lald C 1 1 rfl rfl (i) ((fl (i)).toInt) ⟨by omega, by omega, by omega⟩ ((lZ_self _).symm) dX4_isApart_17 ?_
    refine w_lif_gt C 51 dX4_isApart_18 dX4_isApart_19 (by decide) ⟨i64r _, i64r _⟩ (fun c18 => ?_) (fun c18 => ?_)
    · refine w_iconst C dX4_isApart_51 ?_
      exact g_zret hsz hhs C hr (by decide) hlk ⟨by omega, by omega⟩ ⟨congrArg iZ (if_neg (by omega)).symm, rfl⟩ dX4_isApart_52
    · refine w_iload_n C dX4_isApart_22 1 rfl ?_
      refine w_iconst C dX4_isApart_23 ?_
      refine w_iadd C dX4_isApart_24 ?_
      refine w_iload_n C dX4_isApart_25 2 rfl ?_
      refine w_icmp_ge C 47 dX4_isApart_26 (by decide) ⟨⟨by omega, by omega⟩, by omega, by omega⟩ (fun c26 => ?_) (fun c26 => ?_)
      · refine w_iconst C dX4_isApart_47 ?_
        refine w_goto C 52 dX4_isApart_48 (by decide) ?_
        exact g_zret hsz hhs C hr (by decide) hlk ⟨by omega, by omega⟩ ⟨congrArg iZ (if_pos (by omega)).symm, rfl⟩ dX4_isApart_52
      · refine w_aload_n C dX4_isApart_29 0 rfl ?_
        refine w_get (ci := 4) (ref := "RootIsolator") (T := TX4) (Cn := RX4) (N := 14) C (fun w h => wC_in (inX4 w h)) 0 rfl rfl 13 (by decide) (wC_in fX4_65) rfl rfl dX4_isApart_30 ?_
        refine w_iload_n C dX4_isApart_33 1 rfl ?_
        refine w_lald C 2 1 rfl rfl (i) ((fh (i)).toInt) ⟨by omega, by omega, by omega⟩ ((lZ_self _).symm) dX4_isApart_34 ?_
        refine w_aload_n C dX4_isApart_35 0 rfl ?_
        refine w_get (ci := 4) (ref := "RootIsolator") (T := TX4) (Cn := RX4) (N := 14) C (fun w h => wC_in (inX4 w h)) 0 rfl rfl 12 (by decide) (wC_in fX4_62) rfl rfl dX4_isApart_36 ?_
        refine w_iload_n C dX4_isApart_39 1 rfl ?_
        refine w_iconst C dX4_isApart_40 ?_
        refine w_iadd C dX4_isApart_41 ?_
        refine w_lald C 1 1 rfl rfl (i + 1) ((fl (i + 1)).toInt) ⟨by omega, by omega, by omega⟩ ((lZ_self _).symm) dX4_isApart_42 ?_
        refine w_lif_gt C 51 dX4_isApart_43 dX4_isApart_44 (by decide) ⟨i64r _, i64r _⟩ (fun c43 => ?_) (fun c43 => ?_)
        · refine w_iconst C dX4_isApart_51 ?_
          exact g_zret hsz hhs C hr (by decide) hlk ⟨by omega, by omega⟩ ⟨congrArg iZ (if_neg (by omega)).symm, rfl⟩ dX4_isApart_52
        · refine w_iconst C dX4_isApart_47 ?_
          refine w_goto C 52 dX4_isApart_48 (by decide) ?_
          exact g_zret hsz hhs C hr (by decide) hlk ⟨by omega, by omega⟩ ⟨congrArg iZ (if_pos (by omega)).symm, rfl⟩ dX4_isApart_52
set_option maxHeartbeats 4000000 in
set_option maxRecDepth 100000 in
theorem cw_isAlone (l : Launch) (D : va_G) (G : Nat → ClassId) (X : va_W) (ri ra rb lv ce en re cx px pq fx lo hi : Nat) (fd hfl : Int32) (i ct : Nat) (gl : Nat → Int32) (gc9 : Nat → Int64) (hic : i < ct ∧ ct ≤ 8) (sz hs : Nat) : Met l yX4_isAlone (wC yX4_isAlone cX4_isAlone 5 (some .boolean)) ({ frames := 0, cells := 0, slots := 0, locals := 0 }) (va_Pc [.ref ri, .int (iZ ((i : Int))), .int (iZ ((ct : Int)))] (cPre nT D G ((ri, .inr (4, [.ref ra, .ref rb, .int (fd), .ref lv, .ref ce, .ref en, .ref re, .ref cx, .int (hfl), .ref px, .ref pq, .ref fx, .ref lo, .ref hi])) :: (lv, .inl (G 0, 8, .inl gl)) :: (ce, .inl (G 1, 8, .inr (.inl gc9))) :: X : va_W) sz hs)) (va_Qi (fun (r : Int32) (u : cS) => r = iZ (if (¬ (0 < i ∧ (gl (i - 1)).toInt = -1 ∧ (gc9 (i - 1)).toInt = (gc9 i).toInt) ∧ ¬ (i + 1 < ct ∧ (gl (i + 1)).toInt = -1 ∧ (gc9 (i + 1)).toInt = (gc9 i).toInt)) then 1 else 0) ∧ u = (((ri, .inr (4, [.ref ra, .ref rb, .int (fd), .ref lv, .ref ce, .ref en, .ref re, .ref cx, .int (hfl), .ref px, .ref pq, .ref fx, .ref lo, .ref hi])) :: (lv, .inl (G 0, 8, .inl gl)) :: (ce, .inl (G 1, 8, .inr (.inl gc9))) :: X : va_W), 0, 0)) (cAt D G (va_A ((ri, .inr (4, [.ref ra, .ref rb, .int (fd), .ref lv, .ref ce, .ref en, .ref re, .ref cx, .int (hfl), .ref px, .ref pq, .ref fx, .ref lo, .ref hi])) :: (lv, .inl (G 0, 8, .inl gl)) :: (ce, .inl (G 1, 8, .inr (.inl gc9))) :: X : va_W) sz) sz hs) (va_A ((ri, .inr (4, [.ref ra, .ref rb, .int (fd), .ref lv, .ref ce, .ref en, .ref re, .ref cx, .int (hfl), .ref px, .ref pq, .ref fx, .ref lo, .ref hi])) :: (lv, .inl (G 0, 8, .inl gl)) :: (ce, .inl (G 1, 8, .inr (.inl gc9))) :: X : va_W) sz)) 0 0 (va_A ((ri, .inr (4, [.ref ra, .ref rb, .int (fd), .ref lv, .ref ce, .ref en, .ref re, .ref cx, .int (hfl), .ref px, .ref pq, .ref fx, .ref lo, .ref hi])) :: (lv, .inl (G 0, 8, .inl gl)) :: (ce, .inl (G 1, 8, .inr (.inl gc9))) :: X : va_W) sz) := by
  refine g_met (cc := cX4_isAlone) (maxL := 5) (ret := (some .boolean)) (own := RX4) (by decide) rfl rfl (Nat.le_of_ble_eq_true rfl) ?_
  intro p e s m below meth c hsz hhs hNs hA C hr hlk
  refine w_sub [(0, .ref ri), (1, .int (iZ ((i : Int)))), (2, .int (iZ ((ct : Int))))] [0, 1, 2] rfl ?_
  obtain ⟨wl, hwl⟩ : ∃ x : Int, x = (if 0 < i ∧ (gl (i - 1)).toInt = -1 ∧ (gc9 (i - 1)).toInt = (gc9 i).toInt then 1 else 0) := ⟨_, rfl⟩
  obtain ⟨wu, hwu⟩ : ∃ x : Int, x = (if i + 1 < ct ∧ (gl (i + 1)).toInt = -1 ∧ (gc9 (i + 1)).toInt = (gc9 i).toInt then 1 else 0) := ⟨_, rfl⟩
  have hwr : 0 ≤ wl ∧ wl ≤ 1 := by rw [hwl]; split <;> omega
  have hur : 0 ≤ wu ∧ wu ≤ 1 := by rw [hwu]; split <;> omega
  refine w_iload_n C dX4_isAlone_0 1 rfl ?_
  have J1 : ZW p l e ({ frames := 0, cells := 0, slots := 0, locals := 0 }) s m ([.ref ri, .int (iZ ((i : Int))), .int (iZ ((ct : Int)))] : List Value).toArray below meth c D (va_A ((ri, .inr (4, [.ref ra, .ref rb, .int (fd), .ref lv, .ref ce, .ref en, .ref re, .ref cx, .int (hfl), .ref px, .ref pq, .ref fx, .ref lo, .ref hi])) :: (lv, .inl (G 0, 8, .inl gl)) :: (ce, .inl (G 1, 8, .inr (.inl gc9))) :: X : va_W) sz) 5 0 0 (MQ below (va_Qi (fun (r : Int32) (u : cS) => r = iZ (if (¬ (0 < i ∧ (gl (i - 1)).toInt = -1 ∧ (gc9 (i - 1)).toInt = (gc9 i).toInt) ∧ ¬ (i + 1 < ct ∧ (gl (i + 1)).toInt = -1 ∧ (gc9 (i + 1)).toInt = (gc9 i).toInt)) then 1 else 0) ∧ u = (((ri, .inr (4, [.ref ra, .ref rb, .int (fd), .ref lv, .ref ce, .ref en, .ref re, .ref cx, .int (hfl), .ref px, .ref pq, .ref fx, .ref lo, .ref hi])) :: (lv, .inl (G 0, 8, .inl gl)) :: (ce, .inl (G 1, 8, .inr (.inl gc9))) :: X : va_W), 0, 0)) (cAt D G (va_A ((ri, .inr (4, [.ref ra, .ref rb, .int (fd), .ref lv, .ref ce, .ref en, .ref re, .ref cx, .int (hfl), .ref px, .ref pq, .ref fx, .ref lo, .ref hi])) :: (lv, .inl (G 0, 8, .inl gl)) :: (ce, .inl (G 1, 8, .inr (.inl gc9))) :: X : va_W) sz) sz hs) (va_A ((ri, .inr (4, [.ref ra, .ref rb, .int (fd), .ref lv, .ref ce, .ref en, .ref re, .ref cx, .int (hfl), .ref px, .ref pq, .ref fx, .ref lo, .ref hi])) :: (lv, .inl (G 0, 8, .inl gl)) :: (ce, .inl (G 1, 8, .inr (.inl gc9))) :: X : va_W) sz)) ([.ref ri, .int (iZ ((i : Int))), .int (iZ ((ct : Int)))] : List Value).toArray s 0 0 (va_A ((ri, .inr (4, [.ref ra, .ref rb, .int (fd), .ref lv, .ref ce, .ref en, .ref re, .ref cx, .int (hfl), .ref px, .ref pq, .ref fx, .ref lo, .ref hi])) :: (lv, .inl (G 0, 8, .inl gl)) :: (ce, .inl (G 1, 8, .inr (.inl gc9))) :: X : va_W) sz)) ((ri, .inr (4, [.ref ra, .ref rb, .int (fd), .ref lv, .ref ce, .ref en, .ref re, .ref cx, .int (hfl), .ref px, .ref pq, .ref fx, .ref lo, .ref hi])) :: (lv, .inl (G 0, 8, .inl gl)) :: (ce, .inl (G 1, 8, .inr (.inl gc9))) :: X : va_W) 39 [(0, .ref ri), (1, .int (iZ ((i : Int)))), (2, .int (iZ ((ct : Int))))] [.int (iZ (wl))] := by
    refine w_istore_n C [(3, .int (iZ (wl))), (0, .ref ri), (1, .int (iZ ((i : Int)))), (2, .int (iZ ((ct : Int))))] dX4_isAlone_39 rfl (by decide) rfl ?_
    refine w_iload_n C dX4_isAlone_40 2 rfl ?_
    refine w_iconst C dX4_isAlone_41 ?_
    refine w_iadd C dX4_isAlone_42 ?_
    refine w_iload_n C dX4_isAlone_43 3 rfl ?_
    have J2 : ZW p l e ({ frames := 0, cells := 0, slots := 0, locals := 0 }) s m ([.ref ri, .int (iZ ((i : Int))), .int (iZ ((ct : Int)))] : List Value).toArray below meth c D (va_A ((ri, .inr (4, [.ref ra, .ref rb, .int (fd), .ref lv, .ref ce, .ref en, .ref re, .ref cx, .int (hfl), .ref px, .ref pq, .ref fx, .ref lo, .ref hi])) :: (lv, .inl (G 0, 8, .inl gl)) :: (ce, .inl (G 1, 8, .inr (.inl gc9))) :: X : va_W) sz) 5 0 0 (MQ below (va_Qi (fun (r : Int32) (u : cS) => r = iZ (if (¬ (0 < i ∧ (gl (i - 1)).toInt = -1 ∧ (gc9 (i - 1)).toInt = (gc9 i).toInt) ∧ ¬ (i + 1 < ct ∧ (gl (i + 1)).toInt = -1 ∧ (gc9 (i + 1)).toInt = (gc9 i).toInt)) then 1 else 0) ∧ u = (((ri, .inr (4, [.ref ra, .ref rb, .int (fd), .ref lv, .ref ce, .ref en, .ref re, .ref cx, .int (hfl), .ref px, .ref pq, .ref fx, .ref lo, .ref hi])) :: (lv, .inl (G 0, 8, .inl gl)) :: (ce, .inl (G 1, 8, .inr (.inl gc9))) :: X : va_W), 0, 0)) (cAt D G (va_A ((ri, .inr (4, [.ref ra, .ref rb, .int (fd), .ref lv, .ref ce, .ref en, .ref re, .ref cx, .int (hfl), .ref px, .ref pq, .ref fx, .ref lo, .ref hi])) :: (lv, .inl (G 0, 8, .inl gl)) :: (ce, .inl (G 1, 8, .inr (.inl gc9))) :: X : va_W) sz) sz hs) (va_A ((ri, .inr (4, [.ref ra, .ref rb, .int (fd), .ref lv, .ref ce, .ref en, .ref re, .ref cx, .int (hfl), .ref px, .ref pq, .ref fx, .ref lo, .ref hi])) :: (lv, .inl (G 0, 8, .inl gl)) :: (ce, .inl (G 1, 8, .inr (.inl gc9))) :: X : va_W) sz)) ([.ref ri, .int (iZ ((i : Int))), .int (iZ ((ct : Int)))] : List Value).toArray s 0 0 (va_A ((ri, .inr (4, [.ref ra, .ref rb, .int (fd), .ref lv, .ref ce, .ref en, .ref re, .ref cx, .int (hfl), .ref px, .ref pq, .ref fx, .ref lo, .ref hi])) :: (lv, .inl (G 0, 8, .inl gl)) :: (ce, .inl (G 1, 8, .inr (.inl gc9))) :: X : va_W) sz)) ((ri, .inr (4, [.ref ra, .ref rb, .int (fd), .ref lv, .ref ce, .ref en, .ref re, .ref cx, .int (hfl), .ref px, .ref pq, .ref fx, .ref lo, .ref hi])) :: (lv, .inl (G 0, 8, .inl gl)) :: (ce, .inl (G 1, 8, .inr (.inl gc9))) :: X : va_W) 82 [(3, .int (iZ (wl))), (0, .ref ri), (1, .int (iZ ((i : Int)))), (2, .int (iZ ((ct : Int))))] [.int (iZ (wu))] := by
      refine w_istore C [(4, .int (iZ (wu))), (3, .int (iZ (wl))), (0, .ref ri), (1, .int (iZ ((i : Int)))), (2, .int (iZ ((ct : Int))))] dX4_isAlone_82 (by decide) rfl ?_
      refine w_iload_n C dX4_isAlone_84 1 rfl ?_
      refine w_if_ne C 97 dX4_isAlone_85 (by decide) ⟨by omega, by omega⟩ (fun c85 => ?_) (fun c85 => ?_)
      · refine w_iconst C dX4_isAlone_97 ?_
        exact g_zret hsz hhs C hr (by decide) hlk ⟨by omega, by omega⟩ ⟨congrArg iZ (@if_neg _ _ (by first | exact fun q => absurd (hwl.trans (if_neg q.1)) c85 | exact fun q => absurd (hwu.trans (if_neg q.2)) c90) _ _ _).symm, rfl⟩ dX4_isAlone_98
      · refine w_iload C dX4_isAlone_88 0 rfl ?_
        refine w_if_ne C 97 dX4_isAlone_90 (by decide) ⟨by omega, by omega⟩ (fun c90 => ?_) (fun c90 => ?_)
        · refine w_iconst C dX4_isAlone_97 ?_
          exact g_zret hsz hhs C hr (by decide) hlk ⟨by omega, by omega⟩ ⟨congrArg iZ (@if_neg _ _ (by first | exact fun q => absurd (hwl.trans (if_neg q.1)) c85 | exact fun q => absurd (hwu.trans (if_neg q.2)) c90) _ _ _).symm, rfl⟩ dX4_isAlone_98
        · refine w_iconst C dX4_isAlone_93 ?_
          refine w_goto C 98 dX4_isAlone_94 (by decide) ?_
          exact g_zret hsz hhs C hr (by decide) hlk ⟨by omega, by omega⟩ ⟨congrArg iZ (if_pos ⟨fun q => absurd c85 (by rw [hwl, if_pos q]; decide), fun q => absurd c90 (by rw [hwu, if_pos q]; decide)⟩).symm, rfl⟩ dX4_isAlone_98
    refine w_icmp_ge C 81 dX4_isAlone_44 (by decide) ⟨⟨by omega, by omega⟩, by omega, by omega⟩ (fun c44 => ?_) (fun c44 => ?_)
    · refine w_iconst C dX4_isAlone_81 ?_
      refine w_top C (wu) (by rw [hwu, if_neg (by omega)]) ?_
      exact J2
    · refine w_aload_n C dX4_isAlone_47 1 rfl ?_
      refine w_get (ci := 4) (ref := "RootIsolator") (T := TX4) (Cn := RX4) (N := 14) C (fun w h => wC_in (inX4 w h)) 0 rfl rfl 3 (by decide) (wC_in fX4_20) rfl rfl dX4_isAlone_48 ?_
      refine w_iload_n C dX4_isAlone_51 2 rfl ?_
      refine w_iconst C dX4_isAlone_52 ?_
      refine w_iadd C dX4_isAlone_53 ?_
      refine w_iald C 1 0 rfl rfl (i + 1) ((gl (i + 1)).toInt) ⟨by omega, by omega, by omega⟩ ((iZ_self _).symm) dX4_isAlone_54 ?_
      refine w_iconst C dX4_isAlone_55 ?_
      refine w_icmp_ne C 81 dX4_isAlone_56 (by decide) ⟨i32r _, by omega, by omega⟩ (fun c56 => ?_) (fun c56 => ?_)
      · refine w_iconst C dX4_isAlone_81 ?_
        refine w_top C (wu) (by first | rw [hwu, if_neg (by omega)] | rw [hwu, if_pos (by omega)]) ?_
        exact J2
      · refine w_aload_n C dX4_isAlone_59 1 rfl ?_
        refine w_get (ci := 4) (ref := "RootIsolator") (T := TX4) (Cn := RX4) (N := 14) C (fun w h => wC_in (inX4 w h)) 0 rfl rfl 4 (by decide) (wC_in fX4_23) rfl rfl dX4_isAlone_60 ?_
        refine w_iload_n C dX4_isAlone_63 2 rfl ?_
        refine w_iconst C dX4_isAlone_64 ?_
        refine w_iadd C dX4_isAlone_65 ?_
        refine w_lald C 2 1 rfl rfl (i + 1) ((gc9 (i + 1)).toInt) ⟨by omega, by omega, by omega⟩ ((lZ_self _).symm) dX4_isAlone_66 ?_
        refine w_aload_n C dX4_isAlone_67 1 rfl ?_
        refine w_get (ci := 4) (ref := "RootIsolator") (T := TX4) (Cn := RX4) (N := 14) C (fun w h => wC_in (inX4 w h)) 0 rfl rfl 4 (by decide) (wC_in fX4_23) rfl rfl dX4_isAlone_68 ?_
        refine w_iload_n C dX4_isAlone_71 2 rfl ?_
        refine w_lald C 2 1 rfl rfl (i) ((gc9 (i)).toInt) ⟨by omega, by omega, by omega⟩ ((lZ_self _).symm) dX4_isAlone_72 ?_
        refine w_lif_ne C 81 dX4_isAlone_73 dX4_isAlone_74 (by decide) ⟨i64r _, i64r _⟩ (fun c73 => ?_) (fun c73 => ?_)
        · refine w_iconst C dX4_isAlone_81 ?_
          refine w_top C (wu) (by first | rw [hwu, if_neg (by omega)] | rw [hwu, if_pos (by omega)]) ?_
          exact J2
        · refine w_iconst C dX4_isAlone_77 ?_
          refine w_goto C 82 dX4_isAlone_78 (by decide) ?_
          refine w_top C (wu) (by first | rw [hwu, if_neg (by omega)] | rw [hwu, if_pos (by omega)]) ?_
          exact J2
  refine w_if_le C 38 dX4_isAlone_1 (by decide) ⟨by omega, by omega⟩ (fun c1 => ?_) (fun c1 => ?_)
  · refine w_iconst C dX4_isAlone_38 ?_
    refine w_top C (wl) (by rw [hwl, if_neg (by omega)]) ?_
    exact J1
  · refine w_aload_n C dX4_isAlone_4 0 rfl ?_
    refine w_get (ci := 4) (ref := "RootIsolator") (T := TX4) (Cn := RX4) (N := 14) C (fun w h => wC_in (inX4 w h)) 0 rfl rfl 3 (by decide) (wC_in fX4_20) rfl rfl dX4_isAlone_5 ?_
    refine w_iload_n C dX4_isAlone_8 1 rfl ?_
    refine w_iconst C dX4_isAlone_9 ?_
    refine w_isub C dX4_isAlone_10 ?_
    refine w_iald C 1 0 rfl rfl (i - 1) ((gl (i - 1)).toInt) ⟨by omega, by omega, by omega⟩ ((iZ_self _).symm) dX4_isAlone_11 ?_
    refine w_iconst C dX4_isAlone_12 ?_
    refine w_icmp_ne C 38 dX4_isAlone_13 (by decide) ⟨i32r _, by omega, by omega⟩ (fun c13 => ?_) (fun c13 => ?_)
    · refine w_iconst C dX4_isAlone_38 ?_
      refine w_top C (wl) (by first | rw [hwl, if_neg (by omega)] | rw [hwl, if_pos (by omega)]) ?_
      exact J1
    · refine w_aload_n C dX4_isAlone_16 0 rfl ?_
      refine w_get (ci := 4) (ref := "RootIsolator") (T := TX4) (Cn := RX4) (N := 14) C (fun w h => wC_in (inX4 w h)) 0 rfl rfl 4 (by decide) (wC_in fX4_23) rfl rfl dX4_isAlone_17 ?_
      refine w_iload_n C dX4_isAlone_20 1 rfl ?_
      refine w_iconst C dX4_isAlone_21 ?_
      refine w_isub C dX4_isAlone_22 ?_
      refine w_lald C 2 1 rfl rfl (i - 1) ((gc9 (i - 1)).toInt) ⟨by omega, by omega, by omega⟩ ((lZ_self _).symm) dX4_isAlone_23 ?_
      refine w_aload_n C dX4_isAlone_24 0 rfl ?_
      refine w_get (ci := 4) (ref := "RootIsolator") (T := TX4) (Cn := RX4) (N := 14) C (fun w h => wC_in (inX4 w h)) 0 rfl rfl 4 (by decide) (wC_in fX4_23) rfl rfl dX4_isAlone_25 ?_
      refine w_iload_n C dX4_isAlone_28 1 rfl ?_
      refine w_lald C 2 1 rfl rfl (i) ((gc9 (i)).toInt) ⟨by omega, by omega, by omega⟩ ((lZ_self _).symm) dX4_isAlone_29 ?_
      refine w_lif_ne C 38 dX4_isAlone_30 dX4_isAlone_31 (by decide) ⟨i64r _, i64r _⟩ (fun c30 => ?_) (fun c30 => ?_)
      · refine w_iconst C dX4_isAlone_38 ?_
        refine w_top C (wl) (by first | rw [hwl, if_neg (by omega)] | rw [hwl, if_pos (by omega)]) ?_
        exact J1
      · refine w_iconst C dX4_isAlone_34 ?_
        refine w_goto C 39 dX4_isAlone_35 (by decide) ?_
        refine w_top C (wl) (by first | rw [hwl, if_neg (by omega)] | rw [hwl, if_pos (by omega)]) ?_
        exact J1
