set_option maxHeartbeats 4000000 in
set_option maxRecDepth 100000 in
/-- makeRoom: the row is as long as asked, and holds what it held -/
theorem cw_makeRoom (l : Launch) (D : va_G) (G : Nat → ClassId) (X : va_W) (a b n L : Nat) (f : Nat → Int32) (k0 sg : Int32) (hn1 : 1 ≤ n) (hn : n ≤ 2048) (hL : L ≤ 1024) (sz hs : Nat) : Met l yX3_makeRoom (wC yX3_makeRoom cX3_makeRoom 3 none) ({ frames := 1, cells := 1, slots := 2048, locals := 40 }) (va_Pc [.ref a, .int (iZ ((L : Int)))] (cPre nT D G ((a, .inr (3, [.ref b, .int (k0), .int (sg)])) :: (b, .inl (G 0, n, .inl f)) :: X : va_W) sz hs)) (va_Qv (fun u : cS => ∃ (b1 n1 : Nat) (f1 : Nat → Int32) (dc ds : Nat), n ≤ n1 ∧ n1 ≤ 2048 ∧ L ≤ n1 ∧ (∀ i, i < n → f1 i = f i) ∧ dc + gc n ≤ gc n1 ∧ ds + 2 * n ≤ 2 * n1 ∧ u = (((a, .inr (3, [.ref b1, .int (k0), .int (sg)])) :: (b1, .inl (G 0, n1, .inl f1)) :: X : va_W), dc, ds)) (cAt D G (va_A ((a, .inr (3, [.ref b, .int (k0), .int (sg)])) :: (b, .inl (G 0, n, .inl f)) :: X : va_W) sz) sz hs) (va_A ((a, .inr (3, [.ref b, .int (k0), .int (sg)])) :: (b, .inl (G 0, n, .inl f)) :: X : va_W) sz)) 1 2048 (va_A ((a, .inr (3, [.ref b, .int (k0), .int (sg)])) :: (b, .inl (G 0, n, .inl f)) :: X : va_W) sz) := by
  refine g_met (cc := cX3_makeRoom) (maxL := 3) (ret := none) (own := RX3) (by decide) rfl rfl (Nat.le_of_ble_eq_true rfl) ?_
  intro p e s m below meth c hsz hhs hN hA C hr hlk
  refine w_sub [(0, .ref a), (1, .int (iZ ((L : Int))))] [0, 1] rfl ?_
  refine w_iload_n C dX3_makeRoom_0 1 rfl ?_
  refine w_aload_n C dX3_makeRoom_1 0 rfl ?_
  refine w_get (ci := 3) (ref := "RootIsolator$Whole") (T := TX3) (Cn := RX3) (N := 3) C (fun w h => wC_in (inX3 w h)) 0 rfl rfl 0 (by decide) (wC_in fX3_9) rfl rfl dX3_makeRoom_2 ?_
  refine w_alen C 1 0 rfl rfl dX3_makeRoom_5 ?_
  refine w_icmp_gt C 10 dX3_makeRoom_6 (by decide) ⟨⟨by omega, by omega⟩, by omega, by omega⟩ (fun c6 => ?_) (fun c6 => ?_)
  · obtain ⟨n1, hq⟩ : ∃ n1 : Nat, n1 = if L ≤ 2 * n then 2 * n else L := ⟨_, rfl⟩
    have hqt : L ≤ 2 * n → n1 = 2 * n := fun h => by rw [hq, if_pos h]
    have hqf : ¬ L ≤ 2 * n → n1 = L := fun h => by rw [hq, if_neg h]
    have hq1 : n1 ≤ 2048 ∧ L ≤ n1 ∧ 2 * n ≤ n1 := by rw [hq]; split <;> omega
    refine w_iload_n C dX3_makeRoom_10 1 rfl ?_
    refine w_iconst C dX3_makeRoom_11 ?_
    refine w_aload_n C dX3_makeRoom_12 0 rfl ?_
    refine w_get (ci := 3) (ref := "RootIsolator$Whole") (T := TX3) (Cn := RX3) (N := 3) C (fun w h => wC_in (inX3 w h)) 0 rfl rfl 0 (by decide) (wC_in fX3_9) rfl rfl dX3_makeRoom_13 ?_
    refine w_alen C 1 0 rfl rfl dX3_makeRoom_16 ?_
    refine w_imul C dX3_makeRoom_17 ?_
    have J1 : ZW p l e ({ frames := 1, cells := 1, slots := 2048, locals := 40 }) s m ([.ref a, .int (iZ ((L : Int)))] : List Value).toArray below meth c D (va_A ((a, .inr (3, [.ref b, .int (k0), .int (sg)])) :: (b, .inl (G 0, n, .inl f)) :: X : va_W) sz) 3 0 0 (MQ below (va_Qv (fun u : cS => ∃ (b1 n1 : Nat) (f1 : Nat → Int32) (dc ds : Nat), n ≤ n1 ∧ n1 ≤ 2048 ∧ L ≤ n1 ∧ (∀ i, i < n → f1 i = f i) ∧ dc + gc n ≤ gc n1 ∧ ds + 2 * n ≤ 2 * n1 ∧ u = (((a, .inr (3, [.ref b1, .int (k0), .int (sg)])) :: (b1, .inl (G 0, n1, .inl f1)) :: X : va_W), dc, ds)) (cAt D G (va_A ((a, .inr (3, [.ref b, .int (k0), .int (sg)])) :: (b, .inl (G 0, n, .inl f)) :: X : va_W) sz) sz hs) (va_A ((a, .inr (3, [.ref b, .int (k0), .int (sg)])) :: (b, .inl (G 0, n, .inl f)) :: X : va_W) sz)) ([.ref a, .int (iZ ((L : Int)))] : List Value).toArray s 1 2048 (va_A ((a, .inr (3, [.ref b, .int (k0), .int (sg)])) :: (b, .inl (G 0, n, .inl f)) :: X : va_W) sz)) ((a, .inr (3, [.ref b, .int (k0), .int (sg)])) :: (b, .inl (G 0, n, .inl f)) :: X : va_W) 32 [(0, .ref a), (1, .int (iZ ((L : Int))))] [.int (iZ ((n1 : Int)))] := by
      refine w_newi C hA (wC_in acI) (n1) ⟨by omega, by omega⟩ ⟨Nat.le_refl 1, (by show 0 + n1 ≤ 2048; omega)⟩ dX3_makeRoom_32 (fun q => ?_)
      refine w_astore_n C [(2, .ref q), (0, .ref a), (1, .int (iZ ((L : Int))))] dX3_makeRoom_34 rfl (by decide) rfl ?_
      refine w_aload_n C dX3_makeRoom_35 1 rfl ?_
      refine w_get (ci := 3) (ref := "RootIsolator$Whole") (T := TX3) (Cn := RX3) (N := 3) C (fun w h => wC_in (inX3 w h)) 1 rfl rfl 0 (by decide) (wC_in fX3_9) rfl rfl dX3_makeRoom_36 ?_
      refine w_iconst C dX3_makeRoom_39 ?_
      refine w_aload_n C dX3_makeRoom_40 0 rfl ?_
      refine w_iconst C dX3_makeRoom_41 ?_
      refine w_aload_n C dX3_makeRoom_42 1 rfl ?_
      refine w_get (ci := 3) (ref := "RootIsolator$Whole") (T := TX3) (Cn := RX3) (N := 3) C (fun w h => wC_in (inX3 w h)) 1 rfl rfl 0 (by decide) (wC_in fX3_9) rfl rfl dX3_makeRoom_43 ?_
      refine w_alen C 2 0 rfl rfl dX3_makeRoom_46 ?_
      refine w_copyi C ((q, .inl (G 0, n1, .inl (va_cpy f (fun _ => 0) 0 0 n))) :: (a, .inr (3, [.ref b, .int (k0), .int (sg)])) :: (b, .inl (G 0, n, .inl f)) :: X : va_W) (wC_in kX3_acp) (wC_in natacp) (wC_in stacp) (wC_in iniJ10) 2 0 rfl rfl (n) ⟨by omega, by omega, by omega, by omega⟩ (Nat.le_of_ble_eq_true rfl) (by decide +kernel) rfl dX3_makeRoom_47 ?_
      refine w_aload_n C dX3_makeRoom_50 1 rfl ?_
      refine w_aload_n C dX3_makeRoom_51 0 rfl ?_
      refine w_put (ci := 3) (ref := "RootIsolator$Whole") (T := TX3) (Cn := RX3) (N := 3) (ty := (.array .int)) C ((q, .inl (G 0, n1, .inl (va_cpy f (fun _ => 0) 0 0 n))) :: (a, .inr (3, [.ref q, .int (k0), .int (sg)])) :: (b, .inl (G 0, n, .inl f)) :: X : va_W) (fun w h => wC_in (inX3 w h)) tyX3 tyX3_ok nmX3 1 rfl rfl 0 (by decide) (wC_in fX3_9) rfl rfl (by decide +kernel) rfl rfl (Nat.le_of_ble_eq_true rfl) rfl dX3_makeRoom_52 ?_
      refine w_perm ((b, .inl (G 0, n, .inl f)) :: (a, .inr (3, [.ref q, .int (k0), .int (sg)])) :: (q, .inl (G 0, n1, .inl (va_cpy f (fun _ => 0) 0 0 n))) :: X : va_W) ((List.Perm.swap _ _ _).trans (((List.Perm.swap _ _ _).cons _).trans (List.Perm.swap _ _ _))) ?_
      refine w_drop ?_
      exact g_vret hsz hhs C hr hlk ⟨by omega, by omega⟩ (⟨q, n1, _, _, _, by omega, by omega, by omega, fun i hi => by show (if 0 ≤ i ∧ i < 0 + n then _ else _) = _; rw [if_pos ⟨by omega, by omega⟩, Nat.zero_add, Nat.sub_zero], (by have := gc_up (n := n) (n' := n1) (by omega) (by omega); omega), (by omega), rfl⟩) dX3_makeRoom_55
    refine w_icmp_le C 25 dX3_makeRoom_18 (by decide) ⟨⟨by omega, by omega⟩, by omega, by omega⟩ (fun c18 => ?_) (fun c18 => ?_)
    · refine w_iconst C dX3_makeRoom_25 ?_
      refine w_aload_n C dX3_makeRoom_26 0 rfl ?_
      refine w_get (ci := 3) (ref := "RootIsolator$Whole") (T := TX3) (Cn := RX3) (N := 3) C (fun w h => wC_in (inX3 w h)) 0 rfl rfl 0 (by decide) (wC_in fX3_9) rfl rfl dX3_makeRoom_27 ?_
      refine w_alen C 1 0 rfl rfl dX3_makeRoom_30 ?_
      refine w_imul C dX3_makeRoom_31 ?_
      refine w_top C ((n1 : Int)) (by have := hqt (by omega); omega) ?_
      exact J1
    · refine w_iload_n C dX3_makeRoom_21 1 rfl ?_
      refine w_goto C 32 dX3_makeRoom_22 (by decide) ?_
      refine w_top C ((n1 : Int)) (by have := hqf (by omega); omega) ?_
      exact J1
  · exact g_vret hsz hhs C hr hlk ⟨Nat.zero_le _, Nat.zero_le _⟩ (⟨b, n, f, 0, 0, by omega, by omega, by omega, fun _ _ => rfl, by omega, by omega, rfl⟩) dX3_makeRoom_9
set_option maxHeartbeats 4000000 in
set_option maxRecDepth 100000 in
theorem cw_isShort (l : Launch) (D : va_G) (G : Nat → ClassId) (X : va_W) (a b n k : Nat) (f : Nat → Int32) (z : Int) (hk : k ≤ n) (hn : n ≤ 2048) (sz hs : Nat) : Met l yX3_isShort (wC yX3_isShort cX3_isShort 1 (some .boolean)) ({ frames := 0, cells := 0, slots := 0, locals := 0 }) (va_Pc [.ref a] (cPre nT D G ((a, .inr (3, [.ref b, .int (iZ ((k : Int))), .int (iZ (z.sign))])) :: (b, .inl (G 0, n, .inl f)) :: X : va_W) sz hs)) (va_Qi (fun (r : Int32) (u : cS) => r = (if k ≤ 1 then iZ 1 else iZ 0) ∧ u = (((a, .inr (3, [.ref b, .int (iZ ((k : Int))), .int (iZ (z.sign))])) :: (b, .inl (G 0, n, .inl f)) :: X : va_W), 0, 0)) (cAt D G (va_A ((a, .inr (3, [.ref b, .int (iZ ((k : Int))), .int (iZ (z.sign))])) :: (b, .inl (G 0, n, .inl f)) :: X : va_W) sz) sz hs) (va_A ((a, .inr (3, [.ref b, .int (iZ ((k : Int))), .int (iZ (z.sign))])) :: (b, .inl (G 0, n, .inl f)) :: X : va_W) sz)) 0 0 (va_A ((a, .inr (3, [.ref b, .int (iZ ((k : Int))), .int (iZ (z.sign))])) :: (b, .inl (G 0, n, .inl f)) :: X : va_W) sz) := by
  refine g_met (cc := cX3_isShort) (maxL := 1) (ret := (some .boolean)) (own := RX3) (by decide) rfl rfl (Nat.le_of_ble_eq_true rfl) ?_
  intro p e s m below meth c hsz hhs hN hA C hr hlk
  refine w_sub [(0, .ref a)] [0] rfl ?_
  refine w_aload_n C dX3_isShort_0 0 rfl ?_
  refine w_get (ci := 3) (ref := "RootIsolator$Whole") (T := TX3) (Cn := RX3) (N := 3) C (fun w h => wC_in (inX3 w h)) 0 rfl rfl 1 (by decide) (wC_in fX3_13) rfl rfl dX3_isShort_1 ?_
  refine w_iconst C dX3_isShort_4 ?_
  refine w_icmp_gt C 12 dX3_isShort_5 (by decide) ⟨⟨by omega, by omega⟩, by omega, by omega⟩ (fun c5 => ?_) (fun c5 => ?_)
  · refine w_iconst C dX3_isShort_12 ?_
    exact g_zret hsz hhs C hr (by decide) hlk ⟨by omega, by omega⟩ ⟨(by rw [if_neg (by omega)]), rfl⟩ dX3_isShort_13
  · refine w_iconst C dX3_isShort_8 ?_
    refine w_goto C 13 dX3_isShort_9 (by decide) ?_
    exact g_zret hsz hhs C hr (by decide) hlk ⟨by omega, by omega⟩ ⟨(by rw [if_pos (by omega)]), rfl⟩ dX3_isShort_13
set_option maxHeartbeats 4000000 in
set_option maxRecDepth 100000 in
theorem cw_lowPart (l : Launch) (D : va_G) (G : Nat → ClassId) (X : va_W) (a b n k : Nat) (f : Nat → Int32) (z : Int) (hn1 : 1 ≤ n) (hn : n ≤ 2048) (hz : wN n f k z) (hk : k ≤ 1) (sz hs : Nat) : Met l yX3_lowPart (wC yX3_lowPart cX3_lowPart 1 (some .int)) ({ frames := 0, cells := 0, slots := 0, locals := 0 }) (va_Pc [.ref a] (cPre nT D G ((a, .inr (3, [.ref b, .int (iZ ((k : Int))), .int (iZ (z.sign))])) :: (b, .inl (G 0, n, .inl f)) :: X : va_W) sz hs)) (va_Qi (fun (r : Int32) (u : cS) => r = iZ z ∧ u = (((a, .inr (3, [.ref b, .int (iZ ((k : Int))), .int (iZ (z.sign))])) :: (b, .inl (G 0, n, .inl f)) :: X : va_W), 0, 0)) (cAt D G (va_A ((a, .inr (3, [.ref b, .int (iZ ((k : Int))), .int (iZ (z.sign))])) :: (b, .inl (G 0, n, .inl f)) :: X : va_W) sz) sz hs) (va_A ((a, .inr (3, [.ref b, .int (iZ ((k : Int))), .int (iZ (z.sign))])) :: (b, .inl (G 0, n, .inl f)) :: X : va_W) sz)) 0 0 (va_A ((a, .inr (3, [.ref b, .int (iZ ((k : Int))), .int (iZ (z.sign))])) :: (b, .inl (G 0, n, .inl f)) :: X : va_W) sz) := by
  refine g_met (cc := cX3_lowPart) (maxL := 1) (ret := (some .int)) (own := RX3) (by decide) rfl rfl (Nat.le_of_ble_eq_true rfl) ?_
  intro p e s m below meth c hsz hhs hN hA C hr hlk
  refine w_sub [(0, .ref a)] [0] rfl ?_
  have hk1 := hz.1
  refine w_aload_n C dX3_lowPart_0 0 rfl ?_
  refine w_get (ci := 3) (ref := "RootIsolator$Whole") (T := TX3) (Cn := RX3) (N := 3) C (fun w h => wC_in (inX3 w h)) 0 rfl rfl 1 (by decide) (wC_in fX3_13) rfl rfl dX3_lowPart_1 ?_
  refine w_if_ne C 11 dX3_lowPart_4 (by decide) ⟨by omega, by omega⟩ (fun c4 => ?_) (fun c4 => ?_)
  · refine w_aload_n C dX3_lowPart_11 0 rfl ?_
    refine w_get (ci := 3) (ref := "RootIsolator$Whole") (T := TX3) (Cn := RX3) (N := 3) C (fun w h => wC_in (inX3 w h)) 0 rfl rfl 2 (by decide) (wC_in fX3_17) rfl rfl dX3_lowPart_12 ?_
    refine w_aload_n C dX3_lowPart_15 0 rfl ?_
    refine w_get (ci := 3) (ref := "RootIsolator$Whole") (T := TX3) (Cn := RX3) (N := 3) C (fun w h => wC_in (inX3 w h)) 0 rfl rfl 0 (by decide) (wC_in fX3_9) rfl rfl dX3_lowPart_16 ?_
    refine w_iconst C dX3_lowPart_19 ?_
    refine w_iald C 1 0 rfl rfl (0) ((f (0)).toInt) ⟨by omega, by omega, by omega⟩ ((iZ_self _).symm) dX3_lowPart_20 ?_
    refine w_imul C dX3_lowPart_21 ?_
    have h1 : k = 1 := by omega
    subst h1
    have h4 := hz.2.2.2
    simp only [zw, Int.zero_add, Nat.mul_zero, Int.pow_zero, Int.mul_one] at h4
    have h5 := Int.sign_mul_natAbs z
    rw [h4] at h5
    exact g_iret hsz hhs C hr hlk ⟨by omega, by omega⟩ ⟨congrArg iZ h5, rfl⟩ dX3_lowPart_22
  · refine w_iconst C dX3_lowPart_7 ?_
    refine w_goto C 22 dX3_lowPart_8 (by decide) ?_
    exact g_iret hsz hhs C hr hlk ⟨by omega, by omega⟩ ⟨(by rw [wN_0 (show wN n f 0 z from (show k = 0 by omega) ▸ hz)]), rfl⟩ dX3_lowPart_22
