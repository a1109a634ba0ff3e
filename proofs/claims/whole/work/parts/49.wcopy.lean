section WCS
variable {p : Program} {l : Launch} {e : Env} {R : Room} {s : State} {m : MethodId} {args : Array Value} {below : List Frame} {meth : Method} {c : Code} {D : va_G} {A : Nat → Prop} {nL cells slots : Nat} {Qp : State → Prop} {ws : va_W} {pc : Nat} {lv : List (Nat × Value)} {rest : List Value}
theorem w_cs (c' n' : Nat) (h1 : cells = c') (h2 : slots = n') (kk : ZW p l e R s m args below meth c D A nL c' n' Qp ws pc lv rest) : ZW p l e R s m args below meth c D A nL cells slots Qp ws pc lv rest := h1 ▸ h2 ▸ kk
end WCS
theorem lushr30 (x : Int) : ((lZ x).toUInt64 >>> ((iZ 30).toInt64.toUInt64 &&& Int64.toUInt64 63)).toInt64 = lZ (x % 18446744073709551616 / 1073741824) := by
  apply Int64.toBitVec_inj.1
  apply BitVec.eq_of_toNat_eq
  show ((BitVec.ofInt 64 x) >>> (30 : Nat)).toNat = (BitVec.ofInt 64 (x % 18446744073709551616 / 1073741824)).toNat
  rw [BitVec.toNat_ushiftRight, BitVec.toNat_ofInt, BitVec.toNat_ofInt, Nat.shiftRight_eq_div_pow]
  have e : (((2 ^ 64 : Nat)) : Int) = 18446744073709551616 := by decide
  rw [e]
  have h0 : 0 ≤ x % 18446744073709551616 := Int.emod_nonneg _ (by omega)
  have h1 : x % 18446744073709551616 < 18446744073709551616 := Int.emod_lt_of_pos _ (by omega)
  generalize x % 18446744073709551616 = w at h0 h1 ⊢
  obtain ⟨n, rfl⟩ : ∃ n : Nat, w = n := ⟨w.toNat, by omega⟩
  have e2 : (2 : Nat) ^ 30 = 1073741824 := by decide
  rw [e2]
  omega
theorem lush30 {x : Int} (h : 0 ≤ x ∧ x < 18446744073709551616) : ((lZ x).toUInt64 >>> ((iZ 30).toInt64.toUInt64 &&& Int64.toUInt64 63)).toInt64 = lZ (x / 1073741824) := by
  rw [lushr30, Int.emod_eq_of_lt h.1 h.2]
theorem gc_le {n : Nat} (h : n ≤ 2048) : gc n ≤ 11 := by
  unfold gc
  rcases Nat.eq_zero_or_pos n with q | q
  · subst q; decide
  · have h1 := Nat.log2_self_le (n := n) (by omega)
    rcases Nat.lt_or_ge 11 n.log2 with q2 | q2
    · have h2 : (2 : Nat) ^ 12 ≤ 2 ^ n.log2 := Nat.pow_le_pow_right (by omega) q2
      have : (2 : Nat) ^ 12 = 4096 := by decide
      omega
    · exact q2
set_option maxHeartbeats 4000000 in
set_option maxRecDepth 100000 in
/-- copy -/
theorem cw_copy (l : Launch) (D : va_G) (G : Nat → ClassId) (X : va_W) (a b n a2 b2 n2 k : Nat) (f g : Nat → Int32) (k0 sg : Int32) (z : Int) (hn1 : 1 ≤ n) (hn : n ≤ 2048) (hz : wN n2 g k z) (hk : k ≤ 1024) (hn2 : n2 ≤ 2048) (sz hs : Nat) : Met l yX3_copy (wC yX3_copy cX3_copy 2 none) ({ frames := 2, cells := 11, slots := 4096, locals := 62 }) (va_Pc [.ref a, .ref a2] (cPre nT D G ((a, .inr (3, [.ref b, .int (k0), .int (sg)])) :: (b, .inl (G 0, n, .inl f)) :: (a2, .inr (3, [.ref b2, .int (iZ ((k : Int))), .int (iZ (z.sign))])) :: (b2, .inl (G 0, n2, .inl g)) :: X : va_W) sz hs)) (va_Qv (fun u : cS => ∃ (b1 n1 : Nat) (f1 : Nat → Int32) (dc ds : Nat), n ≤ n1 ∧ n1 ≤ 2048 ∧ wN n1 f1 k z ∧ dc + gc n ≤ gc n1 ∧ ds + 2 * n ≤ 2 * n1 ∧ u = (((a, .inr (3, [.ref b1, .int (iZ ((k : Int))), .int (iZ (z.sign))])) :: (b1, .inl (G 0, n1, .inl f1)) :: (a2, .inr (3, [.ref b2, .int (iZ ((k : Int))), .int (iZ (z.sign))])) :: (b2, .inl (G 0, n2, .inl g)) :: X : va_W), dc, ds)) (cAt D G (va_A ((a, .inr (3, [.ref b, .int (k0), .int (sg)])) :: (b, .inl (G 0, n, .inl f)) :: (a2, .inr (3, [.ref b2, .int (iZ ((k : Int))), .int (iZ (z.sign))])) :: (b2, .inl (G 0, n2, .inl g)) :: X : va_W) sz) sz hs) (va_A ((a, .inr (3, [.ref b, .int (k0), .int (sg)])) :: (b, .inl (G 0, n, .inl f)) :: (a2, .inr (3, [.ref b2, .int (iZ ((k : Int))), .int (iZ (z.sign))])) :: (b2, .inl (G 0, n2, .inl g)) :: X : va_W) sz)) 11 4096 (va_A ((a, .inr (3, [.ref b, .int (k0), .int (sg)])) :: (b, .inl (G 0, n, .inl f)) :: (a2, .inr (3, [.ref b2, .int (iZ ((k : Int))), .int (iZ (z.sign))])) :: (b2, .inl (G 0, n2, .inl g)) :: X : va_W) sz) := by
  refine g_met (cc := cX3_copy) (maxL := 2) (ret := none) (own := RX3) (by decide) rfl rfl (Nat.le_of_ble_eq_true rfl) ?_
  intro p e s m below meth c hsz hhs hN hA C hr hlk
  refine w_sub [(0, .ref a), (1, .ref a2)] [0, 1] rfl ?_
  have hz1 := hz.1
  refine w_aload_n C dX3_copy_0 0 rfl ?_
  refine w_aload_n C dX3_copy_1 1 rfl ?_
  refine w_get (ci := 3) (ref := "RootIsolator$Whole") (T := TX3) (Cn := RX3) (N := 3) C (fun w h => wC_in (inX3 w h)) 2 rfl rfl 1 (by decide) (wC_in fX3_13) rfl rfl dX3_copy_2 ?_
  refine g_callv [.int (iZ ((k : Int)))] hA C hN nT_ok (cw_makeRoom l D G ((a2, .inr (3, [.ref b2, .int (iZ ((k : Int))), .int (iZ (z.sign))])) :: (b2, .inl (G 0, n2, .inl g)) :: X : va_W) a b n k f k0 sg hn1 hn hk) (cwV 1 C.1.2.2.2.2 (wC_V kX3_22 nX3_makeRoom slX3_makeRoom iniX3 cdX3_makeRoom) rfl rfl rfl (by decide +kernel) ⟨Nat.le_of_ble_eq_true rfl, Nat.le_of_ble_eq_true rfl⟩) (q0 := 0) rfl rfl rfl rfl ⟨Nat.le_of_ble_eq_true rfl, Nat.le_of_ble_eq_true rfl⟩ (Nat.le_of_ble_eq_true rfl) dX3_copy_5 [.int (iZ ((k : Int))), .ref a] rfl (fun v1 hv1 => ?_)
  obtain ⟨b1, n1, f1, dc, ds, r1, r2, r3, r4, r5, r6, rfl⟩ := hv1
  refine w_cs dc ds (Nat.zero_add dc) (Nat.zero_add ds) ?_
  have r7 := gc_le r2
  refine w_aload_n C dX3_copy_8 1 rfl ?_
  refine w_get (ci := 3) (ref := "RootIsolator$Whole") (T := TX3) (Cn := RX3) (N := 3) C (fun w h => wC_in (inX3 w h)) 2 rfl rfl 0 (by decide) (wC_in fX3_9) rfl rfl dX3_copy_9 ?_
  refine w_iconst C dX3_copy_12 ?_
  refine w_aload_n C dX3_copy_13 0 rfl ?_
  refine w_get (ci := 3) (ref := "RootIsolator$Whole") (T := TX3) (Cn := RX3) (N := 3) C (fun w h => wC_in (inX3 w h)) 0 rfl rfl 0 (by decide) (wC_in fX3_9) rfl rfl dX3_copy_14 ?_
  refine w_iconst C dX3_copy_17 ?_
  refine w_aload_n C dX3_copy_18 1 rfl ?_
  refine w_get (ci := 3) (ref := "RootIsolator$Whole") (T := TX3) (Cn := RX3) (N := 3) C (fun w h => wC_in (inX3 w h)) 2 rfl rfl 1 (by decide) (wC_in fX3_13) rfl rfl dX3_copy_19 ?_
  refine w_copyi C ((a, .inr (3, [.ref b1, .int (k0), .int (sg)])) :: (b1, .inl (G 0, n1, .inl (va_cpy g f1 0 0 k))) :: (a2, .inr (3, [.ref b2, .int (iZ ((k : Int))), .int (iZ (z.sign))])) :: (b2, .inl (G 0, n2, .inl g)) :: X : va_W) (wC_in kX3_acp) (wC_in natacp) (wC_in stacp) (wC_in iniJ10) 3 1 rfl rfl (k) ⟨by omega, by omega, by omega, by omega⟩ (Nat.le_of_ble_eq_true rfl) (by decide +kernel) rfl dX3_copy_22 ?_
  refine w_aload_n C dX3_copy_25 0 rfl ?_
  refine w_aload_n C dX3_copy_26 1 rfl ?_
  refine w_get (ci := 3) (ref := "RootIsolator$Whole") (T := TX3) (Cn := RX3) (N := 3) C (fun w h => wC_in (inX3 w h)) 2 rfl rfl 1 (by decide) (wC_in fX3_13) rfl rfl dX3_copy_27 ?_
  refine w_put (ci := 3) (ref := "RootIsolator$Whole") (T := TX3) (Cn := RX3) (N := 3) (ty := .int) C ((a, .inr (3, [.ref b1, .int (iZ ((k : Int))), .int (sg)])) :: (b1, .inl (G 0, n1, .inl (va_cpy g f1 0 0 k))) :: (a2, .inr (3, [.ref b2, .int (iZ ((k : Int))), .int (iZ (z.sign))])) :: (b2, .inl (G 0, n2, .inl g)) :: X : va_W) (fun w h => wC_in (inX3 w h)) tyX3 tyX3_ok nmX3 0 rfl rfl 1 (by decide) (wC_in fX3_13) rfl rfl (by decide +kernel) rfl rfl (Nat.le_of_ble_eq_true rfl) rfl dX3_copy_30 ?_
  refine w_aload_n C dX3_copy_33 0 rfl ?_
  refine w_aload_n C dX3_copy_34 1 rfl ?_
  refine w_get (ci := 3) (ref := "RootIsolator$Whole") (T := TX3) (Cn := RX3) (N := 3) C (fun w h => wC_in (inX3 w h)) 2 rfl rfl 2 (by decide) (wC_in fX3_17) rfl rfl dX3_copy_35 ?_
  refine w_put (ci := 3) (ref := "RootIsolator$Whole") (T := TX3) (Cn := RX3) (N := 3) (ty := .int) C ((a, .inr (3, [.ref b1, .int (iZ ((k : Int))), .int (iZ (z.sign))])) :: (b1, .inl (G 0, n1, .inl (va_cpy g f1 0 0 k))) :: (a2, .inr (3, [.ref b2, .int (iZ ((k : Int))), .int (iZ (z.sign))])) :: (b2, .inl (G 0, n2, .inl g)) :: X : va_W) (fun w h => wC_in (inX3 w h)) tyX3 tyX3_ok nmX3 0 rfl rfl 2 (by decide) (wC_in fX3_17) rfl rfl (by decide +kernel) rfl rfl (Nat.le_of_ble_eq_true rfl) rfl dX3_copy_38 ?_
  exact g_vret hsz hhs C hr hlk ⟨by omega, by omega⟩ (⟨b1, n1, _, _, _, r1, r2, wN_congr hz (by omega) (fun i hi => by show (if 0 ≤ i ∧ i < 0 + k then _ else _) = _; rw [if_pos ⟨by omega, by omega⟩, Nat.zero_add, Nat.sub_zero]), (by omega), (by omega), rfl⟩) dX3_copy_41
set_option maxHeartbeats 4000000 in
set_option maxRecDepth 100000 in
/-- put -/
theorem cw_put (l : Launch) (D : va_G) (G : Nat → ClassId) (X : va_W) (a b n : Nat) (f : Nat → Int32) (k0 sg : Int32) (v : Int) (hn1 : 4 ≤ n) (hn : n ≤ 2048) (hv : -9223372036854775808 ≤ v ∧ v < 9223372036854775808) (sz hs : Nat) : Met l yX3_put (wC yX3_put cX3_put 6 none) ({ frames := 0, cells := 0, slots := 0, locals := 0 }) (va_Pc [.ref a, .long (lZ (v))] (cPre nT D G ((a, .inr (3, [.ref b, .int (k0), .int (sg)])) :: (b, .inl (G 0, n, .inl f)) :: X : va_W) sz hs)) (va_Qv (fun u : cS => ∃ (k : Nat) (f1 : Nat → Int32), wN n f1 k v ∧ u = (((a, .inr (3, [.ref b, .int (iZ ((k : Int))), .int (iZ (v.sign))])) :: (b, .inl (G 0, n, .inl f1)) :: X : va_W), 0, 0)) (cAt D G (va_A ((a, .inr (3, [.ref b, .int (k0), .int (sg)])) :: (b, .inl (G 0, n, .inl f)) :: X : va_W) sz) sz hs) (va_A ((a, .inr (3, [.ref b, .int (k0), .int (sg)])) :: (b, .inl (G 0, n, .inl f)) :: X : va_W) sz)) 0 0 (va_A ((a, .inr (3, [.ref b, .int (k0), .int (sg)])) :: (b, .inl (G 0, n, .inl f)) :: X : va_W) sz) := by
  refine g_met (cc := cX3_put) (maxL := 6) (ret := none) (own := RX3) (by decide) rfl rfl (Nat.le_of_ble_eq_true rfl) ?_
  intro p e s m below meth c hsz hhs hN hA C hr hlk
  refine w_sub [(0, .ref a), (1, .long (lZ (v)))] [0, 1] rfl ?_
  obtain ⟨x, hx, hx2⟩ : ∃ x : Int, (v < 0 → lZ (-(v)) = lZ x) ∧ ((0 ≤ v → x = v) ∧ (-9223372036854775808 ≤ x ∧ x < 9223372036854775808) ∧ x % 18446744073709551616 = (v.natAbs : Int)) := by
    by_cases h : v = -9223372036854775808
    · subst h; exact ⟨-9223372036854775808, fun _ => by decide, by omega⟩
    · by_cases h2 : v < 0
      · exact ⟨-v, fun _ => rfl, by omega⟩
      · exact ⟨v, fun h3 => absurd h3 h2, by omega⟩
  have lp : ∀ (d : Nat) (k : Nat) (x : Int) (w : Int) (g : Nat → Int32), 3 < k + d → ((k = 0 ∧ w < 18446744073709551616) ∨ (k = 1 ∧ w < 17179869184) ∨ (k = 2 ∧ w < 16) ∨ (k = 3 ∧ w = 0)) → (w = x % 18446744073709551616 ∧ -9223372036854775808 ≤ x ∧ x < 9223372036854775808) → lim g k → (w = 0 → ∀ i, k = i + 1 → g i ≠ 0) → zw g k + w * 2 ^ (30 * k) = (v.natAbs : Int) → ZW p l e ({ frames := 0, cells := 0, slots := 0, locals := 0 }) s m ([.ref a, .long (lZ (v))] : List Value).toArray below meth c D (va_A ((a, .inr (3, [.ref b, .int (k0), .int (sg)])) :: (b, .inl (G 0, n, .inl f)) :: X : va_W) sz) 6 0 0 (MQ below (va_Qv (fun u : cS => ∃ (k : Nat) (f1 : Nat → Int32), wN n f1 k v ∧ u = (((a, .inr (3, [.ref b, .int (iZ ((k : Int))), .int (iZ (v.sign))])) :: (b, .inl (G 0, n, .inl f1)) :: X : va_W), 0, 0)) (cAt D G (va_A ((a, .inr (3, [.ref b, .int (k0), .int (sg)])) :: (b, .inl (G 0, n, .inl f)) :: X : va_W) sz) sz hs) (va_A ((a, .inr (3, [.ref b, .int (k0), .int (sg)])) :: (b, .inl (G 0, n, .inl f)) :: X : va_W) sz)) ([.ref a, .long (lZ (v))] : List Value).toArray s 0 0 (va_A ((a, .inr (3, [.ref b, .int (k0), .int (sg)])) :: (b, .inl (G 0, n, .inl f)) :: X : va_W) sz)) ((a, .inr (3, [.ref b, .int (iZ ((k : Int))), .int (iZ (v.sign))])) :: (b, .inl (G 0, n, .inl g)) :: X : va_W) 46 [(5, .int (iZ ((k : Int)))), (3, .long (lZ (x))), (0, .ref a), (1, .long (lZ (v)))] [] := by
    intro d
    induction d with
    | zero =>
      intro k x w g hd hk hx hl ht hg
      exact absurd hd (by omega)
    | succ d ih =>
      intro k x w g hd hk hx hl ht hg
      refine w_lload_n C dX3_put_46 1 rfl ?_
      refine w_lconst C 0 dX3_put_47 rfl ?_
      refine w_lif_eq C 94 dX3_put_48 dX3_put_49 (by decide) ⟨⟨by omega, by omega⟩, by omega, by omega⟩ (fun c48 => ?_) (fun c48 => ?_)
      · exact g_vret hsz hhs C hr hlk ⟨by omega, by omega⟩ (⟨k, g, ⟨by omega, hl, ht (by omega), by rw [← hg, show w = 0 by omega, Int.zero_mul, Int.add_zero]⟩, rfl⟩) dX3_put_94
      · refine w_iload C dX3_put_52 0 rfl ?_
        refine w_aload_n C dX3_put_54 2 rfl ?_
        refine w_get (ci := 3) (ref := "RootIsolator$Whole") (T := TX3) (Cn := RX3) (N := 3) C (fun w h => wC_in (inX3 w h)) 0 rfl rfl 0 (by decide) (wC_in fX3_9) rfl rfl dX3_put_55 ?_
        refine w_alen C 1 0 rfl rfl dX3_put_58 ?_
        refine w_icmp_ge C 94 dX3_put_59 (by decide) ⟨⟨by omega, by omega⟩, by omega, by omega⟩ (fun c59 => ?_) (fun c59 => ?_)
        · exact absurd c59 (by omega)
        · refine w_aload_n C dX3_put_62 2 rfl ?_
          refine w_get (ci := 3) (ref := "RootIsolator$Whole") (T := TX3) (Cn := RX3) (N := 3) C (fun w h => wC_in (inX3 w h)) 0 rfl rfl 0 (by decide) (wC_in fX3_9) rfl rfl dX3_put_63 ?_
          refine w_iload C dX3_put_66 0 rfl ?_
          refine w_lload_n C dX3_put_68 1 rfl ?_
          refine w_ldc2 C (1073741823) dX3_put_69 (wC_in kclX3_20) ?_
          refine w_land C dX3_put_72 (v := (lZ (w % 1073741824))) ((lZ_and30 x).trans (congrArg lZ (by omega))) ?_
          refine w_l2i C dX3_put_73 ?_
          refine w_iast C ((a, .inr (3, [.ref b, .int (iZ ((k : Int))), .int (iZ (v.sign))])) :: (b, .inl (G 0, n, .inl (upd g (k) (iZ (w % 1073741824))))) :: X : va_W) 1 0 rfl rfl (k) ⟨by omega, by omega, by omega⟩ rfl dX3_put_74 ?_
          refine w_lload_n C dX3_put_75 1 rfl ?_
          refine w_bipush C dX3_put_76 (by decide) ?_
          refine w_lushr C dX3_put_78 (v := (lZ (w / 1073741824))) ((lushr30 x).trans (congrArg lZ (by omega))) ?_
          refine w_lstore_n C [(3, .long (lZ (w / 1073741824))), (5, .int (iZ ((k : Int)))), (0, .ref a), (1, .long (lZ (v)))] dX3_put_79 rfl (by decide) rfl ?_
          refine w_aload_n C dX3_put_80 2 rfl ?_
          refine w_iload C dX3_put_81 1 rfl ?_
          refine w_iconst C dX3_put_83 ?_
          refine w_iadd C dX3_put_84 ?_
          refine w_top C (((k + 1 : Nat) : Int)) (by omega) ?_
          refine w_put (ci := 3) (ref := "RootIsolator$Whole") (T := TX3) (Cn := RX3) (N := 3) (ty := .int) C ((a, .inr (3, [.ref b, .int (iZ (((k + 1 : Nat) : Int))), .int (iZ (v.sign))])) :: (b, .inl (G 0, n, .inl (upd g (k) (iZ (w % 1073741824))))) :: X : va_W) (fun w h => wC_in (inX3 w h)) tyX3 tyX3_ok nmX3 0 rfl rfl 1 (by decide) (wC_in fX3_13) rfl rfl (by decide +kernel) rfl rfl (Nat.le_of_ble_eq_true rfl) rfl dX3_put_85 ?_
          refine w_iinc C (((k + 1 : Nat) : Int)) (by omega) [(5, .int (iZ (((k + 1 : Nat) : Int)))), (3, .long (lZ (w / 1073741824))), (0, .ref a), (1, .long (lZ (v)))] dX3_put_88 1 rfl (by decide) rfl ?_
          refine w_goto C 46 dX3_put_91 (by decide) ?_
          have hd30 := dig30 w (2 ^ (30 * k))
          exact ih (k + 1) (w / 1073741824) (w / 1073741824) _ (by omega) (by omega) (by omega) (lim_upd hl (by rw [iZ_toInt (by omega) (by omega)]; omega)) (fun h0 i hi => by
            have : i = k := by omega
            subst this
            rw [upd_eq]
            intro q
            have q2 := congrArg Int32.toInt q
            rw [iZ_toInt (by omega) (by omega)] at q2
            have : (0 : Int32).toInt = 0 := rfl
            omega) (by rw [zw_upd_top, iZ_toInt (by omega) (by omega), p30]; omega)
  have J22 : ZW p l e ({ frames := 0, cells := 0, slots := 0, locals := 0 }) s m ([.ref a, .long (lZ (v))] : List Value).toArray below meth c D (va_A ((a, .inr (3, [.ref b, .int (k0), .int (sg)])) :: (b, .inl (G 0, n, .inl f)) :: X : va_W) sz) 6 0 0 (MQ below (va_Qv (fun u : cS => ∃ (k : Nat) (f1 : Nat → Int32), wN n f1 k v ∧ u = (((a, .inr (3, [.ref b, .int (iZ ((k : Int))), .int (iZ (v.sign))])) :: (b, .inl (G 0, n, .inl f1)) :: X : va_W), 0, 0)) (cAt D G (va_A ((a, .inr (3, [.ref b, .int (k0), .int (sg)])) :: (b, .inl (G 0, n, .inl f)) :: X : va_W) sz) sz hs) (va_A ((a, .inr (3, [.ref b, .int (k0), .int (sg)])) :: (b, .inl (G 0, n, .inl f)) :: X : va_W) sz)) ([.ref a, .long (lZ (v))] : List Value).toArray s 0 0 (va_A ((a, .inr (3, [.ref b, .int (k0), .int (sg)])) :: (b, .inl (G 0, n, .inl f)) :: X : va_W) sz)) ((a, .inr (3, [.ref b, .int (k0), .int (sg)])) :: (b, .inl (G 0, n, .inl f)) :: X : va_W) 22 [(0, .ref a), (1, .long (lZ (v)))] [.int (iZ (v.sign)), .ref a] := by
    refine w_put (ci := 3) (ref := "RootIsolator$Whole") (T := TX3) (Cn := RX3) (N := 3) (ty := .int) C ((a, .inr (3, [.ref b, .int (k0), .int (iZ (v.sign))])) :: (b, .inl (G 0, n, .inl f)) :: X : va_W) (fun w h => wC_in (inX3 w h)) tyX3 tyX3_ok nmX3 0 rfl rfl 2 (by decide) (wC_in fX3_17) rfl rfl (by decide +kernel) rfl rfl (Nat.le_of_ble_eq_true rfl) rfl dX3_put_22 ?_
    refine w_lload_n C dX3_put_25 1 rfl ?_
    refine w_lconst C 0 dX3_put_26 rfl ?_
    have J101 : ZW p l e ({ frames := 0, cells := 0, slots := 0, locals := 0 }) s m ([.ref a, .long (lZ (v))] : List Value).toArray below meth c D (va_A ((a, .inr (3, [.ref b, .int (k0), .int (sg)])) :: (b, .inl (G 0, n, .inl f)) :: X : va_W) sz) 6 0 0 (MQ below (va_Qv (fun u : cS => ∃ (k : Nat) (f1 : Nat → Int32), wN n f1 k v ∧ u = (((a, .inr (3, [.ref b, .int (iZ ((k : Int))), .int (iZ (v.sign))])) :: (b, .inl (G 0, n, .inl f1)) :: X : va_W), 0, 0)) (cAt D G (va_A ((a, .inr (3, [.ref b, .int (k0), .int (sg)])) :: (b, .inl (G 0, n, .inl f)) :: X : va_W) sz) sz hs) (va_A ((a, .inr (3, [.ref b, .int (k0), .int (sg)])) :: (b, .inl (G 0, n, .inl f)) :: X : va_W) sz)) ([.ref a, .long (lZ (v))] : List Value).toArray s 0 0 (va_A ((a, .inr (3, [.ref b, .int (k0), .int (sg)])) :: (b, .inl (G 0, n, .inl f)) :: X : va_W) sz)) ((a, .inr (3, [.ref b, .int (k0), .int (iZ (v.sign))])) :: (b, .inl (G 0, n, .inl f)) :: X : va_W) 37 [(0, .ref a), (1, .long (lZ (v)))] [.long (lZ (x))] := by
      refine w_lstore_n C [(3, .long (lZ (x))), (0, .ref a), (1, .long (lZ (v)))] dX3_put_37 rfl (by decide) rfl ?_
      refine w_aload_n C dX3_put_38 1 rfl ?_
      refine w_iconst C dX3_put_39 ?_
      refine w_put (ci := 3) (ref := "RootIsolator$Whole") (T := TX3) (Cn := RX3) (N := 3) (ty := .int) C ((a, .inr (3, [.ref b, .int (iZ (0)), .int (iZ (v.sign))])) :: (b, .inl (G 0, n, .inl f)) :: X : va_W) (fun w h => wC_in (inX3 w h)) tyX3 tyX3_ok nmX3 0 rfl rfl 1 (by decide) (wC_in fX3_13) rfl rfl (by decide +kernel) rfl rfl (Nat.le_of_ble_eq_true rfl) rfl dX3_put_40 ?_
      refine w_iconst C dX3_put_43 ?_
      refine w_istore C [(5, .int (iZ (0))), (3, .long (lZ (x))), (0, .ref a), (1, .long (lZ (v)))] dX3_put_44 (by decide) rfl ?_
      exact lp 4 0 x (v.natAbs : Int) f (by omega) (by omega) ⟨hx2.2.2.symm, hx2.2.1.1, hx2.2.1.2⟩ (fun k hk => absurd hk (by omega)) (fun _ i hi => absurd hi (by omega)) (by simp [zw])
    refine w_lif_ge C 36 dX3_put_27 dX3_put_28 (by decide) ⟨⟨by omega, by omega⟩, by omega, by omega⟩ (fun c27 => ?_) (fun c27 => ?_)
    · refine w_lload_n C dX3_put_36 1 rfl ?_
      refine w_topl C (x) (by rw [hx2.1 (by omega)]) ?_
      exact J101
    · refine w_lload_n C dX3_put_31 1 rfl ?_
      refine w_lneg C dX3_put_32 ?_
      refine w_goto C 37 dX3_put_33 (by decide) ?_
      refine w_topRl C (x) (hx (by omega)) ?_
      exact J101
  refine w_aload_n C dX3_put_0 0 rfl ?_
  refine w_lload_n C dX3_put_1 1 rfl ?_
  refine w_lconst C 0 dX3_put_2 rfl ?_
  refine w_lif_le C 11 dX3_put_3 dX3_put_4 (by decide) ⟨⟨by omega, by omega⟩, by omega, by omega⟩ (fun c3 => ?_) (fun c3 => ?_)
  · refine w_lload_n C dX3_put_11 1 rfl ?_
    refine w_lconst C 0 dX3_put_12 rfl ?_
    refine w_lif_ge C 21 dX3_put_13 dX3_put_14 (by decide) ⟨⟨by omega, by omega⟩, by omega, by omega⟩ (fun c13 => ?_) (fun c13 => ?_)
    · refine w_iconst C dX3_put_21 ?_
      refine w_top C (v.sign) (by rw [show v = 0 by omega]; rfl) ?_
      exact J22
    · refine w_iconst C dX3_put_17 ?_
      refine w_goto C 22 dX3_put_18 (by decide) ?_
      refine w_top C (v.sign) (by rw [Int.sign_eq_neg_one_of_neg (by omega)]) ?_
      exact J22
  · refine w_iconst C dX3_put_7 ?_
    refine w_goto C 22 dX3_put_8 (by decide) ?_
    refine w_top C (v.sign) (by rw [Int.sign_eq_one_of_pos (by omega)]) ?_
    exact J22
