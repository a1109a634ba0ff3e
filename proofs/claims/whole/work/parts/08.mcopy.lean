theorem pw31_le {n m : Nat} (h : n ≤ m) : (2 : Int) ^ (31 * n) ≤ 2 ^ (31 * m) := by
  have h9 : (2 : Nat) ^ (31 * n) ≤ 2 ^ (31 * m) := Nat.pow_le_pow_right (by omega) (by omega)
  have e1 : ((2 ^ (31 * n) : Nat) : Int) = 2 ^ (31 * n) := by simp
  have e2 : ((2 ^ (31 * m) : Nat) : Int) = 2 ^ (31 * m) := by simp
  rw [← e1, ← e2]
  exact Int.ofNat_le.2 h9
set_option maxHeartbeats 4000000 in
set_option maxRecDepth 100000 in
/-- copy: the number t becomes the number a -/
theorem cm_copy (l : Launch) (D : va_G) (Q : Nat → Nat) (G : Nat → ClassId) (fL fS fN fD : Nat → Int32) (X : mX) (t a : Nat) (x : Int) (ha : a < 141) (ht : t < 141) (hx : mNum fL fS fN a x) (sz : Nat) : Met l yX5_copy (wC yX5_copy cX5_copy 4 none) ({ frames := 0, cells := 0, slots := 0, locals := 0 }) (va_Pc [.ref (Q 0), .int (iZ ((t : Int))), .int (iZ ((a : Int)))] (mPre D Q G (fL, fS, fN, fD, X) sz)) (va_Qv (fun u : mT => mSet fL fS fN fD X t x u) (mAt D Q G (mA Q sz)) (mA Q sz)) 0 0 (mA Q sz) := by
  refine m_met (cc := cX5_copy) (maxL := 4) (ret := none) (by decide) rfl rfl (Nat.le_of_ble_eq_true rfl) ?_
  intro p e s m below meth c hsz C hr hlk
  refine w_sub [(0, .ref (Q 0)), (1, .int (iZ ((t : Int)))), (2, .int (iZ ((a : Int))))] [0, 1, 2] rfl ?_
  obtain ⟨n, hn1, hn2, hn3, hn4, hn5, hn6⟩ := hx
  have loop : ∀ (d : Nat) (k : Nat) (gL : Nat → Int32), n < k + d → k ≤ n → (∀ j : Nat, (j < 640 * t ∨ 640 * t + k ≤ j) → gL j = fL j) → (∀ i : Nat, i < k → gL (640 * t + i) = fL (640 * a + i)) → ZW p l e ({ frames := 0, cells := 0, slots := 0, locals := 0 }) s m ([.ref (Q 0), .int (iZ ((t : Int))), .int (iZ ((a : Int)))] : List Value).toArray below meth c D (mA Q sz) 4 0 0 (MQ below (va_Qv (fun u : mT => mSet fL fS fN fD X t x u) (mAt D Q G (mA Q sz)) (mA Q sz)) ([.ref (Q 0), .int (iZ ((t : Int))), .int (iZ ((a : Int)))] : List Value).toArray s 0 0 (mA Q sz)) (mU Q G (gL, fS, fN, fD, X)) 2 [(3, .int (iZ ((k : Int)))), (0, .ref (Q 0)), (1, .int (iZ ((t : Int)))), (2, .int (iZ ((a : Int))))] [] := by
    intro d
    induction d with
    | zero =>
      intro k gL hd hk hout hi
      exact absurd hd (by omega)
    | succ d ih =>
      intro k gL hd hk hout hi
      refine w_iload_n C dX5_copy_2 0 rfl ?_
      refine w_aload_n C dX5_copy_3 1 rfl ?_
      refine w_get (ci := 5) (ref := "RootIsolatorModel") (T := TX5) (Cn := RX5) (N := 10) C (fun w h => wC_in (inX5 w h)) 0 rfl rfl 2 (by decide) (wC_in fX5_sizes) rfl rfl dX5_copy_4 ?_
      refine w_iload_n C dX5_copy_7 3 rfl ?_
      refine w_iald C 2 0 rfl rfl (a) ((n : Int)) ⟨by omega, by omega, by omega⟩ (hn2) dX5_copy_8 ?_
      refine w_icmp_ge C 42 dX5_copy_9 (by decide) ⟨⟨by omega, by omega⟩, by omega, by omega⟩ (fun c9 => ?_) (fun c9 => ?_)
      · refine w_aload_n C dX5_copy_42 1 rfl ?_
        refine w_get (ci := 5) (ref := "RootIsolatorModel") (T := TX5) (Cn := RX5) (N := 10) C (fun w h => wC_in (inX5 w h)) 0 rfl rfl 2 (by decide) (wC_in fX5_sizes) rfl rfl dX5_copy_43 ?_
        refine w_iload_n C dX5_copy_46 2 rfl ?_
        refine w_aload_n C dX5_copy_47 1 rfl ?_
        refine w_get (ci := 5) (ref := "RootIsolatorModel") (T := TX5) (Cn := RX5) (N := 10) C (fun w h => wC_in (inX5 w h)) 0 rfl rfl 2 (by decide) (wC_in fX5_sizes) rfl rfl dX5_copy_48 ?_
        refine w_iload_n C dX5_copy_51 3 rfl ?_
        refine w_iald C 2 0 rfl rfl (a) ((n : Int)) ⟨by omega, by omega, by omega⟩ (hn2) dX5_copy_52 ?_
        refine w_iast C (mU Q G (gL, (upd fS (t) (iZ ((n : Int)))), fN, fD, X)) 2 0 rfl rfl (t) ⟨by omega, by omega, by omega⟩ rfl dX5_copy_53 ?_
        refine w_aload_n C dX5_copy_54 1 rfl ?_
        refine w_get (ci := 5) (ref := "RootIsolatorModel") (T := TX5) (Cn := RX5) (N := 10) C (fun w h => wC_in (inX5 w h)) 0 rfl rfl 3 (by decide) (wC_in fX5_signs) rfl rfl dX5_copy_55 ?_
        refine w_iload_n C dX5_copy_58 2 rfl ?_
        refine w_aload_n C dX5_copy_59 1 rfl ?_
        refine w_get (ci := 5) (ref := "RootIsolatorModel") (T := TX5) (Cn := RX5) (N := 10) C (fun w h => wC_in (inX5 w h)) 0 rfl rfl 3 (by decide) (wC_in fX5_signs) rfl rfl dX5_copy_60 ?_
        refine w_iload_n C dX5_copy_63 3 rfl ?_
        refine w_iald C 3 0 rfl rfl (a) (x.sign) ⟨by omega, by omega, by omega⟩ (hn5) dX5_copy_64 ?_
        refine w_iast C (mU Q G (gL, (upd fS (t) (iZ ((n : Int)))), (upd fN (t) (iZ (x.sign))), fD, X)) 3 0 rfl rfl (t) ⟨by omega, by omega, by omega⟩ rfl dX5_copy_65 ?_
        exact m_vret hsz C hr hlk (⟨_, _, _, rfl, ⟨fun c i hc hi2 => hout _ (by omega), fun c hc => upd_ne hc, fun c hc => upd_ne hc⟩, ⟨n, hn1, upd_eq, fun i hi2 => by rw [hi i (by omega)]; exact hn3 i hi2, fun i hi2 => by rw [hi i (by omega)]; exact hn4 i hi2, upd_eq, by rw [hn6]; exact zv_congr (fun i hi2 => (hi i (by omega)).symm)⟩⟩) dX5_copy_66
      · refine w_aload_n C dX5_copy_12 1 rfl ?_
        refine w_get (ci := 5) (ref := "RootIsolatorModel") (T := TX5) (Cn := RX5) (N := 10) C (fun w h => wC_in (inX5 w h)) 0 rfl rfl 1 (by decide) (wC_in fX5_limbs) rfl rfl dX5_copy_13 ?_
        refine w_sipush C dX5_copy_16 (by decide) ?_
        refine w_iload_n C dX5_copy_19 2 rfl ?_
        refine w_imul C dX5_copy_20 ?_
        refine w_iload_n C dX5_copy_21 0 rfl ?_
        refine w_iadd C dX5_copy_22 ?_
        refine w_aload_n C dX5_copy_23 1 rfl ?_
        refine w_get (ci := 5) (ref := "RootIsolatorModel") (T := TX5) (Cn := RX5) (N := 10) C (fun w h => wC_in (inX5 w h)) 0 rfl rfl 1 (by decide) (wC_in fX5_limbs) rfl rfl dX5_copy_24 ?_
        refine w_sipush C dX5_copy_27 (by decide) ?_
        refine w_iload_n C dX5_copy_30 3 rfl ?_
        refine w_imul C dX5_copy_31 ?_
        refine w_iload_n C dX5_copy_32 0 rfl ?_
        refine w_iadd C dX5_copy_33 ?_
        refine w_iald C 1 0 rfl rfl (640 * a + k) ((fL (640 * a + k)).toInt) ⟨by omega, by omega, by omega⟩ ((hout _ (by omega)).trans (iZ_self _).symm) dX5_copy_34 ?_
        refine w_iast C (mU Q G ((upd gL ((640 * t) + k) (iZ ((fL (640 * a + k)).toInt))), fS, fN, fD, X)) 1 0 rfl rfl ((640 * t) + k) ⟨by omega, by omega, by omega⟩ rfl dX5_copy_35 ?_
        refine w_iinc C (((k + 1 : Nat) : Int)) (by omega) [(3, .int (iZ (((k + 1 : Nat) : Int)))), (0, .ref (Q 0)), (1, .int (iZ ((t : Int)))), (2, .int (iZ ((a : Int))))] dX5_copy_36 0 rfl (by decide) rfl ?_
        refine w_goto C 2 dX5_copy_39 (by decide) ?_
        exact ih (k + 1) _ (by omega) (by omega) (fun j hj => by rw [upd_ne (by omega)]; exact hout j (by omega)) (fun i hi2 => by
          rcases Nat.lt_or_ge i k with q | q
          · rw [upd_ne (by omega)]; exact hi i q
          · have : i = k := by omega
            subst this; rw [upd_eq, iZ_self])
  refine w_iconst C dX5_copy_0 ?_
  refine w_istore_n C [(3, .int (iZ (0))), (0, .ref (Q 0)), (1, .int (iZ ((t : Int)))), (2, .int (iZ ((a : Int))))] dX5_copy_1 rfl (by decide) rfl ?_
  exact loop (n + 1) 0 fL (by omega) (by omega) (fun _ _ => rfl) (fun i hi2 => absurd hi2 (by omega))
set_option maxHeartbeats 4000000 in
set_option maxRecDepth 100000 in
/-- compareSizes: which magnitude is the greater -/
theorem cm_compareSizes (l : Launch) (D : va_G) (Q : Nat → Nat) (G : Nat → ClassId) (fL fS fN fD : Nat → Int32) (X : mX) (a b : Nat) (x y : Int) (ha : a < 141) (hb : b < 141) (hx : mNum fL fS fN a x) (hy : mNum fL fS fN b y) (sz : Nat) : Met l yX5_compareSizes (wC yX5_compareSizes cX5_compareSizes 6 (some .int)) ({ frames := 0, cells := 0, slots := 0, locals := 0 }) (va_Pc [.ref (Q 0), .int (iZ ((a : Int))), .int (iZ ((b : Int)))] (mPre D Q G (fL, fS, fN, fD, X) sz)) (va_Qi (fun (r : Int32) (u : mT) => r = iZ (zcmp (x.natAbs : Int) (y.natAbs : Int)) ∧ u = (fL, fS, fN, fD, X)) (mAt D Q G (mA Q sz)) (mA Q sz)) 0 0 (mA Q sz) := by
  refine m_met (cc := cX5_compareSizes) (maxL := 6) (ret := (some .int)) (by decide) rfl rfl (Nat.le_of_ble_eq_true rfl) ?_
  intro p e s m below meth c hsz C hr hlk
  refine w_sub [(0, .ref (Q 0)), (1, .int (iZ ((a : Int)))), (2, .int (iZ ((b : Int))))] [0, 1, 2] rfl ?_
  obtain ⟨na, hna1, hna2, hna3, hna4, hna5, hna6⟩ := hx
  obtain ⟨nb, hnb1, hnb2, hnb3, hnb4, hnb5, hnb6⟩ := hy
  have loop : ∀ (d : Nat) (k : Nat), k < d → k ≤ na → (∀ i : Nat, k ≤ i → i < na → fL (640 * a + i) = fL (640 * b + i)) → na = nb → ZW p l e ({ frames := 0, cells := 0, slots := 0, locals := 0 }) s m ([.ref (Q 0), .int (iZ ((a : Int))), .int (iZ ((b : Int)))] : List Value).toArray below meth c D (mA Q sz) 6 0 0 (MQ below (va_Qi (fun (r : Int32) (u : mT) => r = iZ (zcmp (x.natAbs : Int) (y.natAbs : Int)) ∧ u = (fL, fS, fN, fD, X)) (mAt D Q G (mA Q sz)) (mA Q sz)) ([.ref (Q 0), .int (iZ ((a : Int))), .int (iZ ((b : Int)))] : List Value).toArray s 0 0 (mA Q sz)) (mU Q G (fL, fS, fN, fD, X)) 45 [(3, .int (iZ ((k : Int) - 1))), (0, .ref (Q 0)), (1, .int (iZ ((a : Int)))), (2, .int (iZ ((b : Int))))] [] := by
    intro d
    induction d with
    | zero =>
      intro k hd hk he hnn
      exact absurd hd (by omega)
    | succ d ih =>
      intro k hd hk he hnn
      refine w_iload_n C dX5_compareSizes_45 0 rfl ?_
      refine w_if_lt C 103 dX5_compareSizes_46 (by decide) ⟨by omega, by omega⟩ (fun c46 => ?_) (fun c46 => ?_)
      · have hk0 : k = 0 := by omega
        subst hk0
        have hz0 : zcmp (x.natAbs : Int) (y.natAbs : Int) = 0 := zcmp_eq.2 (by rw [hna6, hnb6, ← hnn]; exact zv_congr (fun i hi => he i (by omega) hi))
        refine w_iconst C dX5_compareSizes_103 ?_
        exact m_iret hsz C hr hlk (⟨by rw [hz0], rfl⟩) dX5_compareSizes_104
      · obtain ⟨i, rfl⟩ : ∃ i, k = i + 1 := ⟨k - 1, by omega⟩
        refine w_aload_n C dX5_compareSizes_49 1 rfl ?_
        refine w_get (ci := 5) (ref := "RootIsolatorModel") (T := TX5) (Cn := RX5) (N := 10) C (fun w h => wC_in (inX5 w h)) 0 rfl rfl 1 (by decide) (wC_in fX5_limbs) rfl rfl dX5_compareSizes_50 ?_
        refine w_sipush C dX5_compareSizes_53 (by decide) ?_
        refine w_iload_n C dX5_compareSizes_56 2 rfl ?_
        refine w_imul C dX5_compareSizes_57 ?_
        refine w_iload_n C dX5_compareSizes_58 0 rfl ?_
        refine w_iadd C dX5_compareSizes_59 ?_
        refine w_iald C 1 0 rfl rfl (640 * a + i) ((fL (640 * a + i)).toInt) ⟨by omega, by omega, by omega⟩ ((iZ_self _).symm) dX5_compareSizes_60 ?_
        refine w_istore C [(4, .int (iZ ((fL (640 * a + i)).toInt))), (3, .int (iZ (((i + 1 : Nat) : Int) - 1))), (0, .ref (Q 0)), (1, .int (iZ ((a : Int)))), (2, .int (iZ ((b : Int))))] dX5_compareSizes_61 (by decide) rfl ?_
        refine w_aload_n C dX5_compareSizes_63 2 rfl ?_
        refine w_get (ci := 5) (ref := "RootIsolatorModel") (T := TX5) (Cn := RX5) (N := 10) C (fun w h => wC_in (inX5 w h)) 0 rfl rfl 1 (by decide) (wC_in fX5_limbs) rfl rfl dX5_compareSizes_64 ?_
        refine w_sipush C dX5_compareSizes_67 (by decide) ?_
        refine w_iload_n C dX5_compareSizes_70 4 rfl ?_
        refine w_imul C dX5_compareSizes_71 ?_
        refine w_iload_n C dX5_compareSizes_72 1 rfl ?_
        refine w_iadd C dX5_compareSizes_73 ?_
        refine w_iald C 1 0 rfl rfl (640 * b + i) ((fL (640 * b + i)).toInt) ⟨by omega, by omega, by omega⟩ ((iZ_self _).symm) dX5_compareSizes_74 ?_
        refine w_istore C [(5, .int (iZ ((fL (640 * b + i)).toInt))), (4, .int (iZ ((fL (640 * a + i)).toInt))), (3, .int (iZ (((i + 1 : Nat) : Int) - 1))), (0, .ref (Q 0)), (1, .int (iZ ((a : Int)))), (2, .int (iZ ((b : Int))))] dX5_compareSizes_75 (by decide) rfl ?_
        refine w_iload C dX5_compareSizes_77 1 rfl ?_
        refine w_iload C dX5_compareSizes_79 0 rfl ?_
        refine w_icmp_eq C 97 dX5_compareSizes_81 (by decide) ⟨i32r _, i32r _⟩ (fun c81 => ?_) (fun c81 => ?_)
        · refine w_iinc C ((i : Int) - 1) (by omega) [(3, .int (iZ ((i : Int) - 1))), (5, .int (iZ ((fL (640 * b + i)).toInt))), (4, .int (iZ ((fL (640 * a + i)).toInt))), (0, .ref (Q 0)), (1, .int (iZ ((a : Int)))), (2, .int (iZ ((b : Int))))] dX5_compareSizes_97 2 rfl (by decide) rfl ?_
          refine w_goto C 45 dX5_compareSizes_100 (by decide) ?_
          refine w_sub [(3, .int (iZ ((i : Int) - 1))), (0, .ref (Q 0)), (1, .int (iZ ((a : Int)))), (2, .int (iZ ((b : Int))))] [0, 3, 4, 5] rfl ?_
          exact ih i (by omega) (by omega) (fun q h1 h2 => by
            rcases Nat.lt_or_ge i q with z | z
            · exact he q (by omega) h2
            · have : q = i := by omega
              subst this; rw [← iZ_self (fL (640 * a + q)), ← iZ_self (fL (640 * b + q)), c81]) hnn
        · refine w_iload C dX5_compareSizes_84 1 rfl ?_
          refine w_iload C dX5_compareSizes_86 0 rfl ?_
          refine w_icmp_ge C 95 dX5_compareSizes_88 (by decide) ⟨i32r _, i32r _⟩ (fun c88 => ?_) (fun c88 => ?_)
          · have hlt := zv_lt_of (k := i) (by omega) (by rw [hnn]; exact hnb3) hna3 (fun q h1 h2 => (he q (by omega) h2).symm) (show (fL (640 * b + i)).toInt < (fL (640 * a + i)).toInt by omega)
            have hz1 : zcmp (x.natAbs : Int) (y.natAbs : Int) = 1 := by unfold zcmp; rw [if_pos (by rw [hna6, hnb6, ← hnn]; omega)]
            refine w_iconst C dX5_compareSizes_95 ?_
            exact m_iret hsz C hr hlk (⟨by rw [hz1], rfl⟩) dX5_compareSizes_96
          · have hlt := zv_lt_of (k := i) (by omega) hna3 (by rw [hnn]; exact hnb3) (fun q h1 h2 => he q (by omega) h2) (show (fL (640 * a + i)).toInt < (fL (640 * b + i)).toInt by omega)
            have hz1 : zcmp (x.natAbs : Int) (y.natAbs : Int) = -1 := by unfold zcmp; rw [if_neg (by rw [hna6, hnb6, ← hnn]; omega), if_neg (by rw [hna6, hnb6, ← hnn]; omega)]
            refine w_iconst C dX5_compareSizes_91 ?_
            refine w_goto C 96 dX5_compareSizes_92 (by decide) ?_
            exact m_iret hsz C hr hlk (⟨by rw [hz1], rfl⟩) dX5_compareSizes_96
  refine w_aload_n C dX5_compareSizes_0 0 rfl ?_
  refine w_get (ci := 5) (ref := "RootIsolatorModel") (T := TX5) (Cn := RX5) (N := 10) C (fun w h => wC_in (inX5 w h)) 0 rfl rfl 2 (by decide) (wC_in fX5_sizes) rfl rfl dX5_compareSizes_1 ?_
  refine w_iload_n C dX5_compareSizes_4 1 rfl ?_
  refine w_iald C 2 0 rfl rfl (a) ((na : Int)) ⟨by omega, by omega, by omega⟩ (hna2) dX5_compareSizes_5 ?_
  refine w_aload_n C dX5_compareSizes_6 0 rfl ?_
  refine w_get (ci := 5) (ref := "RootIsolatorModel") (T := TX5) (Cn := RX5) (N := 10) C (fun w h => wC_in (inX5 w h)) 0 rfl rfl 2 (by decide) (wC_in fX5_sizes) rfl rfl dX5_compareSizes_7 ?_
  refine w_iload_n C dX5_compareSizes_10 2 rfl ?_
  refine w_iald C 2 0 rfl rfl (b) ((nb : Int)) ⟨by omega, by omega, by omega⟩ (hnb2) dX5_compareSizes_11 ?_
  refine w_icmp_eq C 36 dX5_compareSizes_12 (by decide) ⟨⟨by omega, by omega⟩, by omega, by omega⟩ (fun c12 => ?_) (fun c12 => ?_)
  · refine w_aload_n C dX5_compareSizes_36 0 rfl ?_
    refine w_get (ci := 5) (ref := "RootIsolatorModel") (T := TX5) (Cn := RX5) (N := 10) C (fun w h => wC_in (inX5 w h)) 0 rfl rfl 2 (by decide) (wC_in fX5_sizes) rfl rfl dX5_compareSizes_37 ?_
    refine w_iload_n C dX5_compareSizes_40 1 rfl ?_
    refine w_iald C 2 0 rfl rfl (a) ((na : Int)) ⟨by omega, by omega, by omega⟩ (hna2) dX5_compareSizes_41 ?_
    refine w_iconst C dX5_compareSizes_42 ?_
    refine w_isub C dX5_compareSizes_43 ?_
    refine w_istore_n C [(3, .int (iZ ((na : Int) - 1))), (0, .ref (Q 0)), (1, .int (iZ ((a : Int)))), (2, .int (iZ ((b : Int))))] dX5_compareSizes_44 rfl (by decide) rfl ?_
    exact loop (na + 1) na (by omega) (by omega) (fun i h1 h2 => absurd h1 (by omega)) (by omega)
  · refine w_aload_n C dX5_compareSizes_15 0 rfl ?_
    refine w_get (ci := 5) (ref := "RootIsolatorModel") (T := TX5) (Cn := RX5) (N := 10) C (fun w h => wC_in (inX5 w h)) 0 rfl rfl 2 (by decide) (wC_in fX5_sizes) rfl rfl dX5_compareSizes_16 ?_
    refine w_iload_n C dX5_compareSizes_19 1 rfl ?_
    refine w_iald C 2 0 rfl rfl (a) ((na : Int)) ⟨by omega, by omega, by omega⟩ (hna2) dX5_compareSizes_20 ?_
    refine w_aload_n C dX5_compareSizes_21 0 rfl ?_
    refine w_get (ci := 5) (ref := "RootIsolatorModel") (T := TX5) (Cn := RX5) (N := 10) C (fun w h => wC_in (inX5 w h)) 0 rfl rfl 2 (by decide) (wC_in fX5_sizes) rfl rfl dX5_compareSizes_22 ?_
    refine w_iload_n C dX5_compareSizes_25 2 rfl ?_
    refine w_iald C 2 0 rfl rfl (b) ((nb : Int)) ⟨by omega, by omega, by omega⟩ (hnb2) dX5_compareSizes_26 ?_
    refine w_icmp_ge C 34 dX5_compareSizes_27 (by decide) ⟨⟨by omega, by omega⟩, by omega, by omega⟩ (fun c27 => ?_) (fun c27 => ?_)
    · have hlt : zcmp (x.natAbs : Int) (y.natAbs : Int) = 1 := by
        have h1 := zv_lt hnb3
        obtain ⟨i, rfl⟩ : ∃ i, na = i + 1 := ⟨na - 1, by omega⟩
        have h2 := zv_top hna3 (hna4 i rfl)
        have h3 := pw31_le (show nb ≤ i by omega)
        unfold zcmp; rw [if_pos (by omega)]
      refine w_iconst C dX5_compareSizes_34 ?_
      exact m_iret hsz C hr hlk (⟨by rw [hlt], rfl⟩) dX5_compareSizes_35
    · have hlt : zcmp (x.natAbs : Int) (y.natAbs : Int) = -1 := by
        have h1 := zv_lt hna3
        obtain ⟨i, rfl⟩ : ∃ i, nb = i + 1 := ⟨nb - 1, by omega⟩
        have h2 := zv_top hnb3 (hnb4 i rfl)
        have h3 := pw31_le (show na ≤ i by omega)
        unfold zcmp; rw [if_neg (by omega), if_neg (by omega)]
      refine w_iconst C dX5_compareSizes_30 ?_
      refine w_goto C 35 dX5_compareSizes_31 (by decide) ?_
      exact m_iret hsz C hr hlk (⟨by rw [hlt], rfl⟩) dX5_compareSizes_35
