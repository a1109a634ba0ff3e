set_option maxHeartbeats 4000000 in
set_option maxRecDepth 100000 in
/-- addSizes: the magnitudes are added -/
theorem cm_addSizes (l : Launch) (D : va_G) (Q : Nat → Nat) (G : Nat → ClassId) (fL fS fN fD : Nat → Int32) (X : mX) (t a b : Nat) (sg x y : Int) (ht : t < 141) (ha : a < 141) (hb : b < 141) (hx : mNum fL fS fN a x) (hy : mNum fL fS fN b y) (hA : (x.natAbs : Int) < 2 ^ (31 * 639)) (hB : (y.natAbs : Int) < 2 ^ (31 * 639)) (hsg : sg = 1 ∨ sg = -1) (sz : Nat) : Met l yX5_addSizes (wC yX5_addSizes cX5_addSizes 11 none) ({ frames := 1, cells := 0, slots := 0, locals := 24 }) (va_Pc [.ref (Q 0), .int (iZ ((t : Int))), .int (iZ ((a : Int))), .int (iZ ((b : Int))), .int (iZ (sg))] (mPre D Q G (fL, fS, fN, fD, X) sz)) (va_Qv (fun u : mT => mSet fL fS fN fD X t (sg * ((x.natAbs : Int) + (y.natAbs : Int))) u) (mAt D Q G (mA Q sz)) (mA Q sz)) 0 0 (mA Q sz) := by
  refine m_met (cc := cX5_addSizes) (maxL := 11) (ret := none) (by decide) rfl rfl (Nat.le_of_ble_eq_true rfl) ?_
  intro p e s m below meth c hsz C hr hlk
  refine w_sub [(0, .ref (Q 0)), (1, .int (iZ ((t : Int)))), (2, .int (iZ ((a : Int)))), (3, .int (iZ ((b : Int)))), (4, .int (iZ (sg)))] [0, 1, 2, 3, 4] rfl ?_
  obtain ⟨na, hna1, hna2, hna3, hna4, hna5, hna6⟩ := hx
  obtain ⟨nb, hnb1, hnb2, hnb3, hnb4, hnb5, hnb6⟩ := hy
  have hna7 := mNum_size hna3 hna4 hna6 hA
  have hnb7 := mNum_size hnb3 hnb4 hnb6 hB
  obtain ⟨n, hn⟩ : ∃ n : Nat, n = max na nb := ⟨_, rfl⟩
  have loop : ∀ (d : Nat) (k : Nat) (cy : Int) (gL : Nat → Int32), n < k + d → k ≤ n → 0 ≤ cy ∧ cy ≤ 1 → (∀ j : Nat, (j < 640 * t ∨ 640 * t + k ≤ j) → gL j = fL j) → limb gL (640 * t) k → zv gL (640 * t) k + cy * 2 ^ (31 * k) = zd (dv fL (640 * a) na) k + zd (dv fL (640 * b) nb) k → ZW p l e ({ frames := 1, cells := 0, slots := 0, locals := 24 }) s m ([.ref (Q 0), .int (iZ ((t : Int))), .int (iZ ((a : Int))), .int (iZ ((b : Int))), .int (iZ (sg))] : List Value).toArray below meth c D (mA Q sz) 11 0 0 (MQ below (va_Qv (fun u : mT => mSet fL fS fN fD X t (sg * ((x.natAbs : Int) + (y.natAbs : Int))) u) (mAt D Q G (mA Q sz)) (mA Q sz)) ([.ref (Q 0), .int (iZ ((t : Int))), .int (iZ ((a : Int))), .int (iZ ((b : Int))), .int (iZ (sg))] : List Value).toArray s 0 0 (mA Q sz)) (mU Q G (gL, fS, fN, fD, X)) 38 [(10, .int (iZ ((k : Int)))), (8, .long (lZ (cy))), (7, .int (iZ ((n : Int)))), (6, .int (iZ ((nb : Int)))), (5, .int (iZ ((na : Int)))), (0, .ref (Q 0)), (1, .int (iZ ((t : Int)))), (2, .int (iZ ((a : Int)))), (3, .int (iZ ((b : Int)))), (4, .int (iZ (sg)))] [] := by
    intro d
    induction d with
    | zero =>
      intro k cy gL hd hk hcy hout hl hv
      exact absurd hd (by omega)
    | succ d ih =>
      intro k cy gL hd hk hcy hout hl hv
      refine w_iload C dX5_addSizes_38 0 rfl ?_
      refine w_iload C dX5_addSizes_40 2 rfl ?_
      refine w_icmp_ge C 134 dX5_addSizes_42 (by decide) ⟨⟨by omega, by omega⟩, by omega, by omega⟩ (fun c42 => ?_) (fun c42 => ?_)
      · have hkn : k = n := by omega
        subst hkn
        have hval : zv (upd gL (640 * t + k) (iZ cy)) (640 * t) (k + 1) = (x.natAbs : Int) + (y.natAbs : Int) := by
          rw [zv_upd_top, iZ_toInt (by omega) (by omega), hna6, hnb6, hv, zd_dv (by omega), zd_dv (by omega)]
        refine w_aload_n C dX5_addSizes_134 5 rfl ?_
        refine w_get (ci := 5) (ref := "RootIsolatorModel") (T := TX5) (Cn := RX5) (N := 10) C (fun w h => wC_in (inX5 w h)) 0 rfl rfl 1 (by decide) (wC_in fX5_limbs) rfl rfl dX5_addSizes_135 ?_
        refine w_sipush C dX5_addSizes_138 (by decide) ?_
        refine w_iload_n C dX5_addSizes_141 6 rfl ?_
        refine w_imul C dX5_addSizes_142 ?_
        refine w_iload C dX5_addSizes_143 2 rfl ?_
        refine w_iadd C dX5_addSizes_145 ?_
        refine w_lload C dX5_addSizes_146 1 rfl ?_
        refine w_l2i C dX5_addSizes_148 ?_
        refine w_iast C (mU Q G ((upd gL (640 * t + k) (iZ (cy))), fS, fN, fD, X)) 1 0 rfl rfl (640 * t + k) ⟨by omega, by omega, by omega⟩ rfl dX5_addSizes_149 ?_
        refine w_aload_n C dX5_addSizes_150 5 rfl ?_
        refine w_iload_n C dX5_addSizes_151 6 rfl ?_
        refine w_iload C dX5_addSizes_152 2 rfl ?_
        refine w_iconst C dX5_addSizes_154 ?_
        refine w_iadd C dX5_addSizes_155 ?_
        refine w_top C (((k + 1 : Nat) : Int)) (by omega) ?_
        refine w_iload C dX5_addSizes_156 9 rfl ?_
        refine m_callv [.int (iZ ((t : Int))), .int (iZ (((k + 1 : Nat) : Int))), .int (iZ (sg))] hsz C (fun z => cm_trim l D Q G (upd gL (640 * t + k) (iZ (cy))) fS fN fD X t (k + 1) sg ht (by omega) z) (cwV 3 C.1.2.2.2.2 (wC_V kX5_45 nX5_trim slX5_trim iniX5 cdX5_trim) rfl rfl rfl (by decide +kernel) ⟨Nat.le_of_ble_eq_true rfl, Nat.le_of_ble_eq_true rfl⟩) rfl ⟨Nat.zero_le _, Nat.zero_le _⟩ (Nat.le_of_ble_eq_true rfl) dX5_addSizes_158 [.int (iZ (sg)), .int (iZ (((k + 1 : Nat) : Int))), .int (iZ ((t : Int))), .ref (Q 0)] rfl (fun v1 hv1 => ?_)
        obtain ⟨j, hj, hjz, hjt, rfl⟩ := hv1
        have hq := trim_num (gS := upd fS t (iZ (j : Int))) (gN := upd fN t (iZ (if j = 0 then 0 else sg))) (by omega) (limb_upd hl (by rw [iZ_toInt (by omega) (by omega)]; omega)) hj hjz hjt upd_eq upd_eq (by rcases hsg with q | q; exact Or.inl q; exact Or.inr (Or.inl q))
        rw [hval] at hq
        exact m_vret hsz C hr hlk (⟨_, _, _, rfl, ⟨fun c i hc hi2 => by rw [upd_ne (by omega)]; exact hout _ (by omega), fun c hc => upd_ne hc, fun c hc => upd_ne hc⟩, hq⟩) dX5_addSizes_161
      · refine w_lload C dX5_addSizes_45 1 rfl ?_
        refine w_iload C dX5_addSizes_47 0 rfl ?_
        refine w_iload C dX5_addSizes_49 4 rfl ?_
        have J2 : ZW p l e ({ frames := 1, cells := 0, slots := 0, locals := 24 }) s m ([.ref (Q 0), .int (iZ ((t : Int))), .int (iZ ((a : Int))), .int (iZ ((b : Int))), .int (iZ (sg))] : List Value).toArray below meth c D (mA Q sz) 11 0 0 (MQ below (va_Qv (fun u : mT => mSet fL fS fN fD X t (sg * ((x.natAbs : Int) + (y.natAbs : Int))) u) (mAt D Q G (mA Q sz)) (mA Q sz)) ([.ref (Q 0), .int (iZ ((t : Int))), .int (iZ ((a : Int))), .int (iZ ((b : Int))), .int (iZ (sg))] : List Value).toArray s 0 0 (mA Q sz)) (mU Q G (gL, fS, fN, fD, X)) 72 [(10, .int (iZ ((k : Int)))), (8, .long (lZ (cy))), (7, .int (iZ ((n : Int)))), (6, .int (iZ ((nb : Int)))), (5, .int (iZ ((na : Int)))), (0, .ref (Q 0)), (1, .int (iZ ((t : Int)))), (2, .int (iZ ((a : Int)))), (3, .int (iZ ((b : Int)))), (4, .int (iZ (sg)))] [.long (lZ (dv fL (640 * a) na k)), .long (lZ (cy))] := by
          refine w_iload C dX5_addSizes_72 0 rfl ?_
          refine w_iload C dX5_addSizes_74 3 rfl ?_
          have J3 : ZW p l e ({ frames := 1, cells := 0, slots := 0, locals := 24 }) s m ([.ref (Q 0), .int (iZ ((t : Int))), .int (iZ ((a : Int))), .int (iZ ((b : Int))), .int (iZ (sg))] : List Value).toArray below meth c D (mA Q sz) 11 0 0 (MQ below (va_Qv (fun u : mT => mSet fL fS fN fD X t (sg * ((x.natAbs : Int) + (y.natAbs : Int))) u) (mAt D Q G (mA Q sz)) (mA Q sz)) ([.ref (Q 0), .int (iZ ((t : Int))), .int (iZ ((a : Int))), .int (iZ ((b : Int))), .int (iZ (sg))] : List Value).toArray s 0 0 (mA Q sz)) (mU Q G (gL, fS, fN, fD, X)) 97 [(10, .int (iZ ((k : Int)))), (8, .long (lZ (cy))), (7, .int (iZ ((n : Int)))), (6, .int (iZ ((nb : Int)))), (5, .int (iZ ((na : Int)))), (0, .ref (Q 0)), (1, .int (iZ ((t : Int)))), (2, .int (iZ ((a : Int)))), (3, .int (iZ ((b : Int)))), (4, .int (iZ (sg)))] [.long (lZ (dv fL (640 * b) nb k)), .long (lZ (dv fL (640 * a) na k)), .long (lZ (cy))] := by
            refine w_ladd C dX5_addSizes_97 ?_
            obtain ⟨w, hw⟩ : ∃ w : Int, w = cy + (dv fL (640 * a) na k + dv fL (640 * b) nb k) := ⟨_, rfl⟩
            have hd1 := dv_r hna3 k
            have hd2 := dv_r hnb3 k
            have hxr : 0 ≤ w ∧ w < 4294967297 := by omega
            refine w_ladd C dX5_addSizes_98 ?_
            refine w_topl C (w) (hw.symm) ?_
            refine w_lstore C [(8, .long (lZ (w))), (10, .int (iZ ((k : Int)))), (7, .int (iZ ((n : Int)))), (6, .int (iZ ((nb : Int)))), (5, .int (iZ ((na : Int)))), (0, .ref (Q 0)), (1, .int (iZ ((t : Int)))), (2, .int (iZ ((a : Int)))), (3, .int (iZ ((b : Int)))), (4, .int (iZ (sg)))] dX5_addSizes_99 (by decide) rfl ?_
            refine w_aload_n C dX5_addSizes_101 5 rfl ?_
            refine w_get (ci := 5) (ref := "RootIsolatorModel") (T := TX5) (Cn := RX5) (N := 10) C (fun w h => wC_in (inX5 w h)) 0 rfl rfl 1 (by decide) (wC_in fX5_limbs) rfl rfl dX5_addSizes_102 ?_
            refine w_sipush C dX5_addSizes_105 (by decide) ?_
            refine w_iload_n C dX5_addSizes_108 6 rfl ?_
            refine w_imul C dX5_addSizes_109 ?_
            refine w_iload C dX5_addSizes_110 1 rfl ?_
            refine w_iadd C dX5_addSizes_112 ?_
            refine w_lload C dX5_addSizes_113 0 rfl ?_
            refine w_ldc2 C (2147483647) dX5_addSizes_115 (wC_in kclX5_43) ?_
            refine w_and31 C dX5_addSizes_118 ?_
            refine w_l2i C dX5_addSizes_119 ?_
            refine w_iast C (mU Q G ((upd gL (640 * t + k) (iZ ((w) % 2147483648))), fS, fN, fD, X)) 1 0 rfl rfl (640 * t + k) ⟨by omega, by omega, by omega⟩ rfl dX5_addSizes_120 ?_
            refine w_lload C dX5_addSizes_121 0 rfl ?_
            refine w_bipush C dX5_addSizes_123 (by decide) ?_
            refine w_lshr C (31) dX5_addSizes_125 ⟨by omega, by omega⟩ ⟨by omega, by omega⟩ ?_
            refine w_topl C (w / 2147483648) (rfl) ?_
            refine w_lstore C [(8, .long (lZ (w / 2147483648))), (10, .int (iZ ((k : Int)))), (7, .int (iZ ((n : Int)))), (6, .int (iZ ((nb : Int)))), (5, .int (iZ ((na : Int)))), (0, .ref (Q 0)), (1, .int (iZ ((t : Int)))), (2, .int (iZ ((a : Int)))), (3, .int (iZ ((b : Int)))), (4, .int (iZ (sg)))] dX5_addSizes_126 (by decide) rfl ?_
            refine w_iinc C (((k + 1 : Nat) : Int)) (by omega) [(10, .int (iZ (((k + 1 : Nat) : Int)))), (8, .long (lZ (w / 2147483648))), (7, .int (iZ ((n : Int)))), (6, .int (iZ ((nb : Int)))), (5, .int (iZ ((na : Int)))), (0, .ref (Q 0)), (1, .int (iZ ((t : Int)))), (2, .int (iZ ((a : Int)))), (3, .int (iZ ((b : Int)))), (4, .int (iZ (sg)))] dX5_addSizes_128 1 rfl (by decide) rfl ?_
            refine w_goto C 38 dX5_addSizes_131 (by decide) ?_
            exact ih (k + 1) (w / 2147483648) _ (by omega) (by omega) (by omega) (fun j hj => by rw [upd_ne (by omega)]; exact hout j (by omega)) (limb_upd hl (by rw [iZ_toInt (by omega) (by omega)]; omega)) (by
              have e1 := dig31 w (2 ^ (31 * k))
              have e2 : w * 2 ^ (31 * k) = cy * 2 ^ (31 * k) + dv fL (640 * a) na k * 2 ^ (31 * k) + dv fL (640 * b) nb k * 2 ^ (31 * k) := by rw [hw, Int.add_mul, Int.add_mul]; omega
              rw [zv_upd_top, iZ_toInt (by omega) (by omega), p31]
              simp only [zd]
              omega)
          refine w_icmp_ge C 96 dX5_addSizes_76 (by decide) ⟨⟨by omega, by omega⟩, by omega, by omega⟩ (fun c76 => ?_) (fun c76 => ?_)
          · refine w_lconst C 0 dX5_addSizes_96 rfl ?_
            refine w_topl C (dv fL (640 * b) nb k) ((dv_out (by omega)).symm) ?_
            exact J3
          · refine w_aload_n C dX5_addSizes_79 5 rfl ?_
            refine w_get (ci := 5) (ref := "RootIsolatorModel") (T := TX5) (Cn := RX5) (N := 10) C (fun w h => wC_in (inX5 w h)) 0 rfl rfl 1 (by decide) (wC_in fX5_limbs) rfl rfl dX5_addSizes_80 ?_
            refine w_sipush C dX5_addSizes_83 (by decide) ?_
            refine w_iload_n C dX5_addSizes_86 8 rfl ?_
            refine w_imul C dX5_addSizes_87 ?_
            refine w_iload C dX5_addSizes_88 0 rfl ?_
            refine w_iadd C dX5_addSizes_90 ?_
            refine w_iald C 1 0 rfl rfl (640 * b + k) ((fL (640 * b + k)).toInt) ⟨by omega, by omega, by omega⟩ ((hout _ (by omega)).trans (iZ_self _).symm) dX5_addSizes_91 ?_
            refine w_i2l C dX5_addSizes_92 (i32r _) ?_
            refine w_goto C 97 dX5_addSizes_93 (by decide) ?_
            refine w_topl C (dv fL (640 * b) nb k) ((dv_in (by omega)).symm) ?_
            exact J3
        refine w_icmp_ge C 71 dX5_addSizes_51 (by decide) ⟨⟨by omega, by omega⟩, by omega, by omega⟩ (fun c51 => ?_) (fun c51 => ?_)
        · refine w_lconst C 0 dX5_addSizes_71 rfl ?_
          refine w_topl C (dv fL (640 * a) na k) ((dv_out (by omega)).symm) ?_
          exact J2
        · refine w_aload_n C dX5_addSizes_54 5 rfl ?_
          refine w_get (ci := 5) (ref := "RootIsolatorModel") (T := TX5) (Cn := RX5) (N := 10) C (fun w h => wC_in (inX5 w h)) 0 rfl rfl 1 (by decide) (wC_in fX5_limbs) rfl rfl dX5_addSizes_55 ?_
          refine w_sipush C dX5_addSizes_58 (by decide) ?_
          refine w_iload_n C dX5_addSizes_61 7 rfl ?_
          refine w_imul C dX5_addSizes_62 ?_
          refine w_iload C dX5_addSizes_63 0 rfl ?_
          refine w_iadd C dX5_addSizes_65 ?_
          refine w_iald C 1 0 rfl rfl (640 * a + k) ((fL (640 * a + k)).toInt) ⟨by omega, by omega, by omega⟩ ((hout _ (by omega)).trans (iZ_self _).symm) dX5_addSizes_66 ?_
          refine w_i2l C dX5_addSizes_67 (i32r _) ?_
          refine w_goto C 72 dX5_addSizes_68 (by decide) ?_
          refine w_topl C (dv fL (640 * a) na k) ((dv_in (by omega)).symm) ?_
          exact J2
  refine w_aload_n C dX5_addSizes_0 0 rfl ?_
  refine w_get (ci := 5) (ref := "RootIsolatorModel") (T := TX5) (Cn := RX5) (N := 10) C (fun w h => wC_in (inX5 w h)) 0 rfl rfl 2 (by decide) (wC_in fX5_sizes) rfl rfl dX5_addSizes_1 ?_
  refine w_iload_n C dX5_addSizes_4 2 rfl ?_
  refine w_iald C 2 0 rfl rfl (a) ((na : Int)) ⟨by omega, by omega, by omega⟩ (hna2) dX5_addSizes_5 ?_
  refine w_istore C [(5, .int (iZ ((na : Int)))), (0, .ref (Q 0)), (1, .int (iZ ((t : Int)))), (2, .int (iZ ((a : Int)))), (3, .int (iZ ((b : Int)))), (4, .int (iZ (sg)))] dX5_addSizes_6 (by decide) rfl ?_
  refine w_aload_n C dX5_addSizes_8 1 rfl ?_
  refine w_get (ci := 5) (ref := "RootIsolatorModel") (T := TX5) (Cn := RX5) (N := 10) C (fun w h => wC_in (inX5 w h)) 0 rfl rfl 2 (by decide) (wC_in fX5_sizes) rfl rfl dX5_addSizes_9 ?_
  refine w_iload_n C dX5_addSizes_12 4 rfl ?_
  refine w_iald C 2 0 rfl rfl (b) ((nb : Int)) ⟨by omega, by omega, by omega⟩ (hnb2) dX5_addSizes_13 ?_
  refine w_istore C [(6, .int (iZ ((nb : Int)))), (5, .int (iZ ((na : Int)))), (0, .ref (Q 0)), (1, .int (iZ ((t : Int)))), (2, .int (iZ ((a : Int)))), (3, .int (iZ ((b : Int)))), (4, .int (iZ (sg)))] dX5_addSizes_14 (by decide) rfl ?_
  refine w_iload C dX5_addSizes_16 1 rfl ?_
  refine w_iload C dX5_addSizes_18 0 rfl ?_
  have J4 : ZW p l e ({ frames := 1, cells := 0, slots := 0, locals := 24 }) s m ([.ref (Q 0), .int (iZ ((t : Int))), .int (iZ ((a : Int))), .int (iZ ((b : Int))), .int (iZ (sg))] : List Value).toArray below meth c D (mA Q sz) 11 0 0 (MQ below (va_Qv (fun u : mT => mSet fL fS fN fD X t (sg * ((x.natAbs : Int) + (y.natAbs : Int))) u) (mAt D Q G (mA Q sz)) (mA Q sz)) ([.ref (Q 0), .int (iZ ((t : Int))), .int (iZ ((a : Int))), .int (iZ ((b : Int))), .int (iZ (sg))] : List Value).toArray s 0 0 (mA Q sz)) (mU Q G (fL, fS, fN, fD, X)) 30 [(6, .int (iZ ((nb : Int)))), (5, .int (iZ ((na : Int)))), (0, .ref (Q 0)), (1, .int (iZ ((t : Int)))), (2, .int (iZ ((a : Int)))), (3, .int (iZ ((b : Int)))), (4, .int (iZ (sg)))] [.int (iZ ((n : Int)))] := by
    refine w_istore C [(7, .int (iZ ((n : Int)))), (6, .int (iZ ((nb : Int)))), (5, .int (iZ ((na : Int)))), (0, .ref (Q 0)), (1, .int (iZ ((t : Int)))), (2, .int (iZ ((a : Int)))), (3, .int (iZ ((b : Int)))), (4, .int (iZ (sg)))] dX5_addSizes_30 (by decide) rfl ?_
    refine w_lconst C 0 dX5_addSizes_32 rfl ?_
    refine w_lstore C [(8, .long (lZ (0))), (7, .int (iZ ((n : Int)))), (6, .int (iZ ((nb : Int)))), (5, .int (iZ ((na : Int)))), (0, .ref (Q 0)), (1, .int (iZ ((t : Int)))), (2, .int (iZ ((a : Int)))), (3, .int (iZ ((b : Int)))), (4, .int (iZ (sg)))] dX5_addSizes_33 (by decide) rfl ?_
    refine w_iconst C dX5_addSizes_35 ?_
    refine w_istore C [(10, .int (iZ (0))), (8, .long (lZ (0))), (7, .int (iZ ((n : Int)))), (6, .int (iZ ((nb : Int)))), (5, .int (iZ ((na : Int)))), (0, .ref (Q 0)), (1, .int (iZ ((t : Int)))), (2, .int (iZ ((a : Int)))), (3, .int (iZ ((b : Int)))), (4, .int (iZ (sg)))] dX5_addSizes_36 (by decide) rfl ?_
    exact loop (n + 1) 0 0 fL (by omega) (by omega) (by omega) (fun _ _ => rfl) (fun i hi2 => absurd hi2 (by omega)) (by simp [zv, zd])
  refine w_icmp_le C 28 dX5_addSizes_20 (by decide) ⟨⟨by omega, by omega⟩, by omega, by omega⟩ (fun c20 => ?_) (fun c20 => ?_)
  · refine w_iload C dX5_addSizes_28 0 rfl ?_
    refine w_top C ((n : Int)) (by omega) ?_
    exact J4
  · refine w_iload C dX5_addSizes_23 1 rfl ?_
    refine w_goto C 30 dX5_addSizes_25 (by decide) ?_
    refine w_top C ((n : Int)) (by omega) ?_
    exact J4
set_option maxHeartbeats 4000000 in
set_option maxRecDepth 100000 in
/-- lessSizes: the smaller magnitude is taken from the greater -/
theorem cm_lessSizes (l : Launch) (D : va_G) (Q : Nat → Nat) (G : Nat → ClassId) (fL fS fN fD : Nat → Int32) (X : mX) (t a b : Nat) (sg x y : Int) (ht : t < 141) (ha : a < 141) (hb : b < 141) (hx : mNum fL fS fN a x) (hy : mNum fL fS fN b y) (hge : (y.natAbs : Int) ≤ (x.natAbs : Int)) (hsg : sg = 1 ∨ sg = -1) (sz : Nat) : Met l yX5_lessSizes (wC yX5_lessSizes cX5_lessSizes 12 none) ({ frames := 1, cells := 0, slots := 0, locals := 24 }) (va_Pc [.ref (Q 0), .int (iZ ((t : Int))), .int (iZ ((a : Int))), .int (iZ ((b : Int))), .int (iZ (sg))] (mPre D Q G (fL, fS, fN, fD, X) sz)) (va_Qv (fun u : mT => mSet fL fS fN fD X t (sg * ((x.natAbs : Int) - (y.natAbs : Int))) u) (mAt D Q G (mA Q sz)) (mA Q sz)) 0 0 (mA Q sz) := by
  refine m_met (cc := cX5_lessSizes) (maxL := 12) (ret := none) (by decide) rfl rfl (Nat.le_of_ble_eq_true rfl) ?_
  intro p e s m below meth c hsz C hr hlk
  refine w_sub [(0, .ref (Q 0)), (1, .int (iZ ((t : Int)))), (2, .int (iZ ((a : Int)))), (3, .int (iZ ((b : Int)))), (4, .int (iZ (sg)))] [0, 1, 2, 3, 4] rfl ?_
  obtain ⟨na, hna1, hna2, hna3, hna4, hna5, hna6⟩ := hx
  obtain ⟨nb, hnb1, hnb2, hnb3, hnb4, hnb5, hnb6⟩ := hy
  have hnb7 : nb ≤ na := mNum_size (N := na) hnb3 hnb4 hnb6 (by have := zv_lt hna3; omega)
  have loop : ∀ (d : Nat) (k : Nat) (bw : Int) (gL : Nat → Int32), na < k + d → k ≤ na → 0 ≤ bw ∧ bw ≤ 1 → (∀ j : Nat, (j < 640 * t ∨ 640 * t + k ≤ j) → gL j = fL j) → limb gL (640 * t) k → zv gL (640 * t) k - bw * 2 ^ (31 * k) = zd (dv fL (640 * a) na) k - zd (dv fL (640 * b) nb) k → ZW p l e ({ frames := 1, cells := 0, slots := 0, locals := 24 }) s m ([.ref (Q 0), .int (iZ ((t : Int))), .int (iZ ((a : Int))), .int (iZ ((b : Int))), .int (iZ (sg))] : List Value).toArray below meth c D (mA Q sz) 12 0 0 (MQ below (va_Qv (fun u : mT => mSet fL fS fN fD X t (sg * ((x.natAbs : Int) - (y.natAbs : Int))) u) (mAt D Q G (mA Q sz)) (mA Q sz)) ([.ref (Q 0), .int (iZ ((t : Int))), .int (iZ ((a : Int))), .int (iZ ((b : Int))), .int (iZ (sg))] : List Value).toArray s 0 0 (mA Q sz)) (mU Q G (gL, fS, fN, fD, X)) 22 [(9, .int (iZ ((k : Int)))), (7, .long (lZ (bw))), (6, .int (iZ ((nb : Int)))), (5, .int (iZ ((na : Int)))), (0, .ref (Q 0)), (1, .int (iZ ((t : Int)))), (2, .int (iZ ((a : Int)))), (3, .int (iZ ((b : Int)))), (4, .int (iZ (sg)))] [] := by
    intro d
    induction d with
    | zero =>
      intro k bw gL hd hk hbw hout hl hv
      exact absurd hd (by omega)
    | succ d ih =>
      intro k bw gL hd hk hbw hout hl hv
      refine w_iload C dX5_lessSizes_22 0 rfl ?_
      refine w_iload C dX5_lessSizes_24 3 rfl ?_
      refine w_icmp_ge C 114 dX5_lessSizes_26 (by decide) ⟨⟨by omega, by omega⟩, by omega, by omega⟩ (fun c26 => ?_) (fun c26 => ?_)
      · have hkn : k = na := by omega
        subst hkn
        have hbz : zv gL (640 * t) k = (x.natAbs : Int) - (y.natAbs : Int) := by
          rw [zd_dv (Nat.le_refl _), zd_dv hnb7] at hv
          have h1 := zv_lt hl
          have h2 := p31_pos k
          rcases (show bw = 0 ∨ bw = 1 by omega) with q | q
          · subst q; omega
          · subst q; omega
        refine w_aload_n C dX5_lessSizes_114 4 rfl ?_
        refine w_iload_n C dX5_lessSizes_115 5 rfl ?_
        refine w_iload C dX5_lessSizes_116 3 rfl ?_
        refine w_iload C dX5_lessSizes_118 8 rfl ?_
        refine m_callv [.int (iZ ((t : Int))), .int (iZ ((k : Int))), .int (iZ (sg))] hsz C (fun z => cm_trim l D Q G gL fS fN fD X t k sg ht (by omega) z) (cwV 3 C.1.2.2.2.2 (wC_V kX5_45 nX5_trim slX5_trim iniX5 cdX5_trim) rfl rfl rfl (by decide +kernel) ⟨Nat.le_of_ble_eq_true rfl, Nat.le_of_ble_eq_true rfl⟩) rfl ⟨Nat.zero_le _, Nat.zero_le _⟩ (Nat.le_of_ble_eq_true rfl) dX5_lessSizes_120 [.int (iZ (sg)), .int (iZ ((k : Int))), .int (iZ ((t : Int))), .ref (Q 0)] rfl (fun v1 hv1 => ?_)
        obtain ⟨j, hj, hjz, hjt, rfl⟩ := hv1
        have hq := trim_num (gS := upd fS t (iZ (j : Int))) (gN := upd fN t (iZ (if j = 0 then 0 else sg))) (by omega) hl hj hjz hjt upd_eq upd_eq (by rcases hsg with q | q; exact Or.inl q; exact Or.inr (Or.inl q))
        rw [hbz] at hq
        exact m_vret hsz C hr hlk (⟨_, _, _, rfl, ⟨fun c i hc hi2 => hout _ (by omega), fun c hc => upd_ne hc, fun c hc => upd_ne hc⟩, hq⟩) dX5_lessSizes_123
      · refine w_aload_n C dX5_lessSizes_29 4 rfl ?_
        refine w_get (ci := 5) (ref := "RootIsolatorModel") (T := TX5) (Cn := RX5) (N := 10) C (fun w h => wC_in (inX5 w h)) 0 rfl rfl 1 (by decide) (wC_in fX5_limbs) rfl rfl dX5_lessSizes_30 ?_
        refine w_sipush C dX5_lessSizes_33 (by decide) ?_
        refine w_iload_n C dX5_lessSizes_36 6 rfl ?_
        refine w_imul C dX5_lessSizes_37 ?_
        refine w_iload C dX5_lessSizes_38 0 rfl ?_
        refine w_iadd C dX5_lessSizes_40 ?_
        refine w_iald C 1 0 rfl rfl (640 * a + k) ((fL (640 * a + k)).toInt) ⟨by omega, by omega, by omega⟩ ((hout _ (by omega)).trans (iZ_self _).symm) dX5_lessSizes_41 ?_
        refine w_i2l C dX5_lessSizes_42 (i32r _) ?_
        refine w_topl C (dv fL (640 * a) na k) ((dv_in (by omega)).symm) ?_
        refine w_iload C dX5_lessSizes_43 0 rfl ?_
        refine w_iload C dX5_lessSizes_45 2 rfl ?_
        have J2 : ZW p l e ({ frames := 1, cells := 0, slots := 0, locals := 24 }) s m ([.ref (Q 0), .int (iZ ((t : Int))), .int (iZ ((a : Int))), .int (iZ ((b : Int))), .int (iZ (sg))] : List Value).toArray below meth c D (mA Q sz) 12 0 0 (MQ below (va_Qv (fun u : mT => mSet fL fS fN fD X t (sg * ((x.natAbs : Int) - (y.natAbs : Int))) u) (mAt D Q G (mA Q sz)) (mA Q sz)) ([.ref (Q 0), .int (iZ ((t : Int))), .int (iZ ((a : Int))), .int (iZ ((b : Int))), .int (iZ (sg))] : List Value).toArray s 0 0 (mA Q sz)) (mU Q G (gL, fS, fN, fD, X)) 68 [(9, .int (iZ ((k : Int)))), (7, .long (lZ (bw))), (6, .int (iZ ((nb : Int)))), (5, .int (iZ ((na : Int)))), (0, .ref (Q 0)), (1, .int (iZ ((t : Int)))), (2, .int (iZ ((a : Int)))), (3, .int (iZ ((b : Int)))), (4, .int (iZ (sg)))] [.long (lZ (dv fL (640 * b) nb k)), .long (lZ (dv fL (640 * a) na k))] := by
          refine w_lsub C dX5_lessSizes_68 ?_
          refine w_lload C dX5_lessSizes_69 1 rfl ?_
          obtain ⟨w, hw⟩ : ∃ w : Int, w = (dv fL (640 * a) na k - dv fL (640 * b) nb k) - bw := ⟨_, rfl⟩
          have hd1 := dv_r hna3 k
          have hd2 := dv_r hnb3 k
          have hxr : -2147483648 ≤ w ∧ w < 2147483648 := by omega
          refine w_lsub C dX5_lessSizes_71 ?_
          refine w_topl C (w) (hw.symm) ?_
          refine w_lstore C [(10, .long (lZ (w))), (9, .int (iZ ((k : Int)))), (7, .long (lZ (bw))), (6, .int (iZ ((nb : Int)))), (5, .int (iZ ((na : Int)))), (0, .ref (Q 0)), (1, .int (iZ ((t : Int)))), (2, .int (iZ ((a : Int)))), (3, .int (iZ ((b : Int)))), (4, .int (iZ (sg)))] dX5_lessSizes_72 (by decide) rfl ?_
          refine w_aload_n C dX5_lessSizes_74 5 rfl ?_
          refine w_get (ci := 5) (ref := "RootIsolatorModel") (T := TX5) (Cn := RX5) (N := 10) C (fun w h => wC_in (inX5 w h)) 0 rfl rfl 1 (by decide) (wC_in fX5_limbs) rfl rfl dX5_lessSizes_75 ?_
          refine w_sipush C dX5_lessSizes_78 (by decide) ?_
          refine w_iload_n C dX5_lessSizes_81 6 rfl ?_
          refine w_imul C dX5_lessSizes_82 ?_
          refine w_iload C dX5_lessSizes_83 1 rfl ?_
          refine w_iadd C dX5_lessSizes_85 ?_
          refine w_lload C dX5_lessSizes_86 0 rfl ?_
          refine w_ldc2 C (2147483647) dX5_lessSizes_88 (wC_in kclX5_43) ?_
          refine w_and31 C dX5_lessSizes_91 ?_
          refine w_l2i C dX5_lessSizes_92 ?_
          refine w_iast C (mU Q G ((upd gL (640 * t + k) (iZ ((w) % 2147483648))), fS, fN, fD, X)) 1 0 rfl rfl (640 * t + k) ⟨by omega, by omega, by omega⟩ rfl dX5_lessSizes_93 ?_
          refine w_lload C dX5_lessSizes_94 0 rfl ?_
          refine w_lconst C 0 dX5_lessSizes_96 rfl ?_
          have J3 : ZW p l e ({ frames := 1, cells := 0, slots := 0, locals := 24 }) s m ([.ref (Q 0), .int (iZ ((t : Int))), .int (iZ ((a : Int))), .int (iZ ((b : Int))), .int (iZ (sg))] : List Value).toArray below meth c D (mA Q sz) 12 0 0 (MQ below (va_Qv (fun u : mT => mSet fL fS fN fD X t (sg * ((x.natAbs : Int) - (y.natAbs : Int))) u) (mAt D Q G (mA Q sz)) (mA Q sz)) ([.ref (Q 0), .int (iZ ((t : Int))), .int (iZ ((a : Int))), .int (iZ ((b : Int))), .int (iZ (sg))] : List Value).toArray s 0 0 (mA Q sz)) (mU Q G ((upd gL (640 * t + k) (iZ ((w) % 2147483648))), fS, fN, fD, X)) 106 [(10, .long (lZ (w))), (9, .int (iZ ((k : Int)))), (7, .long (lZ (bw))), (6, .int (iZ ((nb : Int)))), (5, .int (iZ ((na : Int)))), (0, .ref (Q 0)), (1, .int (iZ ((t : Int)))), (2, .int (iZ ((a : Int)))), (3, .int (iZ ((b : Int)))), (4, .int (iZ (sg)))] [.long (lZ (-(w / 2147483648)))] := by
            refine w_lstore C [(7, .long (lZ (-(w / 2147483648)))), (10, .long (lZ (w))), (9, .int (iZ ((k : Int)))), (6, .int (iZ ((nb : Int)))), (5, .int (iZ ((na : Int)))), (0, .ref (Q 0)), (1, .int (iZ ((t : Int)))), (2, .int (iZ ((a : Int)))), (3, .int (iZ ((b : Int)))), (4, .int (iZ (sg)))] dX5_lessSizes_106 (by decide) rfl ?_
            refine w_iinc C (((k + 1 : Nat) : Int)) (by omega) [(9, .int (iZ (((k + 1 : Nat) : Int)))), (7, .long (lZ (-(w / 2147483648)))), (10, .long (lZ (w))), (6, .int (iZ ((nb : Int)))), (5, .int (iZ ((na : Int)))), (0, .ref (Q 0)), (1, .int (iZ ((t : Int)))), (2, .int (iZ ((a : Int)))), (3, .int (iZ ((b : Int)))), (4, .int (iZ (sg)))] dX5_lessSizes_108 2 rfl (by decide) rfl ?_
            refine w_goto C 22 dX5_lessSizes_111 (by decide) ?_
            refine w_sub [(9, .int (iZ (((k + 1 : Nat) : Int)))), (7, .long (lZ (-(w / 2147483648)))), (6, .int (iZ ((nb : Int)))), (5, .int (iZ ((na : Int)))), (0, .ref (Q 0)), (1, .int (iZ ((t : Int)))), (2, .int (iZ ((a : Int)))), (3, .int (iZ ((b : Int)))), (4, .int (iZ (sg)))] [0, 1, 3, 4, 5, 6, 7, 8, 9] rfl ?_
            exact ih (k + 1) (-(w / 2147483648)) _ (by omega) (by omega) (by omega) (fun j hj => by rw [upd_ne (by omega)]; exact hout j (by omega)) (limb_upd hl (by rw [iZ_toInt (by omega) (by omega)]; omega)) (by
              have e1 := dig31 w (2 ^ (31 * k))
              have e2 : w * 2 ^ (31 * k) = dv fL (640 * a) na k * 2 ^ (31 * k) - dv fL (640 * b) nb k * 2 ^ (31 * k) - bw * 2 ^ (31 * k) := by rw [hw, Int.sub_mul, Int.sub_mul]
              rw [zv_upd_top, iZ_toInt (by omega) (by omega), p31, Int.neg_mul]
              simp only [zd]
              omega)
          refine w_lif_ge C 105 dX5_lessSizes_97 dX5_lessSizes_98 (by decide) ⟨⟨by omega, by omega⟩, by omega, by omega⟩ (fun c97 => ?_) (fun c97 => ?_)
          · refine w_lconst C 0 dX5_lessSizes_105 rfl ?_
            refine w_topl C (-(w / 2147483648)) (by omega) ?_
            exact J3
          · refine w_lconst C 1 dX5_lessSizes_101 rfl ?_
            refine w_goto C 106 dX5_lessSizes_102 (by decide) ?_
            refine w_topl C (-(w / 2147483648)) (by omega) ?_
            exact J3
        refine w_icmp_ge C 67 dX5_lessSizes_47 (by decide) ⟨⟨by omega, by omega⟩, by omega, by omega⟩ (fun c47 => ?_) (fun c47 => ?_)
        · refine w_lconst C 0 dX5_lessSizes_67 rfl ?_
          refine w_topl C (dv fL (640 * b) nb k) ((dv_out (by omega)).symm) ?_
          exact J2
        · refine w_aload_n C dX5_lessSizes_50 4 rfl ?_
          refine w_get (ci := 5) (ref := "RootIsolatorModel") (T := TX5) (Cn := RX5) (N := 10) C (fun w h => wC_in (inX5 w h)) 0 rfl rfl 1 (by decide) (wC_in fX5_limbs) rfl rfl dX5_lessSizes_51 ?_
          refine w_sipush C dX5_lessSizes_54 (by decide) ?_
          refine w_iload_n C dX5_lessSizes_57 7 rfl ?_
          refine w_imul C dX5_lessSizes_58 ?_
          refine w_iload C dX5_lessSizes_59 0 rfl ?_
          refine w_iadd C dX5_lessSizes_61 ?_
          refine w_iald C 1 0 rfl rfl (640 * b + k) ((fL (640 * b + k)).toInt) ⟨by omega, by omega, by omega⟩ ((hout _ (by omega)).trans (iZ_self _).symm) dX5_lessSizes_62 ?_
          refine w_i2l C dX5_lessSizes_63 (i32r _) ?_
          refine w_goto C 68 dX5_lessSizes_64 (by decide) ?_
          refine w_topl C (dv fL (640 * b) nb k) ((dv_in (by omega)).symm) ?_
          exact J2
  refine w_aload_n C dX5_lessSizes_0 0 rfl ?_
  refine w_get (ci := 5) (ref := "RootIsolatorModel") (T := TX5) (Cn := RX5) (N := 10) C (fun w h => wC_in (inX5 w h)) 0 rfl rfl 2 (by decide) (wC_in fX5_sizes) rfl rfl dX5_lessSizes_1 ?_
  refine w_iload_n C dX5_lessSizes_4 2 rfl ?_
  refine w_iald C 2 0 rfl rfl (a) ((na : Int)) ⟨by omega, by omega, by omega⟩ (hna2) dX5_lessSizes_5 ?_
  refine w_istore C [(5, .int (iZ ((na : Int)))), (0, .ref (Q 0)), (1, .int (iZ ((t : Int)))), (2, .int (iZ ((a : Int)))), (3, .int (iZ ((b : Int)))), (4, .int (iZ (sg)))] dX5_lessSizes_6 (by decide) rfl ?_
  refine w_aload_n C dX5_lessSizes_8 1 rfl ?_
  refine w_get (ci := 5) (ref := "RootIsolatorModel") (T := TX5) (Cn := RX5) (N := 10) C (fun w h => wC_in (inX5 w h)) 0 rfl rfl 2 (by decide) (wC_in fX5_sizes) rfl rfl dX5_lessSizes_9 ?_
  refine w_iload_n C dX5_lessSizes_12 4 rfl ?_
  refine w_iald C 2 0 rfl rfl (b) ((nb : Int)) ⟨by omega, by omega, by omega⟩ (hnb2) dX5_lessSizes_13 ?_
  refine w_istore C [(6, .int (iZ ((nb : Int)))), (5, .int (iZ ((na : Int)))), (0, .ref (Q 0)), (1, .int (iZ ((t : Int)))), (2, .int (iZ ((a : Int)))), (3, .int (iZ ((b : Int)))), (4, .int (iZ (sg)))] dX5_lessSizes_14 (by decide) rfl ?_
  refine w_lconst C 0 dX5_lessSizes_16 rfl ?_
  refine w_lstore C [(7, .long (lZ (0))), (6, .int (iZ ((nb : Int)))), (5, .int (iZ ((na : Int)))), (0, .ref (Q 0)), (1, .int (iZ ((t : Int)))), (2, .int (iZ ((a : Int)))), (3, .int (iZ ((b : Int)))), (4, .int (iZ (sg)))] dX5_lessSizes_17 (by decide) rfl ?_
  refine w_iconst C dX5_lessSizes_19 ?_
  refine w_istore C [(9, .int (iZ (0))), (7, .long (lZ (0))), (6, .int (iZ ((nb : Int)))), (5, .int (iZ ((na : Int)))), (0, .ref (Q 0)), (1, .int (iZ ((t : Int)))), (2, .int (iZ ((a : Int)))), (3, .int (iZ ((b : Int)))), (4, .int (iZ (sg)))] dX5_lessSizes_20 (by decide) rfl ?_
  exact loop (na + 1) 0 0 fL (by omega) (by omega) (by omega) (fun _ _ => rfl) (fun i hi2 => absurd hi2 (by omega)) (by simp [zv, zd])
