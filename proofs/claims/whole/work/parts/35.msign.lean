set_option maxHeartbeats 4000000 in
set_option maxRecDepth 100000 in
/-- sign -/
theorem cm_sign0 (l : Launch) (D : va_G) (Q : Nat → Nat) (G : Nat → ClassId) (fL fS fN fD : Nat → Int32) (X : mX) (Z : Nat → Int) (nn : Int) (ex : Nat) (hZ : mAll fL fS fN Z) (hnn : -9223372036854775808 ≤ nn ∧ nn < 9223372036854775808) (hex : ex ≤ 30) (sz : Nat) : Met l yX5_sign (wC yX5_sign cX5_sign 7 (some .int)) ({ frames := 3, cells := 0, slots := 0, locals := 80 }) (va_Pc [.ref (Q 0), .int (iZ (0)), .long (lZ (nn)), .int (iZ ((ex : Int)))] (mPre D Q G (fL, fS, fN, fD, X) sz)) (va_Qi (fun (q : Int32) (u : mT) => ∃ N : Nat, topN X.2.2.2.2.2.1 N ∧ q = iZ (hrn (fun k => (X.2.2.2.2.2.1 k).toInt) N nn ex N).sign ∧ ∃ Y : Nat → Int, mPost fD X Y u ∧ (∀ c : Nat, c < 135 → Y c = Z c)) (mAt D Q G (mA Q sz)) (mA Q sz)) 0 0 (mA Q sz) := by
  refine m_met (cc := cX5_sign) (maxL := 7) (ret := (some .int)) (by decide) rfl rfl (Nat.le_of_ble_eq_true rfl) ?_
  intro p e s m below meth c hsz C hr hlk
  refine w_sub [(0, .ref (Q 0)), (1, .int (iZ (0))), (2, .long (lZ (nn))), (4, .int (iZ ((ex : Int))))] [0, 1, 2, 3] rfl ?_
  have hnb : (nn.natAbs : Int) ≤ 2 ^ 63 := Int.le_trans (show (nn.natAbs : Int) ≤ 9223372036854775808 by omega) (by decide)
  have hcb : ∀ k, ((((fun k => (X.2.2.2.2.2.1 k).toInt) k).natAbs : Int)) ≤ 2 ^ 31 := fun k => Int.le_trans (show ((X.2.2.2.2.2.1 k).toInt.natAbs : Int) ≤ 2147483648 by have := i32r (X.2.2.2.2.2.1 k); omega) (by decide)
  have hha := fun N m => hrn_abs (c := (fun k => (X.2.2.2.2.2.1 k).toInt)) (N := N) hnb hex hcb m
  refine w_iload_n C dX5_sign_0 1 rfl ?_
  refine m_callSi [.int (iZ (0))] hsz C (fun z => cm_isWhich l D Q G fL fS fN fD X (0) (by omega) z) (cwS 1 C.1.2.2.2.2 (wC_S kX5_140 stX5_isWhich iniX5 cdX5_isWhich) rfl rfl rfl (by decide +kernel) ⟨Nat.le_of_ble_eq_true rfl, Nat.le_of_ble_eq_true rfl⟩) rfl ⟨Nat.zero_le _, Nat.zero_le _⟩ (Nat.le_of_ble_eq_true rfl) dX5_sign_1 [.int (iZ (0))] rfl (fun r v1 hv1 => ?_)
  obtain ⟨rfl, rfl⟩ := hv1
  refine w_top C (1) (by decide) ?_
  refine w_if_eq C 20 dX5_sign_4 (by decide) ⟨by omega, by omega⟩ (fun c4 => ?_) (fun c4 => ?_)
  · exact absurd c4 (by omega)
  · refine w_iload C dX5_sign_7 3 rfl ?_
    refine w_i2l C dX5_sign_9 ⟨by omega, by omega⟩ ?_
    refine w_lconst C 0 dX5_sign_10 rfl ?_
    refine w_ldc2 C (30) dX5_sign_11 (wC_in kclX5_159) ?_
    refine m_callSi [.long (lZ ((ex : Int))), .long (lZ (0)), .long (lZ (30))] hsz C (fun z => cm_in l D Q G fL fS fN fD X ((ex : Int)) (0) (30) (by omega) (by omega) (by omega) z) (cwS 3 C.1.2.2.2.2 (wC_S kX5_132 stX5_in iniX5 cdX5_in) rfl rfl rfl (by decide +kernel) ⟨Nat.le_of_ble_eq_true rfl, Nat.le_of_ble_eq_true rfl⟩) rfl ⟨Nat.zero_le _, Nat.zero_le _⟩ (Nat.le_of_ble_eq_true rfl) dX5_sign_14 [.long (lZ (30)), .long (lZ (0)), .long (lZ ((ex : Int)))] rfl (fun r v2 hv2 => ?_)
    obtain ⟨rfl, rfl⟩ := hv2
    refine w_top C (1) (if_pos (by omega)) ?_
    refine w_if_ne C 23 dX5_sign_17 (by decide) ⟨by omega, by omega⟩ (fun c17 => ?_) (fun c17 => ?_)
    · refine w_aload_n C dX5_sign_23 0 rfl ?_
      refine w_iload_n C dX5_sign_24 1 rfl ?_
      refine m_calli [.int (iZ (0))] hsz C (fun z => cm_degreeOf0 l D Q G fL fS fN fD X  z) (cwV 1 C.1.2.2.2.2 (wC_V kX5_153 nX5_degreeOf slX5_degreeOf iniX5 cdX5_degreeOf) rfl rfl rfl (by decide +kernel) ⟨Nat.le_of_ble_eq_true rfl, Nat.le_of_ble_eq_true rfl⟩) rfl ⟨Nat.zero_le _, Nat.zero_le _⟩ (Nat.le_of_ble_eq_true rfl) dX5_sign_25 [.int (iZ (0)), .ref (Q 0)] rfl (fun r v3 hv3 => ?_)
      obtain ⟨⟨N, hN, rfl⟩, rfl⟩ := hv3
      have hN9 := hN.1
      refine w_istore C [(5, .int (iZ ((N : Int) - 1))), (0, .ref (Q 0)), (1, .int (iZ (0))), (2, .long (lZ (nn))), (4, .int (iZ ((ex : Int))))] dX5_sign_28 (by decide) rfl ?_
      refine w_iload C dX5_sign_30 0 rfl ?_
      refine w_if_ge C 37 dX5_sign_32 (by decide) ⟨by omega, by omega⟩ (fun c32 => ?_) (fun c32 => ?_)
      · refine w_aload_n C dX5_sign_37 1 rfl ?_
        refine w_sipush C dX5_sign_38 (by decide) ?_
        refine w_aload_n C dX5_sign_41 1 rfl ?_
        refine w_get (ci := 5) (ref := "RootIsolatorModel") (T := TX5) (Cn := RX5) (N := 10) C (fun w h => wC_in (inX5 w h)) 0 rfl rfl 0 (by decide) (wC_in fX5_given) rfl rfl dX5_sign_42 ?_
        refine w_iload_n C dX5_sign_45 2 rfl ?_
        refine w_aald (n := 2) (f := fun j => some (Q (9 + j))) C 5 3 rfl rfl rfl (0) ⟨rfl, by decide, by decide⟩ (rfl) dX5_sign_46 ?_
        refine w_iload C dX5_sign_47 0 rfl ?_
        refine w_top C (((N - 1 : Nat) : Int)) (by omega) ?_
        refine w_iald C 9 0 rfl rfl (N - 1) ((X.2.2.2.2.2.1 (N - 1)).toInt) ⟨by omega, by omega, by omega⟩ ((iZ_self _).symm) dX5_sign_49 ?_
        refine w_i2l C dX5_sign_50 (i32r _) ?_
        refine m_callv [.int (iZ (135)), .long (lZ ((X.2.2.2.2.2.1 (N - 1)).toInt))] hsz C (fun z => cm_setLong l D Q G fL fS fN fD X 135 ((X.2.2.2.2.2.1 (N - 1)).toInt) (by omega) (by have := i32r (X.2.2.2.2.2.1 (N - 1)); omega) (by have := i32r (X.2.2.2.2.2.1 (N - 1)); omega) z) (cwV 2 C.1.2.2.2.2 (wC_V kX5_64 nX5_setLong slX5_setLong iniX5 cdX5_setLong) rfl rfl rfl (by decide +kernel) ⟨Nat.le_of_ble_eq_true rfl, Nat.le_of_ble_eq_true rfl⟩) rfl ⟨Nat.zero_le _, Nat.zero_le _⟩ (Nat.le_of_ble_eq_true rfl) dX5_sign_51 [.long (lZ ((X.2.2.2.2.2.1 (N - 1)).toInt)), .int (iZ (135)), .ref (Q 0)] rfl (fun v4 hv4 => ?_)
        obtain ⟨gL4, gS4, gN4, hZ4, rfl⟩ := mSet_all hZ hv4
        refine w_aload_n C dX5_sign_54 1 rfl ?_
        refine w_sipush C dX5_sign_55 (by decide) ?_
        refine w_lload_n C dX5_sign_58 3 rfl ?_
        refine m_callv [.int (iZ (137)), .long (lZ (nn))] hsz C (fun z => cm_setLong l D Q G gL4 gS4 gN4 fD X 137 nn (by omega) (by omega) (by omega) z) (cwV 2 C.1.2.2.2.2 (wC_V kX5_64 nX5_setLong slX5_setLong iniX5 cdX5_setLong) rfl rfl rfl (by decide +kernel) ⟨Nat.le_of_ble_eq_true rfl, Nat.le_of_ble_eq_true rfl⟩) rfl ⟨Nat.zero_le _, Nat.zero_le _⟩ (Nat.le_of_ble_eq_true rfl) dX5_sign_59 [.long (lZ (nn)), .int (iZ (137)), .ref (Q 0)] rfl (fun v5 hv5 => ?_)
        obtain ⟨gL5, gS5, gN5, hZ5, rfl⟩ := mSet_all hZ4 hv5
        refine w_iload C dX5_sign_62 0 rfl ?_
        refine w_iconst C dX5_sign_64 ?_
        refine w_isub C dX5_sign_65 ?_
        refine w_top C (((N - 1 : Nat) : Int) - 1) (by omega) ?_
        refine w_istore C [(6, .int (iZ (((N - 1 : Nat) : Int) - 1))), (5, .int (iZ ((N : Int) - 1))), (0, .ref (Q 0)), (1, .int (iZ (0))), (2, .long (lZ (nn))), (4, .int (iZ ((ex : Int))))] dX5_sign_66 (by decide) rfl ?_
        have lp : ∀ (d : Nat) (j : Nat) (Y : Nat → Int) (kL : Nat → Int32) (kS : Nat → Int32) (kN : Nat → Int32), j < d → j + 1 ≤ N → mAll kL kS kN Y → Y 135 = hrn (fun k => (X.2.2.2.2.2.1 k).toInt) N nn ex (N - j) → Y 137 = nn → (∀ c : Nat, c < 135 → Y c = Z c) → ZW p l e ({ frames := 3, cells := 0, slots := 0, locals := 80 }) s m ([.ref (Q 0), .int (iZ (0)), .long (lZ (nn)), .int (iZ ((ex : Int)))] : List Value).toArray below meth c D (mA Q sz) 7 0 0 (MQ below (va_Qi (fun (q : Int32) (u : mT) => ∃ N : Nat, topN X.2.2.2.2.2.1 N ∧ q = iZ (hrn (fun k => (X.2.2.2.2.2.1 k).toInt) N nn ex N).sign ∧ ∃ Y : Nat → Int, mPost fD X Y u ∧ (∀ c : Nat, c < 135 → Y c = Z c)) (mAt D Q G (mA Q sz)) (mA Q sz)) ([.ref (Q 0), .int (iZ (0)), .long (lZ (nn)), .int (iZ ((ex : Int)))] : List Value).toArray s 0 0 (mA Q sz)) (mU Q G (kL, kS, kN, fD, X)) 68 [(6, .int (iZ ((j : Int) - 1))), (5, .int (iZ ((N : Int) - 1))), (0, .ref (Q 0)), (1, .int (iZ (0))), (2, .long (lZ (nn))), (4, .int (iZ ((ex : Int))))] [] := by
          intro d
          induction d with
          | zero =>
            intro j Y kL kS kN hd hj hZ h1 h2 h3
            exact absurd hd (by omega)
          | succ d ih2 =>
            intro j Y kL kS kN hd hj hZ h1 h2 h3
            refine w_iload C dX5_sign_68 0 rfl ?_
            refine w_if_lt C 138 dX5_sign_70 (by decide) ⟨by omega, by omega⟩ (fun c70 => ?_) (fun c70 => ?_)
            · refine w_aload_n C dX5_sign_138 2 rfl ?_
              refine w_get (ci := 5) (ref := "RootIsolatorModel") (T := TX5) (Cn := RX5) (N := 10) C (fun w h => wC_in (inX5 w h)) 0 rfl rfl 3 (by decide) (wC_in fX5_signs) rfl rfl dX5_sign_139 ?_
              refine w_sipush C dX5_sign_142 (by decide) ?_
              refine w_iald C 3 0 rfl rfl (135) ((Y 135).sign) ⟨by omega, by omega, by omega⟩ (mNum_sgn (hZ 135 (by omega))) dX5_sign_145 ?_
              exact m_iret hsz C hr hlk (⟨N, hN, by rw [h1, show N - j = N by omega], Y, ⟨_, _, _, hZ, rfl⟩, h3⟩) dX5_sign_146
            · obtain ⟨i, rfl⟩ : ∃ i, j = i + 1 := ⟨j - 1, by omega⟩
              have hb1 := hha N (N - (i + 1))
              have hb2 : (2 : Int) ^ (64 * (N - (i + 1)) + 31) < 2 ^ (31 * 20) := i2lt (by omega)
              have hgi := i32r (X.2.2.2.2.2.1 i)
              have hci : ((X.2.2.2.2.2.1 i).toInt.natAbs : Int) ≤ 2 ^ 31 := hcb i
              have hpw : ex * (N - 1 - i) ≤ 30 * 8 := Nat.mul_le_mul hex (by omega)
              refine w_aload_n C dX5_sign_73 2 rfl ?_
              refine w_sipush C dX5_sign_74 (by decide) ?_
              refine w_sipush C dX5_sign_77 (by decide) ?_
              refine w_sipush C dX5_sign_80 (by decide) ?_
              refine m_callv [.int (iZ (136)), .int (iZ (135)), .int (iZ (137))] hsz C (fun z => cm_multiply l D Q G kL kS kN fD X 136 135 137 20 3 (Y 135) (Y 137) (by omega) (by omega) (by omega) (by omega) (by omega) (hZ _ (by omega)) (hZ _ (by omega)) (by rw [h1]; omega) (by rw [h2]; exact Int.lt_of_lt_of_le (show (nn.natAbs : Int) < 9223372036854775809 by omega) (by decide)) (by omega) z) (cwV 3 C.1.2.2.2.2 (wC_V kX5_88 nX5_multiply slX5_multiply iniX5 cdX5_multiply) rfl rfl rfl (by decide +kernel) ⟨Nat.le_of_ble_eq_true rfl, Nat.le_of_ble_eq_true rfl⟩) rfl ⟨Nat.zero_le _, Nat.zero_le _⟩ (Nat.le_of_ble_eq_true rfl) dX5_sign_83 [.int (iZ (137)), .int (iZ (135)), .int (iZ (136)), .ref (Q 0)] rfl (fun v106 hv106 => ?_)
              obtain ⟨gL106, gS106, gN106, hZ106, rfl⟩ := mSet_all hZ hv106
              refine w_aload_n C dX5_sign_86 2 rfl ?_
              refine w_sipush C dX5_sign_87 (by decide) ?_
              refine w_aload_n C dX5_sign_90 2 rfl ?_
              refine w_get (ci := 5) (ref := "RootIsolatorModel") (T := TX5) (Cn := RX5) (N := 10) C (fun w h => wC_in (inX5 w h)) 0 rfl rfl 0 (by decide) (wC_in fX5_given) rfl rfl dX5_sign_91 ?_
              refine w_iload_n C dX5_sign_94 3 rfl ?_
              refine w_aald (n := 2) (f := fun j => some (Q (9 + j))) C 5 3 rfl rfl rfl (0) ⟨rfl, by decide, by decide⟩ (rfl) dX5_sign_95 ?_
              refine w_iload C dX5_sign_96 0 rfl ?_
              refine w_top C ((i : Int)) (by omega) ?_
              refine w_iald C 9 0 rfl rfl (i) ((X.2.2.2.2.2.1 i).toInt) ⟨by omega, by omega, by omega⟩ ((iZ_self _).symm) dX5_sign_98 ?_
              refine w_i2l C dX5_sign_99 (i32r _) ?_
              refine m_callv [.int (iZ (138)), .long (lZ ((X.2.2.2.2.2.1 i).toInt))] hsz C (fun z => cm_setLong l D Q G gL106 gS106 gN106 fD X 138 ((X.2.2.2.2.2.1 i).toInt) (by omega) (by omega) (by omega) z) (cwV 2 C.1.2.2.2.2 (wC_V kX5_64 nX5_setLong slX5_setLong iniX5 cdX5_setLong) rfl rfl rfl (by decide +kernel) ⟨Nat.le_of_ble_eq_true rfl, Nat.le_of_ble_eq_true rfl⟩) rfl ⟨Nat.zero_le _, Nat.zero_le _⟩ (Nat.le_of_ble_eq_true rfl) dX5_sign_100 [.long (lZ ((X.2.2.2.2.2.1 i).toInt)), .int (iZ (138)), .ref (Q 0)] rfl (fun v107 hv107 => ?_)
              obtain ⟨gL107, gS107, gN107, hZ107, rfl⟩ := mSet_all hZ106 hv107
              refine w_aload_n C dX5_sign_103 2 rfl ?_
              refine w_sipush C dX5_sign_104 (by decide) ?_
              refine w_iload C dX5_sign_107 5 rfl ?_
              refine w_iload C dX5_sign_109 1 rfl ?_
              refine w_iload C dX5_sign_111 0 rfl ?_
              refine w_isub C dX5_sign_113 ?_
              refine w_imul C dX5_sign_114 ?_
              refine w_top C (((ex * (N - 1 - i) : Nat) : Int)) (by rw [Int.natCast_mul, show ((N - 1 - i : Nat) : Int) = (N : Int) - 1 - (((i + 1 : Nat) : Int) - 1) by omega]) ?_
              refine m_callv [.int (iZ (138)), .int (iZ (((ex * (N - 1 - i) : Nat) : Int)))] hsz C (fun z => cm_up l D Q G gL107 gS107 gN107 fD X 138 (ex * (N - 1 - i)) 2 ((uZ (uZ Y 136 (Y 135 * Y 137)) 138 ((X.2.2.2.2.2.1 i).toInt)) 138) (by omega) (hZ107 _ (by omega)) (by rw [uZ_eq]; exact Int.lt_of_lt_of_le (show ((X.2.2.2.2.2.1 i).toInt.natAbs : Int) < 4294967296 by omega) (by decide)) (by omega) z) (cwV 2 C.1.2.2.2.2 (wC_V kX5_68 nX5_up slX5_up iniX5 cdX5_up) rfl rfl rfl (by decide +kernel) ⟨Nat.le_of_ble_eq_true rfl, Nat.le_of_ble_eq_true rfl⟩) rfl ⟨Nat.zero_le _, Nat.zero_le _⟩ (Nat.le_of_ble_eq_true rfl) dX5_sign_115 [.int (iZ (((ex * (N - 1 - i) : Nat) : Int))), .int (iZ (138)), .ref (Q 0)] rfl (fun v108 hv108 => ?_)
              obtain ⟨gL108, gS108, gN108, hZ108, rfl⟩ := mSet_all hZ107 hv108
              refine w_aload_n C dX5_sign_118 2 rfl ?_
              refine w_sipush C dX5_sign_119 (by decide) ?_
              refine w_sipush C dX5_sign_122 (by decide) ?_
              refine w_sipush C dX5_sign_125 (by decide) ?_
              refine w_iconst C dX5_sign_128 ?_
              obtain ⟨P, hP⟩ : ∃ P : Nat → Int, P = (uZ (uZ (uZ Y 136 (Y 135 * Y 137)) 138 ((X.2.2.2.2.2.1 i).toInt)) 138 ((uZ (uZ Y 136 (Y 135 * Y 137)) 138 ((X.2.2.2.2.2.1 i).toInt)) 138 * 2 ^ (ex * (N - 1 - i)))) := ⟨_, rfl⟩
              have hZP := hZ108
              rw [← hP] at hZP
              have hP6 : P 136 = hrn (fun k => (X.2.2.2.2.2.1 k).toInt) N nn ex (N - (i + 1)) * nn := by rw [hP, uZ_ne (by omega), uZ_ne (by omega), uZ_eq, h1, h2]
              have hP8 : P 138 = (X.2.2.2.2.2.1 i).toInt * 2 ^ (ex * (N - 1 - i)) := by rw [hP, uZ_eq, uZ_eq]
              have hb3 := hha N (N - i)
              have hb4 : (2 : Int) ^ (64 * (N - i) + 31) < 2 ^ (31 * 639) := i2lt (by omega)
              refine m_callv [.int (iZ (135)), .int (iZ (136)), .int (iZ (138)), .int (iZ (1))] hsz C (fun z => cm_add l D Q G gL108 gS108 gN108 fD X 135 136 138 1 (P 136) (P 138) (by omega) (by omega) (by omega) (Or.inl rfl) (hZP _ (by omega)) (hZP _ (by omega)) (by rw [hP6, Int.natAbs_mul, Int.natCast_mul]; have e1 := Int.mul_le_mul hb1 hnb (by omega) (Int.le_of_lt (i2pos _)); rw [← Int.pow_add] at e1; have e2 : (2 : Int) ^ (64 * (N - (i + 1)) + 31 + 63) < 2 ^ (31 * 639) := i2lt (by omega); omega) (by rw [hP8, Int.natAbs_mul, Int.natCast_mul]; have e0 : (((2 : Int) ^ (ex * (N - 1 - i))).natAbs : Int) = 2 ^ (ex * (N - 1 - i)) := Int.natAbs_of_nonneg (Int.le_of_lt (i2pos _)); rw [e0]; have e1 := Int.mul_le_mul hci (pow_mono (x := 2) (by decide) hpw) (Int.le_of_lt (i2pos _)) (Int.le_of_lt (i2pos _)); rw [← Int.pow_add] at e1; have e2 : (2 : Int) ^ (31 + 30 * 8) < 2 ^ (31 * 639) := i2lt (by omega); omega) z) (cwV 4 C.1.2.2.2.2 (wC_V kX5_91 nX5_add slX5_add iniX5 cdX5_add) rfl rfl rfl (by decide +kernel) ⟨Nat.le_of_ble_eq_true rfl, Nat.le_of_ble_eq_true rfl⟩) rfl ⟨Nat.zero_le _, Nat.zero_le _⟩ (Nat.le_of_ble_eq_true rfl) dX5_sign_129 [.int (iZ (1)), .int (iZ (138)), .int (iZ (136)), .int (iZ (135)), .ref (Q 0)] rfl (fun v109 hv109 => ?_)
              obtain ⟨gL109, gS109, gN109, hZ109, rfl⟩ := mSet_all hZP hv109
              refine w_iinc C ((i : Int) - 1) (by omega) [(6, .int (iZ ((i : Int) - 1))), (5, .int (iZ ((N : Int) - 1))), (0, .ref (Q 0)), (1, .int (iZ (0))), (2, .long (lZ (nn))), (4, .int (iZ ((ex : Int))))] dX5_sign_132 0 rfl (by decide) rfl ?_
              refine w_goto C 68 dX5_sign_135 (by decide) ?_
              exact ih2 i (uZ P 135 (P 136 + 1 * P 138)) _ _ _ (by omega) (by omega) hZ109 (by rw [uZ_eq, hP6, hP8, show N - i = (N - (i + 1)) + 1 by omega]; simp only [hrn]; rw [show N - 1 - (N - (i + 1)) = i by omega, show N - (i + 1) = N - 1 - i by omega]) (by rw [uZ_ne (by omega), hP, uZ_ne (by omega), uZ_ne (by omega), uZ_ne (by omega)]; exact h2) (fun c hc => by rw [uZ_ne (by omega), hP, uZ_ne (by omega), uZ_ne (by omega), uZ_ne (by omega)]; exact h3 c hc)
        exact lp N (N - 1) (uZ (uZ Z 135 ((X.2.2.2.2.2.1 (N - 1)).toInt)) 137 nn) _ _ _ (by omega) (by omega) hZ5 (by rw [uZ_ne (by omega), uZ_eq, show N - (N - 1) = 0 + 1 by omega]; simp only [hrn]; rw [Int.zero_mul, Int.zero_add, Int.one_mul, Nat.mul_zero, Int.pow_zero, Int.mul_one, Nat.sub_zero]) (by rw [uZ_eq]) (fun c hc => by rw [uZ_ne (by omega), uZ_ne (by omega)])
      · refine w_iconst C dX5_sign_35 ?_
        exact m_iret hsz C hr hlk (⟨N, hN, by rw [show N = 0 by omega]; rfl, Z, ⟨_, _, _, hZ, rfl⟩, fun _ _ => rfl⟩) dX5_sign_36
    · exact absurd c17 (by omega)
set_option maxHeartbeats 4000000 in
set_option maxRecDepth 100000 in
/-- sign at no level -/
theorem cm_signE0 (l : Launch) (D : va_G) (Q : Nat → Nat) (G : Nat → ClassId) (fL fS fN fD : Nat → Int32) (X : mX) (nn e0 : Int) (he0 : -2147483648 ≤ e0 ∧ e0 < 2147483648) (hbad : ¬ (0 ≤ e0 ∧ e0 ≤ 30)) (sz : Nat) : Met l yX5_sign (wC yX5_sign cX5_sign 7 (some .int)) ({ frames := 3, cells := 0, slots := 0, locals := 80 }) (va_Pc [.ref (Q 0), .int (iZ (0)), .long (lZ (nn)), .int (iZ (e0))] (mPre D Q G (fL, fS, fN, fD, X) sz)) (va_Qi (fun (q : Int32) (u : mT) => q = iZ (-2) ∧ u = (fL, fS, fN, fD, X)) (mAt D Q G (mA Q sz)) (mA Q sz)) 0 0 (mA Q sz) := by
  refine m_met (cc := cX5_sign) (maxL := 7) (ret := (some .int)) (by decide) rfl rfl (Nat.le_of_ble_eq_true rfl) ?_
  intro p e s m below meth c hsz C hr hlk
  refine w_sub [(0, .ref (Q 0)), (1, .int (iZ (0))), (2, .long (lZ (nn))), (4, .int (iZ (e0)))] [0, 1, 2, 3] rfl ?_
  refine w_iload_n C dX5_sign_0 1 rfl ?_
  refine m_callSi [.int (iZ (0))] hsz C (fun z => cm_isWhich l D Q G fL fS fN fD X (0) (by omega) z) (cwS 1 C.1.2.2.2.2 (wC_S kX5_140 stX5_isWhich iniX5 cdX5_isWhich) rfl rfl rfl (by decide +kernel) ⟨Nat.le_of_ble_eq_true rfl, Nat.le_of_ble_eq_true rfl⟩) rfl ⟨Nat.zero_le _, Nat.zero_le _⟩ (Nat.le_of_ble_eq_true rfl) dX5_sign_1 [.int (iZ (0))] rfl (fun r v1 hv1 => ?_)
  obtain ⟨rfl, rfl⟩ := hv1
  refine w_top C (1) (by decide) ?_
  refine w_if_eq C 20 dX5_sign_4 (by decide) ⟨by omega, by omega⟩ (fun c4 => ?_) (fun c4 => ?_)
  · exact absurd c4 (by omega)
  · refine w_iload C dX5_sign_7 3 rfl ?_
    refine w_i2l C dX5_sign_9 ⟨by omega, by omega⟩ ?_
    refine w_lconst C 0 dX5_sign_10 rfl ?_
    refine w_ldc2 C (30) dX5_sign_11 (wC_in kclX5_159) ?_
    refine m_callSi [.long (lZ (e0)), .long (lZ (0)), .long (lZ (30))] hsz C (fun z => cm_in l D Q G fL fS fN fD X (e0) (0) (30) (by omega) (by omega) (by omega) z) (cwS 3 C.1.2.2.2.2 (wC_S kX5_132 stX5_in iniX5 cdX5_in) rfl rfl rfl (by decide +kernel) ⟨Nat.le_of_ble_eq_true rfl, Nat.le_of_ble_eq_true rfl⟩) rfl ⟨Nat.zero_le _, Nat.zero_le _⟩ (Nat.le_of_ble_eq_true rfl) dX5_sign_14 [.long (lZ (30)), .long (lZ (0)), .long (lZ (e0))] rfl (fun r v2 hv2 => ?_)
    obtain ⟨rfl, rfl⟩ := hv2
    refine w_top C (0) (if_neg hbad) ?_
    refine w_if_ne C 23 dX5_sign_17 (by decide) ⟨by omega, by omega⟩ (fun c17 => ?_) (fun c17 => ?_)
    · exact absurd c17 (by omega)
    · refine w_bipush C dX5_sign_20 (by decide) ?_
      exact m_iret hsz C hr hlk (⟨rfl, rfl⟩) dX5_sign_22
set_option maxHeartbeats 4000000 in
set_option maxRecDepth 100000 in
/-- sign -/
theorem cm_sign1 (l : Launch) (D : va_G) (Q : Nat → Nat) (G : Nat → ClassId) (fL fS fN fD : Nat → Int32) (X : mX) (Z : Nat → Int) (nn : Int) (ex : Nat) (hZ : mAll fL fS fN Z) (hnn : -9223372036854775808 ≤ nn ∧ nn < 9223372036854775808) (hex : ex ≤ 30) (sz : Nat) : Met l yX5_sign (wC yX5_sign cX5_sign 7 (some .int)) ({ frames := 3, cells := 0, slots := 0, locals := 80 }) (va_Pc [.ref (Q 0), .int (iZ (1)), .long (lZ (nn)), .int (iZ ((ex : Int)))] (mPre D Q G (fL, fS, fN, fD, X) sz)) (va_Qi (fun (q : Int32) (u : mT) => ∃ N : Nat, topN X.2.2.2.2.2.2 N ∧ q = iZ (hrn (fun k => (X.2.2.2.2.2.2 k).toInt) N nn ex N).sign ∧ ∃ Y : Nat → Int, mPost fD X Y u ∧ (∀ c : Nat, c < 135 → Y c = Z c)) (mAt D Q G (mA Q sz)) (mA Q sz)) 0 0 (mA Q sz) := by
  refine m_met (cc := cX5_sign) (maxL := 7) (ret := (some .int)) (by decide) rfl rfl (Nat.le_of_ble_eq_true rfl) ?_
  intro p e s m below meth c hsz C hr hlk
  refine w_sub [(0, .ref (Q 0)), (1, .int (iZ (1))), (2, .long (lZ (nn))), (4, .int (iZ ((ex : Int))))] [0, 1, 2, 3] rfl ?_
  have hnb : (nn.natAbs : Int) ≤ 2 ^ 63 := Int.le_trans (show (nn.natAbs : Int) ≤ 9223372036854775808 by omega) (by decide)
  have hcb : ∀ k, ((((fun k => (X.2.2.2.2.2.2 k).toInt) k).natAbs : Int)) ≤ 2 ^ 31 := fun k => Int.le_trans (show ((X.2.2.2.2.2.2 k).toInt.natAbs : Int) ≤ 2147483648 by have := i32r (X.2.2.2.2.2.2 k); omega) (by decide)
  have hha := fun N m => hrn_abs (c := (fun k => (X.2.2.2.2.2.2 k).toInt)) (N := N) hnb hex hcb m
  refine w_iload_n C dX5_sign_0 1 rfl ?_
  refine m_callSi [.int (iZ (1))] hsz C (fun z => cm_isWhich l D Q G fL fS fN fD X (1) (by omega) z) (cwS 1 C.1.2.2.2.2 (wC_S kX5_140 stX5_isWhich iniX5 cdX5_isWhich) rfl rfl rfl (by decide +kernel) ⟨Nat.le_of_ble_eq_true rfl, Nat.le_of_ble_eq_true rfl⟩) rfl ⟨Nat.zero_le _, Nat.zero_le _⟩ (Nat.le_of_ble_eq_true rfl) dX5_sign_1 [.int (iZ (1))] rfl (fun r v1 hv1 => ?_)
  obtain ⟨rfl, rfl⟩ := hv1
  refine w_top C (1) (by decide) ?_
  refine w_if_eq C 20 dX5_sign_4 (by decide) ⟨by omega, by omega⟩ (fun c4 => ?_) (fun c4 => ?_)
  · exact absurd c4 (by omega)
  · refine w_iload C dX5_sign_7 3 rfl ?_
    refine w_i2l C dX5_sign_9 ⟨by omega, by omega⟩ ?_
    refine w_lconst C 0 dX5_sign_10 rfl ?_
    refine w_ldc2 C (30) dX5_sign_11 (wC_in kclX5_159) ?_
    refine m_callSi [.long (lZ ((ex : Int))), .long (lZ (0)), .long (lZ (30))] hsz C (fun z => cm_in l D Q G fL fS fN fD X ((ex : Int)) (0) (30) (by omega) (by omega) (by omega) z) (cwS 3 C.1.2.2.2.2 (wC_S kX5_132 stX5_in iniX5 cdX5_in) rfl rfl rfl (by decide +kernel) ⟨Nat.le_of_ble_eq_true rfl, Nat.le_of_ble_eq_true rfl⟩) rfl ⟨Nat.zero_le _, Nat.zero_le _⟩ (Nat.le_of_ble_eq_true rfl) dX5_sign_14 [.long (lZ (30)), .long (lZ (0)), .long (lZ ((ex : Int)))] rfl (fun r v2 hv2 => ?_)
    obtain ⟨rfl, rfl⟩ := hv2
    refine w_top C (1) (if_pos (by omega)) ?_
    refine w_if_ne C 23 dX5_sign_17 (by decide) ⟨by omega, by omega⟩ (fun c17 => ?_) (fun c17 => ?_)
    · refine w_aload_n C dX5_sign_23 0 rfl ?_
      refine w_iload_n C dX5_sign_24 1 rfl ?_
      refine m_calli [.int (iZ (1))] hsz C (fun z => cm_degreeOf1 l D Q G fL fS fN fD X  z) (cwV 1 C.1.2.2.2.2 (wC_V kX5_153 nX5_degreeOf slX5_degreeOf iniX5 cdX5_degreeOf) rfl rfl rfl (by decide +kernel) ⟨Nat.le_of_ble_eq_true rfl, Nat.le_of_ble_eq_true rfl⟩) rfl ⟨Nat.zero_le _, Nat.zero_le _⟩ (Nat.le_of_ble_eq_true rfl) dX5_sign_25 [.int (iZ (1)), .ref (Q 0)] rfl (fun r v3 hv3 => ?_)
      obtain ⟨⟨N, hN, rfl⟩, rfl⟩ := hv3
      have hN9 := hN.1
      refine w_istore C [(5, .int (iZ ((N : Int) - 1))), (0, .ref (Q 0)), (1, .int (iZ (1))), (2, .long (lZ (nn))), (4, .int (iZ ((ex : Int))))] dX5_sign_28 (by decide) rfl ?_
      refine w_iload C dX5_sign_30 0 rfl ?_
      refine w_if_ge C 37 dX5_sign_32 (by decide) ⟨by omega, by omega⟩ (fun c32 => ?_) (fun c32 => ?_)
      · refine w_aload_n C dX5_sign_37 1 rfl ?_
        refine w_sipush C dX5_sign_38 (by decide) ?_
        refine w_aload_n C dX5_sign_41 1 rfl ?_
        refine w_get (ci := 5) (ref := "RootIsolatorModel") (T := TX5) (Cn := RX5) (N := 10) C (fun w h => wC_in (inX5 w h)) 0 rfl rfl 0 (by decide) (wC_in fX5_given) rfl rfl dX5_sign_42 ?_
        refine w_iload_n C dX5_sign_45 2 rfl ?_
        refine w_aald (n := 2) (f := fun j => some (Q (9 + j))) C 5 3 rfl rfl rfl (1) ⟨rfl, by decide, by decide⟩ (rfl) dX5_sign_46 ?_
        refine w_iload C dX5_sign_47 0 rfl ?_
        refine w_top C (((N - 1 : Nat) : Int)) (by omega) ?_
        refine w_iald C 10 0 rfl rfl (N - 1) ((X.2.2.2.2.2.2 (N - 1)).toInt) ⟨by omega, by omega, by omega⟩ ((iZ_self _).symm) dX5_sign_49 ?_
        refine w_i2l C dX5_sign_50 (i32r _) ?_
        refine m_callv [.int (iZ (135)), .long (lZ ((X.2.2.2.2.2.2 (N - 1)).toInt))] hsz C (fun z => cm_setLong l D Q G fL fS fN fD X 135 ((X.2.2.2.2.2.2 (N - 1)).toInt) (by omega) (by have := i32r (X.2.2.2.2.2.2 (N - 1)); omega) (by have := i32r (X.2.2.2.2.2.2 (N - 1)); omega) z) (cwV 2 C.1.2.2.2.2 (wC_V kX5_64 nX5_setLong slX5_setLong iniX5 cdX5_setLong) rfl rfl rfl (by decide +kernel) ⟨Nat.le_of_ble_eq_true rfl, Nat.le_of_ble_eq_true rfl⟩) rfl ⟨Nat.zero_le _, Nat.zero_le _⟩ (Nat.le_of_ble_eq_true rfl) dX5_sign_51 [.long (lZ ((X.2.2.2.2.2.2 (N - 1)).toInt)), .int (iZ (135)), .ref (Q 0)] rfl (fun v4 hv4 => ?_)
        obtain ⟨gL4, gS4, gN4, hZ4, rfl⟩ := mSet_all hZ hv4
        refine w_aload_n C dX5_sign_54 1 rfl ?_
        refine w_sipush C dX5_sign_55 (by decide) ?_
        refine w_lload_n C dX5_sign_58 3 rfl ?_
        refine m_callv [.int (iZ (137)), .long (lZ (nn))] hsz C (fun z => cm_setLong l D Q G gL4 gS4 gN4 fD X 137 nn (by omega) (by omega) (by omega) z) (cwV 2 C.1.2.2.2.2 (wC_V kX5_64 nX5_setLong slX5_setLong iniX5 cdX5_setLong) rfl rfl rfl (by decide +kernel) ⟨Nat.le_of_ble_eq_true rfl, Nat.le_of_ble_eq_true rfl⟩) rfl ⟨Nat.zero_le _, Nat.zero_le _⟩ (Nat.le_of_ble_eq_true rfl) dX5_sign_59 [.long (lZ (nn)), .int (iZ (137)), .ref (Q 0)] rfl (fun v5 hv5 => ?_)
        obtain ⟨gL5, gS5, gN5, hZ5, rfl⟩ := mSet_all hZ4 hv5
        refine w_iload C dX5_sign_62 0 rfl ?_
        refine w_iconst C dX5_sign_64 ?_
        refine w_isub C dX5_sign_65 ?_
        refine w_top C (((N - 1 : Nat) : Int) - 1) (by omega) ?_
        refine w_istore C [(6, .int (iZ (((N - 1 : Nat) : Int) - 1))), (5, .int (iZ ((N : Int) - 1))), (0, .ref (Q 0)), (1, .int (iZ (1))), (2, .long (lZ (nn))), (4, .int (iZ ((ex : Int))))] dX5_sign_66 (by decide) rfl ?_
        have lp : ∀ (d : Nat) (j : Nat) (Y : Nat → Int) (kL : Nat → Int32) (kS : Nat → Int32) (kN : Nat → Int32), j < d → j + 1 ≤ N → mAll kL kS kN Y → Y 135 = hrn (fun k => (X.2.2.2.2.2.2 k).toInt) N nn ex (N - j) → Y 137 = nn → (∀ c : Nat, c < 135 → Y c = Z c) → ZW p l e ({ frames := 3, cells := 0, slots := 0, locals := 80 }) s m ([.ref (Q 0), .int (iZ (1)), .long (lZ (nn)), .int (iZ ((ex : Int)))] : List Value).toArray below meth c D (mA Q sz) 7 0 0 (MQ below (va_Qi (fun (q : Int32) (u : mT) => ∃ N : Nat, topN X.2.2.2.2.2.2 N ∧ q = iZ (hrn (fun k => (X.2.2.2.2.2.2 k).toInt) N nn ex N).sign ∧ ∃ Y : Nat → Int, mPost fD X Y u ∧ (∀ c : Nat, c < 135 → Y c = Z c)) (mAt D Q G (mA Q sz)) (mA Q sz)) ([.ref (Q 0), .int (iZ (1)), .long (lZ (nn)), .int (iZ ((ex : Int)))] : List Value).toArray s 0 0 (mA Q sz)) (mU Q G (kL, kS, kN, fD, X)) 68 [(6, .int (iZ ((j : Int) - 1))), (5, .int (iZ ((N : Int) - 1))), (0, .ref (Q 0)), (1, .int (iZ (1))), (2, .long (lZ (nn))), (4, .int (iZ ((ex : Int))))] [] := by
          intro d
          induction d with
          | zero =>
            intro j Y kL kS kN hd hj hZ h1 h2 h3
            exact absurd hd (by omega)
          | succ d ih2 =>
            intro j Y kL kS kN hd hj hZ h1 h2 h3
            refine w_iload C dX5_sign_68 0 rfl ?_
            refine w_if_lt C 138 dX5_sign_70 (by decide) ⟨by omega, by omega⟩ (fun c70 => ?_) (fun c70 => ?_)
            · refine w_aload_n C dX5_sign_138 2 rfl ?_
              refine w_get (ci := 5) (ref := "RootIsolatorModel") (T := TX5) (Cn := RX5) (N := 10) C (fun w h => wC_in (inX5 w h)) 0 rfl rfl 3 (by decide) (wC_in fX5_signs) rfl rfl dX5_sign_139 ?_
              refine w_sipush C dX5_sign_142 (by decide) ?_
              refine w_iald C 3 0 rfl rfl (135) ((Y 135).sign) ⟨by omega, by omega, by omega⟩ (mNum_sgn (hZ 135 (by omega))) dX5_sign_145 ?_
              exact m_iret hsz C hr hlk (⟨N, hN, by rw [h1, show N - j = N by omega], Y, ⟨_, _, _, hZ, rfl⟩, h3⟩) dX5_sign_146
            · obtain ⟨i, rfl⟩ : ∃ i, j = i + 1 := ⟨j - 1, by omega⟩
              have hb1 := hha N (N - (i + 1))
              have hb2 : (2 : Int) ^ (64 * (N - (i + 1)) + 31) < 2 ^ (31 * 20) := i2lt (by omega)
              have hgi := i32r (X.2.2.2.2.2.2 i)
              have hci : ((X.2.2.2.2.2.2 i).toInt.natAbs : Int) ≤ 2 ^ 31 := hcb i
              have hpw : ex * (N - 1 - i) ≤ 30 * 8 := Nat.mul_le_mul hex (by omega)
              refine w_aload_n C dX5_sign_73 2 rfl ?_
              refine w_sipush C dX5_sign_74 (by decide) ?_
              refine w_sipush C dX5_sign_77 (by decide) ?_
              refine w_sipush C dX5_sign_80 (by decide) ?_
              refine m_callv [.int (iZ (136)), .int (iZ (135)), .int (iZ (137))] hsz C (fun z => cm_multiply l D Q G kL kS kN fD X 136 135 137 20 3 (Y 135) (Y 137) (by omega) (by omega) (by omega) (by omega) (by omega) (hZ _ (by omega)) (hZ _ (by omega)) (by rw [h1]; omega) (by rw [h2]; exact Int.lt_of_lt_of_le (show (nn.natAbs : Int) < 9223372036854775809 by omega) (by decide)) (by omega) z) (cwV 3 C.1.2.2.2.2 (wC_V kX5_88 nX5_multiply slX5_multiply iniX5 cdX5_multiply) rfl rfl rfl (by decide +kernel) ⟨Nat.le_of_ble_eq_true rfl, Nat.le_of_ble_eq_true rfl⟩) rfl ⟨Nat.zero_le _, Nat.zero_le _⟩ (Nat.le_of_ble_eq_true rfl) dX5_sign_83 [.int (iZ (137)), .int (iZ (135)), .int (iZ (136)), .ref (Q 0)] rfl (fun v106 hv106 => ?_)
              obtain ⟨gL106, gS106, gN106, hZ106, rfl⟩ := mSet_all hZ hv106
              refine w_aload_n C dX5_sign_86 2 rfl ?_
              refine w_sipush C dX5_sign_87 (by decide) ?_
              refine w_aload_n C dX5_sign_90 2 rfl ?_
              refine w_get (ci := 5) (ref := "RootIsolatorModel") (T := TX5) (Cn := RX5) (N := 10) C (fun w h => wC_in (inX5 w h)) 0 rfl rfl 0 (by decide) (wC_in fX5_given) rfl rfl dX5_sign_91 ?_
              refine w_iload_n C dX5_sign_94 3 rfl ?_
              refine w_aald (n := 2) (f := fun j => some (Q (9 + j))) C 5 3 rfl rfl rfl (1) ⟨rfl, by decide, by decide⟩ (rfl) dX5_sign_95 ?_
              refine w_iload C dX5_sign_96 0 rfl ?_
              refine w_top C ((i : Int)) (by omega) ?_
              refine w_iald C 10 0 rfl rfl (i) ((X.2.2.2.2.2.2 i).toInt) ⟨by omega, by omega, by omega⟩ ((iZ_self _).symm) dX5_sign_98 ?_
              refine w_i2l C dX5_sign_99 (i32r _) ?_
              refine m_callv [.int (iZ (138)), .long (lZ ((X.2.2.2.2.2.2 i).toInt))] hsz C (fun z => cm_setLong l D Q G gL106 gS106 gN106 fD X 138 ((X.2.2.2.2.2.2 i).toInt) (by omega) (by omega) (by omega) z) (cwV 2 C.1.2.2.2.2 (wC_V kX5_64 nX5_setLong slX5_setLong iniX5 cdX5_setLong) rfl rfl rfl (by decide +kernel) ⟨Nat.le_of_ble_eq_true rfl, Nat.le_of_ble_eq_true rfl⟩) rfl ⟨Nat.zero_le _, Nat.zero_le _⟩ (Nat.le_of_ble_eq_true rfl) dX5_sign_100 [.long (lZ ((X.2.2.2.2.2.2 i).toInt)), .int (iZ (138)), .ref (Q 0)] rfl (fun v107 hv107 => ?_)
              obtain ⟨gL107, gS107, gN107, hZ107, rfl⟩ := mSet_all hZ106 hv107
              refine w_aload_n C dX5_sign_103 2 rfl ?_
              refine w_sipush C dX5_sign_104 (by decide) ?_
              refine w_iload C dX5_sign_107 5 rfl ?_
              refine w_iload C dX5_sign_109 1 rfl ?_
              refine w_iload C dX5_sign_111 0 rfl ?_
              refine w_isub C dX5_sign_113 ?_
              refine w_imul C dX5_sign_114 ?_
              refine w_top C (((ex * (N - 1 - i) : Nat) : Int)) (by rw [Int.natCast_mul, show ((N - 1 - i : Nat) : Int) = (N : Int) - 1 - (((i + 1 : Nat) : Int) - 1) by omega]) ?_
              refine m_callv [.int (iZ (138)), .int (iZ (((ex * (N - 1 - i) : Nat) : Int)))] hsz C (fun z => cm_up l D Q G gL107 gS107 gN107 fD X 138 (ex * (N - 1 - i)) 2 ((uZ (uZ Y 136 (Y 135 * Y 137)) 138 ((X.2.2.2.2.2.2 i).toInt)) 138) (by omega) (hZ107 _ (by omega)) (by rw [uZ_eq]; exact Int.lt_of_lt_of_le (show ((X.2.2.2.2.2.2 i).toInt.natAbs : Int) < 4294967296 by omega) (by decide)) (by omega) z) (cwV 2 C.1.2.2.2.2 (wC_V kX5_68 nX5_up slX5_up iniX5 cdX5_up) rfl rfl rfl (by decide +kernel) ⟨Nat.le_of_ble_eq_true rfl, Nat.le_of_ble_eq_true rfl⟩) rfl ⟨Nat.zero_le _, Nat.zero_le _⟩ (Nat.le_of_ble_eq_true rfl) dX5_sign_115 [.int (iZ (((ex * (N - 1 - i) : Nat) : Int))), .int (iZ (138)), .ref (Q 0)] rfl (fun v108 hv108 => ?_)
              obtain ⟨gL108, gS108, gN108, hZ108, rfl⟩ := mSet_all hZ107 hv108
              refine w_aload_n C dX5_sign_118 2 rfl ?_
              refine w_sipush C dX5_sign_119 (by decide) ?_
              refine w_sipush C dX5_sign_122 (by decide) ?_
              refine w_sipush C dX5_sign_125 (by decide) ?_
              refine w_iconst C dX5_sign_128 ?_
              obtain ⟨P, hP⟩ : ∃ P : Nat → Int, P = (uZ (uZ (uZ Y 136 (Y 135 * Y 137)) 138 ((X.2.2.2.2.2.2 i).toInt)) 138 ((uZ (uZ Y 136 (Y 135 * Y 137)) 138 ((X.2.2.2.2.2.2 i).toInt)) 138 * 2 ^ (ex * (N - 1 - i)))) := ⟨_, rfl⟩
              have hZP := hZ108
              rw [← hP] at hZP
              have hP6 : P 136 = hrn (fun k => (X.2.2.2.2.2.2 k).toInt) N nn ex (N - (i + 1)) * nn := by rw [hP, uZ_ne (by omega), uZ_ne (by omega), uZ_eq, h1, h2]
              have hP8 : P 138 = (X.2.2.2.2.2.2 i).toInt * 2 ^ (ex * (N - 1 - i)) := by rw [hP, uZ_eq, uZ_eq]
              have hb3 := hha N (N - i)
              have hb4 : (2 : Int) ^ (64 * (N - i) + 31) < 2 ^ (31 * 639) := i2lt (by omega)
              refine m_callv [.int (iZ (135)), .int (iZ (136)), .int (iZ (138)), .int (iZ (1))] hsz C (fun z => cm_add l D Q G gL108 gS108 gN108 fD X 135 136 138 1 (P 136) (P 138) (by omega) (by omega) (by omega) (Or.inl rfl) (hZP _ (by omega)) (hZP _ (by omega)) (by rw [hP6, Int.natAbs_mul, Int.natCast_mul]; have e1 := Int.mul_le_mul hb1 hnb (by omega) (Int.le_of_lt (i2pos _)); rw [← Int.pow_add] at e1; have e2 : (2 : Int) ^ (64 * (N - (i + 1)) + 31 + 63) < 2 ^ (31 * 639) := i2lt (by omega); omega) (by rw [hP8, Int.natAbs_mul, Int.natCast_mul]; have e0 : (((2 : Int) ^ (ex * (N - 1 - i))).natAbs : Int) = 2 ^ (ex * (N - 1 - i)) := Int.natAbs_of_nonneg (Int.le_of_lt (i2pos _)); rw [e0]; have e1 := Int.mul_le_mul hci (pow_mono (x := 2) (by decide) hpw) (Int.le_of_lt (i2pos _)) (Int.le_of_lt (i2pos _)); rw [← Int.pow_add] at e1; have e2 : (2 : Int) ^ (31 + 30 * 8) < 2 ^ (31 * 639) := i2lt (by omega); omega) z) (cwV 4 C.1.2.2.2.2 (wC_V kX5_91 nX5_add slX5_add iniX5 cdX5_add) rfl rfl rfl (by decide +kernel) ⟨Nat.le_of_ble_eq_true rfl, Nat.le_of_ble_eq_true rfl⟩) rfl ⟨Nat.zero_le _, Nat.zero_le _⟩ (Nat.le_of_ble_eq_true rfl) dX5_sign_129 [.int (iZ (1)), .int (iZ (138)), .int (iZ (136)), .int (iZ (135)), .ref (Q 0)] rfl (fun v109 hv109 => ?_)
              obtain ⟨gL109, gS109, gN109, hZ109, rfl⟩ := mSet_all hZP hv109
              refine w_iinc C ((i : Int) - 1) (by omega) [(6, .int (iZ ((i : Int) - 1))), (5, .int (iZ ((N : Int) - 1))), (0, .ref (Q 0)), (1, .int (iZ (1))), (2, .long (lZ (nn))), (4, .int (iZ ((ex : Int))))] dX5_sign_132 0 rfl (by decide) rfl ?_
              refine w_goto C 68 dX5_sign_135 (by decide) ?_
              exact ih2 i (uZ P 135 (P 136 + 1 * P 138)) _ _ _ (by omega) (by omega) hZ109 (by rw [uZ_eq, hP6, hP8, show N - i = (N - (i + 1)) + 1 by omega]; simp only [hrn]; rw [show N - 1 - (N - (i + 1)) = i by omega, show N - (i + 1) = N - 1 - i by omega]) (by rw [uZ_ne (by omega), hP, uZ_ne (by omega), uZ_ne (by omega), uZ_ne (by omega)]; exact h2) (fun c hc => by rw [uZ_ne (by omega), hP, uZ_ne (by omega), uZ_ne (by omega), uZ_ne (by omega)]; exact h3 c hc)
        exact lp N (N - 1) (uZ (uZ Z 135 ((X.2.2.2.2.2.2 (N - 1)).toInt)) 137 nn) _ _ _ (by omega) (by omega) hZ5 (by rw [uZ_ne (by omega), uZ_eq, show N - (N - 1) = 0 + 1 by omega]; simp only [hrn]; rw [Int.zero_mul, Int.zero_add, Int.one_mul, Nat.mul_zero, Int.pow_zero, Int.mul_one, Nat.sub_zero]) (by rw [uZ_eq]) (fun c hc => by rw [uZ_ne (by omega), uZ_ne (by omega)])
      · refine w_iconst C dX5_sign_35 ?_
        exact m_iret hsz C hr hlk (⟨N, hN, by rw [show N = 0 by omega]; rfl, Z, ⟨_, _, _, hZ, rfl⟩, fun _ _ => rfl⟩) dX5_sign_36
    · exact absurd c17 (by omega)
set_option maxHeartbeats 4000000 in
set_option maxRecDepth 100000 in
/-- sign at no level -/
theorem cm_signE1 (l : Launch) (D : va_G) (Q : Nat → Nat) (G : Nat → ClassId) (fL fS fN fD : Nat → Int32) (X : mX) (nn e0 : Int) (he0 : -2147483648 ≤ e0 ∧ e0 < 2147483648) (hbad : ¬ (0 ≤ e0 ∧ e0 ≤ 30)) (sz : Nat) : Met l yX5_sign (wC yX5_sign cX5_sign 7 (some .int)) ({ frames := 3, cells := 0, slots := 0, locals := 80 }) (va_Pc [.ref (Q 0), .int (iZ (1)), .long (lZ (nn)), .int (iZ (e0))] (mPre D Q G (fL, fS, fN, fD, X) sz)) (va_Qi (fun (q : Int32) (u : mT) => q = iZ (-2) ∧ u = (fL, fS, fN, fD, X)) (mAt D Q G (mA Q sz)) (mA Q sz)) 0 0 (mA Q sz) := by
  refine m_met (cc := cX5_sign) (maxL := 7) (ret := (some .int)) (by decide) rfl rfl (Nat.le_of_ble_eq_true rfl) ?_
  intro p e s m below meth c hsz C hr hlk
  refine w_sub [(0, .ref (Q 0)), (1, .int (iZ (1))), (2, .long (lZ (nn))), (4, .int (iZ (e0)))] [0, 1, 2, 3] rfl ?_
  refine w_iload_n C dX5_sign_0 1 rfl ?_
  refine m_callSi [.int (iZ (1))] hsz C (fun z => cm_isWhich l D Q G fL fS fN fD X (1) (by omega) z) (cwS 1 C.1.2.2.2.2 (wC_S kX5_140 stX5_isWhich iniX5 cdX5_isWhich) rfl rfl rfl (by decide +kernel) ⟨Nat.le_of_ble_eq_true rfl, Nat.le_of_ble_eq_true rfl⟩) rfl ⟨Nat.zero_le _, Nat.zero_le _⟩ (Nat.le_of_ble_eq_true rfl) dX5_sign_1 [.int (iZ (1))] rfl (fun r v1 hv1 => ?_)
  obtain ⟨rfl, rfl⟩ := hv1
  refine w_top C (1) (by decide) ?_
  refine w_if_eq C 20 dX5_sign_4 (by decide) ⟨by omega, by omega⟩ (fun c4 => ?_) (fun c4 => ?_)
  · exact absurd c4 (by omega)
  · refine w_iload C dX5_sign_7 3 rfl ?_
    refine w_i2l C dX5_sign_9 ⟨by omega, by omega⟩ ?_
    refine w_lconst C 0 dX5_sign_10 rfl ?_
    refine w_ldc2 C (30) dX5_sign_11 (wC_in kclX5_159) ?_
    refine m_callSi [.long (lZ (e0)), .long (lZ (0)), .long (lZ (30))] hsz C (fun z => cm_in l D Q G fL fS fN fD X (e0) (0) (30) (by omega) (by omega) (by omega) z) (cwS 3 C.1.2.2.2.2 (wC_S kX5_132 stX5_in iniX5 cdX5_in) rfl rfl rfl (by decide +kernel) ⟨Nat.le_of_ble_eq_true rfl, Nat.le_of_ble_eq_true rfl⟩) rfl ⟨Nat.zero_le _, Nat.zero_le _⟩ (Nat.le_of_ble_eq_true rfl) dX5_sign_14 [.long (lZ (30)), .long (lZ (0)), .long (lZ (e0))] rfl (fun r v2 hv2 => ?_)
    obtain ⟨rfl, rfl⟩ := hv2
    refine w_top C (0) (if_neg hbad) ?_
    refine w_if_ne C 23 dX5_sign_17 (by decide) ⟨by omega, by omega⟩ (fun c17 => ?_) (fun c17 => ?_)
    · exact absurd c17 (by omega)
    · refine w_bipush C dX5_sign_20 (by decide) ?_
      exact m_iret hsz C hr hlk (⟨rfl, rfl⟩) dX5_sign_22
set_option maxHeartbeats 4000000 in
set_option maxRecDepth 100000 in
/-- sign of what there is not -/
theorem cm_signB (l : Launch) (D : va_G) (Q : Nat → Nat) (G : Nat → ClassId) (fL fS fN fD : Nat → Int32) (X : mX) (w nn e0 : Int) (hw : -2147483648 ≤ w ∧ w < 2147483648) (hbad : ¬ (0 ≤ w ∧ w ≤ 1)) (sz : Nat) : Met l yX5_sign (wC yX5_sign cX5_sign 7 (some .int)) ({ frames := 3, cells := 0, slots := 0, locals := 80 }) (va_Pc [.ref (Q 0), .int (iZ (w)), .long (lZ (nn)), .int (iZ (e0))] (mPre D Q G (fL, fS, fN, fD, X) sz)) (va_Qi (fun (q : Int32) (u : mT) => q = iZ (-2) ∧ u = (fL, fS, fN, fD, X)) (mAt D Q G (mA Q sz)) (mA Q sz)) 0 0 (mA Q sz) := by
  refine m_met (cc := cX5_sign) (maxL := 7) (ret := (some .int)) (by decide) rfl rfl (Nat.le_of_ble_eq_true rfl) ?_
  intro p e s m below meth c hsz C hr hlk
  refine w_sub [(0, .ref (Q 0)), (1, .int (iZ (w))), (2, .long (lZ (nn))), (4, .int (iZ (e0)))] [0, 1, 2, 3] rfl ?_
  refine w_iload_n C dX5_sign_0 1 rfl ?_
  refine m_callSi [.int (iZ (w))] hsz C (fun z => cm_isWhich l D Q G fL fS fN fD X (w) (by omega) z) (cwS 1 C.1.2.2.2.2 (wC_S kX5_140 stX5_isWhich iniX5 cdX5_isWhich) rfl rfl rfl (by decide +kernel) ⟨Nat.le_of_ble_eq_true rfl, Nat.le_of_ble_eq_true rfl⟩) rfl ⟨Nat.zero_le _, Nat.zero_le _⟩ (Nat.le_of_ble_eq_true rfl) dX5_sign_1 [.int (iZ (w))] rfl (fun r v1 hv1 => ?_)
  obtain ⟨rfl, rfl⟩ := hv1
  refine w_top C (0) (if_neg hbad) ?_
  refine w_if_eq C 20 dX5_sign_4 (by decide) ⟨by omega, by omega⟩ (fun c4 => ?_) (fun c4 => ?_)
  · refine w_bipush C dX5_sign_20 (by decide) ?_
    exact m_iret hsz C hr hlk (⟨rfl, rfl⟩) dX5_sign_22
  · exact absurd c4 (by omega)
set_option maxHeartbeats 4000000 in
set_option maxRecDepth 100000 in
/-- isSmall -/
theorem cm_isSmall (l : Launch) (D : va_G) (Q : Nat → Nat) (G : Nat → ClassId) (fL fS fN fD : Nat → Int32) (X : mX) (Z : Nat → Int) (a : Nat) (hZ : mAll fL fS fN Z) (ha : a < 135) (sz : Nat) : Met l yX5_isSmall (wC yX5_isSmall cX5_isSmall 2 (some .boolean)) ({ frames := 1, cells := 0, slots := 0, locals := 31 }) (va_Pc [.ref (Q 0), .int (iZ ((a : Int)))] (mPre D Q G (fL, fS, fN, fD, X) sz)) (va_Qi (fun (q : Int32) (u : mT) => q = iZ (if ((Z a).natAbs : Int) ≤ 1000000000 then 1 else 0) ∧ ∃ Y : Nat → Int, mPost fD X Y u ∧ ∀ c : Nat, c ≠ 138 → Y c = Z c) (mAt D Q G (mA Q sz)) (mA Q sz)) 0 0 (mA Q sz) := by
  refine m_met (cc := cX5_isSmall) (maxL := 2) (ret := (some .boolean)) (by decide) rfl rfl (Nat.le_of_ble_eq_true rfl) ?_
  intro p e s m below meth c hsz C hr hlk
  refine w_sub [(0, .ref (Q 0)), (1, .int (iZ ((a : Int))))] [0, 1] rfl ?_
  refine w_aload_n C dX5_isSmall_0 0 rfl ?_
  refine w_sipush C dX5_isSmall_1 (by decide) ?_
  refine w_ldc2 C (1000000000) dX5_isSmall_4 (wC_in kclX5_148) ?_
  refine m_callv [.int (iZ (138)), .long (lZ (1000000000))] hsz C (fun z => cm_setLong l D Q G fL fS fN fD X 138 1000000000 (by omega) (by omega) (by omega) z) (cwV 2 C.1.2.2.2.2 (wC_V kX5_64 nX5_setLong slX5_setLong iniX5 cdX5_setLong) rfl rfl rfl (by decide +kernel) ⟨Nat.le_of_ble_eq_true rfl, Nat.le_of_ble_eq_true rfl⟩) rfl ⟨Nat.zero_le _, Nat.zero_le _⟩ (Nat.le_of_ble_eq_true rfl) dX5_isSmall_7 [.long (lZ (1000000000)), .int (iZ (138)), .ref (Q 0)] rfl (fun v1 hv1 => ?_)
  obtain ⟨pL, pS, pN, hZv, rfl⟩ := mSet_all hZ hv1
  obtain ⟨V, hV⟩ : ∃ V : Nat → Int, V = uZ Z 138 1000000000 := ⟨_, rfl⟩
  rw [← hV] at hZv
  have hVa : V a = Z a := by rw [hV, uZ_ne (by omega)]
  have hV8 : V 138 = 1000000000 := by rw [hV, uZ_eq]
  refine w_aload_n C dX5_isSmall_10 0 rfl ?_
  refine w_get (ci := 5) (ref := "RootIsolatorModel") (T := TX5) (Cn := RX5) (N := 10) C (fun w h => wC_in (inX5 w h)) 0 rfl rfl 3 (by decide) (wC_in fX5_signs) rfl rfl dX5_isSmall_11 ?_
  refine w_iload_n C dX5_isSmall_14 1 rfl ?_
  refine w_iald C 3 0 rfl rfl (a) ((Z a).sign) ⟨by omega, by omega, by omega⟩ (by rw [← hVa]; exact mNum_sgn (hZv a (by omega))) dX5_isSmall_15 ?_
  refine w_if_eq C 30 dX5_isSmall_16 (by decide) (by have := sgn_r (Z a); omega) (fun c16 => ?_) (fun c16 => ?_)
  · have hz : (if ((Z a).natAbs : Int) ≤ 1000000000 then (1 : Int) else 0) = 1 := if_pos (by first | (have g := sgn_zero c16; rw [g]; decide) | (have g := zcmp_le.1 (show zcmp ((V a).natAbs : Int) ((V 138).natAbs : Int) ≤ 0 by omega); rw [hVa, hV8] at g; exact g))
    refine w_iconst C dX5_isSmall_30 ?_
    refine w_goto C 35 dX5_isSmall_31 (by decide) ?_
    exact m_zret hsz C hr (rfl) hlk (⟨by rw [hz], V, ⟨_, _, _, hZv, rfl⟩, fun c hc => by rw [hV, uZ_ne hc]⟩) dX5_isSmall_35
  · refine w_aload_n C dX5_isSmall_19 0 rfl ?_
    refine w_iload_n C dX5_isSmall_20 1 rfl ?_
    refine w_sipush C dX5_isSmall_21 (by decide) ?_
    refine m_calli [.int (iZ ((a : Int))), .int (iZ (138))] hsz C (fun z => cm_compareSizes l D Q G pL pS pN fD X a 138 (V a) (V 138) (by omega) (by omega) (hZv a (by omega)) (hZv 138 (by omega)) z) (cwV 2 C.1.2.2.2.2 (wC_V kX5_57 nX5_compareSizes slX5_compareSizes iniX5 cdX5_compareSizes) rfl rfl rfl (by decide +kernel) ⟨Nat.le_of_ble_eq_true rfl, Nat.le_of_ble_eq_true rfl⟩) rfl ⟨Nat.zero_le _, Nat.zero_le _⟩ (Nat.le_of_ble_eq_true rfl) dX5_isSmall_24 [.int (iZ (138)), .int (iZ ((a : Int))), .ref (Q 0)] rfl (fun r v2 hv2 => ?_)
    obtain ⟨rfl, rfl⟩ := hv2
    refine w_if_gt C 34 dX5_isSmall_27 (by decide) (zcmp_r _ _) (fun c27 => ?_) (fun c27 => ?_)
    · have hz : (if ((Z a).natAbs : Int) ≤ 1000000000 then (1 : Int) else 0) = 0 := if_neg (fun h => by have g := zcmp_gt.1 c27; rw [hVa, hV8] at g; omega)
      refine w_iconst C dX5_isSmall_34 ?_
      exact m_zret hsz C hr (rfl) hlk (⟨by rw [hz], V, ⟨_, _, _, hZv, rfl⟩, fun c hc => by rw [hV, uZ_ne hc]⟩) dX5_isSmall_35
    · have hz : (if ((Z a).natAbs : Int) ≤ 1000000000 then (1 : Int) else 0) = 1 := if_pos (by first | (have g := sgn_zero c16; rw [g]; decide) | (have g := zcmp_le.1 (show zcmp ((V a).natAbs : Int) ((V 138).natAbs : Int) ≤ 0 by omega); rw [hVa, hV8] at g; exact g))
      refine w_iconst C dX5_isSmall_30 ?_
      refine w_goto C 35 dX5_isSmall_31 (by decide) ?_
      exact m_zret hsz C hr (rfl) hlk (⟨by rw [hz], V, ⟨_, _, _, hZv, rfl⟩, fun c hc => by rw [hV, uZ_ne hc]⟩) dX5_isSmall_35
