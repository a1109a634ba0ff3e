theorem FC_pos : ∀ {h : Nat} {a : Nat → Int} {Na : Nat} {b : Nat → Int} {Nb : Nat} {G : Nat → Int} {NG : Nat}, FC h a Na b Nb G NG → 0 < Na → 0 < NG
  | 0, a, Na, b, Nb, G, NG, h, h0 => by rw [h.1]; exact h0
  | n + 1, a, Na, b, Nb, G, NG, h, h0 => by
    rcases h with ⟨_, h2, _⟩ | ⟨h2, r, Nr, _, _, h4⟩
    · rw [h2]; exact h0
    · exact FC_pos h4 h2
set_option maxHeartbeats 4000000 in
set_option maxRecDepth 100000 in
/-- common -/
theorem cm_common (l : Launch) (D : va_G) (Q : Nat → Nat) (G : Nat → ClassId) (fL fS fN fD : Nat → Int32) (X : mX) (Z : Nat → Int) (N0 N1 : Nat) (hZ : mAll fL fS fN Z) (hT0 : topN X.2.2.2.2.2.1 N0) (hT1 : topN X.2.2.2.2.2.2 N1) (hF : ∀ a1 b1 : Nat → Int, primR (gz X.2.2.2.2.2.1) N0 a1 → primR (gz X.2.2.2.2.2.2) N1 b1 → FZ 9 a1 N0 b1 N1) (hG : ∀ (G : Nat → Int) (NG : Nat), (∃ a1 b1 : Nat → Int, primR (gz X.2.2.2.2.2.1) N0 a1 ∧ primR (gz X.2.2.2.2.2.2) N1 b1 ∧ FC 9 a1 N0 b1 N1 G NG) → (∀ i : Nat, i < NG → ((G i).natAbs : Int) ≤ 2 ^ 1196) ∧ cntOK G NG (-1152921504606846976) 2305843009213693952) (sz : Nat) : Met l yX5_common (wC yX5_common cX5_common 1 (some .int)) ({ frames := 7, cells := 0, slots := 0, locals := 176 }) (va_Pc [.ref (Q 0)] (mPre D Q G (fL, fS, fN, fD, X) sz)) (va_Qi (fun (q : Int32) (u : mT) => mScr X u ∧ (((N0 = 0 ∨ N1 = 0) ∧ q = iZ (-3)) ∨ (N0 ≠ 0 ∧ N1 ≠ 0 ∧ ∃ (G : Nat → Int) (NG : Nat) (v : Int), ldn G NG ∧ (∃ a1 b1 : Nat → Int, primR (gz X.2.2.2.2.2.1) N0 a1 ∧ primR (gz X.2.2.2.2.2.2) N1 b1 ∧ FC 9 a1 N0 b1 N1 G NG) ∧ cntR G NG (-1152921504606846976) 2305843009213693952 v ∧ q = iZ v))) (mAt D Q G (mA Q sz)) (mA Q sz)) 0 0 (mA Q sz) := by
  refine m_met (cc := cX5_common) (maxL := 1) (ret := (some .int)) (by decide) rfl rfl (Nat.le_of_ble_eq_true rfl) ?_
  intro p e s m below meth c hsz C hr hlk
  refine w_sub [(0, .ref (Q 0))] [0] rfl ?_
  refine w_aload_n C dX5_common_0 0 rfl ?_
  refine w_iconst C dX5_common_1 ?_
  refine m_calli [.int (iZ (0))] hsz C (fun z => cm_degreeOf0 l D Q G fL fS fN fD X  z) (cwV 1 C.1.2.2.2.2 (wC_V kX5_153 nX5_degreeOf slX5_degreeOf iniX5 cdX5_degreeOf) rfl rfl rfl (by decide +kernel) ⟨Nat.le_of_ble_eq_true rfl, Nat.le_of_ble_eq_true rfl⟩) rfl ⟨Nat.zero_le _, Nat.zero_le _⟩ (Nat.le_of_ble_eq_true rfl) dX5_common_2 [.int (iZ (0)), .ref (Q 0)] rfl (fun r v1 hv1 => ?_)
  obtain ⟨⟨q0, hq0, rfl⟩, rfl⟩ := hv1
  have eq0 : q0 = N0 := topN_u hq0 hT0
  have h90 := hq0.1
  rw [eq0]
  refine w_if_lt C 16 dX5_common_5 (by decide) (by have := hT0.1; omega) (fun c5 => ?_) (fun c5 => ?_)
  · refine w_bipush C dX5_common_16 (by decide) ?_
    exact m_iret hsz C hr hlk (⟨mScr_of ⟨_, _, _, hZ, rfl⟩, Or.inl ⟨by omega, rfl⟩⟩) dX5_common_18
  · refine w_aload_n C dX5_common_8 0 rfl ?_
    refine w_iconst C dX5_common_9 ?_
    refine m_calli [.int (iZ (1))] hsz C (fun z => cm_degreeOf1 l D Q G fL fS fN fD X  z) (cwV 1 C.1.2.2.2.2 (wC_V kX5_153 nX5_degreeOf slX5_degreeOf iniX5 cdX5_degreeOf) rfl rfl rfl (by decide +kernel) ⟨Nat.le_of_ble_eq_true rfl, Nat.le_of_ble_eq_true rfl⟩) rfl ⟨Nat.zero_le _, Nat.zero_le _⟩ (Nat.le_of_ble_eq_true rfl) dX5_common_10 [.int (iZ (1)), .ref (Q 0)] rfl (fun r v2 hv2 => ?_)
    obtain ⟨⟨q1, hq1, rfl⟩, rfl⟩ := hv2
    have eq1 : q1 = N1 := topN_u hq1 hT1
    have h91 := hq1.1
    rw [eq1]
    refine w_if_ge C 19 dX5_common_13 (by decide) (by have := hT1.1; omega) (fun c13 => ?_) (fun c13 => ?_)
    · refine w_aload_n C dX5_common_19 0 rfl ?_
      refine m_callv [] hsz C (fun z => cm_findCommonOfBoth l D Q G fL fS fN fD X Z N0 N1 hZ hT0 hT1 hF z) (cwV 0 C.1.2.2.2.2 (wC_V kX5_203 nX5_findCommonOfBoth slX5_findCommonOfBoth iniX5 cdX5_findCommonOfBoth) rfl rfl rfl (by decide +kernel) ⟨Nat.le_of_ble_eq_true rfl, Nat.le_of_ble_eq_true rfl⟩) rfl ⟨Nat.zero_le _, Nat.zero_le _⟩ (Nat.le_of_ble_eq_true rfl) dX5_common_20 [.ref (Q 0)] rfl (fun v3 hv3 => ?_)
      obtain ⟨Y3, gD, NG, ⟨g3L, g3S, g3N, hZ3, rfl⟩, c7, cN, cl, co, cc1⟩ := hv3
      obtain ⟨hG1, hG2, hG3⟩ := hG _ NG cc1
      have hNG : 0 < NG := by obtain ⟨z1, z2, z3, z4, z5⟩ := cc1; exact FC_pos z5 (by omega)
      refine w_aload_n C dX5_common_23 0 rfl ?_
      refine w_iconst C dX5_common_24 ?_
      refine w_bipush C dX5_common_25 (by decide) ?_
      refine m_callv [.int (iZ (0)), .int (iZ (7))] hsz C (fun z => cm_copyRow l D Q G g3L g3S g3N gD X Y3 0 7 NG hZ3 (by omega) (by omega) c7 cN z) (cwV 2 C.1.2.2.2.2 (wC_V kX5_94 nX5_copyRow slX5_copyRow iniX5 cdX5_copyRow) rfl rfl rfl (by decide +kernel) ⟨Nat.le_of_ble_eq_true rfl, Nat.le_of_ble_eq_true rfl⟩) rfl ⟨Nat.zero_le _, Nat.zero_le _⟩ (Nat.le_of_ble_eq_true rfl) dX5_common_27 [.int (iZ (7)), .int (iZ (0)), .ref (Q 0)] rfl (fun v4 hv4 => ?_)
      obtain ⟨Y4, ⟨g4L, g4S, g4N, hZ4, rfl⟩, y4a, y4b⟩ := hv4
      refine w_aload_n C dX5_common_30 0 rfl ?_
      refine w_iconst C dX5_common_31 ?_
      refine w_iconst C dX5_common_32 ?_
      refine m_callv [.int (iZ (5)), .int (iZ (0))] hsz C (fun z => cm_makeFree l D Q G g4L g4S g4N (upd gD 0 (iZ ((NG : Int) - 1))) X Y4 5 0 NG hZ4 (Or.inl rfl) (by omega) upd_eq cN (by omega) (fun i hi => by show Y4 (9 * 0 + i) ≠ 0; rw [y4a i (by omega)]; exact cl i hi) (fun i hi => by rw [y4a i hi]; exact hG1 i hi) (fun x1 x2 h1 h2 => hG2 x1 x2 (primR_left h1 y4a) (primR_left h2 (fun i hi => congrArg (· * ((i + 1 : Nat) : Int)) (y4a (i + 1) (by omega))))) z) (cwV 2 C.1.2.2.2.2 (wC_V kX5_168 nX5_makeFree slX5_makeFree iniX5 cdX5_makeFree) rfl rfl rfl (by decide +kernel) ⟨Nat.le_of_ble_eq_true rfl, Nat.le_of_ble_eq_true rfl⟩) rfl ⟨Nat.zero_le _, Nat.zero_le _⟩ (Nat.le_of_ble_eq_true rfl) dX5_common_33 [.int (iZ (0)), .int (iZ (5)), .ref (Q 0)] rfl (fun v5 hv5 => ?_)
      obtain ⟨Y5, kD, NK, ⟨g5L, g5S, g5N, hZ5, rfl⟩, m5, m7, mN, mP, ml7, mo7, ml5, mfr, mfb, mq, mf⟩ := hv5
      have hfree := freeR_congr mfr y4a
      obtain ⟨h, hh, hTV⟩ := hG3 _ _ _ _ hfree
      refine w_aload_n C dX5_common_36 0 rfl ?_
      refine w_bipush C dX5_common_37 (by decide) ?_
      refine w_iconst C dX5_common_39 ?_
      refine w_ldc2 C (-1152921504606846976) dX5_common_40 (wC_in kclX5_187) ?_
      refine w_ldc2 C (2305843009213693952) dX5_common_43 (wC_in kclX5_189) ?_
      refine m_callv [.int (iZ (8)), .int (iZ (5)), .long (lZ ((-1152921504606846976))), .long (lZ (2305843009213693952))] hsz C (fun z => cm_move l D Q G g5L g5S g5N kD X Y5 8 5 (NG - NK + 1) (-1152921504606846976) 2305843009213693952 (2 ^ 12009) (2 ^ 61) hZ5 (by omega) (by omega) (by omega) m5 (by omega) (by omega) (by omega) (Int.le_of_lt (i2pos _)) (by decide) (by decide) (by decide) (fun i hi => mfb i hi) (bnd4 (by decide) (Int.le_refl _)) z) (cwV 4 C.1.2.2.2.2 (wC_V kX5_171 nX5_move slX5_move iniX5 cdX5_move) rfl rfl rfl (by decide +kernel) ⟨Nat.le_of_ble_eq_true rfl, Nat.le_of_ble_eq_true rfl⟩) rfl ⟨Nat.zero_le _, Nat.zero_le _⟩ (Nat.le_of_ble_eq_true rfl) dX5_common_46 [.long (lZ (2305843009213693952)), .long (lZ ((-1152921504606846976))), .int (iZ (5)), .int (iZ (8)), .ref (Q 0)] rfl (fun v6 hv6 => ?_)
      obtain ⟨Y6, ⟨g6L, g6S, g6N, hZ6, rfl⟩, v1, v2⟩ := hv6
      refine w_aload_n C dX5_common_49 0 rfl ?_
      refine w_bipush C dX5_common_50 (by decide) ?_
      refine m_calli [.int (iZ (8))] hsz C (fun z => cm_upTo l D Q G g6L g6S g6N (upd kD 8 (iZ (((NG - NK + 1 : Nat) : Int) - 1))) X Y6 (mvd (fun i => Y5 (9 * 5 + i)) (NG - NK + 1) (-1152921504606846976) 2305843009213693952) 8 (NG - NK + 1) h hZ6 (by omega) upd_eq (by omega) (fun i hi => v1 i hi) hTV hh z) (cwV 1 C.1.2.2.2.2 (wC_V kX5_175 nX5_upTo slX5_upTo iniX5 cdX5_upTo) rfl rfl rfl (by decide +kernel) ⟨Nat.le_of_ble_eq_true rfl, Nat.le_of_ble_eq_true rfl⟩) rfl ⟨Nat.zero_le _, Nat.zero_le _⟩ (Nat.le_of_ble_eq_true rfl) dX5_common_52 [.int (iZ (8)), .ref (Q 0)] rfl (fun r v7 hv7 => ?_)
      obtain ⟨rfl, Y7, tD, fB, ⟨tL, tS, tN, hZ7, rfl⟩, d1, d2⟩ := hv7
      exact m_iret hsz C hr hlk (⟨⟨Y7, tD, fB, ⟨_, _, _, hZ7, rfl⟩⟩, Or.inr ⟨by omega, by omega, _, NG, _, cl, cc1, ⟨_, _, _, NK, h, hfree, ml5, hh, hTV, rfl⟩, rfl⟩⟩) dX5_common_55
    · refine w_bipush C dX5_common_16 (by decide) ?_
      exact m_iret hsz C hr hlk (⟨mScr_of ⟨_, _, _, hZ, rfl⟩, Or.inl ⟨by omega, rfl⟩⟩) dX5_common_18
set_option maxHeartbeats 4000000 in
set_option maxRecDepth 100000 in
/-- roots -/
theorem cm_roots0 (l : Launch) (D : va_G) (Q : Nat → Nat) (G : Nat → ClassId) (fL fS fN fD : Nat → Int32) (X : mX) (Z : Nat → Int) (N : Nat) (hZ : mAll fL fS fN Z) (hT : topN X.2.2.2.2.2.1 N) (hC : N ≠ 0 → (clampZ (-9223372036854775808) (2 ^ (30 + 0)) * 2 ^ (30 - 0)) < (clampZ (9223372036854775807) (2 ^ (30 + 0)) * 2 ^ (30 - 0)) → cntOK (gz X.2.2.2.2.2.1) N (clampZ (-9223372036854775808) (2 ^ (30 + 0)) * 2 ^ (30 - 0)) ((clampZ (9223372036854775807) (2 ^ (30 + 0)) * 2 ^ (30 - 0)) - (clampZ (-9223372036854775808) (2 ^ (30 + 0)) * 2 ^ (30 - 0)))) (sz : Nat) : Met l yX5_roots (wC yX5_roots cX5_roots 2 (some .int)) ({ frames := 8, cells := 0, slots := 0, locals := 207 }) (va_Pc [.ref (Q 0), .int (iZ (0))] (mPre D Q G (fL, fS, fN, fD, X) sz)) (va_Qi (fun (q : Int32) (u : mT) => mScr X u ∧ ((N = 0 ∧ q = iZ (-3)) ∨ (N ≠ 0 ∧ (clampZ (9223372036854775807) (2 ^ (30 + 0)) * 2 ^ (30 - 0)) ≤ (clampZ (-9223372036854775808) (2 ^ (30 + 0)) * 2 ^ (30 - 0)) ∧ q = iZ 0) ∨ (N ≠ 0 ∧ (clampZ (-9223372036854775808) (2 ^ (30 + 0)) * 2 ^ (30 - 0)) < (clampZ (9223372036854775807) (2 ^ (30 + 0)) * 2 ^ (30 - 0)) ∧ ∃ v : Int, cntR (gz X.2.2.2.2.2.1) N (clampZ (-9223372036854775808) (2 ^ (30 + 0)) * 2 ^ (30 - 0)) ((clampZ (9223372036854775807) (2 ^ (30 + 0)) * 2 ^ (30 - 0)) - (clampZ (-9223372036854775808) (2 ^ (30 + 0)) * 2 ^ (30 - 0))) v ∧ q = iZ v))) (mAt D Q G (mA Q sz)) (mA Q sz)) 0 0 (mA Q sz) := by
  refine m_met (cc := cX5_roots) (maxL := 2) (ret := (some .int)) (by decide) rfl rfl (Nat.le_of_ble_eq_true rfl) ?_
  intro p e s m below meth c hsz C hr hlk
  refine w_sub [(0, .ref (Q 0)), (1, .int (iZ (0)))] [0, 1] rfl ?_
  refine w_aload_n C dX5_roots_0 0 rfl ?_
  refine w_iload_n C dX5_roots_1 1 rfl ?_
  refine w_ldc2 C (-9223372036854775808) dX5_roots_2 (wC_in kclX5_180) ?_
  refine w_iconst C dX5_roots_5 ?_
  refine w_ldc2 C (9223372036854775807) dX5_roots_6 (wC_in kclX5_182) ?_
  refine w_iconst C dX5_roots_9 ?_
  refine m_calli [.int (iZ (0)), .long (lZ ((-9223372036854775808))), .int (iZ (0)), .long (lZ (9223372036854775807)), .int (iZ (0))] hsz C (fun z => cm_between_0 l D Q G fL fS fN fD X Z (-9223372036854775808) 9223372036854775807 0 0 N hZ (by omega) (by omega) (by omega) (by omega) hT hC z) (cwV 5 C.1.2.2.2.2 (wC_V kX5_184 nX5_between_ slX5_between_ iniX5 cdX5_between_) rfl rfl rfl (by decide +kernel) ⟨Nat.le_of_ble_eq_true rfl, Nat.le_of_ble_eq_true rfl⟩) rfl ⟨Nat.zero_le _, Nat.zero_le _⟩ (Nat.le_of_ble_eq_true rfl) dX5_roots_10 [.int (iZ (0)), .long (lZ (9223372036854775807)), .int (iZ (0)), .long (lZ ((-9223372036854775808))), .int (iZ (0)), .ref (Q 0)] rfl (fun r v1 hv1 => ?_)
  obtain ⟨v_, hv_⟩ : ∃ v_, v_ = v1 := ⟨_, rfl⟩
  rw [← hv_] at hv1 ⊢
  exact m_iret hsz C hr hlk (by assumption) dX5_roots_13
set_option maxHeartbeats 4000000 in
set_option maxRecDepth 100000 in
/-- roots -/
theorem cm_roots1 (l : Launch) (D : va_G) (Q : Nat → Nat) (G : Nat → ClassId) (fL fS fN fD : Nat → Int32) (X : mX) (Z : Nat → Int) (N : Nat) (hZ : mAll fL fS fN Z) (hT : topN X.2.2.2.2.2.2 N) (hC : N ≠ 0 → (clampZ (-9223372036854775808) (2 ^ (30 + 0)) * 2 ^ (30 - 0)) < (clampZ (9223372036854775807) (2 ^ (30 + 0)) * 2 ^ (30 - 0)) → cntOK (gz X.2.2.2.2.2.2) N (clampZ (-9223372036854775808) (2 ^ (30 + 0)) * 2 ^ (30 - 0)) ((clampZ (9223372036854775807) (2 ^ (30 + 0)) * 2 ^ (30 - 0)) - (clampZ (-9223372036854775808) (2 ^ (30 + 0)) * 2 ^ (30 - 0)))) (sz : Nat) : Met l yX5_roots (wC yX5_roots cX5_roots 2 (some .int)) ({ frames := 8, cells := 0, slots := 0, locals := 207 }) (va_Pc [.ref (Q 0), .int (iZ (1))] (mPre D Q G (fL, fS, fN, fD, X) sz)) (va_Qi (fun (q : Int32) (u : mT) => mScr X u ∧ ((N = 0 ∧ q = iZ (-3)) ∨ (N ≠ 0 ∧ (clampZ (9223372036854775807) (2 ^ (30 + 0)) * 2 ^ (30 - 0)) ≤ (clampZ (-9223372036854775808) (2 ^ (30 + 0)) * 2 ^ (30 - 0)) ∧ q = iZ 0) ∨ (N ≠ 0 ∧ (clampZ (-9223372036854775808) (2 ^ (30 + 0)) * 2 ^ (30 - 0)) < (clampZ (9223372036854775807) (2 ^ (30 + 0)) * 2 ^ (30 - 0)) ∧ ∃ v : Int, cntR (gz X.2.2.2.2.2.2) N (clampZ (-9223372036854775808) (2 ^ (30 + 0)) * 2 ^ (30 - 0)) ((clampZ (9223372036854775807) (2 ^ (30 + 0)) * 2 ^ (30 - 0)) - (clampZ (-9223372036854775808) (2 ^ (30 + 0)) * 2 ^ (30 - 0))) v ∧ q = iZ v))) (mAt D Q G (mA Q sz)) (mA Q sz)) 0 0 (mA Q sz) := by
  refine m_met (cc := cX5_roots) (maxL := 2) (ret := (some .int)) (by decide) rfl rfl (Nat.le_of_ble_eq_true rfl) ?_
  intro p e s m below meth c hsz C hr hlk
  refine w_sub [(0, .ref (Q 0)), (1, .int (iZ (1)))] [0, 1] rfl ?_
  refine w_aload_n C dX5_roots_0 0 rfl ?_
  refine w_iload_n C dX5_roots_1 1 rfl ?_
  refine w_ldc2 C (-9223372036854775808) dX5_roots_2 (wC_in kclX5_180) ?_
  refine w_iconst C dX5_roots_5 ?_
  refine w_ldc2 C (9223372036854775807) dX5_roots_6 (wC_in kclX5_182) ?_
  refine w_iconst C dX5_roots_9 ?_
  refine m_calli [.int (iZ (1)), .long (lZ ((-9223372036854775808))), .int (iZ (0)), .long (lZ (9223372036854775807)), .int (iZ (0))] hsz C (fun z => cm_between_1 l D Q G fL fS fN fD X Z (-9223372036854775808) 9223372036854775807 0 0 N hZ (by omega) (by omega) (by omega) (by omega) hT hC z) (cwV 5 C.1.2.2.2.2 (wC_V kX5_184 nX5_between_ slX5_between_ iniX5 cdX5_between_) rfl rfl rfl (by decide +kernel) ⟨Nat.le_of_ble_eq_true rfl, Nat.le_of_ble_eq_true rfl⟩) rfl ⟨Nat.zero_le _, Nat.zero_le _⟩ (Nat.le_of_ble_eq_true rfl) dX5_roots_10 [.int (iZ (0)), .long (lZ (9223372036854775807)), .int (iZ (0)), .long (lZ ((-9223372036854775808))), .int (iZ (1)), .ref (Q 0)] rfl (fun r v1 hv1 => ?_)
  obtain ⟨v_, hv_⟩ : ∃ v_, v_ = v1 := ⟨_, rfl⟩
  rw [← hv_] at hv1 ⊢
  exact m_iret hsz C hr hlk (by assumption) dX5_roots_13
set_option maxHeartbeats 4000000 in
set_option maxRecDepth 100000 in
/-- between of what there is not -/
theorem cm_between_B (l : Launch) (D : va_G) (Q : Nat → Nat) (G : Nat → ClassId) (fL fS fN fD : Nat → Int32) (X : mX) (w : Int) (nn mm e0 f0 : Int) (hw : -2147483648 ≤ w ∧ w < 2147483648) (hbad : ¬ (0 ≤ w ∧ w ≤ 1)) (sz : Nat) : Met l yX5_between_ (wC yX5_between_ cX5_between_ 12 (some .int)) ({ frames := 7, cells := 0, slots := 0, locals := 176 }) (va_Pc [.ref (Q 0), .int (iZ (w)), .long (lZ (nn)), .int (iZ (e0)), .long (lZ (mm)), .int (iZ (f0))] (mPre D Q G (fL, fS, fN, fD, X) sz)) (va_Qi (fun (q : Int32) (u : mT) => q = iZ (-2) ∧ u = (fL, fS, fN, fD, X)) (mAt D Q G (mA Q sz)) (mA Q sz)) 0 0 (mA Q sz) := by
  refine m_met (cc := cX5_between_) (maxL := 12) (ret := (some .int)) (by decide) rfl rfl (Nat.le_of_ble_eq_true rfl) ?_
  intro p e s m below meth c hsz C hr hlk
  refine w_sub [(0, .ref (Q 0)), (1, .int (iZ (w))), (2, .long (lZ (nn))), (4, .int (iZ (e0))), (5, .long (lZ (mm))), (7, .int (iZ (f0)))] [0, 1, 2, 3, 4, 5] rfl ?_
  refine w_iload_n C dX5_between__0 1 rfl ?_
  refine m_callSi [.int (iZ (w))] hsz C (fun z => cm_isWhich l D Q G fL fS fN fD X (w) (by omega) z) (cwS 1 C.1.2.2.2.2 (wC_S kX5_140 stX5_isWhich iniX5 cdX5_isWhich) rfl rfl rfl (by decide +kernel) ⟨Nat.le_of_ble_eq_true rfl, Nat.le_of_ble_eq_true rfl⟩) rfl ⟨Nat.zero_le _, Nat.zero_le _⟩ (Nat.le_of_ble_eq_true rfl) dX5_between__1 [.int (iZ (w))] rfl (fun r v1 hv1 => ?_)
  obtain ⟨rfl, rfl⟩ := hv1
  refine w_top C (0) (if_neg hbad) ?_
  refine w_if_eq C 33 dX5_between__4 (by decide) ⟨by omega, by omega⟩ (fun c4 => ?_) (fun c4 => ?_)
  · refine w_bipush C dX5_between__33 (by decide) ?_
    exact m_iret hsz C hr hlk (⟨rfl, rfl⟩) dX5_between__35
  · exact absurd c4 (by omega)
set_option maxHeartbeats 4000000 in
set_option maxRecDepth 100000 in
/-- between at no level -/
theorem cm_between_E0 (l : Launch) (D : va_G) (Q : Nat → Nat) (G : Nat → ClassId) (fL fS fN fD : Nat → Int32) (X : mX) (nn mm e0 f0 : Int) (he0 : -2147483648 ≤ e0 ∧ e0 < 2147483648) (hf0 : -2147483648 ≤ f0 ∧ f0 < 2147483648) (hbad : ¬ ((0 ≤ e0 ∧ e0 ≤ 30) ∧ (0 ≤ f0 ∧ f0 ≤ 30))) (sz : Nat) : Met l yX5_between_ (wC yX5_between_ cX5_between_ 12 (some .int)) ({ frames := 7, cells := 0, slots := 0, locals := 176 }) (va_Pc [.ref (Q 0), .int (iZ (0)), .long (lZ (nn)), .int (iZ (e0)), .long (lZ (mm)), .int (iZ (f0))] (mPre D Q G (fL, fS, fN, fD, X) sz)) (va_Qi (fun (q : Int32) (u : mT) => q = iZ (-2) ∧ u = (fL, fS, fN, fD, X)) (mAt D Q G (mA Q sz)) (mA Q sz)) 0 0 (mA Q sz) := by
  refine m_met (cc := cX5_between_) (maxL := 12) (ret := (some .int)) (by decide) rfl rfl (Nat.le_of_ble_eq_true rfl) ?_
  intro p e s m below meth c hsz C hr hlk
  refine w_sub [(0, .ref (Q 0)), (1, .int (iZ (0))), (2, .long (lZ (nn))), (4, .int (iZ (e0))), (5, .long (lZ (mm))), (7, .int (iZ (f0)))] [0, 1, 2, 3, 4, 5] rfl ?_
  refine w_iload_n C dX5_between__0 1 rfl ?_
  refine m_callSi [.int (iZ (0))] hsz C (fun z => cm_isWhich l D Q G fL fS fN fD X (0) (by omega) z) (cwS 1 C.1.2.2.2.2 (wC_S kX5_140 stX5_isWhich iniX5 cdX5_isWhich) rfl rfl rfl (by decide +kernel) ⟨Nat.le_of_ble_eq_true rfl, Nat.le_of_ble_eq_true rfl⟩) rfl ⟨Nat.zero_le _, Nat.zero_le _⟩ (Nat.le_of_ble_eq_true rfl) dX5_between__1 [.int (iZ (0))] rfl (fun r v1 hv1 => ?_)
  obtain ⟨rfl, rfl⟩ := hv1
  refine w_top C (1) (by decide) ?_
  refine w_if_eq C 33 dX5_between__4 (by decide) ⟨by omega, by omega⟩ (fun c4 => ?_) (fun c4 => ?_)
  · exact absurd c4 (by omega)
  · refine w_iload C dX5_between__7 3 rfl ?_
    refine w_i2l C dX5_between__9 ⟨by omega, by omega⟩ ?_
    refine w_lconst C 0 dX5_between__10 rfl ?_
    refine w_ldc2 C (30) dX5_between__11 (wC_in kclX5_159) ?_
    refine m_callSi [.long (lZ (e0)), .long (lZ (0)), .long (lZ (30))] hsz C (fun z => cm_in l D Q G fL fS fN fD X (e0) (0) (30) (by omega) (by omega) (by omega) z) (cwS 3 C.1.2.2.2.2 (wC_S kX5_132 stX5_in iniX5 cdX5_in) rfl rfl rfl (by decide +kernel) ⟨Nat.le_of_ble_eq_true rfl, Nat.le_of_ble_eq_true rfl⟩) rfl ⟨Nat.zero_le _, Nat.zero_le _⟩ (Nat.le_of_ble_eq_true rfl) dX5_between__14 [.long (lZ (30)), .long (lZ (0)), .long (lZ (e0))] rfl (fun r v2 hv2 => ?_)
    obtain ⟨rfl, rfl⟩ := hv2
    refine w_if_eq C 33 dX5_between__17 (by decide) (by split <;> omega) (fun c17 => ?_) (fun c17 => ?_)
    · refine w_bipush C dX5_between__33 (by decide) ?_
      exact m_iret hsz C hr hlk (⟨rfl, rfl⟩) dX5_between__35
    · refine w_iload C dX5_between__20 5 rfl ?_
      refine w_i2l C dX5_between__22 ⟨by omega, by omega⟩ ?_
      refine w_lconst C 0 dX5_between__23 rfl ?_
      refine w_ldc2 C (30) dX5_between__24 (wC_in kclX5_159) ?_
      refine m_callSi [.long (lZ (f0)), .long (lZ (0)), .long (lZ (30))] hsz C (fun z => cm_in l D Q G fL fS fN fD X (f0) (0) (30) (by omega) (by omega) (by omega) z) (cwS 3 C.1.2.2.2.2 (wC_S kX5_132 stX5_in iniX5 cdX5_in) rfl rfl rfl (by decide +kernel) ⟨Nat.le_of_ble_eq_true rfl, Nat.le_of_ble_eq_true rfl⟩) rfl ⟨Nat.zero_le _, Nat.zero_le _⟩ (Nat.le_of_ble_eq_true rfl) dX5_between__27 [.long (lZ (30)), .long (lZ (0)), .long (lZ (f0))] rfl (fun r v3 hv3 => ?_)
      obtain ⟨rfl, rfl⟩ := hv3
      refine w_if_ne C 36 dX5_between__30 (by decide) (by split <;> omega) (fun c30 => ?_) (fun c30 => ?_)
      · exact absurd (⟨Decidable.byContradiction (fun g => c17 (if_neg g)), Decidable.byContradiction (fun g => c30 (if_neg g))⟩ : (0 ≤ e0 ∧ e0 ≤ 30) ∧ (0 ≤ f0 ∧ f0 ≤ 30)) hbad
      · refine w_bipush C dX5_between__33 (by decide) ?_
        exact m_iret hsz C hr hlk (⟨rfl, rfl⟩) dX5_between__35
set_option maxHeartbeats 4000000 in
set_option maxRecDepth 100000 in
/-- between at no level -/
theorem cm_between_E1 (l : Launch) (D : va_G) (Q : Nat → Nat) (G : Nat → ClassId) (fL fS fN fD : Nat → Int32) (X : mX) (nn mm e0 f0 : Int) (he0 : -2147483648 ≤ e0 ∧ e0 < 2147483648) (hf0 : -2147483648 ≤ f0 ∧ f0 < 2147483648) (hbad : ¬ ((0 ≤ e0 ∧ e0 ≤ 30) ∧ (0 ≤ f0 ∧ f0 ≤ 30))) (sz : Nat) : Met l yX5_between_ (wC yX5_between_ cX5_between_ 12 (some .int)) ({ frames := 7, cells := 0, slots := 0, locals := 176 }) (va_Pc [.ref (Q 0), .int (iZ (1)), .long (lZ (nn)), .int (iZ (e0)), .long (lZ (mm)), .int (iZ (f0))] (mPre D Q G (fL, fS, fN, fD, X) sz)) (va_Qi (fun (q : Int32) (u : mT) => q = iZ (-2) ∧ u = (fL, fS, fN, fD, X)) (mAt D Q G (mA Q sz)) (mA Q sz)) 0 0 (mA Q sz) := by
  refine m_met (cc := cX5_between_) (maxL := 12) (ret := (some .int)) (by decide) rfl rfl (Nat.le_of_ble_eq_true rfl) ?_
  intro p e s m below meth c hsz C hr hlk
  refine w_sub [(0, .ref (Q 0)), (1, .int (iZ (1))), (2, .long (lZ (nn))), (4, .int (iZ (e0))), (5, .long (lZ (mm))), (7, .int (iZ (f0)))] [0, 1, 2, 3, 4, 5] rfl ?_
  refine w_iload_n C dX5_between__0 1 rfl ?_
  refine m_callSi [.int (iZ (1))] hsz C (fun z => cm_isWhich l D Q G fL fS fN fD X (1) (by omega) z) (cwS 1 C.1.2.2.2.2 (wC_S kX5_140 stX5_isWhich iniX5 cdX5_isWhich) rfl rfl rfl (by decide +kernel) ⟨Nat.le_of_ble_eq_true rfl, Nat.le_of_ble_eq_true rfl⟩) rfl ⟨Nat.zero_le _, Nat.zero_le _⟩ (Nat.le_of_ble_eq_true rfl) dX5_between__1 [.int (iZ (1))] rfl (fun r v1 hv1 => ?_)
  obtain ⟨rfl, rfl⟩ := hv1
  refine w_top C (1) (by decide) ?_
  refine w_if_eq C 33 dX5_between__4 (by decide) ⟨by omega, by omega⟩ (fun c4 => ?_) (fun c4 => ?_)
  · exact absurd c4 (by omega)
  · refine w_iload C dX5_between__7 3 rfl ?_
    refine w_i2l C dX5_between__9 ⟨by omega, by omega⟩ ?_
    refine w_lconst C 0 dX5_between__10 rfl ?_
    refine w_ldc2 C (30) dX5_between__11 (wC_in kclX5_159) ?_
    refine m_callSi [.long (lZ (e0)), .long (lZ (0)), .long (lZ (30))] hsz C (fun z => cm_in l D Q G fL fS fN fD X (e0) (0) (30) (by omega) (by omega) (by omega) z) (cwS 3 C.1.2.2.2.2 (wC_S kX5_132 stX5_in iniX5 cdX5_in) rfl rfl rfl (by decide +kernel) ⟨Nat.le_of_ble_eq_true rfl, Nat.le_of_ble_eq_true rfl⟩) rfl ⟨Nat.zero_le _, Nat.zero_le _⟩ (Nat.le_of_ble_eq_true rfl) dX5_between__14 [.long (lZ (30)), .long (lZ (0)), .long (lZ (e0))] rfl (fun r v2 hv2 => ?_)
    obtain ⟨rfl, rfl⟩ := hv2
    refine w_if_eq C 33 dX5_between__17 (by decide) (by split <;> omega) (fun c17 => ?_) (fun c17 => ?_)
    · refine w_bipush C dX5_between__33 (by decide) ?_
      exact m_iret hsz C hr hlk (⟨rfl, rfl⟩) dX5_between__35
    · refine w_iload C dX5_between__20 5 rfl ?_
      refine w_i2l C dX5_between__22 ⟨by omega, by omega⟩ ?_
      refine w_lconst C 0 dX5_between__23 rfl ?_
      refine w_ldc2 C (30) dX5_between__24 (wC_in kclX5_159) ?_
      refine m_callSi [.long (lZ (f0)), .long (lZ (0)), .long (lZ (30))] hsz C (fun z => cm_in l D Q G fL fS fN fD X (f0) (0) (30) (by omega) (by omega) (by omega) z) (cwS 3 C.1.2.2.2.2 (wC_S kX5_132 stX5_in iniX5 cdX5_in) rfl rfl rfl (by decide +kernel) ⟨Nat.le_of_ble_eq_true rfl, Nat.le_of_ble_eq_true rfl⟩) rfl ⟨Nat.zero_le _, Nat.zero_le _⟩ (Nat.le_of_ble_eq_true rfl) dX5_between__27 [.long (lZ (30)), .long (lZ (0)), .long (lZ (f0))] rfl (fun r v3 hv3 => ?_)
      obtain ⟨rfl, rfl⟩ := hv3
      refine w_if_ne C 36 dX5_between__30 (by decide) (by split <;> omega) (fun c30 => ?_) (fun c30 => ?_)
      · exact absurd (⟨Decidable.byContradiction (fun g => c17 (if_neg g)), Decidable.byContradiction (fun g => c30 (if_neg g))⟩ : (0 ≤ e0 ∧ e0 ≤ 30) ∧ (0 ≤ f0 ∧ f0 ≤ 30)) hbad
      · refine w_bipush C dX5_between__33 (by decide) ?_
        exact m_iret hsz C hr hlk (⟨rfl, rfl⟩) dX5_between__35
set_option maxHeartbeats 4000000 in
set_option maxRecDepth 100000 in
/-- roots of what there is not -/
theorem cm_rootsB (l : Launch) (D : va_G) (Q : Nat → Nat) (G : Nat → ClassId) (fL fS fN fD : Nat → Int32) (X : mX) (w : Int) (hw : -2147483648 ≤ w ∧ w < 2147483648) (hbad : ¬ (0 ≤ w ∧ w ≤ 1)) (sz : Nat) : Met l yX5_roots (wC yX5_roots cX5_roots 2 (some .int)) ({ frames := 8, cells := 0, slots := 0, locals := 207 }) (va_Pc [.ref (Q 0), .int (iZ (w))] (mPre D Q G (fL, fS, fN, fD, X) sz)) (va_Qi (fun (q : Int32) (u : mT) => q = iZ (-2) ∧ u = (fL, fS, fN, fD, X)) (mAt D Q G (mA Q sz)) (mA Q sz)) 0 0 (mA Q sz) := by
  refine m_met (cc := cX5_roots) (maxL := 2) (ret := (some .int)) (by decide) rfl rfl (Nat.le_of_ble_eq_true rfl) ?_
  intro p e s m below meth c hsz C hr hlk
  refine w_sub [(0, .ref (Q 0)), (1, .int (iZ (w)))] [0, 1] rfl ?_
  refine w_aload_n C dX5_roots_0 0 rfl ?_
  refine w_iload_n C dX5_roots_1 1 rfl ?_
  refine w_ldc2 C (-9223372036854775808) dX5_roots_2 (wC_in kclX5_180) ?_
  refine w_iconst C dX5_roots_5 ?_
  refine w_ldc2 C (9223372036854775807) dX5_roots_6 (wC_in kclX5_182) ?_
  refine w_iconst C dX5_roots_9 ?_
  refine m_calli [.int (iZ (w)), .long (lZ ((-9223372036854775808))), .int (iZ (0)), .long (lZ (9223372036854775807)), .int (iZ (0))] hsz C (fun z => cm_between_B l D Q G fL fS fN fD X w (-9223372036854775808) 9223372036854775807 0 0 hw hbad z) (cwV 5 C.1.2.2.2.2 (wC_V kX5_184 nX5_between_ slX5_between_ iniX5 cdX5_between_) rfl rfl rfl (by decide +kernel) ⟨Nat.le_of_ble_eq_true rfl, Nat.le_of_ble_eq_true rfl⟩) rfl ⟨Nat.zero_le _, Nat.zero_le _⟩ (Nat.le_of_ble_eq_true rfl) dX5_roots_10 [.int (iZ (0)), .long (lZ (9223372036854775807)), .int (iZ (0)), .long (lZ ((-9223372036854775808))), .int (iZ (w)), .ref (Q 0)] rfl (fun r v1 hv1 => ?_)
  obtain ⟨rfl, rfl⟩ := hv1
  exact m_iret hsz C hr hlk (⟨rfl, rfl⟩) dX5_roots_13
set_option maxHeartbeats 4000000 in
set_option maxRecDepth 100000 in
/-- isolate at no level -/
theorem cm_isolateB (l : Launch) (D : va_G) (Q : Nat → Nat) (G : Nat → ClassId) (fL fS fN fD : Nat → Int32) (X : mX) (e0 : Int) (he0 : -2147483648 ≤ e0 ∧ e0 < 2147483648) (hbad : ¬ (0 ≤ e0 ∧ e0 ≤ 30)) (sz : Nat) : Met l yX5_isolate (wC yX5_isolate cX5_isolate 9 (some .int)) ({ frames := 7, cells := 0, slots := 0, locals := 176 }) (va_Pc [.ref (Q 0), .int (iZ (e0))] (mPre D Q G (fL, fS, fN, fD, X) sz)) (va_Qi (fun (q : Int32) (u : mT) => q = iZ (-2) ∧ u = (fL, fS, fN, fD, X)) (mAt D Q G (mA Q sz)) (mA Q sz)) 0 0 (mA Q sz) := by
  refine m_met (cc := cX5_isolate) (maxL := 9) (ret := (some .int)) (by decide) rfl rfl (Nat.le_of_ble_eq_true rfl) ?_
  intro p e s m below meth c hsz C hr hlk
  refine w_sub [(0, .ref (Q 0)), (1, .int (iZ (e0)))] [0, 1] rfl ?_
  refine w_iload_n C dX5_isolate_0 1 rfl ?_
  refine w_i2l C dX5_isolate_1 ⟨by omega, by omega⟩ ?_
  refine w_lconst C 0 dX5_isolate_2 rfl ?_
  refine w_ldc2 C (30) dX5_isolate_3 (wC_in kclX5_159) ?_
  refine m_callSi [.long (lZ (e0)), .long (lZ (0)), .long (lZ (30))] hsz C (fun z => cm_in l D Q G fL fS fN fD X (e0) (0) (30) (by omega) (by omega) (by omega) z) (cwS 3 C.1.2.2.2.2 (wC_S kX5_132 stX5_in iniX5 cdX5_in) rfl rfl rfl (by decide +kernel) ⟨Nat.le_of_ble_eq_true rfl, Nat.le_of_ble_eq_true rfl⟩) rfl ⟨Nat.zero_le _, Nat.zero_le _⟩ (Nat.le_of_ble_eq_true rfl) dX5_isolate_6 [.long (lZ (30)), .long (lZ (0)), .long (lZ (e0))] rfl (fun r v1 hv1 => ?_)
  obtain ⟨rfl, rfl⟩ := hv1
  refine w_top C (0) (if_neg hbad) ?_
  refine w_if_ne C 15 dX5_isolate_9 (by decide) ⟨by omega, by omega⟩ (fun c9 => ?_) (fun c9 => ?_)
  · exact absurd c9 (by omega)
  · refine w_bipush C dX5_isolate_12 (by decide) ?_
    exact m_iret hsz C hr hlk (⟨rfl, rfl⟩) dX5_isolate_14
