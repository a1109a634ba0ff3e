/-- the narrowing of a cell until the other polynomial has no root there: it ends, and the sign that it gives -/
def SG (NA NB NQ : Nat) : Nat → (Nat → Int) → (Nat → Int) → (Nat → Int) → Prop
  | 0, _, _, _ => False
  | k + 1, cA, cB, cQ => okB cA NA ∧ okB cB NB ∧ okB cQ NQ ∧ ∃ h : Nat, h < 4000 ∧ (1 < NB → TV NB h cB) ∧ UV NB h cB < 100 ∧ (0 < UV NB h cB → ∃ h2 : Nat, h2 < 4000 ∧ (1 < NA → TV NA h2 (hlv cA NA)) ∧ UV NA h2 (hlv cA NA) < 100 ∧ (UV NA h2 (hlv cA NA) ≠ 0 → SG NA NB NQ k (hlv cA NA) (hlv cB NB) (hlv cQ NQ)) ∧ (UV NA h2 (hlv cA NA) = 0 → okB (hlv cA NA) NA ∧ okB (hlv cB NB) NB ∧ okB (hlv cQ NQ) NQ ∧ SG NA NB NQ k (sh1 (hlv cA NA) NA) (sh1 (hlv cB NB) NB) (sh1 (hlv cQ NQ) NQ)))
def SR (NA NB NQ : Nat) : Nat → (Nat → Int) → (Nat → Int) → (Nat → Int) → Int → Prop
  | 0, _, _, _, _ => False
  | k + 1, cA, cB, cQ, v => ∃ h : Nat, h < 4000 ∧ (1 < NB → TV NB h cB) ∧ ((UV NB h cB ≤ 0 ∧ v = (psum cQ NQ).sign) ∨ (0 < UV NB h cB ∧ ∃ h2 : Nat, h2 < 4000 ∧ (1 < NA → TV NA h2 (hlv cA NA)) ∧ ((UV NA h2 (hlv cA NA) ≠ 0 ∧ SR NA NB NQ k (hlv cA NA) (hlv cB NB) (hlv cQ NQ) v) ∨ (UV NA h2 (hlv cA NA) = 0 ∧ SR NA NB NQ k (sh1 (hlv cA NA) NA) (sh1 (hlv cB NB) NB) (sh1 (hlv cQ NQ) NQ) v))))
def s3 (NA NB NQ : Nat) (cA cB cQ Y : Nat → Int) (gD : Nat → Int32) : Prop := gD 8 = iZ ((NA : Int) - 1) ∧ gD 9 = iZ ((NB : Int) - 1) ∧ gD 10 = iZ ((NQ : Int) - 1) ∧ (∀ i : Nat, i < NA → Y (9 * 8 + i) = cA i) ∧ (∀ i : Nat, i < NB → Y (9 * 9 + i) = cB i) ∧ ∀ i : Nat, i < NQ → Y (9 * 10 + i) = cQ i
theorem s3_up {NA NB NQ : Nat} {cA cB cQ Y V : Nat → Int} {gD hD : Nat → Int32} (hA : NA ≤ 9) (hB : NB ≤ 9) (hQ : NQ ≤ 9) (h : s3 NA NB NQ cA cB cQ Y gD) (h1 : ∀ q : Nat, q ≠ 11 → q ≠ 12 → hD q = gD q) (h2 : ∀ j : Nat, j ≠ 135 → (j < 99 ∨ 117 ≤ j) → V j = Y j) : s3 NA NB NQ cA cB cQ V hD := by
  obtain ⟨a, b, c, d, e, f⟩ := h
  exact ⟨(h1 8 (by omega) (by omega)).trans a, (h1 9 (by omega) (by omega)).trans b, (h1 10 (by omega) (by omega)).trans c, fun i hi => (h2 _ (by omega) (by omega)).trans (d i hi), fun i hi => (h2 _ (by omega) (by omega)).trans (e i hi), fun i hi => (h2 _ (by omega) (by omega)).trans (f i hi)⟩
theorem s3_8 {NA NB NQ : Nat} {cA cA' cB cQ Y V : Nat → Int} {gD : Nat → Int32} (hA : NA ≤ 9) (hB : NB ≤ 9) (hQ : NQ ≤ 9) (h : s3 NA NB NQ cA cB cQ Y gD) (h1 : ∀ i : Nat, i < NA → V (9 * 8 + i) = cA' i) (h2 : ∀ c : Nat, (c < 9 * 8 ∨ 9 * 8 + NA ≤ c) → V c = Y c) : s3 NA NB NQ cA' cB cQ V gD := by
  obtain ⟨a, b, c, d, e, f⟩ := h
  exact ⟨a, b, c, h1, fun i hi => (h2 _ (by omega)).trans (e i hi), fun i hi => (h2 _ (by omega)).trans (f i hi)⟩
theorem s3_9 {NA NB NQ : Nat} {cA cB' cB cQ Y V : Nat → Int} {gD : Nat → Int32} (hA : NA ≤ 9) (hB : NB ≤ 9) (hQ : NQ ≤ 9) (h : s3 NA NB NQ cA cB cQ Y gD) (h1 : ∀ i : Nat, i < NB → V (9 * 9 + i) = cB' i) (h2 : ∀ c : Nat, (c < 9 * 9 ∨ 9 * 9 + NB ≤ c) → V c = Y c) : s3 NA NB NQ cA cB' cQ V gD := by
  obtain ⟨a, b, c, d, e, f⟩ := h
  exact ⟨a, b, c, fun i hi => (h2 _ (by omega)).trans (d i hi), h1, fun i hi => (h2 _ (by omega)).trans (f i hi)⟩
theorem s3_10 {NA NB NQ : Nat} {cA cB cQ' cQ Y V : Nat → Int} {gD : Nat → Int32} (hA : NA ≤ 9) (hB : NB ≤ 9) (hQ : NQ ≤ 9) (h : s3 NA NB NQ cA cB cQ Y gD) (h1 : ∀ i : Nat, i < NQ → V (9 * 10 + i) = cQ' i) (h2 : ∀ c : Nat, (c < 9 * 10 ∨ 9 * 10 + NQ ≤ c) → V c = Y c) : s3 NA NB NQ cA cB cQ' V gD := by
  obtain ⟨a, b, c, d, e, f⟩ := h
  exact ⟨a, b, c, fun i hi => (h2 _ (by omega)).trans (d i hi), fun i hi => (h2 _ (by omega)).trans (e i hi), h1⟩
theorem okB_638 {c : Nat → Int} {N : Nat} (h : okB c N) : ∀ i : Nat, i < N → ((c i).natAbs : Int) < 2 ^ (31 * 638) := fun i hi => by
  obtain ⟨M, h1, h2, h3⟩ := h
  have := le16 h1
  have := h2 i hi
  omega
set_option maxHeartbeats 4000000 in
set_option maxRecDepth 100000 in
/-- signAt -/
theorem cm_signAt (l : Launch) (D : va_G) (Q : Nat → Nat) (G : Nat → ClassId) (fL fS fN fD : Nat → Int32) (X : mX) (Z : Nat → Int) (N0 N1 kf : Nat) (ix lv : Nat) (cv mn : Int) (hZ : mAll fL fS fN Z) (hX1 : X.1 = iZ 1) (hX2 : X.2.1 = iZ mn) (hmn : mn ≤ 8) (hix : (ix : Int) ≤ mn - 1) (hlev : X.2.2.1 ix = iZ lv) (hlv2 : lv ≤ 30) (hcv : X.2.2.2.1 ix = lZ cv) (hcv2 : -2305843009213693952 ≤ cv * 2 ^ (30 - lv) ∧ cv * 2 ^ (30 - lv) ≤ 2305843009213693952) (hT0 : topN X.2.2.2.2.2.1 N0) (hT1 : topN X.2.2.2.2.2.2 N1) (hN0 : 1 ≤ N0) (hOK : (∀ a1 b1 : Nat → Int, primR (gz X.2.2.2.2.2.1) N0 a1 → primR (der (gz X.2.2.2.2.2.1)) (N0 - 1) b1 → FZ 9 a1 N0 b1 (N0 - 1)) ∧ (∀ a1 b1 : Nat → Int, primR (gz X.2.2.2.2.2.2) N1 a1 → primR (der (gz X.2.2.2.2.2.2)) (N1 - 1) b1 → FZ 9 a1 N1 b1 (N1 - 1)) ∧ ∀ (fA : Nat → Int) (NA : Nat) (GA : Nat → Int) (NGA : Nat) (fB : Nat → Int) (NB : Nat) (GB : Nat → Int) (NGB : Nat), freeR (gz X.2.2.2.2.2.1) N0 fA NA GA NGA → freeR (gz X.2.2.2.2.2.2) N1 fB NB GB NGB → okP fA NA ∧ okP fB NB ∧ (∀ a1 b1 : Nat → Int, primR fA NA a1 → primR fB NB b1 → FZ 9 a1 NA b1 NB) ∧ ∀ (C : Nat → Int) (NC : Nat), (∃ a1 b1 : Nat → Int, primR fA NA a1 ∧ primR fB NB b1 ∧ FC 9 a1 NA b1 NB C NC) → ∃ h : Nat, h < 4000 ∧ (1 < NC → TV NC h (mvd C NC (cv * 2 ^ (30 - lv)) (2 ^ (30 - lv)))) ∧ UV NC h (mvd C NC (cv * 2 ^ (30 - lv)) (2 ^ (30 - lv))) < 100 ∧ (UV NC h (mvd C NC (cv * 2 ^ (30 - lv)) (2 ^ (30 - lv))) ≤ 0 → SG NA NB N1 kf (mvd fA NA (cv * 2 ^ (30 - lv)) (2 ^ (30 - lv))) (mvd fB NB (cv * 2 ^ (30 - lv)) (2 ^ (30 - lv))) (mvd (gz X.2.2.2.2.2.2) N1 (cv * 2 ^ (30 - lv)) (2 ^ (30 - lv))))) (sz : Nat) : Met l yX5_signAt (wC yX5_signAt cX5_signAt 2 (some .int)) ({ frames := 7, cells := 0, slots := 0, locals := 176 }) (va_Pc [.ref (Q 0), .int (iZ ((ix : Int)))] (mPre D Q G (fL, fS, fN, fD, X) sz)) (va_Qi (fun (q : Int32) (u : mT) => mScr X u ∧ ((N1 = 0 ∧ q = iZ 0) ∨ (N1 ≠ 0 ∧ ∃ v : Int, (∃ (fA : Nat → Int) (NA : Nat) (GA : Nat → Int) (NGA : Nat) (fB : Nat → Int) (NB : Nat) (GB : Nat → Int) (NGB : Nat) (C : Nat → Int) (NC h : Nat), freeR (gz X.2.2.2.2.2.1) N0 fA NA GA NGA ∧ freeR (gz X.2.2.2.2.2.2) N1 fB NB GB NGB ∧ ldn fA NA ∧ ldn fB NB ∧ ldn C NC ∧ (∃ a1 b1 : Nat → Int, primR fA NA a1 ∧ primR fB NB b1 ∧ FC 9 a1 NA b1 NB C NC) ∧ h < 4000 ∧ (1 < NC → TV NC h (mvd C NC (cv * 2 ^ (30 - lv)) (2 ^ (30 - lv)))) ∧ ((0 < UV NC h (mvd C NC (cv * 2 ^ (30 - lv)) (2 ^ (30 - lv))) ∧ v = 0) ∨ (UV NC h (mvd C NC (cv * 2 ^ (30 - lv)) (2 ^ (30 - lv))) ≤ 0 ∧ SR NA NB N1 kf (mvd fA NA (cv * 2 ^ (30 - lv)) (2 ^ (30 - lv))) (mvd fB NB (cv * 2 ^ (30 - lv)) (2 ^ (30 - lv))) (mvd (gz X.2.2.2.2.2.2) N1 (cv * 2 ^ (30 - lv)) (2 ^ (30 - lv))) v))) ∧ q = iZ v))) (mAt D Q G (mA Q sz)) (mA Q sz)) 0 0 (mA Q sz) := by
  refine m_met (cc := cX5_signAt) (maxL := 2) (ret := (some .int)) (by decide) rfl rfl (Nat.le_of_ble_eq_true rfl) ?_
  intro p e s m below meth c hsz C hr hlk
  refine w_sub [(0, .ref (Q 0)), (1, .int (iZ ((ix : Int))))] [0, 1] rfl ?_
  refine w_aload_n C dX5_signAt_0 0 rfl ?_
  refine w_iload_n C dX5_signAt_1 1 rfl ?_
  refine m_calli [.int (iZ ((ix : Int)))] hsz C (fun z => cm_isRoot l D Q G fL fS fN fD X 1 mn (ix : Int) hX1 hX2 (Or.inr rfl) (by omega) (by omega) z) (cwV 1 C.1.2.2.2.2 (wC_V kX5_193 nX5_isRoot slX5_isRoot iniX5 cdX5_isRoot) rfl rfl rfl (by decide +kernel) ⟨Nat.le_of_ble_eq_true rfl, Nat.le_of_ble_eq_true rfl⟩) rfl ⟨Nat.zero_le _, Nat.zero_le _⟩ (Nat.le_of_ble_eq_true rfl) dX5_signAt_2 [.int (iZ ((ix : Int))), .ref (Q 0)] rfl (fun r v1 hv1 => ?_)
  obtain ⟨rfl, rfl⟩ := hv1
  refine w_top C (1) (if_pos ⟨rfl, by omega, hix⟩) ?_
  refine w_if_ne C 11 dX5_signAt_5 (by decide) ⟨by omega, by omega⟩ (fun c5 => ?_) (fun c5 => ?_)
  · refine w_aload_n C dX5_signAt_11 0 rfl ?_
    refine w_iconst C dX5_signAt_12 ?_
    refine m_calli [.int (iZ (1))] hsz C (fun z => cm_degreeOf1 l D Q G fL fS fN fD X  z) (cwV 1 C.1.2.2.2.2 (wC_V kX5_153 nX5_degreeOf slX5_degreeOf iniX5 cdX5_degreeOf) rfl rfl rfl (by decide +kernel) ⟨Nat.le_of_ble_eq_true rfl, Nat.le_of_ble_eq_true rfl⟩) rfl ⟨Nat.zero_le _, Nat.zero_le _⟩ (Nat.le_of_ble_eq_true rfl) dX5_signAt_13 [.int (iZ (1)), .ref (Q 0)] rfl (fun r v2 hv2 => ?_)
    obtain ⟨⟨q1, hq1, rfl⟩, rfl⟩ := hv2
    have eq1 : q1 = N1 := topN_u hq1 hT1
    have h9 := hT1.1
    have h90 := hT0.1
    refine w_top C ((N1 : Int) - 1) (by omega) ?_
    refine w_if_ge C 21 dX5_signAt_16 (by decide) ⟨by omega, by omega⟩ (fun c16 => ?_) (fun c16 => ?_)
    · refine w_aload_n C dX5_signAt_21 0 rfl ?_
      refine w_iconst C dX5_signAt_22 ?_
      refine w_iconst C dX5_signAt_23 ?_
      refine m_callv [.int (iZ (1)), .int (iZ (1))] hsz C (fun z => cm_take1 l D Q G fL fS fN fD X Z 1 hZ (by omega) z) (cwV 2 C.1.2.2.2.2 (wC_V kX5_165 nX5_take slX5_take iniX5 cdX5_take) rfl rfl rfl (by decide +kernel) ⟨Nat.le_of_ble_eq_true rfl, Nat.le_of_ble_eq_true rfl⟩) rfl ⟨Nat.zero_le _, Nat.zero_le _⟩ (Nat.le_of_ble_eq_true rfl) dX5_signAt_24 [.int (iZ (1)), .int (iZ (1)), .ref (Q 0)] rfl (fun v3 hv3 => ?_)
      obtain ⟨Y1, j1, ⟨g1L, g1S, g1N, hZ1, rfl⟩, b1, b2, b3, b4, b5⟩ := hv3
      have ej1 : j1 = N1 := topN_u ⟨b1, b2, b3⟩ hT1
      rw [ej1]
      refine w_aload_n C dX5_signAt_27 0 rfl ?_
      refine w_iconst C dX5_signAt_28 ?_
      refine w_iconst C dX5_signAt_29 ?_
      refine m_callv [.int (iZ (0)), .int (iZ (0))] hsz C (fun z => cm_take0 l D Q G g1L g1S g1N (upd fD 1 (iZ ((N1 : Int) - 1))) X Y1 0 hZ1 (by omega) z) (cwV 2 C.1.2.2.2.2 (wC_V kX5_165 nX5_take slX5_take iniX5 cdX5_take) rfl rfl rfl (by decide +kernel) ⟨Nat.le_of_ble_eq_true rfl, Nat.le_of_ble_eq_true rfl⟩) rfl ⟨Nat.zero_le _, Nat.zero_le _⟩ (Nat.le_of_ble_eq_true rfl) dX5_signAt_30 [.int (iZ (0)), .int (iZ (0)), .ref (Q 0)] rfl (fun v4 hv4 => ?_)
      obtain ⟨Y2, j0, ⟨g2L, g2S, g2N, hZ2, rfl⟩, a1, a2, a3, a4, a5⟩ := hv4
      have ej0 : j0 = N0 := topN_u ⟨a1, a2, a3⟩ hT0
      rw [ej0]
      have eA : ∀ i : Nat, i < N0 → Y2 (9 * 0 + i) = gz X.2.2.2.2.2.1 i := fun i hi => a4 i (by omega)
      have eB : ∀ i : Nat, i < N1 → Y2 (9 * 1 + i) = gz X.2.2.2.2.2.2 i := fun i hi => (a5 _ (by omega)).trans (b4 i (by omega))
      obtain ⟨ok1, ok2, ok3⟩ := hOK
      refine w_aload_n C dX5_signAt_33 0 rfl ?_
      refine w_iconst C dX5_signAt_34 ?_
      refine w_iconst C dX5_signAt_35 ?_
      refine m_callv [.int (iZ (5)), .int (iZ (0))] hsz C (fun z => cm_makeFree l D Q G g2L g2S g2N (upd (upd fD 1 (iZ ((N1 : Int) - 1))) 0 (iZ ((N0 : Int) - 1))) X Y2 5 0 N0 hZ2 (Or.inl rfl) (by omega) upd_eq (by omega) (by omega) (fun i hi => by show Y2 (9 * 0 + i) ≠ 0; rw [eA i (by omega)]; exact gz_ldn hT0 i hi) (fun i hi => by rw [eA i hi]; exact gz_abs _ _) (fun x1 x2 h1 h2 => ok1 x1 x2 (primR_left h1 eA) (primR_left h2 (fun i hi => congrArg (· * ((i + 1 : Nat) : Int)) (eA (i + 1) (by omega))))) z) (cwV 2 C.1.2.2.2.2 (wC_V kX5_168 nX5_makeFree slX5_makeFree iniX5 cdX5_makeFree) rfl rfl rfl (by decide +kernel) ⟨Nat.le_of_ble_eq_true rfl, Nat.le_of_ble_eq_true rfl⟩) rfl ⟨Nat.zero_le _, Nat.zero_le _⟩ (Nat.le_of_ble_eq_true rfl) dX5_signAt_36 [.int (iZ (0)), .int (iZ (5)), .ref (Q 0)] rfl (fun v5 hv5 => ?_)
      obtain ⟨Y3, gA, NA0, ⟨g3L, g3S, g3N, hZ3, rfl⟩, A5, A7, AN, AP, Al7, Ao7, Al5, Afr, Afb, Aq, Af⟩ := hv5
      have frA := freeR_congr Afr eA
      have eB3 : ∀ i : Nat, i < N1 → Y3 (9 * 1 + i) = gz X.2.2.2.2.2.2 i := fun i hi => (Af _ (by omega) (by omega) (by omega) (by omega)).trans (eB i hi)
      have hA1 : gA 1 = iZ ((N1 : Int) - 1) := (Aq 1 (by omega) (by omega) (by omega) (by omega) (by omega) (by omega) (by omega)).trans ((upd_ne (by omega)).trans upd_eq)
      refine w_aload_n C dX5_signAt_39 0 rfl ?_
      refine w_bipush C dX5_signAt_40 (by decide) ?_
      refine w_iconst C dX5_signAt_42 ?_
      refine m_callv [.int (iZ (6)), .int (iZ (1))] hsz C (fun z => cm_makeFree l D Q G g3L g3S g3N gA X Y3 6 1 N1 hZ3 (Or.inr rfl) (by omega) hA1 (by omega) (by omega) (fun i hi => by show Y3 (9 * 1 + i) ≠ 0; rw [eB3 i (by omega)]; exact gz_ldn hT1 i hi) (fun i hi => by rw [eB3 i hi]; exact gz_abs _ _) (fun x1 x2 h1 h2 => ok2 x1 x2 (primR_left h1 eB3) (primR_left h2 (fun i hi => congrArg (· * ((i + 1 : Nat) : Int)) (eB3 (i + 1) (by omega))))) z) (cwV 2 C.1.2.2.2.2 (wC_V kX5_168 nX5_makeFree slX5_makeFree iniX5 cdX5_makeFree) rfl rfl rfl (by decide +kernel) ⟨Nat.le_of_ble_eq_true rfl, Nat.le_of_ble_eq_true rfl⟩) rfl ⟨Nat.zero_le _, Nat.zero_le _⟩ (Nat.le_of_ble_eq_true rfl) dX5_signAt_43 [.int (iZ (1)), .int (iZ (6)), .ref (Q 0)] rfl (fun v6 hv6 => ?_)
      obtain ⟨Y4, gB, NB0, ⟨g4L, g4S, g4N, hZ4, rfl⟩, B5, B7, BN, BP, Bl7, Bo7, Bl5, Bfr, Bfb, Bq, Bf⟩ := hv6
      have frB := freeR_congr Bfr eB3
      have e5 : ∀ i : Nat, i < (N0 - NA0 + 1) → Y4 (9 * 5 + i) = Y3 (9 * 5 + i) := fun i hi => Bf _ (by omega) (by omega) (by omega) (by omega)
      have hB5 : gB 5 = iZ ((((N0 - NA0 + 1) : Nat) : Int) - 1) := (Bq 5 (by omega) (by omega) (by omega) (by omega) (by omega) (by omega) (by omega)).trans A5
      have hB1 : gB 1 = iZ ((N1 : Int) - 1) := (Bq 1 (by omega) (by omega) (by omega) (by omega) (by omega) (by omega) (by omega)).trans hA1
      have frA4 : freeR (gz X.2.2.2.2.2.1) N0 (fun i => Y4 (9 * 5 + i)) (N0 - NA0 + 1) (fun i => Y3 (9 * 7 + i)) NA0 := by
        obtain ⟨z1, z2, z3, z4, z5, z6, y1, y2, y3, y4, y5, y6, y7, y8, y9, y10⟩ := frA
        exact ⟨z1, z2, z3, z4, z5, z6, y1, y2, y3, y4, y5, y6, y7, y8, y9, primR_congr y10 (fun _ _ => rfl) (fun i hi => e5 i hi)⟩
      obtain ⟨k1, k2, k3, k4⟩ := ok3 _ _ _ _ _ _ _ _ frA4 frB
      have lA4 : ldn (fun i => Y4 (9 * 5 + i)) (N0 - NA0 + 1) := fun i hi => by show Y4 (9 * 5 + i) ≠ 0; rw [e5 i (by omega)]; exact Al5 i hi
      refine w_aload_n C dX5_signAt_46 0 rfl ?_
      refine w_bipush C dX5_signAt_47 (by decide) ?_
      refine w_iconst C dX5_signAt_49 ?_
      refine m_callv [.int (iZ (13)), .int (iZ (5))] hsz C (fun z => cm_copyRow l D Q G g4L g4S g4N gB X Y4 13 5 (N0 - NA0 + 1) hZ4 (by omega) (by omega) hB5 (by omega) z) (cwV 2 C.1.2.2.2.2 (wC_V kX5_94 nX5_copyRow slX5_copyRow iniX5 cdX5_copyRow) rfl rfl rfl (by decide +kernel) ⟨Nat.le_of_ble_eq_true rfl, Nat.le_of_ble_eq_true rfl⟩) rfl ⟨Nat.zero_le _, Nat.zero_le _⟩ (Nat.le_of_ble_eq_true rfl) dX5_signAt_50 [.int (iZ (5)), .int (iZ (13)), .ref (Q 0)] rfl (fun v7 hv7 => ?_)
      obtain ⟨Y5, ⟨g5L, g5S, g5N, hZ5, rfl⟩, y5a, y5b⟩ := hv7
      refine w_aload_n C dX5_signAt_53 0 rfl ?_
      refine w_bipush C dX5_signAt_54 (by decide) ?_
      refine w_bipush C dX5_signAt_56 (by decide) ?_
      refine m_callv [.int (iZ (14)), .int (iZ (6))] hsz C (fun z => cm_copyRow l D Q G g5L g5S g5N (upd gB 13 (iZ ((((N0 - NA0 + 1) : Nat) : Int) - 1))) X Y5 14 6 (N1 - NB0 + 1) hZ5 (by omega) (by omega) ((upd_ne (by omega)).trans B5) (by omega) z) (cwV 2 C.1.2.2.2.2 (wC_V kX5_94 nX5_copyRow slX5_copyRow iniX5 cdX5_copyRow) rfl rfl rfl (by decide +kernel) ⟨Nat.le_of_ble_eq_true rfl, Nat.le_of_ble_eq_true rfl⟩) rfl ⟨Nat.zero_le _, Nat.zero_le _⟩ (Nat.le_of_ble_eq_true rfl) dX5_signAt_58 [.int (iZ (6)), .int (iZ (14)), .ref (Q 0)] rfl (fun v8 hv8 => ?_)
      obtain ⟨Y6, ⟨g6L, g6S, g6N, hZ6, rfl⟩, y6a, y6b⟩ := hv8
      have e13 : ∀ i : Nat, i < (N0 - NA0 + 1) → Y6 (9 * 13 + i) = Y4 (9 * 5 + i) := fun i hi => (y6b _ (by omega)).trans (y5a i hi)
      have e14 : ∀ i : Nat, i < (N1 - NB0 + 1) → Y6 (9 * 14 + i) = Y4 (9 * 6 + i) := fun i hi => (y6a i hi).trans (y5b _ (by omega))
      refine w_aload_n C dX5_signAt_61 0 rfl ?_
      refine m_callv [] hsz C (fun z => cm_findCommon l D Q G g6L g6S g6N (upd (upd gB 13 (iZ ((((N0 - NA0 + 1) : Nat) : Int) - 1))) 14 (iZ ((((N1 - NB0 + 1) : Nat) : Int) - 1))) X Y6 (N0 - NA0 + 1) (N1 - NB0 + 1) hZ6 ((upd_ne (by omega)).trans upd_eq) upd_eq (by omega) (by omega) (fun i hi => by show Y6 (9 * 13 + i) ≠ 0; rw [e13 i (by omega)]; exact lA4 i hi) (fun i hi => by show Y6 (9 * 14 + i) ≠ 0; rw [e14 i (by omega)]; exact Bl5 i hi) (fun i hi => by show ((Y6 (9 * 13 + i)).natAbs : Int) ≤ _; rw [e13 i hi]; exact k1 i hi) (fun i hi => by show ((Y6 (9 * 14 + i)).natAbs : Int) ≤ _; rw [e14 i hi]; exact k2 i hi) (fun x1 x2 h1 h2 => k3 x1 x2 (primR_left h1 e13) (primR_left h2 e14)) z) (cwV 0 C.1.2.2.2.2 (wC_V kX5_107 nX5_findCommon slX5_findCommon iniX5 cdX5_findCommon) rfl rfl rfl (by decide +kernel) ⟨Nat.le_of_ble_eq_true rfl, Nat.le_of_ble_eq_true rfl⟩) rfl ⟨Nat.zero_le _, Nat.zero_le _⟩ (Nat.le_of_ble_eq_true rfl) dX5_signAt_62 [.ref (Q 0)] rfl (fun v9 hv9 => ?_)
      obtain ⟨Y7, gC, NC, ⟨g7L, g7S, g7N, hZ7, rfl⟩, c7, cN, cl, co, ⟨x1, x2, p1, p2, cfc⟩, cq, cf⟩ := hv9
      obtain ⟨h, hh, hTV, hu, hnx⟩ := k4 _ NC ⟨x1, x2, primR_left p1 e13, primR_left p2 e14, cfc⟩
      have b12 : (2 : Int) ^ 1200 ≤ 2 ^ 12009 := pow_mono (by decide) (by omega)
      have b96 : (2 : Int) ^ 1196 ≤ 2 ^ 12009 := pow_mono (by decide) (by omega)
      have hC5 : gC 5 = iZ ((((N0 - NA0 + 1) : Nat) : Int) - 1) := (cq 5 (by omega) (by omega) (by omega) (by omega)).trans ((upd_ne (by omega)).trans ((upd_ne (by omega)).trans hB5))
      have hC6 : gC 6 = iZ ((((N1 - NB0 + 1) : Nat) : Int) - 1) := (cq 6 (by omega) (by omega) (by omega) (by omega)).trans ((upd_ne (by omega)).trans ((upd_ne (by omega)).trans B5))
      have hC1 : gC 1 = iZ ((N1 : Int) - 1) := (cq 1 (by omega) (by omega) (by omega) (by omega)).trans ((upd_ne (by omega)).trans ((upd_ne (by omega)).trans hB1))
      have f5 : ∀ i : Nat, i < (N0 - NA0 + 1) → Y7 (9 * 5 + i) = Y4 (9 * 5 + i) := fun i hi => (cf _ (by omega) (by omega) (by omega)).trans ((y6b _ (by omega)).trans (y5b _ (by omega)))
      have f6 : ∀ i : Nat, i < (N1 - NB0 + 1) → Y7 (9 * 6 + i) = Y4 (9 * 6 + i) := fun i hi => (cf _ (by omega) (by omega) (by omega)).trans ((y6b _ (by omega)).trans (y5b _ (by omega)))
      have f1 : ∀ i : Nat, i < N1 → Y7 (9 * 1 + i) = gz X.2.2.2.2.2.2 i := fun i hi => (cf _ (by omega) (by omega) (by omega)).trans ((y6b _ (by omega)).trans ((y5b _ (by omega)).trans ((Bf _ (by omega) (by omega) (by omega) (by omega)).trans (eB3 i hi))))
      have fin0 : ∀ v : Int, SR (N0 - NA0 + 1) (N1 - NB0 + 1) N1 kf (mvd (fun i => Y4 (9 * 5 + i)) (N0 - NA0 + 1) (cv * 2 ^ (30 - lv)) (2 ^ (30 - lv))) (mvd (fun i => Y4 (9 * 6 + i)) (N1 - NB0 + 1) (cv * 2 ^ (30 - lv)) (2 ^ (30 - lv))) (mvd (gz X.2.2.2.2.2.2) N1 (cv * 2 ^ (30 - lv)) (2 ^ (30 - lv))) v → UV NC h (mvd (fun i => Y7 (9 * 7 + i)) NC (cv * 2 ^ (30 - lv)) (2 ^ (30 - lv))) ≤ 0 → (∃ (fA : Nat → Int) (NA : Nat) (GA : Nat → Int) (NGA : Nat) (fB : Nat → Int) (NB : Nat) (GB : Nat → Int) (NGB : Nat) (C : Nat → Int) (NC h : Nat), freeR (gz X.2.2.2.2.2.1) N0 fA NA GA NGA ∧ freeR (gz X.2.2.2.2.2.2) N1 fB NB GB NGB ∧ ldn fA NA ∧ ldn fB NB ∧ ldn C NC ∧ (∃ a1 b1 : Nat → Int, primR fA NA a1 ∧ primR fB NB b1 ∧ FC 9 a1 NA b1 NB C NC) ∧ h < 4000 ∧ (1 < NC → TV NC h (mvd C NC (cv * 2 ^ (30 - lv)) (2 ^ (30 - lv)))) ∧ ((0 < UV NC h (mvd C NC (cv * 2 ^ (30 - lv)) (2 ^ (30 - lv))) ∧ v = 0) ∨ (UV NC h (mvd C NC (cv * 2 ^ (30 - lv)) (2 ^ (30 - lv))) ≤ 0 ∧ SR NA NB N1 kf (mvd fA NA (cv * 2 ^ (30 - lv)) (2 ^ (30 - lv))) (mvd fB NB (cv * 2 ^ (30 - lv)) (2 ^ (30 - lv))) (mvd (gz X.2.2.2.2.2.2) N1 (cv * 2 ^ (30 - lv)) (2 ^ (30 - lv))) v))) := fun v g1 g2 => ⟨_, _, _, _, _, _, _, _, _, NC, h, frA4, frB, lA4, Bl5, cl, ⟨x1, x2, primR_left p1 e13, primR_left p2 e14, cfc⟩, hh, hTV, Or.inr ⟨g2, g1⟩⟩
      refine w_aload_n C dX5_signAt_65 0 rfl ?_
      refine w_bipush C dX5_signAt_66 (by decide) ?_
      refine w_bipush C dX5_signAt_68 (by decide) ?_
      refine w_iload_n C dX5_signAt_70 1 rfl ?_
      refine m_callv [.int (iZ (8)), .int (iZ (7)), .int (iZ ((ix : Int)))] hsz C (fun z => cm_moveTo l D Q G g7L g7S g7N gC X Y7 8 7 NC ix lv cv hZ7 (by omega) (by omega) (by omega) c7 (by omega) (by omega) hlev hlv2 hcv hcv2 (fun i hi => Int.le_trans (co i hi) b12) z) (cwV 3 C.1.2.2.2.2 (wC_V kX5_200 nX5_moveTo slX5_moveTo iniX5 cdX5_moveTo) rfl rfl rfl (by decide +kernel) ⟨Nat.le_of_ble_eq_true rfl, Nat.le_of_ble_eq_true rfl⟩) rfl ⟨Nat.zero_le _, Nat.zero_le _⟩ (Nat.le_of_ble_eq_true rfl) dX5_signAt_71 [.int (iZ ((ix : Int))), .int (iZ (7)), .int (iZ (8)), .ref (Q 0)] rfl (fun v10 hv10 => ?_)
      obtain ⟨Y71, ⟨g71L, g71S, g71N, hZ71, rfl⟩, v71a, v71b⟩ := hv10
      refine w_aload_n C dX5_signAt_74 0 rfl ?_
      refine w_bipush C dX5_signAt_75 (by decide) ?_
      refine m_calli [.int (iZ (8))] hsz C (fun z => cm_upTo l D Q G g71L g71S g71N (upd gC 8 (iZ ((NC : Int) - 1))) X Y71 (mvd (fun i => Y7 (9 * 7 + i)) NC (cv * 2 ^ (30 - lv)) (2 ^ (30 - lv))) 8 NC h hZ71 (by omega) upd_eq (by omega) (fun i hi => v71a i hi) hTV hh z) (cwV 1 C.1.2.2.2.2 (wC_V kX5_175 nX5_upTo slX5_upTo iniX5 cdX5_upTo) rfl rfl rfl (by decide +kernel) ⟨Nat.le_of_ble_eq_true rfl, Nat.le_of_ble_eq_true rfl⟩) rfl ⟨Nat.zero_le _, Nat.zero_le _⟩ (Nat.le_of_ble_eq_true rfl) dX5_signAt_77 [.int (iZ (8)), .ref (Q 0)] rfl (fun r v11 hv11 => ?_)
      obtain ⟨rfl, Tc, tcD, fBc, ⟨tcL, tcS, tcN, hZtc, rfl⟩, dc1, dc2⟩ := hv11
      obtain ⟨uvc, huvc⟩ : ∃ z : Int, z = UV NC h (mvd (fun i => Y7 (9 * 7 + i)) NC (cv * 2 ^ (30 - lv)) (2 ^ (30 - lv))) := ⟨_, rfl⟩
      rw [← huvc]
      have huvc0 : 0 ≤ uvc := by rw [huvc]; exact UV_0 _ _ _
      rw [← huvc] at hu hnx fin0
      have w5 : ∀ i : Nat, i < (N0 - NA0 + 1) → Tc (9 * 5 + i) = Y4 (9 * 5 + i) := fun i hi => (dc2 _ (by omega) (by omega)).trans ((v71b _ (by omega) (by omega) (by omega)).trans (f5 i hi))
      have w6 : ∀ i : Nat, i < (N1 - NB0 + 1) → Tc (9 * 6 + i) = Y4 (9 * 6 + i) := fun i hi => (dc2 _ (by omega) (by omega)).trans ((v71b _ (by omega) (by omega) (by omega)).trans (f6 i hi))
      have w1 : ∀ i : Nat, i < N1 → Tc (9 * 1 + i) = gz X.2.2.2.2.2.2 i := fun i hi => (dc2 _ (by omega) (by omega)).trans ((v71b _ (by omega) (by omega) (by omega)).trans (f1 i hi))
      have q5 : tcD 5 = iZ ((((N0 - NA0 + 1) : Nat) : Int) - 1) := (dc1 5 (by omega) (by omega)).trans ((upd_ne (by omega)).trans hC5)
      have q6 : tcD 6 = iZ ((((N1 - NB0 + 1) : Nat) : Int) - 1) := (dc1 6 (by omega) (by omega)).trans ((upd_ne (by omega)).trans hC6)
      have q1 : tcD 1 = iZ ((N1 : Int) - 1) := (dc1 1 (by omega) (by omega)).trans ((upd_ne (by omega)).trans hC1)
      refine w_if_le C 85 dX5_signAt_80 (by decide) ⟨by omega, by omega⟩ (fun c80 => ?_) (fun c80 => ?_)
      · have fin0 := fun v g => fin0 v g (by omega)
        refine w_aload_n C dX5_signAt_85 0 rfl ?_
        refine w_bipush C dX5_signAt_86 (by decide) ?_
        refine w_iconst C dX5_signAt_88 ?_
        refine w_iload_n C dX5_signAt_89 1 rfl ?_
        refine m_callv [.int (iZ (8)), .int (iZ (5)), .int (iZ ((ix : Int)))] hsz C (fun z => cm_moveTo l D Q G tcL tcS tcN tcD (xB X fBc) Tc 8 5 (N0 - NA0 + 1) ix lv cv hZtc (by omega) (by omega) (by omega) q5 (by omega) (by omega) hlev hlv2 hcv hcv2 (fun i hi => by rw [w5 i hi, e5 i hi]; exact Afb i hi) z) (cwV 3 C.1.2.2.2.2 (wC_V kX5_200 nX5_moveTo slX5_moveTo iniX5 cdX5_moveTo) rfl rfl rfl (by decide +kernel) ⟨Nat.le_of_ble_eq_true rfl, Nat.le_of_ble_eq_true rfl⟩) rfl ⟨Nat.zero_le _, Nat.zero_le _⟩ (Nat.le_of_ble_eq_true rfl) dX5_signAt_90 [.int (iZ ((ix : Int))), .int (iZ (5)), .int (iZ (8)), .ref (Q 0)] rfl (fun v12 hv12 => ?_)
        obtain ⟨Y8, ⟨g8L, g8S, g8N, hZ8, rfl⟩, v8a, v8b⟩ := hv12
        refine w_aload_n C dX5_signAt_93 0 rfl ?_
        refine w_bipush C dX5_signAt_94 (by decide) ?_
        refine w_bipush C dX5_signAt_96 (by decide) ?_
        refine w_iload_n C dX5_signAt_98 1 rfl ?_
        refine m_callv [.int (iZ (9)), .int (iZ (6)), .int (iZ ((ix : Int)))] hsz C (fun z => cm_moveTo l D Q G g8L g8S g8N (upd tcD 8 (iZ ((((N0 - NA0 + 1) : Nat) : Int) - 1))) (xB X fBc) Y8 9 6 (N1 - NB0 + 1) ix lv cv hZ8 (by omega) (by omega) (by omega) ((upd_ne (by omega)).trans q6) (by omega) (by omega) hlev hlv2 hcv hcv2 (fun i hi => by rw [v8b _ (by omega) (by omega) (by omega), w6 i hi]; exact Bfb i hi) z) (cwV 3 C.1.2.2.2.2 (wC_V kX5_200 nX5_moveTo slX5_moveTo iniX5 cdX5_moveTo) rfl rfl rfl (by decide +kernel) ⟨Nat.le_of_ble_eq_true rfl, Nat.le_of_ble_eq_true rfl⟩) rfl ⟨Nat.zero_le _, Nat.zero_le _⟩ (Nat.le_of_ble_eq_true rfl) dX5_signAt_99 [.int (iZ ((ix : Int))), .int (iZ (6)), .int (iZ (9)), .ref (Q 0)] rfl (fun v13 hv13 => ?_)
        obtain ⟨Y9, ⟨g9L, g9S, g9N, hZ9, rfl⟩, v9a, v9b⟩ := hv13
        refine w_aload_n C dX5_signAt_102 0 rfl ?_
        refine w_bipush C dX5_signAt_103 (by decide) ?_
        refine w_iconst C dX5_signAt_105 ?_
        refine w_iload_n C dX5_signAt_106 1 rfl ?_
        refine m_callv [.int (iZ (10)), .int (iZ (1)), .int (iZ ((ix : Int)))] hsz C (fun z => cm_moveTo l D Q G g9L g9S g9N (upd (upd tcD 8 (iZ ((((N0 - NA0 + 1) : Nat) : Int) - 1))) 9 (iZ ((((N1 - NB0 + 1) : Nat) : Int) - 1))) (xB X fBc) Y9 10 1 N1 ix lv cv hZ9 (by omega) (by omega) (by omega) ((upd_ne (by omega)).trans ((upd_ne (by omega)).trans q1)) (by omega) (by omega) hlev hlv2 hcv hcv2 (fun i hi => by rw [v9b _ (by omega) (by omega) (by omega), v8b _ (by omega) (by omega) (by omega), w1 i hi]; exact Int.le_trans (gz_abs _ _) b96) z) (cwV 3 C.1.2.2.2.2 (wC_V kX5_200 nX5_moveTo slX5_moveTo iniX5 cdX5_moveTo) rfl rfl rfl (by decide +kernel) ⟨Nat.le_of_ble_eq_true rfl, Nat.le_of_ble_eq_true rfl⟩) rfl ⟨Nat.zero_le _, Nat.zero_le _⟩ (Nat.le_of_ble_eq_true rfl) dX5_signAt_107 [.int (iZ ((ix : Int))), .int (iZ (1)), .int (iZ (10)), .ref (Q 0)] rfl (fun v14 hv14 => ?_)
        obtain ⟨Y10, ⟨g10L, g10S, g10N, hZ10, rfl⟩, v10a, v10b⟩ := hv14
        have hA8 : ∀ i : Nat, i < (N0 - NA0 + 1) → Y10 (9 * 8 + i) = mvd (fun i => Y4 (9 * 5 + i)) (N0 - NA0 + 1) (cv * 2 ^ (30 - lv)) (2 ^ (30 - lv)) i := fun i hi => by rw [v10b _ (by omega) (by omega) (by omega), v9b _ (by omega) (by omega) (by omega), v8a i hi]; exact mvd_congr w5 hi
        have hB9 : ∀ i : Nat, i < (N1 - NB0 + 1) → Y10 (9 * 9 + i) = mvd (fun i => Y4 (9 * 6 + i)) (N1 - NB0 + 1) (cv * 2 ^ (30 - lv)) (2 ^ (30 - lv)) i := fun i hi => by rw [v10b _ (by omega) (by omega) (by omega), v9a i hi]; exact mvd_congr (fun k hk => (v8b _ (by omega) (by omega) (by omega)).trans (w6 k hk)) hi
        have hQ10 : ∀ i : Nat, i < N1 → Y10 (9 * 10 + i) = mvd (gz X.2.2.2.2.2.2) N1 (cv * 2 ^ (30 - lv)) (2 ^ (30 - lv)) i := fun i hi => by rw [v10a i hi]; exact mvd_congr (fun k hk => (v9b _ (by omega) (by omega) (by omega)).trans ((v8b _ (by omega) (by omega) (by omega)).trans (w1 k hk))) hi
        have loop : ∀ (k : Nat) (cA : Nat → Int) (cB : Nat → Int) (cQ : Nat → Int) (Y : Nat → Int) (kL : Nat → Int32) (kS : Nat → Int32) (kN : Nat → Int32) (gD : Nat → Int32) (fB : Nat → Int32), mAll kL kS kN Y → s3 (N0 - NA0 + 1) (N1 - NB0 + 1) N1 cA cB cQ Y gD → SG (N0 - NA0 + 1) (N1 - NB0 + 1) N1 k cA cB cQ → (∀ v : Int, SR (N0 - NA0 + 1) (N1 - NB0 + 1) N1 k cA cB cQ v → SR (N0 - NA0 + 1) (N1 - NB0 + 1) N1 kf (mvd (fun i => Y4 (9 * 5 + i)) (N0 - NA0 + 1) (cv * 2 ^ (30 - lv)) (2 ^ (30 - lv))) (mvd (fun i => Y4 (9 * 6 + i)) (N1 - NB0 + 1) (cv * 2 ^ (30 - lv)) (2 ^ (30 - lv))) (mvd (gz X.2.2.2.2.2.2) N1 (cv * 2 ^ (30 - lv)) (2 ^ (30 - lv))) v) → ZW p l e ({ frames := 7, cells := 0, slots := 0, locals := 176 }) s m ([.ref (Q 0), .int (iZ ((ix : Int)))] : List Value).toArray below meth c D (mA Q sz) 2 0 0 (MQ below (va_Qi (fun (q : Int32) (u : mT) => mScr X u ∧ ((N1 = 0 ∧ q = iZ 0) ∨ (N1 ≠ 0 ∧ ∃ v : Int, (∃ (fA : Nat → Int) (NA : Nat) (GA : Nat → Int) (NGA : Nat) (fB : Nat → Int) (NB : Nat) (GB : Nat → Int) (NGB : Nat) (C : Nat → Int) (NC h : Nat), freeR (gz X.2.2.2.2.2.1) N0 fA NA GA NGA ∧ freeR (gz X.2.2.2.2.2.2) N1 fB NB GB NGB ∧ ldn fA NA ∧ ldn fB NB ∧ ldn C NC ∧ (∃ a1 b1 : Nat → Int, primR fA NA a1 ∧ primR fB NB b1 ∧ FC 9 a1 NA b1 NB C NC) ∧ h < 4000 ∧ (1 < NC → TV NC h (mvd C NC (cv * 2 ^ (30 - lv)) (2 ^ (30 - lv)))) ∧ ((0 < UV NC h (mvd C NC (cv * 2 ^ (30 - lv)) (2 ^ (30 - lv))) ∧ v = 0) ∨ (UV NC h (mvd C NC (cv * 2 ^ (30 - lv)) (2 ^ (30 - lv))) ≤ 0 ∧ SR NA NB N1 kf (mvd fA NA (cv * 2 ^ (30 - lv)) (2 ^ (30 - lv))) (mvd fB NB (cv * 2 ^ (30 - lv)) (2 ^ (30 - lv))) (mvd (gz X.2.2.2.2.2.2) N1 (cv * 2 ^ (30 - lv)) (2 ^ (30 - lv))) v))) ∧ q = iZ v))) (mAt D Q G (mA Q sz)) (mA Q sz)) ([.ref (Q 0), .int (iZ ((ix : Int)))] : List Value).toArray s 0 0 (mA Q sz)) (mU Q G (kL, kS, kN, gD, (xB X fB))) 110 [(0, .ref (Q 0)), (1, .int (iZ ((ix : Int))))] [] := by
          intro k
          induction k with
          | zero =>
            intro cA cB cQ Y kL kS kN gD fB hZ h3 hok K
            exact hok.elim
          | succ k ih =>
            intro cA cB cQ Y kL kS kN gD fB hZ h3 hok K
            obtain ⟨oA, oB, oQ, h, hh, hTV, hu, hgo⟩ := hok
            refine w_aload_n C dX5_signAt_110 0 rfl ?_
            refine w_bipush C dX5_signAt_111 (by decide) ?_
            refine m_calli [.int (iZ (9))] hsz C (fun z => cm_upTo l D Q G kL kS kN gD (xB X fB) Y cB 9 (N1 - NB0 + 1) h hZ (by omega) h3.2.1 (by omega) (fun i hi => h3.2.2.2.2.1 i hi) hTV hh z) (cwV 1 C.1.2.2.2.2 (wC_V kX5_175 nX5_upTo slX5_upTo iniX5 cdX5_upTo) rfl rfl rfl (by decide +kernel) ⟨Nat.le_of_ble_eq_true rfl, Nat.le_of_ble_eq_true rfl⟩) rfl ⟨Nat.zero_le _, Nat.zero_le _⟩ (Nat.le_of_ble_eq_true rfl) dX5_signAt_113 [.int (iZ (9)), .ref (Q 0)] rfl (fun r v115 hv115 => ?_)
            obtain ⟨rfl, Tb, tbD, fBb, ⟨tbL, tbS, tbN, hZtb, rfl⟩, db1, db2⟩ := hv115
            obtain ⟨uvb, huvb⟩ : ∃ z : Int, z = UV (N1 - NB0 + 1) h cB := ⟨_, rfl⟩
            rw [← huvb]
            have huvb0 : 0 ≤ uvb := by rw [huvb]; exact UV_0 _ _ _
            rw [← huvb] at hu hgo
            have s20 := s3_up (by omega) (by omega) (by omega) h3 db1 db2
            refine w_if_le C 167 dX5_signAt_116 (by decide) ⟨by omega, by omega⟩ (fun c116 => ?_) (fun c116 => ?_)
            · obtain ⟨MQ, hMQa, hMQb, hMQc⟩ := oQ
              refine w_aload_n C dX5_signAt_167 0 rfl ?_
              refine w_bipush C dX5_signAt_168 (by decide) ?_
              refine m_calli [.int (iZ (10))] hsz C (fun z => cm_signAtOne l D Q G tbL tbS tbN tbD (xB X fBb) Tb 10 N1 MQ hZtb (by omega) s20.2.2.1 (by omega) hMQa (fun i hi => by rw [s20.2.2.2.2.2 i hi]; exact hMQb i hi) (by have := p639; omega) z) (cwV 1 C.1.2.2.2.2 (wC_V kX5_126 nX5_signAtOne slX5_signAtOne iniX5 cdX5_signAtOne) rfl rfl rfl (by decide +kernel) ⟨Nat.le_of_ble_eq_true rfl, Nat.le_of_ble_eq_true rfl⟩) rfl ⟨Nat.zero_le _, Nat.zero_le _⟩ (Nat.le_of_ble_eq_true rfl) dX5_signAt_170 [.int (iZ (10)), .ref (Q 0)] rfl (fun r v116 hv116 => ?_)
              obtain ⟨rfl, Ye, ⟨eL, eS, eN, hZe, rfl⟩, ye⟩ := hv116
              exact m_iret hsz C hr hlk (⟨⟨Ye, _, _, ⟨_, _, _, hZe, rfl⟩⟩, Or.inr ⟨by omega, _, fin0 _ (K _ ⟨h, hh, hTV, Or.inl ⟨by rw [← huvb]; omega, rfl⟩⟩), by rw [psum_congr (c := fun k => Tb (9 * 10 + k)) (e := cQ) (fun i hi => s20.2.2.2.2.2 i hi)]⟩⟩) dX5_signAt_173
            · obtain ⟨h2, hh2, hTV2, hu2, hgo1, hgo2⟩ := hgo (by omega)
              refine w_aload_n C dX5_signAt_119 0 rfl ?_
              refine w_bipush C dX5_signAt_120 (by decide) ?_
              refine m_callv [.int (iZ (8))] hsz C (fun z => cm_halve l D Q G tbL tbS tbN tbD (xB X fBb) Tb 8 (N0 - NA0 + 1) 638 hZtb (by omega) s20.1 (by omega) (fun i hi => by rw [s20.2.2.2.1 i hi]; exact okB_638 oA i hi) (by omega) z) (cwV 1 C.1.2.2.2.2 (wC_V kX5_120 nX5_halve slX5_halve iniX5 cdX5_halve) rfl rfl rfl (by decide +kernel) ⟨Nat.le_of_ble_eq_true rfl, Nat.le_of_ble_eq_true rfl⟩) rfl ⟨Nat.zero_le _, Nat.zero_le _⟩ (Nat.le_of_ble_eq_true rfl) dX5_signAt_122 [.int (iZ (8)), .ref (Q 0)] rfl (fun v117 hv117 => ?_)
              obtain ⟨Y21, ⟨g21L, g21S, g21N, hZ21, rfl⟩, y21a, y21b⟩ := hv117
              have s21 := s3_8 (cA' := hlv cA (N0 - NA0 + 1)) (by omega) (by omega) (by omega) s20 (fun i hi => by rw [y21a i hi, s20.2.2.2.1 i hi]; rfl) y21b
              refine w_aload_n C dX5_signAt_125 0 rfl ?_
              refine w_bipush C dX5_signAt_126 (by decide) ?_
              refine m_callv [.int (iZ (9))] hsz C (fun z => cm_halve l D Q G g21L g21S g21N tbD (xB X fBb) Y21 9 (N1 - NB0 + 1) 638 hZ21 (by omega) s21.2.1 (by omega) (fun i hi => by rw [s21.2.2.2.2.1 i hi]; exact okB_638 oB i hi) (by omega) z) (cwV 1 C.1.2.2.2.2 (wC_V kX5_120 nX5_halve slX5_halve iniX5 cdX5_halve) rfl rfl rfl (by decide +kernel) ⟨Nat.le_of_ble_eq_true rfl, Nat.le_of_ble_eq_true rfl⟩) rfl ⟨Nat.zero_le _, Nat.zero_le _⟩ (Nat.le_of_ble_eq_true rfl) dX5_signAt_128 [.int (iZ (9)), .ref (Q 0)] rfl (fun v118 hv118 => ?_)
              obtain ⟨Y22, ⟨g22L, g22S, g22N, hZ22, rfl⟩, y22a, y22b⟩ := hv118
              have s22 := s3_9 (cB' := hlv cB (N1 - NB0 + 1)) (by omega) (by omega) (by omega) s21 (fun i hi => by rw [y22a i hi, s21.2.2.2.2.1 i hi]; rfl) y22b
              refine w_aload_n C dX5_signAt_131 0 rfl ?_
              refine w_bipush C dX5_signAt_132 (by decide) ?_
              refine m_callv [.int (iZ (10))] hsz C (fun z => cm_halve l D Q G g22L g22S g22N tbD (xB X fBb) Y22 10 N1 638 hZ22 (by omega) s22.2.2.1 (by omega) (fun i hi => by rw [s22.2.2.2.2.2 i hi]; exact okB_638 oQ i hi) (by omega) z) (cwV 1 C.1.2.2.2.2 (wC_V kX5_120 nX5_halve slX5_halve iniX5 cdX5_halve) rfl rfl rfl (by decide +kernel) ⟨Nat.le_of_ble_eq_true rfl, Nat.le_of_ble_eq_true rfl⟩) rfl ⟨Nat.zero_le _, Nat.zero_le _⟩ (Nat.le_of_ble_eq_true rfl) dX5_signAt_134 [.int (iZ (10)), .ref (Q 0)] rfl (fun v119 hv119 => ?_)
              obtain ⟨Y23, ⟨g23L, g23S, g23N, hZ23, rfl⟩, y23a, y23b⟩ := hv119
              have s23 := s3_10 (cQ' := hlv cQ N1) (by omega) (by omega) (by omega) s22 (fun i hi => by rw [y23a i hi, s22.2.2.2.2.2 i hi]; rfl) y23b
              refine w_aload_n C dX5_signAt_137 0 rfl ?_
              refine w_bipush C dX5_signAt_138 (by decide) ?_
              refine m_calli [.int (iZ (8))] hsz C (fun z => cm_upTo l D Q G g23L g23S g23N tbD (xB X fBb) Y23 (hlv cA (N0 - NA0 + 1)) 8 (N0 - NA0 + 1) h2 hZ23 (by omega) s23.1 (by omega) (fun i hi => s23.2.2.2.1 i hi) hTV2 hh2 z) (cwV 1 C.1.2.2.2.2 (wC_V kX5_175 nX5_upTo slX5_upTo iniX5 cdX5_upTo) rfl rfl rfl (by decide +kernel) ⟨Nat.le_of_ble_eq_true rfl, Nat.le_of_ble_eq_true rfl⟩) rfl ⟨Nat.zero_le _, Nat.zero_le _⟩ (Nat.le_of_ble_eq_true rfl) dX5_signAt_140 [.int (iZ (8)), .ref (Q 0)] rfl (fun r v120 hv120 => ?_)
              obtain ⟨rfl, Ta, taD, fBa, ⟨taL, taS, taN, hZta, rfl⟩, da1, da2⟩ := hv120
              obtain ⟨uva, huva⟩ : ∃ z : Int, z = UV (N0 - NA0 + 1) h2 (hlv cA (N0 - NA0 + 1)) := ⟨_, rfl⟩
              rw [← huva]
              have huva0 : 0 ≤ uva := by rw [huva]; exact UV_0 _ _ _
              rw [← huva] at hu2 hgo1 hgo2
              have s24 := s3_up (by omega) (by omega) (by omega) s23 da1 da2
              refine w_if_ne C 110 dX5_signAt_143 (by decide) ⟨by omega, by omega⟩ (fun c143 => ?_) (fun c143 => ?_)
              · exact ih _ _ _ Ta _ _ _ _ _ hZta s24 (hgo1 (by omega)) (fun v hv => K v ⟨h, hh, hTV, Or.inr ⟨by rw [← huvb]; omega, h2, hh2, hTV2, Or.inl ⟨by rw [← huva]; omega, hv⟩⟩⟩)
              · obtain ⟨pA, pB, pQ, hgo3⟩ := hgo2 (by omega)
                refine w_aload_n C dX5_signAt_146 0 rfl ?_
                refine w_bipush C dX5_signAt_147 (by decide) ?_
                obtain ⟨M25, hM25a, hM25b, hM25c⟩ := pA
                refine m_callv [.int (iZ (8))] hsz C (fun z => cm_shiftRow l D Q G taL taS taN taD (xB X fBa) Ta 8 (N0 - NA0 + 1) M25 hZta (by omega) s24.1 (by omega) hM25a (fun i hi => by rw [s24.2.2.2.1 i hi]; exact hM25b i hi) (by have := p639; omega) z) (cwV 1 C.1.2.2.2.2 (wC_V kX5_113 nX5_shiftRow slX5_shiftRow iniX5 cdX5_shiftRow) rfl rfl rfl (by decide +kernel) ⟨Nat.le_of_ble_eq_true rfl, Nat.le_of_ble_eq_true rfl⟩) rfl ⟨Nat.zero_le _, Nat.zero_le _⟩ (Nat.le_of_ble_eq_true rfl) dX5_signAt_149 [.int (iZ (8)), .ref (Q 0)] rfl (fun v121 hv121 => ?_)
                obtain ⟨Y25, ⟨g25L, g25S, g25N, hZ25, rfl⟩, y25a, y25b⟩ := hv121
                have s25 := s3_8 (cA' := sh1 (hlv cA (N0 - NA0 + 1)) (N0 - NA0 + 1)) (by omega) (by omega) (by omega) s24 (fun i hi => (y25a i hi).trans (shf_congr (fun j hj => s24.2.2.2.1 j hj) _ i hi)) y25b
                refine w_aload_n C dX5_signAt_152 0 rfl ?_
                refine w_bipush C dX5_signAt_153 (by decide) ?_
                obtain ⟨M26, hM26a, hM26b, hM26c⟩ := pB
                refine m_callv [.int (iZ (9))] hsz C (fun z => cm_shiftRow l D Q G g25L g25S g25N taD (xB X fBa) Y25 9 (N1 - NB0 + 1) M26 hZ25 (by omega) s25.2.1 (by omega) hM26a (fun i hi => by rw [s25.2.2.2.2.1 i hi]; exact hM26b i hi) (by have := p639; omega) z) (cwV 1 C.1.2.2.2.2 (wC_V kX5_113 nX5_shiftRow slX5_shiftRow iniX5 cdX5_shiftRow) rfl rfl rfl (by decide +kernel) ⟨Nat.le_of_ble_eq_true rfl, Nat.le_of_ble_eq_true rfl⟩) rfl ⟨Nat.zero_le _, Nat.zero_le _⟩ (Nat.le_of_ble_eq_true rfl) dX5_signAt_155 [.int (iZ (9)), .ref (Q 0)] rfl (fun v122 hv122 => ?_)
                obtain ⟨Y26, ⟨g26L, g26S, g26N, hZ26, rfl⟩, y26a, y26b⟩ := hv122
                have s26 := s3_9 (cB' := sh1 (hlv cB (N1 - NB0 + 1)) (N1 - NB0 + 1)) (by omega) (by omega) (by omega) s25 (fun i hi => (y26a i hi).trans (shf_congr (fun j hj => s25.2.2.2.2.1 j hj) _ i hi)) y26b
                refine w_aload_n C dX5_signAt_158 0 rfl ?_
                refine w_bipush C dX5_signAt_159 (by decide) ?_
                obtain ⟨M27, hM27a, hM27b, hM27c⟩ := pQ
                refine m_callv [.int (iZ (10))] hsz C (fun z => cm_shiftRow l D Q G g26L g26S g26N taD (xB X fBa) Y26 10 N1 M27 hZ26 (by omega) s26.2.2.1 (by omega) hM27a (fun i hi => by rw [s26.2.2.2.2.2 i hi]; exact hM27b i hi) (by have := p639; omega) z) (cwV 1 C.1.2.2.2.2 (wC_V kX5_113 nX5_shiftRow slX5_shiftRow iniX5 cdX5_shiftRow) rfl rfl rfl (by decide +kernel) ⟨Nat.le_of_ble_eq_true rfl, Nat.le_of_ble_eq_true rfl⟩) rfl ⟨Nat.zero_le _, Nat.zero_le _⟩ (Nat.le_of_ble_eq_true rfl) dX5_signAt_161 [.int (iZ (10)), .ref (Q 0)] rfl (fun v123 hv123 => ?_)
                obtain ⟨Y27, ⟨g27L, g27S, g27N, hZ27, rfl⟩, y27a, y27b⟩ := hv123
                have s27 := s3_10 (cQ' := sh1 (hlv cQ N1) N1) (by omega) (by omega) (by omega) s26 (fun i hi => (y27a i hi).trans (shf_congr (fun j hj => s26.2.2.2.2.2 j hj) _ i hi)) y27b
                refine w_goto C 110 dX5_signAt_164 (by decide) ?_
                exact ih _ _ _ Y27 _ _ _ _ _ hZ27 s27 hgo3 (fun v hv => K v ⟨h, hh, hTV, Or.inr ⟨by rw [← huvb]; omega, h2, hh2, hTV2, Or.inr ⟨by rw [← huva]; omega, hv⟩⟩⟩)
        exact loop kf _ _ _ Y10 _ _ _ _ _ hZ10 ⟨(upd_ne (by omega)).trans ((upd_ne (by omega)).trans upd_eq), (upd_ne (by omega)).trans upd_eq, upd_eq, hA8, hB9, hQ10⟩ (hnx (by omega)) (fun v hv => hv)
      · refine w_iconst C dX5_signAt_83 ?_
        exact m_iret hsz C hr hlk (⟨⟨Tc, _, _, ⟨_, _, _, hZtc, rfl⟩⟩, Or.inr ⟨by omega, 0, ⟨_, _, _, _, _, _, _, _, _, NC, h, frA4, frB, lA4, Bl5, cl, ⟨x1, x2, primR_left p1 e13, primR_left p2 e14, cfc⟩, hh, hTV, Or.inl ⟨by rw [← huvc]; omega, rfl⟩⟩, rfl⟩⟩) dX5_signAt_84
    · refine w_iconst C dX5_signAt_19 ?_
      exact m_iret hsz C hr hlk (⟨mScr_of ⟨_, _, _, hZ, rfl⟩, Or.inl ⟨by omega, rfl⟩⟩) dX5_signAt_20
  · exact absurd c5 (by omega)
