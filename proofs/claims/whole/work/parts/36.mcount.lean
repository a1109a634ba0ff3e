theorem topN_u {g : Nat → Int32} {n k : Nat} (h1 : topN g n) (h2 : topN g k) : n = k := by
  obtain ⟨a1, a2, a3⟩ := h1
  obtain ⟨b1, b2, b3⟩ := h2
  rcases Nat.lt_trichotomy n k with q | q | q
  · exact absurd (a2 (k - 1) (by omega) (by omega)) (b3 (k - 1) (by omega))
  · exact q
  · exact absurd (b2 (n - 1) (by omega) (by omega)) (a3 (n - 1) (by omega))
/-- the coefficients of a given row as whole numbers -/
def gz (g : Nat → Int32) : Nat → Int := fun k => (g k).toInt
theorem gz_ldn {g : Nat → Int32} {n : Nat} (h : topN g n) : ldn (gz g) n := fun i hi => h.2.2 i hi
theorem gz_abs (g : Nat → Int32) (k : Nat) : ((gz g k).natAbs : Int) ≤ 2 ^ 1196 := by
  have h := i32r (g k)
  unfold gz
  exact Int.le_trans (show ((g k).toInt.natAbs : Int) ≤ 2147483648 by omega) (Int.le_trans (show (2147483648 : Int) ≤ 2 ^ 31 by decide) (pow_mono (by decide) (by omega)))
theorem gz_ok (g : Nat → Int32) (n : Nat) : okP (gz g) n := fun i _ => Int.le_trans (gz_abs g i) (pow_mono (by decide) (by omega))
/-- numbers, degrees and flags as they may be -/
def mScr (X : mX) (u : mT) : Prop := ∃ (Y : Nat → Int) (gD fB : Nat → Int32), mPost gD (xB X fB) Y u
theorem mScr_of {X : mX} {u : mT} {Y : Nat → Int} {gD : Nat → Int32} (h : mPost gD X Y u) : mScr X u := ⟨Y, gD, X.2.2.2.2.1, h⟩
/-- the row moved: from n on, in lengths of len, units of 2 to the power -30 -/
def mvd (f : Nat → Int) (N : Nat) (n len : Int) : Nat → Int := fun i => sha (fun k => f k * 2 ^ (30 * (N - 1 - k))) N n (N - 1) i * len ^ i
/-- the count of the roots of a above n and not above n + len ends, and what it is -/
def cntOK (a : Nat → Int) (N : Nat) (n len : Int) : Prop := (∀ a1 b1 : Nat → Int, primR a N a1 → primR (der a) (N - 1) b1 → FZ 9 a1 N b1 (N - 1)) ∧ ∀ (f : Nat → Int) (Nf : Nat) (G : Nat → Int) (NG : Nat), freeR a N f Nf G NG → ∃ h : Nat, h < 4000 ∧ (1 < Nf → TV Nf h (mvd f Nf n len))
def cntR (a : Nat → Int) (N : Nat) (n len v : Int) : Prop := ∃ (f : Nat → Int) (Nf : Nat) (G : Nat → Int) (NG h : Nat), freeR a N f Nf G NG ∧ ldn f Nf ∧ h < 4000 ∧ (1 < Nf → TV Nf h (mvd f Nf n len)) ∧ v = UV Nf h (mvd f Nf n len)
theorem bnd4 {A : Int} (h0 : 1 ≤ A) (hA : A ≤ 2 ^ 61) : (1 + A) ^ 90 * (2 ^ 240 * 2 ^ 12009) < 2 ^ (31 * 630) := by
  have h1 : (1 + A) ^ 90 ≤ ((2 : Int) ^ 62) ^ 90 := int_pow_le (by omega) (Int.le_trans (show 1 + A ≤ 2 ^ 61 + 2 ^ 61 by omega) (by decide))
  have h2 := Int.mul_le_mul_of_nonneg_right h1 (show (0 : Int) ≤ 2 ^ 240 * 2 ^ 12009 from Int.mul_nonneg (Int.le_of_lt (i2pos _)) (Int.le_of_lt (i2pos _)))
  rw [i2pow, ← Int.pow_add, ← Int.pow_add] at h2
  rw [← Int.pow_add]
  exact Int.lt_of_le_of_lt h2 (i2lt (by omega))
theorem freeR_congr {a a' f G : Nat → Int} {N Nf NG : Nat} (h : freeR a N f Nf G NG) (e : ∀ i : Nat, i < N → a i = a' i) : freeR a' N f Nf G NG := by
  obtain ⟨a1, b1, q, y, j, k, h1, h2, h3, h4, h5, h6, h7, h8, h9, h10⟩ := h
  refine ⟨a1, b1, q, y, j, k, primR_left h1 e, primR_left h2 (fun i hi => by unfold der; rw [e (i + 1) (by omega)]), h3, h4, h5, h6, h7, fun t => ?_, h9, h10⟩
  rw [← ev_congr (c := a) (e := a') (fun i hi => e i hi)]; exact h8 t
set_option maxHeartbeats 4000000 in
set_option maxRecDepth 100000 in
/-- findCommonOfBoth -/
theorem cm_findCommonOfBoth (l : Launch) (D : va_G) (Q : Nat → Nat) (G : Nat → ClassId) (fL fS fN fD : Nat → Int32) (X : mX) (Z : Nat → Int) (N0 N1 : Nat) (hZ : mAll fL fS fN Z) (hT0 : topN X.2.2.2.2.2.1 N0) (hT1 : topN X.2.2.2.2.2.2 N1) (hF : ∀ a1 b1 : Nat → Int, primR (gz X.2.2.2.2.2.1) N0 a1 → primR (gz X.2.2.2.2.2.2) N1 b1 → FZ 9 a1 N0 b1 N1) (sz : Nat) : Met l yX5_findCommonOfBoth (wC yX5_findCommonOfBoth cX5_findCommonOfBoth 1 none) ({ frames := 6, cells := 0, slots := 0, locals := 145 }) (va_Pc [.ref (Q 0)] (mPre D Q G (fL, fS, fN, fD, X) sz)) (va_Qv (fun u : mT => ∃ (Y : Nat → Int) (gD : Nat → Int32) (NG : Nat), mPost gD X Y u ∧ gD 7 = iZ ((NG : Int) - 1) ∧ NG ≤ 9 ∧ ldn (fun i => Y (9 * 7 + i)) NG ∧ okP (fun i => Y (9 * 7 + i)) NG ∧ (∃ a1 b1 : Nat → Int, primR (gz X.2.2.2.2.2.1) N0 a1 ∧ primR (gz X.2.2.2.2.2.2) N1 b1 ∧ FC 9 a1 N0 b1 N1 (fun i => Y (9 * 7 + i)) NG)) (mAt D Q G (mA Q sz)) (mA Q sz)) 0 0 (mA Q sz) := by
  refine m_met (cc := cX5_findCommonOfBoth) (maxL := 1) (ret := none) (by decide) rfl rfl (Nat.le_of_ble_eq_true rfl) ?_
  intro p e s m below meth c hsz C hr hlk
  refine w_sub [(0, .ref (Q 0))] [0] rfl ?_
  refine w_aload_n C dX5_findCommonOfBoth_0 0 rfl ?_
  refine w_bipush C dX5_findCommonOfBoth_1 (by decide) ?_
  refine w_iconst C dX5_findCommonOfBoth_3 ?_
  refine m_callv [.int (iZ (13)), .int (iZ (0))] hsz C (fun z => cm_take0 l D Q G fL fS fN fD X Z 13 hZ (by omega) z) (cwV 2 C.1.2.2.2.2 (wC_V kX5_165 nX5_take slX5_take iniX5 cdX5_take) rfl rfl rfl (by decide +kernel) ⟨Nat.le_of_ble_eq_true rfl, Nat.le_of_ble_eq_true rfl⟩) rfl ⟨Nat.zero_le _, Nat.zero_le _⟩ (Nat.le_of_ble_eq_true rfl) dX5_findCommonOfBoth_4 [.int (iZ (0)), .int (iZ (13)), .ref (Q 0)] rfl (fun v1 hv1 => ?_)
  obtain ⟨Y1, j0, ⟨g1L, g1S, g1N, hZ1, rfl⟩, a1, a2, a3, a4, a5⟩ := hv1
  obtain rfl := topN_u ⟨a1, a2, a3⟩ hT0
  refine w_aload_n C dX5_findCommonOfBoth_7 0 rfl ?_
  refine w_bipush C dX5_findCommonOfBoth_8 (by decide) ?_
  refine w_iconst C dX5_findCommonOfBoth_10 ?_
  refine m_callv [.int (iZ (14)), .int (iZ (1))] hsz C (fun z => cm_take1 l D Q G g1L g1S g1N (upd fD 13 (iZ ((j0 : Int) - 1))) X Y1 14 hZ1 (by omega) z) (cwV 2 C.1.2.2.2.2 (wC_V kX5_165 nX5_take slX5_take iniX5 cdX5_take) rfl rfl rfl (by decide +kernel) ⟨Nat.le_of_ble_eq_true rfl, Nat.le_of_ble_eq_true rfl⟩) rfl ⟨Nat.zero_le _, Nat.zero_le _⟩ (Nat.le_of_ble_eq_true rfl) dX5_findCommonOfBoth_11 [.int (iZ (1)), .int (iZ (14)), .ref (Q 0)] rfl (fun v2 hv2 => ?_)
  obtain ⟨Y2, j1, ⟨g2L, g2S, g2N, hZ2, rfl⟩, b1, b2, b3, b4, b5⟩ := hv2
  obtain rfl := topN_u ⟨b1, b2, b3⟩ hT1
  have e13 : ∀ i : Nat, i < j0 → Y2 (9 * 13 + i) = gz X.2.2.2.2.2.1 i := fun i hi => (b5 _ (by omega)).trans (a4 i (by omega))
  have e14 : ∀ i : Nat, i < j1 → Y2 (9 * 14 + i) = gz X.2.2.2.2.2.2 i := fun i hi => b4 i (by omega)
  refine w_aload_n C dX5_findCommonOfBoth_14 0 rfl ?_
  refine m_callv [] hsz C (fun z => cm_findCommon l D Q G g2L g2S g2N (upd (upd fD 13 (iZ ((j0 : Int) - 1))) 14 (iZ ((j1 : Int) - 1))) X Y2 j0 j1 hZ2 ((upd_ne (by omega)).trans upd_eq) upd_eq a1 b1 (fun i hi => by show Y2 (9 * 13 + i) ≠ 0; rw [e13 i (by omega)]; exact gz_ldn hT0 i hi) (fun i hi => by show Y2 (9 * 14 + i) ≠ 0; rw [e14 i (by omega)]; exact gz_ldn hT1 i hi) (fun i hi => by show ((Y2 (9 * 13 + i)).natAbs : Int) ≤ _; rw [e13 i hi]; exact gz_ok _ _ i hi) (fun i hi => by show ((Y2 (9 * 14 + i)).natAbs : Int) ≤ _; rw [e14 i hi]; exact gz_ok _ _ i hi) (fun c1 c2 h1 h2 => hF c1 c2 (primR_left h1 e13) (primR_left h2 e14)) z) (cwV 0 C.1.2.2.2.2 (wC_V kX5_107 nX5_findCommon slX5_findCommon iniX5 cdX5_findCommon) rfl rfl rfl (by decide +kernel) ⟨Nat.le_of_ble_eq_true rfl, Nat.le_of_ble_eq_true rfl⟩) rfl ⟨Nat.zero_le _, Nat.zero_le _⟩ (Nat.le_of_ble_eq_true rfl) dX5_findCommonOfBoth_15 [.ref (Q 0)] rfl (fun v3 hv3 => ?_)
  obtain ⟨Y3, gD, NG, ⟨g3L, g3S, g3N, hZ3, rfl⟩, c7, cN, cl, co, ⟨x1, x2, p1, p2, cfc⟩, cq, cf⟩ := hv3
  exact m_vret hsz C hr hlk (⟨Y3, gD, NG, ⟨_, _, _, hZ3, rfl⟩, c7, cN, cl, co, x1, x2, primR_left p1 e13, primR_left p2 e14, cfc⟩) dX5_findCommonOfBoth_18
set_option maxHeartbeats 4000000 in
set_option maxRecDepth 100000 in
/-- divisor -/
theorem cm_divisor (l : Launch) (D : va_G) (Q : Nat → Nat) (G : Nat → ClassId) (fL fS fN fD : Nat → Int32) (X : mX) (Z : Nat → Int) (N0 N1 : Nat) (hZ : mAll fL fS fN Z) (hT0 : topN X.2.2.2.2.2.1 N0) (hT1 : topN X.2.2.2.2.2.2 N1) (hF : ∀ a1 b1 : Nat → Int, primR (gz X.2.2.2.2.2.1) N0 a1 → primR (gz X.2.2.2.2.2.2) N1 b1 → FZ 9 a1 N0 b1 N1) (sz : Nat) : Met l yX5_divisor (wC yX5_divisor cX5_divisor 1 (some .int)) ({ frames := 7, cells := 0, slots := 0, locals := 165 }) (va_Pc [.ref (Q 0)] (mPre D Q G (fL, fS, fN, fD, X) sz)) (va_Qi (fun (q : Int32) (u : mT) => mScr X u ∧ ((N0 = 0 ∧ N1 = 0 ∧ q = iZ (-3)) ∨ (¬ (N0 = 0 ∧ N1 = 0) ∧ ∃ (G : Nat → Int) (NG : Nat), ldn G NG ∧ (∃ a1 b1 : Nat → Int, primR (gz X.2.2.2.2.2.1) N0 a1 ∧ primR (gz X.2.2.2.2.2.2) N1 b1 ∧ FC 9 a1 N0 b1 N1 G NG) ∧ q = iZ ((NG : Int) - 1)))) (mAt D Q G (mA Q sz)) (mA Q sz)) 0 0 (mA Q sz) := by
  refine m_met (cc := cX5_divisor) (maxL := 1) (ret := (some .int)) (by decide) rfl rfl (Nat.le_of_ble_eq_true rfl) ?_
  intro p e s m below meth c hsz C hr hlk
  refine w_sub [(0, .ref (Q 0))] [0] rfl ?_
  refine w_aload_n C dX5_divisor_0 0 rfl ?_
  refine w_iconst C dX5_divisor_1 ?_
  refine m_calli [.int (iZ (0))] hsz C (fun z => cm_degreeOf0 l D Q G fL fS fN fD X  z) (cwV 1 C.1.2.2.2.2 (wC_V kX5_153 nX5_degreeOf slX5_degreeOf iniX5 cdX5_degreeOf) rfl rfl rfl (by decide +kernel) ⟨Nat.le_of_ble_eq_true rfl, Nat.le_of_ble_eq_true rfl⟩) rfl ⟨Nat.zero_le _, Nat.zero_le _⟩ (Nat.le_of_ble_eq_true rfl) dX5_divisor_2 [.int (iZ (0)), .ref (Q 0)] rfl (fun r v1 hv1 => ?_)
  obtain ⟨⟨q0, hq0, rfl⟩, rfl⟩ := hv1
  have eq0 : q0 = N0 := topN_u hq0 hT0
  have h90 := hq0.1
  rw [eq0]
  refine w_if_ge C 19 dX5_divisor_5 (by decide) (by have := hT0.1; omega) (fun c5 => ?_) (fun c5 => ?_)
  · refine w_aload_n C dX5_divisor_19 0 rfl ?_
    refine m_callv [] hsz C (fun z => cm_findCommonOfBoth l D Q G fL fS fN fD X Z N0 N1 hZ hT0 hT1 hF z) (cwV 0 C.1.2.2.2.2 (wC_V kX5_203 nX5_findCommonOfBoth slX5_findCommonOfBoth iniX5 cdX5_findCommonOfBoth) rfl rfl rfl (by decide +kernel) ⟨Nat.le_of_ble_eq_true rfl, Nat.le_of_ble_eq_true rfl⟩) rfl ⟨Nat.zero_le _, Nat.zero_le _⟩ (Nat.le_of_ble_eq_true rfl) dX5_divisor_20 [.ref (Q 0)] rfl (fun v2 hv2 => ?_)
    obtain ⟨Y3, gD, NG, ⟨g3L, g3S, g3N, hZ3, rfl⟩, c7, cN, cl, co, cc1⟩ := hv2
    refine w_aload_n C dX5_divisor_23 0 rfl ?_
    refine w_get (ci := 5) (ref := "RootIsolatorModel") (T := TX5) (Cn := RX5) (N := 10) C (fun w h => wC_in (inX5 w h)) 0 rfl rfl 4 (by decide) (wC_in fX5_degrees) rfl rfl dX5_divisor_24 ?_
    refine w_bipush C dX5_divisor_27 (by decide) ?_
    refine w_iald C 4 0 rfl rfl (7) ((NG : Int) - 1) ⟨by omega, by omega, by omega⟩ (c7) dX5_divisor_29 ?_
    exact m_iret hsz C hr hlk (⟨mScr_of ⟨_, _, _, hZ3, rfl⟩, Or.inr ⟨by omega, _, NG, cl, cc1, rfl⟩⟩) dX5_divisor_30
  · refine w_aload_n C dX5_divisor_8 0 rfl ?_
    refine w_iconst C dX5_divisor_9 ?_
    refine m_calli [.int (iZ (1))] hsz C (fun z => cm_degreeOf1 l D Q G fL fS fN fD X  z) (cwV 1 C.1.2.2.2.2 (wC_V kX5_153 nX5_degreeOf slX5_degreeOf iniX5 cdX5_degreeOf) rfl rfl rfl (by decide +kernel) ⟨Nat.le_of_ble_eq_true rfl, Nat.le_of_ble_eq_true rfl⟩) rfl ⟨Nat.zero_le _, Nat.zero_le _⟩ (Nat.le_of_ble_eq_true rfl) dX5_divisor_10 [.int (iZ (1)), .ref (Q 0)] rfl (fun r v3 hv3 => ?_)
    obtain ⟨⟨q1, hq1, rfl⟩, rfl⟩ := hv3
    have eq1 : q1 = N1 := topN_u hq1 hT1
    have h91 := hq1.1
    rw [eq1]
    refine w_if_ge C 19 dX5_divisor_13 (by decide) (by have := hT1.1; omega) (fun c13 => ?_) (fun c13 => ?_)
    · refine w_aload_n C dX5_divisor_19 0 rfl ?_
      refine m_callv [] hsz C (fun z => cm_findCommonOfBoth l D Q G fL fS fN fD X Z N0 N1 hZ hT0 hT1 hF z) (cwV 0 C.1.2.2.2.2 (wC_V kX5_203 nX5_findCommonOfBoth slX5_findCommonOfBoth iniX5 cdX5_findCommonOfBoth) rfl rfl rfl (by decide +kernel) ⟨Nat.le_of_ble_eq_true rfl, Nat.le_of_ble_eq_true rfl⟩) rfl ⟨Nat.zero_le _, Nat.zero_le _⟩ (Nat.le_of_ble_eq_true rfl) dX5_divisor_20 [.ref (Q 0)] rfl (fun v4 hv4 => ?_)
      obtain ⟨Y3, gD, NG, ⟨g3L, g3S, g3N, hZ3, rfl⟩, c7, cN, cl, co, cc1⟩ := hv4
      refine w_aload_n C dX5_divisor_23 0 rfl ?_
      refine w_get (ci := 5) (ref := "RootIsolatorModel") (T := TX5) (Cn := RX5) (N := 10) C (fun w h => wC_in (inX5 w h)) 0 rfl rfl 4 (by decide) (wC_in fX5_degrees) rfl rfl dX5_divisor_24 ?_
      refine w_bipush C dX5_divisor_27 (by decide) ?_
      refine w_iald C 4 0 rfl rfl (7) ((NG : Int) - 1) ⟨by omega, by omega, by omega⟩ (c7) dX5_divisor_29 ?_
      exact m_iret hsz C hr hlk (⟨mScr_of ⟨_, _, _, hZ3, rfl⟩, Or.inr ⟨by omega, _, NG, cl, cc1, rfl⟩⟩) dX5_divisor_30
    · refine w_bipush C dX5_divisor_16 (by decide) ?_
      exact m_iret hsz C hr hlk (⟨mScr_of ⟨_, _, _, hZ, rfl⟩, Or.inl ⟨by omega, by omega, rfl⟩⟩) dX5_divisor_18
set_option maxHeartbeats 4000000 in
set_option maxRecDepth 100000 in
/-- between -/
theorem cm_between_0 (l : Launch) (D : va_G) (Q : Nat → Nat) (G : Nat → ClassId) (fL fS fN fD : Nat → Int32) (X : mX) (Z : Nat → Int) (nn mm : Int) (ex ey N : Nat) (hZ : mAll fL fS fN Z) (hnn : -9223372036854775808 ≤ nn ∧ nn < 9223372036854775808) (hmm : -9223372036854775808 ≤ mm ∧ mm < 9223372036854775808) (hex : ex ≤ 30) (hey : ey ≤ 30) (hT : topN X.2.2.2.2.2.1 N) (hC : N ≠ 0 → (clampZ nn (2 ^ (30 + ex)) * 2 ^ (30 - ex)) < (clampZ mm (2 ^ (30 + ey)) * 2 ^ (30 - ey)) → cntOK (gz X.2.2.2.2.2.1) N (clampZ nn (2 ^ (30 + ex)) * 2 ^ (30 - ex)) ((clampZ mm (2 ^ (30 + ey)) * 2 ^ (30 - ey)) - (clampZ nn (2 ^ (30 + ex)) * 2 ^ (30 - ex)))) (sz : Nat) : Met l yX5_between_ (wC yX5_between_ cX5_between_ 12 (some .int)) ({ frames := 7, cells := 0, slots := 0, locals := 176 }) (va_Pc [.ref (Q 0), .int (iZ (0)), .long (lZ (nn)), .int (iZ ((ex : Int))), .long (lZ (mm)), .int (iZ ((ey : Int)))] (mPre D Q G (fL, fS, fN, fD, X) sz)) (va_Qi (fun (q : Int32) (u : mT) => mScr X u ∧ ((N = 0 ∧ q = iZ (-3)) ∨ (N ≠ 0 ∧ (clampZ mm (2 ^ (30 + ey)) * 2 ^ (30 - ey)) ≤ (clampZ nn (2 ^ (30 + ex)) * 2 ^ (30 - ex)) ∧ q = iZ 0) ∨ (N ≠ 0 ∧ (clampZ nn (2 ^ (30 + ex)) * 2 ^ (30 - ex)) < (clampZ mm (2 ^ (30 + ey)) * 2 ^ (30 - ey)) ∧ ∃ v : Int, cntR (gz X.2.2.2.2.2.1) N (clampZ nn (2 ^ (30 + ex)) * 2 ^ (30 - ex)) ((clampZ mm (2 ^ (30 + ey)) * 2 ^ (30 - ey)) - (clampZ nn (2 ^ (30 + ex)) * 2 ^ (30 - ex))) v ∧ q = iZ v))) (mAt D Q G (mA Q sz)) (mA Q sz)) 0 0 (mA Q sz) := by
  refine m_met (cc := cX5_between_) (maxL := 12) (ret := (some .int)) (by decide) rfl rfl (Nat.le_of_ble_eq_true rfl) ?_
  intro p e s m below meth c hsz C hr hlk
  refine w_sub [(0, .ref (Q 0)), (1, .int (iZ (0))), (2, .long (lZ (nn))), (4, .int (iZ ((ex : Int)))), (5, .long (lZ (mm))), (7, .int (iZ ((ey : Int))))] [0, 1, 2, 3, 4, 5] rfl ?_
  have hcl : ∀ (z : Int) (x : Nat), x ≤ 30 → -1152921504606846976 ≤ clampZ z (2 ^ (30 + x)) * 2 ^ (30 - x) ∧ clampZ z (2 ^ (30 + x)) * 2 ^ (30 - x) ≤ 1152921504606846976 := fun z x hx => by
    have h1 := i2pos (30 + x)
    have h2 := i2pos (30 - x)
    have h3 : -(2 ^ (30 + x)) ≤ clampZ z (2 ^ (30 + x)) ∧ clampZ z (2 ^ (30 + x)) ≤ 2 ^ (30 + x) := by unfold clampZ; split; omega; split <;> omega
    have h4 : (2 : Int) ^ (30 + x) * 2 ^ (30 - x) = 1152921504606846976 := by rw [← Int.pow_add, show 30 + x + (30 - x) = 60 by omega]; decide
    have h5 := Int.mul_le_mul_of_nonneg_right h3.1 (Int.le_of_lt h2)
    have h6 := Int.mul_le_mul_of_nonneg_right h3.2 (Int.le_of_lt h2)
    rw [Int.neg_mul] at h5
    omega
  obtain ⟨fr, hfr⟩ : ∃ z : Int, z = (clampZ nn (2 ^ (30 + ex)) * 2 ^ (30 - ex)) := ⟨_, rfl⟩
  obtain ⟨to, hto⟩ : ∃ z : Int, z = (clampZ mm (2 ^ (30 + ey)) * 2 ^ (30 - ey)) := ⟨_, rfl⟩
  have hfr2 := hcl nn ex hex
  have hto2 := hcl mm ey hey
  rw [← hfr] at hfr2
  rw [← hto] at hto2
  rw [← hfr, ← hto] at hC
  refine w_iload_n C dX5_between__0 1 rfl ?_
  refine m_callSi [.int (iZ (0))] hsz C (fun z => cm_isWhich l D Q G fL fS fN fD X (0) (by omega) z) (cwS 1 C.1.2.2.2.2 (wC_S kX5_140 stX5_isWhich iniX5 cdX5_isWhich) rfl rfl rfl (by decide +kernel) ⟨Nat.le_of_ble_eq_true rfl, Nat.le_of_ble_eq_true rfl⟩) rfl ⟨Nat.zero_le _, Nat.zero_le _⟩ (Nat.le_of_ble_eq_true rfl) dX5_between__1 [.int (iZ (0))] rfl (fun r v1 hv1 => ?_)
  obtain ⟨rfl, rfl⟩ := hv1
  refine w_top C (1) (by decide) ?_
  refine w_if_eq C 33 dX5_between__4 (by decide) ⟨by omega, by omega⟩ (fun c4 => ?_) (fun c4 => ?_)
  · exact absurd c4 (by omega)
  · refine w_iload C dX5_between__7 3 rfl ?_
    refine w_i2l C dX5_between__9 ⟨by omega, by omega⟩ ?_
    refine w_lconst C 0 dX5_between__10 rfl ?_
    refine w_ldc2 C (30) dX5_between__11 (wC_in kclX5_159) ?_
    refine m_callSi [.long (lZ ((ex : Int))), .long (lZ (0)), .long (lZ (30))] hsz C (fun z => cm_in l D Q G fL fS fN fD X ((ex : Int)) (0) (30) (by omega) (by omega) (by omega) z) (cwS 3 C.1.2.2.2.2 (wC_S kX5_132 stX5_in iniX5 cdX5_in) rfl rfl rfl (by decide +kernel) ⟨Nat.le_of_ble_eq_true rfl, Nat.le_of_ble_eq_true rfl⟩) rfl ⟨Nat.zero_le _, Nat.zero_le _⟩ (Nat.le_of_ble_eq_true rfl) dX5_between__14 [.long (lZ (30)), .long (lZ (0)), .long (lZ ((ex : Int)))] rfl (fun r v2 hv2 => ?_)
    obtain ⟨rfl, rfl⟩ := hv2
    refine w_top C (1) (if_pos (by omega)) ?_
    refine w_if_eq C 33 dX5_between__17 (by decide) ⟨by omega, by omega⟩ (fun c17 => ?_) (fun c17 => ?_)
    · exact absurd c17 (by omega)
    · refine w_iload C dX5_between__20 5 rfl ?_
      refine w_i2l C dX5_between__22 ⟨by omega, by omega⟩ ?_
      refine w_lconst C 0 dX5_between__23 rfl ?_
      refine w_ldc2 C (30) dX5_between__24 (wC_in kclX5_159) ?_
      refine m_callSi [.long (lZ ((ey : Int))), .long (lZ (0)), .long (lZ (30))] hsz C (fun z => cm_in l D Q G fL fS fN fD X ((ey : Int)) (0) (30) (by omega) (by omega) (by omega) z) (cwS 3 C.1.2.2.2.2 (wC_S kX5_132 stX5_in iniX5 cdX5_in) rfl rfl rfl (by decide +kernel) ⟨Nat.le_of_ble_eq_true rfl, Nat.le_of_ble_eq_true rfl⟩) rfl ⟨Nat.zero_le _, Nat.zero_le _⟩ (Nat.le_of_ble_eq_true rfl) dX5_between__27 [.long (lZ (30)), .long (lZ (0)), .long (lZ ((ey : Int)))] rfl (fun r v3 hv3 => ?_)
      obtain ⟨rfl, rfl⟩ := hv3
      refine w_top C (1) (if_pos (by omega)) ?_
      refine w_if_ne C 36 dX5_between__30 (by decide) ⟨by omega, by omega⟩ (fun c30 => ?_) (fun c30 => ?_)
      · refine w_aload_n C dX5_between__36 0 rfl ?_
        refine w_iload_n C dX5_between__37 1 rfl ?_
        refine m_calli [.int (iZ (0))] hsz C (fun z => cm_degreeOf0 l D Q G fL fS fN fD X  z) (cwV 1 C.1.2.2.2.2 (wC_V kX5_153 nX5_degreeOf slX5_degreeOf iniX5 cdX5_degreeOf) rfl rfl rfl (by decide +kernel) ⟨Nat.le_of_ble_eq_true rfl, Nat.le_of_ble_eq_true rfl⟩) rfl ⟨Nat.zero_le _, Nat.zero_le _⟩ (Nat.le_of_ble_eq_true rfl) dX5_between__38 [.int (iZ (0)), .ref (Q 0)] rfl (fun r v4 hv4 => ?_)
        obtain ⟨⟨qn, hqn, rfl⟩, rfl⟩ := hv4
        have hq9 := hqn.1
        have eqn : qn = N := topN_u hqn hT
        refine w_top C ((N : Int) - 1) (by omega) ?_
        refine w_if_ge C 47 dX5_between__41 (by decide) (by have := hT.1; omega) (fun c41 => ?_) (fun c41 => ?_)
        · refine w_lload_n C dX5_between__47 2 rfl ?_
          refine w_iload C dX5_between__48 3 rfl ?_
          refine m_callSl [.long (lZ (nn)), .int (iZ ((ex : Int)))] hsz C (fun z => cm_fine l D Q G fL fS fN fD X nn ex hnn hex z) (cwS 2 C.1.2.2.2.2 (wC_S kX5_161 stX5_fine iniX5 cdX5_fine) rfl rfl rfl (by decide +kernel) ⟨Nat.le_of_ble_eq_true rfl, Nat.le_of_ble_eq_true rfl⟩) rfl ⟨Nat.zero_le _, Nat.zero_le _⟩ (Nat.le_of_ble_eq_true rfl) dX5_between__50 [.int (iZ ((ex : Int))), .long (lZ (nn))] rfl (fun r v5 hv5 => ?_)
          obtain ⟨rfl, rfl⟩ := hv5
          refine w_topl C (fr) (hfr.symm) ?_
          refine w_lstore C [(8, .long (lZ (fr))), (0, .ref (Q 0)), (1, .int (iZ (0))), (2, .long (lZ (nn))), (4, .int (iZ ((ex : Int)))), (5, .long (lZ (mm))), (7, .int (iZ ((ey : Int))))] dX5_between__53 (by decide) rfl ?_
          refine w_lload C dX5_between__55 5 rfl ?_
          refine w_iload C dX5_between__57 6 rfl ?_
          refine m_callSl [.long (lZ (mm)), .int (iZ ((ey : Int)))] hsz C (fun z => cm_fine l D Q G fL fS fN fD X mm ey hmm hey z) (cwS 2 C.1.2.2.2.2 (wC_S kX5_161 stX5_fine iniX5 cdX5_fine) rfl rfl rfl (by decide +kernel) ⟨Nat.le_of_ble_eq_true rfl, Nat.le_of_ble_eq_true rfl⟩) rfl ⟨Nat.zero_le _, Nat.zero_le _⟩ (Nat.le_of_ble_eq_true rfl) dX5_between__59 [.int (iZ ((ey : Int))), .long (lZ (mm))] rfl (fun r v6 hv6 => ?_)
          obtain ⟨rfl, rfl⟩ := hv6
          refine w_topl C (to) (hto.symm) ?_
          refine w_lstore C [(10, .long (lZ (to))), (8, .long (lZ (fr))), (0, .ref (Q 0)), (1, .int (iZ (0))), (2, .long (lZ (nn))), (4, .int (iZ ((ex : Int)))), (5, .long (lZ (mm))), (7, .int (iZ ((ey : Int))))] dX5_between__62 (by decide) rfl ?_
          refine w_lload C dX5_between__64 0 rfl ?_
          refine w_lload C dX5_between__66 1 rfl ?_
          refine w_lif_gt C 74 dX5_between__68 dX5_between__69 (by decide) ⟨⟨by omega, by omega⟩, by omega, by omega⟩ (fun c68 => ?_) (fun c68 => ?_)
          · obtain ⟨hC1, hC2⟩ := hC (by omega) (by omega)
            refine w_aload_n C dX5_between__74 2 rfl ?_
            refine w_iconst C dX5_between__75 ?_
            refine w_iload_n C dX5_between__76 3 rfl ?_
            refine m_callv [.int (iZ (0)), .int (iZ (0))] hsz C (fun z => cm_take0 l D Q G fL fS fN fD X Z 0 hZ (by omega) z) (cwV 2 C.1.2.2.2.2 (wC_V kX5_165 nX5_take slX5_take iniX5 cdX5_take) rfl rfl rfl (by decide +kernel) ⟨Nat.le_of_ble_eq_true rfl, Nat.le_of_ble_eq_true rfl⟩) rfl ⟨Nat.zero_le _, Nat.zero_le _⟩ (Nat.le_of_ble_eq_true rfl) dX5_between__77 [.int (iZ (0)), .int (iZ (0)), .ref (Q 0)] rfl (fun v7 hv7 => ?_)
            obtain ⟨Y1, j0, ⟨g1L, g1S, g1N, hZ1, rfl⟩, a1, a2, a3, a4, a5⟩ := hv7
            have ej : j0 = N := topN_u ⟨a1, a2, a3⟩ hT
            subst ej
            have e0 : ∀ i : Nat, i < j0 → Y1 (9 * 0 + i) = gz X.2.2.2.2.2.1 i := fun i hi => a4 i (by omega)
            refine w_aload_n C dX5_between__80 2 rfl ?_
            refine w_iconst C dX5_between__81 ?_
            refine w_iconst C dX5_between__82 ?_
            refine m_callv [.int (iZ (5)), .int (iZ (0))] hsz C (fun z => cm_makeFree l D Q G g1L g1S g1N (upd fD 0 (iZ ((j0 : Int) - 1))) X Y1 5 0 j0 hZ1 (Or.inl rfl) (by omega) upd_eq a1 (by omega) (fun i hi => by show Y1 (9 * 0 + i) ≠ 0; rw [e0 i (by omega)]; exact gz_ldn hT i hi) (fun i hi => by rw [e0 i hi]; exact gz_abs _ _) (fun x1 x2 h1 h2 => hC1 x1 x2 (primR_left h1 e0) (primR_left h2 (fun i hi => congrArg (· * ((i + 1 : Nat) : Int)) (e0 (i + 1) (by omega))))) z) (cwV 2 C.1.2.2.2.2 (wC_V kX5_168 nX5_makeFree slX5_makeFree iniX5 cdX5_makeFree) rfl rfl rfl (by decide +kernel) ⟨Nat.le_of_ble_eq_true rfl, Nat.le_of_ble_eq_true rfl⟩) rfl ⟨Nat.zero_le _, Nat.zero_le _⟩ (Nat.le_of_ble_eq_true rfl) dX5_between__83 [.int (iZ (0)), .int (iZ (5)), .ref (Q 0)] rfl (fun v8 hv8 => ?_)
            obtain ⟨Y2, gD, NG, ⟨g2L, g2S, g2N, hZ2, rfl⟩, m5, m7, mN, mP, ml7, mo7, ml5, mfr, mfb, mq, mf⟩ := hv8
            have hfree := freeR_congr mfr e0
            obtain ⟨h, hh, hTV⟩ := hC2 _ _ _ _ hfree
            refine w_aload_n C dX5_between__86 2 rfl ?_
            refine w_bipush C dX5_between__87 (by decide) ?_
            refine w_iconst C dX5_between__89 ?_
            refine w_lload C dX5_between__90 1 rfl ?_
            refine w_lload C dX5_between__92 0 rfl ?_
            refine w_lload C dX5_between__94 1 rfl ?_
            refine w_lsub C dX5_between__96 ?_
            refine m_callv [.int (iZ (8)), .int (iZ (5)), .long (lZ (fr)), .long (lZ (to - fr))] hsz C (fun z => cm_move l D Q G g2L g2S g2N gD X Y2 8 5 (j0 - NG + 1) fr (to - fr) (2 ^ 12009) (2 ^ 61) hZ2 (by omega) (by omega) (by omega) m5 (by omega) (by omega) (by omega) (Int.le_of_lt (i2pos _)) (by decide) (Int.le_trans (show (fr.natAbs : Int) ≤ 2305843009213693952 by omega) (by decide)) (Int.le_trans (show ((to - fr).natAbs : Int) ≤ 2305843009213693952 by omega) (by decide)) (fun i hi => mfb i hi) (bnd4 (by decide) (Int.le_refl _)) z) (cwV 4 C.1.2.2.2.2 (wC_V kX5_171 nX5_move slX5_move iniX5 cdX5_move) rfl rfl rfl (by decide +kernel) ⟨Nat.le_of_ble_eq_true rfl, Nat.le_of_ble_eq_true rfl⟩) rfl ⟨Nat.zero_le _, Nat.zero_le _⟩ (Nat.le_of_ble_eq_true rfl) dX5_between__97 [.long (lZ (to - fr)), .long (lZ (fr)), .int (iZ (5)), .int (iZ (8)), .ref (Q 0)] rfl (fun v9 hv9 => ?_)
            obtain ⟨Y3, ⟨g3L, g3S, g3N, hZ3, rfl⟩, v1, v2⟩ := hv9
            refine w_aload_n C dX5_between__100 2 rfl ?_
            refine w_bipush C dX5_between__101 (by decide) ?_
            refine m_calli [.int (iZ (8))] hsz C (fun z => cm_upTo l D Q G g3L g3S g3N (upd gD 8 (iZ (((j0 - NG + 1 : Nat) : Int) - 1))) X Y3 (mvd (fun i => Y2 (9 * 5 + i)) (j0 - NG + 1) fr (to - fr)) 8 (j0 - NG + 1) h hZ3 (by omega) upd_eq (by omega) (fun i hi => v1 i hi) hTV hh z) (cwV 1 C.1.2.2.2.2 (wC_V kX5_175 nX5_upTo slX5_upTo iniX5 cdX5_upTo) rfl rfl rfl (by decide +kernel) ⟨Nat.le_of_ble_eq_true rfl, Nat.le_of_ble_eq_true rfl⟩) rfl ⟨Nat.zero_le _, Nat.zero_le _⟩ (Nat.le_of_ble_eq_true rfl) dX5_between__103 [.int (iZ (8)), .ref (Q 0)] rfl (fun r v10 hv10 => ?_)
            obtain ⟨rfl, Y4, tD, fB, ⟨tL, tS, tN, hZ4, rfl⟩, d1, d2⟩ := hv10
            exact m_iret hsz C hr hlk (⟨⟨Y4, tD, fB, ⟨_, _, _, hZ4, rfl⟩⟩, Or.inr (Or.inr ⟨by omega, by rw [← hfr, ← hto]; omega, _, by rw [← hfr, ← hto]; exact ⟨_, _, _, NG, h, hfree, ml5, hh, hTV, rfl⟩, rfl⟩)⟩) dX5_between__106
          · refine w_iconst C dX5_between__72 ?_
            exact m_iret hsz C hr hlk (⟨mScr_of ⟨_, _, _, hZ, rfl⟩, Or.inr (Or.inl ⟨by omega, by rw [← hfr, ← hto]; omega, rfl⟩)⟩) dX5_between__73
        · refine w_bipush C dX5_between__44 (by decide) ?_
          exact m_iret hsz C hr hlk (⟨mScr_of ⟨_, _, _, hZ, rfl⟩, Or.inl ⟨by omega, rfl⟩⟩) dX5_between__46
      · exact absurd c30 (by omega)
set_option maxHeartbeats 4000000 in
set_option maxRecDepth 100000 in
/-- between -/
theorem cm_between_1 (l : Launch) (D : va_G) (Q : Nat → Nat) (G : Nat → ClassId) (fL fS fN fD : Nat → Int32) (X : mX) (Z : Nat → Int) (nn mm : Int) (ex ey N : Nat) (hZ : mAll fL fS fN Z) (hnn : -9223372036854775808 ≤ nn ∧ nn < 9223372036854775808) (hmm : -9223372036854775808 ≤ mm ∧ mm < 9223372036854775808) (hex : ex ≤ 30) (hey : ey ≤ 30) (hT : topN X.2.2.2.2.2.2 N) (hC : N ≠ 0 → (clampZ nn (2 ^ (30 + ex)) * 2 ^ (30 - ex)) < (clampZ mm (2 ^ (30 + ey)) * 2 ^ (30 - ey)) → cntOK (gz X.2.2.2.2.2.2) N (clampZ nn (2 ^ (30 + ex)) * 2 ^ (30 - ex)) ((clampZ mm (2 ^ (30 + ey)) * 2 ^ (30 - ey)) - (clampZ nn (2 ^ (30 + ex)) * 2 ^ (30 - ex)))) (sz : Nat) : Met l yX5_between_ (wC yX5_between_ cX5_between_ 12 (some .int)) ({ frames := 7, cells := 0, slots := 0, locals := 176 }) (va_Pc [.ref (Q 0), .int (iZ (1)), .long (lZ (nn)), .int (iZ ((ex : Int))), .long (lZ (mm)), .int (iZ ((ey : Int)))] (mPre D Q G (fL, fS, fN, fD, X) sz)) (va_Qi (fun (q : Int32) (u : mT) => mScr X u ∧ ((N = 0 ∧ q = iZ (-3)) ∨ (N ≠ 0 ∧ (clampZ mm (2 ^ (30 + ey)) * 2 ^ (30 - ey)) ≤ (clampZ nn (2 ^ (30 + ex)) * 2 ^ (30 - ex)) ∧ q = iZ 0) ∨ (N ≠ 0 ∧ (clampZ nn (2 ^ (30 + ex)) * 2 ^ (30 - ex)) < (clampZ mm (2 ^ (30 + ey)) * 2 ^ (30 - ey)) ∧ ∃ v : Int, cntR (gz X.2.2.2.2.2.2) N (clampZ nn (2 ^ (30 + ex)) * 2 ^ (30 - ex)) ((clampZ mm (2 ^ (30 + ey)) * 2 ^ (30 - ey)) - (clampZ nn (2 ^ (30 + ex)) * 2 ^ (30 - ex))) v ∧ q = iZ v))) (mAt D Q G (mA Q sz)) (mA Q sz)) 0 0 (mA Q sz) := by
  refine m_met (cc := cX5_between_) (maxL := 12) (ret := (some .int)) (by decide) rfl rfl (Nat.le_of_ble_eq_true rfl) ?_
  intro p e s m below meth c hsz C hr hlk
  refine w_sub [(0, .ref (Q 0)), (1, .int (iZ (1))), (2, .long (lZ (nn))), (4, .int (iZ ((ex : Int)))), (5, .long (lZ (mm))), (7, .int (iZ ((ey : Int))))] [0, 1, 2, 3, 4, 5] rfl ?_
  have hcl : ∀ (z : Int) (x : Nat), x ≤ 30 → -1152921504606846976 ≤ clampZ z (2 ^ (30 + x)) * 2 ^ (30 - x) ∧ clampZ z (2 ^ (30 + x)) * 2 ^ (30 - x) ≤ 1152921504606846976 := fun z x hx => by
    have h1 := i2pos (30 + x)
    have h2 := i2pos (30 - x)
    have h3 : -(2 ^ (30 + x)) ≤ clampZ z (2 ^ (30 + x)) ∧ clampZ z (2 ^ (30 + x)) ≤ 2 ^ (30 + x) := by unfold clampZ; split; omega; split <;> omega
    have h4 : (2 : Int) ^ (30 + x) * 2 ^ (30 - x) = 1152921504606846976 := by rw [← Int.pow_add, show 30 + x + (30 - x) = 60 by omega]; decide
    have h5 := Int.mul_le_mul_of_nonneg_right h3.1 (Int.le_of_lt h2)
    have h6 := Int.mul_le_mul_of_nonneg_right h3.2 (Int.le_of_lt h2)
    rw [Int.neg_mul] at h5
    omega
  obtain ⟨fr, hfr⟩ : ∃ z : Int, z = (clampZ nn (2 ^ (30 + ex)) * 2 ^ (30 - ex)) := ⟨_, rfl⟩
  obtain ⟨to, hto⟩ : ∃ z : Int, z = (clampZ mm (2 ^ (30 + ey)) * 2 ^ (30 - ey)) := ⟨_, rfl⟩
  have hfr2 := hcl nn ex hex
  have hto2 := hcl mm ey hey
  rw [← hfr] at hfr2
  rw [← hto] at hto2
  rw [← hfr, ← hto] at hC
  refine w_iload_n C dX5_between__0 1 rfl ?_
  refine m_callSi [.int (iZ (1))] hsz C (fun z => cm_isWhich l D Q G fL fS fN fD X (1) (by omega) z) (cwS 1 C.1.2.2.2.2 (wC_S kX5_140 stX5_isWhich iniX5 cdX5_isWhich) rfl rfl rfl (by decide +kernel) ⟨Nat.le_of_ble_eq_true rfl, Nat.le_of_ble_eq_true rfl⟩) rfl ⟨Nat.zero_le _, Nat.zero_le _⟩ (Nat.le_of_ble_eq_true rfl) dX5_between__1 [.int (iZ (1))] rfl (fun r v1 hv1 => ?_)
  obtain ⟨rfl, rfl⟩ := hv1
  refine w_top C (1) (by decide) ?_
  refine w_if_eq C 33 dX5_between__4 (by decide) ⟨by omega, by omega⟩ (fun c4 => ?_) (fun c4 => ?_)
  · exact absurd c4 (by omega)
  · refine w_iload C dX5_between__7 3 rfl ?_
    refine w_i2l C dX5_between__9 ⟨by omega, by omega⟩ ?_
    refine w_lconst C 0 dX5_between__10 rfl ?_
    refine w_ldc2 C (30) dX5_between__11 (wC_in kclX5_159) ?_
    refine m_callSi [.long (lZ ((ex : Int))), .long (lZ (0)), .long (lZ (30))] hsz C (fun z => cm_in l D Q G fL fS fN fD X ((ex : Int)) (0) (30) (by omega) (by omega) (by omega) z) (cwS 3 C.1.2.2.2.2 (wC_S kX5_132 stX5_in iniX5 cdX5_in) rfl rfl rfl (by decide +kernel) ⟨Nat.le_of_ble_eq_true rfl, Nat.le_of_ble_eq_true rfl⟩) rfl ⟨Nat.zero_le _, Nat.zero_le _⟩ (Nat.le_of_ble_eq_true rfl) dX5_between__14 [.long (lZ (30)), .long (lZ (0)), .long (lZ ((ex : Int)))] rfl (fun r v2 hv2 => ?_)
    obtain ⟨rfl, rfl⟩ := hv2
    refine w_top C (1) (if_pos (by omega)) ?_
    refine w_if_eq C 33 dX5_between__17 (by decide) ⟨by omega, by omega⟩ (fun c17 => ?_) (fun c17 => ?_)
    · exact absurd c17 (by omega)
    · refine w_iload C dX5_between__20 5 rfl ?_
      refine w_i2l C dX5_between__22 ⟨by omega, by omega⟩ ?_
      refine w_lconst C 0 dX5_between__23 rfl ?_
      refine w_ldc2 C (30) dX5_between__24 (wC_in kclX5_159) ?_
      refine m_callSi [.long (lZ ((ey : Int))), .long (lZ (0)), .long (lZ (30))] hsz C (fun z => cm_in l D Q G fL fS fN fD X ((ey : Int)) (0) (30) (by omega) (by omega) (by omega) z) (cwS 3 C.1.2.2.2.2 (wC_S kX5_132 stX5_in iniX5 cdX5_in) rfl rfl rfl (by decide +kernel) ⟨Nat.le_of_ble_eq_true rfl, Nat.le_of_ble_eq_true rfl⟩) rfl ⟨Nat.zero_le _, Nat.zero_le _⟩ (Nat.le_of_ble_eq_true rfl) dX5_between__27 [.long (lZ (30)), .long (lZ (0)), .long (lZ ((ey : Int)))] rfl (fun r v3 hv3 => ?_)
      obtain ⟨rfl, rfl⟩ := hv3
      refine w_top C (1) (if_pos (by omega)) ?_
      refine w_if_ne C 36 dX5_between__30 (by decide) ⟨by omega, by omega⟩ (fun c30 => ?_) (fun c30 => ?_)
      · refine w_aload_n C dX5_between__36 0 rfl ?_
        refine w_iload_n C dX5_between__37 1 rfl ?_
        refine m_calli [.int (iZ (1))] hsz C (fun z => cm_degreeOf1 l D Q G fL fS fN fD X  z) (cwV 1 C.1.2.2.2.2 (wC_V kX5_153 nX5_degreeOf slX5_degreeOf iniX5 cdX5_degreeOf) rfl rfl rfl (by decide +kernel) ⟨Nat.le_of_ble_eq_true rfl, Nat.le_of_ble_eq_true rfl⟩) rfl ⟨Nat.zero_le _, Nat.zero_le _⟩ (Nat.le_of_ble_eq_true rfl) dX5_between__38 [.int (iZ (1)), .ref (Q 0)] rfl (fun r v4 hv4 => ?_)
        obtain ⟨⟨qn, hqn, rfl⟩, rfl⟩ := hv4
        have hq9 := hqn.1
        have eqn : qn = N := topN_u hqn hT
        refine w_top C ((N : Int) - 1) (by omega) ?_
        refine w_if_ge C 47 dX5_between__41 (by decide) (by have := hT.1; omega) (fun c41 => ?_) (fun c41 => ?_)
        · refine w_lload_n C dX5_between__47 2 rfl ?_
          refine w_iload C dX5_between__48 3 rfl ?_
          refine m_callSl [.long (lZ (nn)), .int (iZ ((ex : Int)))] hsz C (fun z => cm_fine l D Q G fL fS fN fD X nn ex hnn hex z) (cwS 2 C.1.2.2.2.2 (wC_S kX5_161 stX5_fine iniX5 cdX5_fine) rfl rfl rfl (by decide +kernel) ⟨Nat.le_of_ble_eq_true rfl, Nat.le_of_ble_eq_true rfl⟩) rfl ⟨Nat.zero_le _, Nat.zero_le _⟩ (Nat.le_of_ble_eq_true rfl) dX5_between__50 [.int (iZ ((ex : Int))), .long (lZ (nn))] rfl (fun r v5 hv5 => ?_)
          obtain ⟨rfl, rfl⟩ := hv5
          refine w_topl C (fr) (hfr.symm) ?_
          refine w_lstore C [(8, .long (lZ (fr))), (0, .ref (Q 0)), (1, .int (iZ (1))), (2, .long (lZ (nn))), (4, .int (iZ ((ex : Int)))), (5, .long (lZ (mm))), (7, .int (iZ ((ey : Int))))] dX5_between__53 (by decide) rfl ?_
          refine w_lload C dX5_between__55 5 rfl ?_
          refine w_iload C dX5_between__57 6 rfl ?_
          refine m_callSl [.long (lZ (mm)), .int (iZ ((ey : Int)))] hsz C (fun z => cm_fine l D Q G fL fS fN fD X mm ey hmm hey z) (cwS 2 C.1.2.2.2.2 (wC_S kX5_161 stX5_fine iniX5 cdX5_fine) rfl rfl rfl (by decide +kernel) ⟨Nat.le_of_ble_eq_true rfl, Nat.le_of_ble_eq_true rfl⟩) rfl ⟨Nat.zero_le _, Nat.zero_le _⟩ (Nat.le_of_ble_eq_true rfl) dX5_between__59 [.int (iZ ((ey : Int))), .long (lZ (mm))] rfl (fun r v6 hv6 => ?_)
          obtain ⟨rfl, rfl⟩ := hv6
          refine w_topl C (to) (hto.symm) ?_
          refine w_lstore C [(10, .long (lZ (to))), (8, .long (lZ (fr))), (0, .ref (Q 0)), (1, .int (iZ (1))), (2, .long (lZ (nn))), (4, .int (iZ ((ex : Int)))), (5, .long (lZ (mm))), (7, .int (iZ ((ey : Int))))] dX5_between__62 (by decide) rfl ?_
          refine w_lload C dX5_between__64 0 rfl ?_
          refine w_lload C dX5_between__66 1 rfl ?_
          refine w_lif_gt C 74 dX5_between__68 dX5_between__69 (by decide) ⟨⟨by omega, by omega⟩, by omega, by omega⟩ (fun c68 => ?_) (fun c68 => ?_)
          · obtain ⟨hC1, hC2⟩ := hC (by omega) (by omega)
            refine w_aload_n C dX5_between__74 2 rfl ?_
            refine w_iconst C dX5_between__75 ?_
            refine w_iload_n C dX5_between__76 3 rfl ?_
            refine m_callv [.int (iZ (0)), .int (iZ (1))] hsz C (fun z => cm_take1 l D Q G fL fS fN fD X Z 0 hZ (by omega) z) (cwV 2 C.1.2.2.2.2 (wC_V kX5_165 nX5_take slX5_take iniX5 cdX5_take) rfl rfl rfl (by decide +kernel) ⟨Nat.le_of_ble_eq_true rfl, Nat.le_of_ble_eq_true rfl⟩) rfl ⟨Nat.zero_le _, Nat.zero_le _⟩ (Nat.le_of_ble_eq_true rfl) dX5_between__77 [.int (iZ (1)), .int (iZ (0)), .ref (Q 0)] rfl (fun v7 hv7 => ?_)
            obtain ⟨Y1, j0, ⟨g1L, g1S, g1N, hZ1, rfl⟩, a1, a2, a3, a4, a5⟩ := hv7
            have ej : j0 = N := topN_u ⟨a1, a2, a3⟩ hT
            subst ej
            have e0 : ∀ i : Nat, i < j0 → Y1 (9 * 0 + i) = gz X.2.2.2.2.2.2 i := fun i hi => a4 i (by omega)
            refine w_aload_n C dX5_between__80 2 rfl ?_
            refine w_iconst C dX5_between__81 ?_
            refine w_iconst C dX5_between__82 ?_
            refine m_callv [.int (iZ (5)), .int (iZ (0))] hsz C (fun z => cm_makeFree l D Q G g1L g1S g1N (upd fD 0 (iZ ((j0 : Int) - 1))) X Y1 5 0 j0 hZ1 (Or.inl rfl) (by omega) upd_eq a1 (by omega) (fun i hi => by show Y1 (9 * 0 + i) ≠ 0; rw [e0 i (by omega)]; exact gz_ldn hT i hi) (fun i hi => by rw [e0 i hi]; exact gz_abs _ _) (fun x1 x2 h1 h2 => hC1 x1 x2 (primR_left h1 e0) (primR_left h2 (fun i hi => congrArg (· * ((i + 1 : Nat) : Int)) (e0 (i + 1) (by omega))))) z) (cwV 2 C.1.2.2.2.2 (wC_V kX5_168 nX5_makeFree slX5_makeFree iniX5 cdX5_makeFree) rfl rfl rfl (by decide +kernel) ⟨Nat.le_of_ble_eq_true rfl, Nat.le_of_ble_eq_true rfl⟩) rfl ⟨Nat.zero_le _, Nat.zero_le _⟩ (Nat.le_of_ble_eq_true rfl) dX5_between__83 [.int (iZ (0)), .int (iZ (5)), .ref (Q 0)] rfl (fun v8 hv8 => ?_)
            obtain ⟨Y2, gD, NG, ⟨g2L, g2S, g2N, hZ2, rfl⟩, m5, m7, mN, mP, ml7, mo7, ml5, mfr, mfb, mq, mf⟩ := hv8
            have hfree := freeR_congr mfr e0
            obtain ⟨h, hh, hTV⟩ := hC2 _ _ _ _ hfree
            refine w_aload_n C dX5_between__86 2 rfl ?_
            refine w_bipush C dX5_between__87 (by decide) ?_
            refine w_iconst C dX5_between__89 ?_
            refine w_lload C dX5_between__90 1 rfl ?_
            refine w_lload C dX5_between__92 0 rfl ?_
            refine w_lload C dX5_between__94 1 rfl ?_
            refine w_lsub C dX5_between__96 ?_
            refine m_callv [.int (iZ (8)), .int (iZ (5)), .long (lZ (fr)), .long (lZ (to - fr))] hsz C (fun z => cm_move l D Q G g2L g2S g2N gD X Y2 8 5 (j0 - NG + 1) fr (to - fr) (2 ^ 12009) (2 ^ 61) hZ2 (by omega) (by omega) (by omega) m5 (by omega) (by omega) (by omega) (Int.le_of_lt (i2pos _)) (by decide) (Int.le_trans (show (fr.natAbs : Int) ≤ 2305843009213693952 by omega) (by decide)) (Int.le_trans (show ((to - fr).natAbs : Int) ≤ 2305843009213693952 by omega) (by decide)) (fun i hi => mfb i hi) (bnd4 (by decide) (Int.le_refl _)) z) (cwV 4 C.1.2.2.2.2 (wC_V kX5_171 nX5_move slX5_move iniX5 cdX5_move) rfl rfl rfl (by decide +kernel) ⟨Nat.le_of_ble_eq_true rfl, Nat.le_of_ble_eq_true rfl⟩) rfl ⟨Nat.zero_le _, Nat.zero_le _⟩ (Nat.le_of_ble_eq_true rfl) dX5_between__97 [.long (lZ (to - fr)), .long (lZ (fr)), .int (iZ (5)), .int (iZ (8)), .ref (Q 0)] rfl (fun v9 hv9 => ?_)
            obtain ⟨Y3, ⟨g3L, g3S, g3N, hZ3, rfl⟩, v1, v2⟩ := hv9
            refine w_aload_n C dX5_between__100 2 rfl ?_
            refine w_bipush C dX5_between__101 (by decide) ?_
            refine m_calli [.int (iZ (8))] hsz C (fun z => cm_upTo l D Q G g3L g3S g3N (upd gD 8 (iZ (((j0 - NG + 1 : Nat) : Int) - 1))) X Y3 (mvd (fun i => Y2 (9 * 5 + i)) (j0 - NG + 1) fr (to - fr)) 8 (j0 - NG + 1) h hZ3 (by omega) upd_eq (by omega) (fun i hi => v1 i hi) hTV hh z) (cwV 1 C.1.2.2.2.2 (wC_V kX5_175 nX5_upTo slX5_upTo iniX5 cdX5_upTo) rfl rfl rfl (by decide +kernel) ⟨Nat.le_of_ble_eq_true rfl, Nat.le_of_ble_eq_true rfl⟩) rfl ⟨Nat.zero_le _, Nat.zero_le _⟩ (Nat.le_of_ble_eq_true rfl) dX5_between__103 [.int (iZ (8)), .ref (Q 0)] rfl (fun r v10 hv10 => ?_)
            obtain ⟨rfl, Y4, tD, fB, ⟨tL, tS, tN, hZ4, rfl⟩, d1, d2⟩ := hv10
            exact m_iret hsz C hr hlk (⟨⟨Y4, tD, fB, ⟨_, _, _, hZ4, rfl⟩⟩, Or.inr (Or.inr ⟨by omega, by rw [← hfr, ← hto]; omega, _, by rw [← hfr, ← hto]; exact ⟨_, _, _, NG, h, hfree, ml5, hh, hTV, rfl⟩, rfl⟩)⟩) dX5_between__106
          · refine w_iconst C dX5_between__72 ?_
            exact m_iret hsz C hr hlk (⟨mScr_of ⟨_, _, _, hZ, rfl⟩, Or.inr (Or.inl ⟨by omega, by rw [← hfr, ← hto]; omega, rfl⟩)⟩) dX5_between__73
        · refine w_bipush C dX5_between__44 (by decide) ?_
          exact m_iret hsz C hr hlk (⟨mScr_of ⟨_, _, _, hZ, rfl⟩, Or.inl ⟨by omega, rfl⟩⟩) dX5_between__46
      · exact absurd c30 (by omega)
