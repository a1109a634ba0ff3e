/-- the count of how often a root counts ends, and what it is -/
def mulOK (n len : Int) : Nat → (Nat → Int) → Nat → Prop
  | 0, _, _ => False
  | k + 1, a, N => (∀ i : Nat, i < N → ((a i).natAbs : Int) ≤ 2 ^ 1196) ∧ 1 ≤ N ∧ (∀ a1 b1 : Nat → Int, primR a N a1 → primR (der a) (N - 1) b1 → FZ 9 a1 N b1 (N - 1)) ∧ ∀ (f : Nat → Int) (Nf : Nat) (G : Nat → Int) (NG : Nat), freeR a N f Nf G NG → ∃ h : Nat, h < 4000 ∧ (1 < Nf → TV Nf h (mvd f Nf n len)) ∧ UV Nf h (mvd f Nf n len) < 100 ∧ (UV Nf h (mvd f Nf n len) = 1 → mulOK n len k G NG)
def mulR (n len : Int) : Nat → (Nat → Int) → Nat → Nat → Prop
  | 0, _, _, _ => False
  | k + 1, a, N, v => ∃ (f : Nat → Int) (Nf : Nat) (G : Nat → Int) (NG h : Nat), freeR a N f Nf G NG ∧ ldn f Nf ∧ h < 4000 ∧ (1 < Nf → TV Nf h (mvd f Nf n len)) ∧ ((UV Nf h (mvd f Nf n len) ≠ 1 ∧ v = 0) ∨ (UV Nf h (mvd f Nf n len) = 1 ∧ ∃ w : Nat, mulR n len k G NG w ∧ v = w + 1))
theorem mvd_congr {f g : Nat → Int} {N : Nat} {n len : Int} (h : ∀ k : Nat, k < N → f k = g k) {i : Nat} (hi : i < N) : mvd f N n len i = mvd g N n len i := by
  unfold mvd
  rw [sha_congr (e := fun k => g k * 2 ^ (30 * (N - 1 - k))) (fun j hj => by show f j * _ = g j * _; rw [h j hj]) _ i hi]
theorem UV_0 (N h : Nat) (c : Nat → Int) : 0 ≤ UV N h c := by
  unfold UV
  split <;> split <;> omega
set_option maxHeartbeats 4000000 in
set_option maxRecDepth 100000 in
/-- moveTo: the row on the cell of a root -/
theorem cm_moveTo (l : Launch) (D : va_G) (Q : Nat → Nat) (G : Nat → ClassId) (fL fS fN fD : Nat → Int32) (X : mX) (Z : Nat → Int) (t r N ix lv : Nat) (cv : Int) (hZ : mAll fL fS fN Z) (ht : t < 15) (hr2 : r < 15) (htr : t ≠ r) (hn : fD r = iZ ((N : Int) - 1)) (hN : N ≤ 9) (hix : ix < 8) (hlv : X.2.2.1 ix = iZ lv) (hlv2 : lv ≤ 30) (hcv : X.2.2.2.1 ix = lZ cv) (hcv2 : -2305843009213693952 ≤ cv * 2 ^ (30 - lv) ∧ cv * 2 ^ (30 - lv) ≤ 2305843009213693952) (hB : ∀ i : Nat, i < N → ((Z (9 * r + i)).natAbs : Int) ≤ 2 ^ 12009) (sz : Nat) : Met l yX5_moveTo (wC yX5_moveTo cX5_moveTo 5 none) ({ frames := 4, cells := 0, slots := 0, locals := 109 }) (va_Pc [.ref (Q 0), .int (iZ ((t : Int))), .int (iZ ((r : Int))), .int (iZ ((ix : Int)))] (mPre D Q G (fL, fS, fN, fD, X) sz)) (va_Qv (fun u : mT => ∃ Y : Nat → Int, mPost (upd fD t (iZ ((N : Int) - 1))) X Y u ∧ (∀ i : Nat, i < N → Y (9 * t + i) = mvd (fun k => Z (9 * r + k)) N (cv * 2 ^ (30 - lv)) (2 ^ (30 - lv)) i) ∧ ∀ c : Nat, c ≠ 135 → c ≠ 136 → (c < 9 * t ∨ 9 * t + N ≤ c) → Y c = Z c) (mAt D Q G (mA Q sz)) (mA Q sz)) 0 0 (mA Q sz) := by
  refine m_met (cc := cX5_moveTo) (maxL := 5) (ret := none) (by decide) rfl rfl (Nat.le_of_ble_eq_true rfl) ?_
  intro p e s m below meth c hsz C hr hlk
  refine w_sub [(0, .ref (Q 0)), (1, .int (iZ ((t : Int)))), (2, .int (iZ ((r : Int)))), (3, .int (iZ ((ix : Int))))] [0, 1, 2, 3] rfl ?_
  have hle : (2 : Int) ^ (30 - lv) ≤ 1073741824 := Int.le_trans (pow_mono (x := 2) (by decide) (show 30 - lv ≤ 30 by omega)) (by decide)
  have hl0 := i2pos (30 - lv)
  obtain ⟨nn, hnn⟩ : ∃ z : Int, z = cv * 2 ^ (30 - lv) := ⟨_, rfl⟩
  obtain ⟨ln, hln⟩ : ∃ z : Int, z = 2 ^ (30 - lv) := ⟨_, rfl⟩
  rw [← hln] at hle hl0
  rw [← hnn] at hcv2
  refine w_bipush C dX5_moveTo_0 (by decide) ?_
  refine w_aload_n C dX5_moveTo_2 0 rfl ?_
  refine w_get (ci := 5) (ref := "RootIsolatorModel") (T := TX5) (Cn := RX5) (N := 10) C (fun w h => wC_in (inX5 w h)) 0 rfl rfl 7 (by decide) (wC_in fX5_levels) rfl rfl dX5_moveTo_3 ?_
  refine w_iload_n C dX5_moveTo_6 3 rfl ?_
  refine w_iald C 6 0 rfl rfl (ix) ((lv : Int)) ⟨by omega, by omega, by omega⟩ (hlv) dX5_moveTo_7 ?_
  refine w_isub C dX5_moveTo_8 ?_
  refine w_top C (((30 - lv : Nat) : Int)) (by omega) ?_
  refine w_istore C [(4, .int (iZ (((30 - lv : Nat) : Int)))), (0, .ref (Q 0)), (1, .int (iZ ((t : Int)))), (2, .int (iZ ((r : Int)))), (3, .int (iZ ((ix : Int))))] dX5_moveTo_9 (by decide) rfl ?_
  refine w_aload_n C dX5_moveTo_11 1 rfl ?_
  refine w_iload_n C dX5_moveTo_12 2 rfl ?_
  refine w_iload_n C dX5_moveTo_13 3 rfl ?_
  refine w_aload_n C dX5_moveTo_14 1 rfl ?_
  refine w_get (ci := 5) (ref := "RootIsolatorModel") (T := TX5) (Cn := RX5) (N := 10) C (fun w h => wC_in (inX5 w h)) 0 rfl rfl 8 (by decide) (wC_in fX5_cells) rfl rfl dX5_moveTo_15 ?_
  refine w_iload_n C dX5_moveTo_18 4 rfl ?_
  refine w_lald C 7 1 rfl rfl (ix) (cv) ⟨by omega, by omega, by omega⟩ (hcv) dX5_moveTo_19 ?_
  refine w_iload C dX5_moveTo_20 0 rfl ?_
  refine w_lshl C (30 - lv) dX5_moveTo_22 ⟨rfl, by omega⟩ ?_
  refine w_topl C (nn) (hnn.symm) ?_
  refine w_lconst C 1 dX5_moveTo_23 rfl ?_
  refine w_iload C dX5_moveTo_24 0 rfl ?_
  refine w_lshl C (30 - lv) dX5_moveTo_26 ⟨rfl, by omega⟩ ?_
  refine w_topl C (ln) (by rw [Int.one_mul, hln]) ?_
  refine m_callv [.int (iZ ((t : Int))), .int (iZ ((r : Int))), .long (lZ (nn)), .long (lZ (ln))] hsz C (fun z => cm_move l D Q G fL fS fN fD X Z t r N nn ln (2 ^ 12009) (2 ^ 61) hZ ht hr2 htr hn hN (by omega) (by omega) (Int.le_of_lt (i2pos _)) (by decide) (Int.le_trans (show (nn.natAbs : Int) ≤ 2305843009213693952 by omega) (by decide)) (Int.le_trans (show (ln.natAbs : Int) ≤ 2305843009213693952 by omega) (by decide)) hB (bnd4 (by decide) (Int.le_refl _)) z) (cwV 4 C.1.2.2.2.2 (wC_V kX5_171 nX5_move slX5_move iniX5 cdX5_move) rfl rfl rfl (by decide +kernel) ⟨Nat.le_of_ble_eq_true rfl, Nat.le_of_ble_eq_true rfl⟩) rfl ⟨Nat.zero_le _, Nat.zero_le _⟩ (Nat.le_of_ble_eq_true rfl) dX5_moveTo_27 [.long (lZ (ln)), .long (lZ (nn)), .int (iZ ((r : Int))), .int (iZ ((t : Int))), .ref (Q 0)] rfl (fun v1 hv1 => ?_)
  obtain ⟨Y1, ⟨g1L, g1S, g1N, hZ1, rfl⟩, v1, v2⟩ := hv1
  exact m_vret hsz C hr hlk (⟨Y1, ⟨_, _, _, hZ1, rfl⟩, fun i hi => by rw [← hnn, ← hln]; exact v1 i hi, v2⟩) dX5_moveTo_30
set_option maxHeartbeats 4000000 in
set_option maxRecDepth 100000 in
/-- multiplicity of what there is not -/
theorem cm_multiplicityN (l : Launch) (D : va_G) (Q : Nat → Nat) (G : Nat → ClassId) (fL fS fN fD : Nat → Int32) (X : mX) (fd mn : Int) (i : Int) (hX1 : X.1 = iZ fd) (hX2 : X.2.1 = iZ mn) (hfd : fd = 0 ∨ fd = 1) (hmn : 0 ≤ mn ∧ mn ≤ 8) (hi : -2147483648 ≤ i ∧ i < 2147483648) (hbad : ¬ (fd = 1 ∧ 0 ≤ i ∧ i ≤ mn - 1)) (sz : Nat) : Met l yX5_multiplicity (wC yX5_multiplicity cX5_multiplicity 4 (some .int)) ({ frames := 7, cells := 0, slots := 0, locals := 176 }) (va_Pc [.ref (Q 0), .int (iZ (i))] (mPre D Q G (fL, fS, fN, fD, X) sz)) (va_Qi (fun (q : Int32) (u : mT) => q = iZ (-1) ∧ u = (fL, fS, fN, fD, X)) (mAt D Q G (mA Q sz)) (mA Q sz)) 0 0 (mA Q sz) := by
  refine m_met (cc := cX5_multiplicity) (maxL := 4) (ret := (some .int)) (by decide) rfl rfl (Nat.le_of_ble_eq_true rfl) ?_
  intro p e s m below meth c hsz C hr hlk
  refine w_sub [(0, .ref (Q 0)), (1, .int (iZ (i)))] [0, 1] rfl ?_
  refine w_aload_n C dX5_multiplicity_0 0 rfl ?_
  refine w_iload_n C dX5_multiplicity_1 1 rfl ?_
  refine m_calli [.int (iZ (i))] hsz C (fun z => cm_isRoot l D Q G fL fS fN fD X fd mn i hX1 hX2 hfd hmn hi z) (cwV 1 C.1.2.2.2.2 (wC_V kX5_193 nX5_isRoot slX5_isRoot iniX5 cdX5_isRoot) rfl rfl rfl (by decide +kernel) ⟨Nat.le_of_ble_eq_true rfl, Nat.le_of_ble_eq_true rfl⟩) rfl ⟨Nat.zero_le _, Nat.zero_le _⟩ (Nat.le_of_ble_eq_true rfl) dX5_multiplicity_2 [.int (iZ (i)), .ref (Q 0)] rfl (fun r v1 hv1 => ?_)
  obtain ⟨rfl, rfl⟩ := hv1
  refine w_top C (0) (if_neg hbad) ?_
  refine w_if_ne C 10 dX5_multiplicity_5 (by decide) ⟨by omega, by omega⟩ (fun c5 => ?_) (fun c5 => ?_)
  · exact absurd c5 (by omega)
  · refine w_iconst C dX5_multiplicity_8 ?_
    exact m_iret hsz C hr hlk (⟨rfl, rfl⟩) dX5_multiplicity_9
set_option maxHeartbeats 4000000 in
set_option maxRecDepth 100000 in
/-- signAt of what there is not -/
theorem cm_signAtN (l : Launch) (D : va_G) (Q : Nat → Nat) (G : Nat → ClassId) (fL fS fN fD : Nat → Int32) (X : mX) (fd mn : Int) (i : Int) (hX1 : X.1 = iZ fd) (hX2 : X.2.1 = iZ mn) (hfd : fd = 0 ∨ fd = 1) (hmn : 0 ≤ mn ∧ mn ≤ 8) (hi : -2147483648 ≤ i ∧ i < 2147483648) (hbad : ¬ (fd = 1 ∧ 0 ≤ i ∧ i ≤ mn - 1)) (sz : Nat) : Met l yX5_signAt (wC yX5_signAt cX5_signAt 2 (some .int)) ({ frames := 7, cells := 0, slots := 0, locals := 176 }) (va_Pc [.ref (Q 0), .int (iZ (i))] (mPre D Q G (fL, fS, fN, fD, X) sz)) (va_Qi (fun (q : Int32) (u : mT) => q = iZ (-9) ∧ u = (fL, fS, fN, fD, X)) (mAt D Q G (mA Q sz)) (mA Q sz)) 0 0 (mA Q sz) := by
  refine m_met (cc := cX5_signAt) (maxL := 2) (ret := (some .int)) (by decide) rfl rfl (Nat.le_of_ble_eq_true rfl) ?_
  intro p e s m below meth c hsz C hr hlk
  refine w_sub [(0, .ref (Q 0)), (1, .int (iZ (i)))] [0, 1] rfl ?_
  refine w_aload_n C dX5_signAt_0 0 rfl ?_
  refine w_iload_n C dX5_signAt_1 1 rfl ?_
  refine m_calli [.int (iZ (i))] hsz C (fun z => cm_isRoot l D Q G fL fS fN fD X fd mn i hX1 hX2 hfd hmn hi z) (cwV 1 C.1.2.2.2.2 (wC_V kX5_193 nX5_isRoot slX5_isRoot iniX5 cdX5_isRoot) rfl rfl rfl (by decide +kernel) ⟨Nat.le_of_ble_eq_true rfl, Nat.le_of_ble_eq_true rfl⟩) rfl ⟨Nat.zero_le _, Nat.zero_le _⟩ (Nat.le_of_ble_eq_true rfl) dX5_signAt_2 [.int (iZ (i)), .ref (Q 0)] rfl (fun r v1 hv1 => ?_)
  obtain ⟨rfl, rfl⟩ := hv1
  refine w_top C (0) (if_neg hbad) ?_
  refine w_if_ne C 11 dX5_signAt_5 (by decide) ⟨by omega, by omega⟩ (fun c5 => ?_) (fun c5 => ?_)
  · exact absurd c5 (by omega)
  · refine w_bipush C dX5_signAt_8 (by decide) ?_
    exact m_iret hsz C hr hlk (⟨rfl, rfl⟩) dX5_signAt_10
set_option maxHeartbeats 4000000 in
set_option maxRecDepth 100000 in
/-- exact of what there is not -/
theorem cm_exactN (l : Launch) (D : va_G) (Q : Nat → Nat) (G : Nat → ClassId) (fL fS fN fD : Nat → Int32) (X : mX) (fd mn : Int) (i : Int) (hX1 : X.1 = iZ fd) (hX2 : X.2.1 = iZ mn) (hfd : fd = 0 ∨ fd = 1) (hmn : 0 ≤ mn ∧ mn ≤ 8) (hi : -2147483648 ≤ i ∧ i < 2147483648) (hbad : ¬ (fd = 1 ∧ 0 ≤ i ∧ i ≤ mn - 1)) (sz : Nat) : Met l yX5_exact (wC yX5_exact cX5_exact 2 (some .int)) ({ frames := 4, cells := 0, slots := 0, locals := 106 }) (va_Pc [.ref (Q 0), .int (iZ (i))] (mPre D Q G (fL, fS, fN, fD, X) sz)) (va_Qi (fun (q : Int32) (u : mT) => q = iZ (-1) ∧ u = (fL, fS, fN, fD, X)) (mAt D Q G (mA Q sz)) (mA Q sz)) 0 0 (mA Q sz) := by
  refine m_met (cc := cX5_exact) (maxL := 2) (ret := (some .int)) (by decide) rfl rfl (Nat.le_of_ble_eq_true rfl) ?_
  intro p e s m below meth c hsz C hr hlk
  refine w_sub [(0, .ref (Q 0)), (1, .int (iZ (i)))] [0, 1] rfl ?_
  refine w_aload_n C dX5_exact_0 0 rfl ?_
  refine w_iload_n C dX5_exact_1 1 rfl ?_
  refine m_calli [.int (iZ (i))] hsz C (fun z => cm_isRoot l D Q G fL fS fN fD X fd mn i hX1 hX2 hfd hmn hi z) (cwV 1 C.1.2.2.2.2 (wC_V kX5_193 nX5_isRoot slX5_isRoot iniX5 cdX5_isRoot) rfl rfl rfl (by decide +kernel) ⟨Nat.le_of_ble_eq_true rfl, Nat.le_of_ble_eq_true rfl⟩) rfl ⟨Nat.zero_le _, Nat.zero_le _⟩ (Nat.le_of_ble_eq_true rfl) dX5_exact_2 [.int (iZ (i)), .ref (Q 0)] rfl (fun r v1 hv1 => ?_)
  obtain ⟨rfl, rfl⟩ := hv1
  refine w_top C (0) (if_neg hbad) ?_
  refine w_if_ne C 10 dX5_exact_5 (by decide) ⟨by omega, by omega⟩ (fun c5 => ?_) (fun c5 => ?_)
  · exact absurd c5 (by omega)
  · refine w_iconst C dX5_exact_8 ?_
    exact m_iret hsz C hr hlk (⟨rfl, rfl⟩) dX5_exact_9
set_option maxHeartbeats 4000000 in
set_option maxRecDepth 100000 in
/-- multiplicity -/
theorem cm_multiplicity (l : Launch) (D : va_G) (Q : Nat → Nat) (G : Nat → ClassId) (fL fS fN fD : Nat → Int32) (X : mX) (Z : Nat → Int) (N kf : Nat) (ix lv : Nat) (cv mn : Int) (hZ : mAll fL fS fN Z) (hX1 : X.1 = iZ 1) (hX2 : X.2.1 = iZ mn) (hmn : mn ≤ 8) (hix : (ix : Int) ≤ mn - 1) (hlv : X.2.2.1 ix = iZ lv) (hlv2 : lv ≤ 30) (hcv : X.2.2.2.1 ix = lZ cv) (hcv2 : -2305843009213693952 ≤ cv * 2 ^ (30 - lv) ∧ cv * 2 ^ (30 - lv) ≤ 2305843009213693952) (hT : topN X.2.2.2.2.2.1 N) (hC : mulOK (cv * 2 ^ (30 - lv)) (2 ^ (30 - lv)) kf (gz X.2.2.2.2.2.1) N) (sz : Nat) : Met l yX5_multiplicity (wC yX5_multiplicity cX5_multiplicity 4 (some .int)) ({ frames := 7, cells := 0, slots := 0, locals := 176 }) (va_Pc [.ref (Q 0), .int (iZ ((ix : Int)))] (mPre D Q G (fL, fS, fN, fD, X) sz)) (va_Qi (fun (q : Int32) (u : mT) => mScr X u ∧ ∃ v : Nat, mulR (cv * 2 ^ (30 - lv)) (2 ^ (30 - lv)) kf (gz X.2.2.2.2.2.1) N v ∧ q = iZ v) (mAt D Q G (mA Q sz)) (mA Q sz)) 0 0 (mA Q sz) := by
  refine m_met (cc := cX5_multiplicity) (maxL := 4) (ret := (some .int)) (by decide) rfl rfl (Nat.le_of_ble_eq_true rfl) ?_
  intro p e s m below meth c hsz C hr hlk
  refine w_sub [(0, .ref (Q 0)), (1, .int (iZ ((ix : Int))))] [0, 1] rfl ?_
  refine w_aload_n C dX5_multiplicity_0 0 rfl ?_
  refine w_iload_n C dX5_multiplicity_1 1 rfl ?_
  refine m_calli [.int (iZ ((ix : Int)))] hsz C (fun z => cm_isRoot l D Q G fL fS fN fD X 1 mn (ix : Int) hX1 hX2 (Or.inr rfl) (by omega) (by omega) z) (cwV 1 C.1.2.2.2.2 (wC_V kX5_193 nX5_isRoot slX5_isRoot iniX5 cdX5_isRoot) rfl rfl rfl (by decide +kernel) ⟨Nat.le_of_ble_eq_true rfl, Nat.le_of_ble_eq_true rfl⟩) rfl ⟨Nat.zero_le _, Nat.zero_le _⟩ (Nat.le_of_ble_eq_true rfl) dX5_multiplicity_2 [.int (iZ ((ix : Int))), .ref (Q 0)] rfl (fun r v1 hv1 => ?_)
  obtain ⟨rfl, rfl⟩ := hv1
  refine w_top C (1) (if_pos ⟨rfl, by omega, hix⟩) ?_
  refine w_if_ne C 10 dX5_multiplicity_5 (by decide) ⟨by omega, by omega⟩ (fun c5 => ?_) (fun c5 => ?_)
  · refine w_aload_n C dX5_multiplicity_10 0 rfl ?_
    refine w_iconst C dX5_multiplicity_11 ?_
    refine w_iconst C dX5_multiplicity_12 ?_
    refine m_callv [.int (iZ (0)), .int (iZ (0))] hsz C (fun z => cm_take0 l D Q G fL fS fN fD X Z 0 hZ (by omega) z) (cwV 2 C.1.2.2.2.2 (wC_V kX5_165 nX5_take slX5_take iniX5 cdX5_take) rfl rfl rfl (by decide +kernel) ⟨Nat.le_of_ble_eq_true rfl, Nat.le_of_ble_eq_true rfl⟩) rfl ⟨Nat.zero_le _, Nat.zero_le _⟩ (Nat.le_of_ble_eq_true rfl) dX5_multiplicity_13 [.int (iZ (0)), .int (iZ (0)), .ref (Q 0)] rfl (fun v2 hv2 => ?_)
    obtain ⟨Y1, j0, ⟨g1L, g1S, g1N, hZ1, rfl⟩, a1, a2, a3, a4, a5⟩ := hv2
    have ej : j0 = N := topN_u ⟨a1, a2, a3⟩ hT
    subst ej
    refine w_iconst C dX5_multiplicity_16 ?_
    refine w_istore_n C [(2, .int (iZ (0))), (0, .ref (Q 0)), (1, .int (iZ ((ix : Int))))] dX5_multiplicity_17 rfl (by decide) rfl ?_
    refine w_iconst C dX5_multiplicity_18 ?_
    refine w_istore_n C [(3, .int (iZ (1))), (2, .int (iZ (0))), (0, .ref (Q 0)), (1, .int (iZ ((ix : Int))))] dX5_multiplicity_19 rfl (by decide) rfl ?_
    have loop : ∀ (k : Nat) (n0 : Nat) (a : Nat → Int) (Na : Nat) (Y : Nat → Int) (kL : Nat → Int32) (kS : Nat → Int32) (kN : Nat → Int32) (gD : Nat → Int32) (fB : Nat → Int32), mAll kL kS kN Y → gD 0 = iZ ((Na : Int) - 1) → Na ≤ 9 → (∀ i : Nat, i < Na → Y (9 * 0 + i) = a i) → ldn a Na → mulOK (cv * 2 ^ (30 - lv)) (2 ^ (30 - lv)) k a Na → (∀ w : Nat, mulR (cv * 2 ^ (30 - lv)) (2 ^ (30 - lv)) k a Na w → mulR (cv * 2 ^ (30 - lv)) (2 ^ (30 - lv)) kf (gz X.2.2.2.2.2.1) j0 (n0 + w)) → ZW p l e ({ frames := 7, cells := 0, slots := 0, locals := 176 }) s m ([.ref (Q 0), .int (iZ ((ix : Int)))] : List Value).toArray below meth c D (mA Q sz) 4 0 0 (MQ below (va_Qi (fun (q : Int32) (u : mT) => mScr X u ∧ ∃ v : Nat, mulR (cv * 2 ^ (30 - lv)) (2 ^ (30 - lv)) kf (gz X.2.2.2.2.2.1) j0 v ∧ q = iZ v) (mAt D Q G (mA Q sz)) (mA Q sz)) ([.ref (Q 0), .int (iZ ((ix : Int)))] : List Value).toArray s 0 0 (mA Q sz)) (mU Q G (kL, kS, kN, gD, (xB X fB))) 20 [(3, .int (iZ (1))), (2, .int (iZ (((n0 : Nat) : Int)))), (0, .ref (Q 0)), (1, .int (iZ ((ix : Int))))] [] := by
      intro k
      induction k with
      | zero =>
        intro n0 a Na Y kL kS kN gD fB hZ hg0 hNa ha hla hok K
        exact hok.elim
      | succ k ih =>
        intro n0 a Na Y kL kS kN gD fB hZ hg0 hNa ha hla hok K
        obtain ⟨o1, o2, o3, o4⟩ := hok
        refine w_iload_n C dX5_multiplicity_20 0 rfl ?_
        refine w_if_eq C 76 dX5_multiplicity_21 (by decide) ⟨by omega, by omega⟩ (fun c21 => ?_) (fun c21 => ?_)
        · exact absurd c21 (by omega)
        · refine w_aload_n C dX5_multiplicity_24 2 rfl ?_
          refine w_iconst C dX5_multiplicity_25 ?_
          refine w_iconst C dX5_multiplicity_26 ?_
          refine m_callv [.int (iZ (5)), .int (iZ (0))] hsz C (fun z => cm_makeFree l D Q G kL kS kN gD (xB X fB) Y 5 0 Na hZ (Or.inl rfl) (by omega) hg0 hNa o2 (fun i hi => by show Y (9 * 0 + i) ≠ 0; rw [ha i (by omega)]; exact hla i hi) (fun i hi => by rw [ha i hi]; exact o1 i hi) (fun x1 x2 h1 h2 => o3 x1 x2 (primR_left h1 ha) (primR_left h2 (fun i hi => congrArg (· * ((i + 1 : Nat) : Int)) (ha (i + 1) (by omega))))) z) (cwV 2 C.1.2.2.2.2 (wC_V kX5_168 nX5_makeFree slX5_makeFree iniX5 cdX5_makeFree) rfl rfl rfl (by decide +kernel) ⟨Nat.le_of_ble_eq_true rfl, Nat.le_of_ble_eq_true rfl⟩) rfl ⟨Nat.zero_le _, Nat.zero_le _⟩ (Nat.le_of_ble_eq_true rfl) dX5_multiplicity_27 [.int (iZ (0)), .int (iZ (5)), .ref (Q 0)] rfl (fun v103 hv103 => ?_)
          obtain ⟨Y2, gD2, NG, ⟨g2L, g2S, g2N, hZ2, rfl⟩, m5, m7, mN, mP, ml7, mo7, ml5, mfr, mfb, mq, mf⟩ := hv103
          have hfree := freeR_congr mfr ha
          obtain ⟨h, hh, hTV, hu100, hnx⟩ := o4 _ _ _ _ hfree
          refine w_aload_n C dX5_multiplicity_30 2 rfl ?_
          refine w_iconst C dX5_multiplicity_31 ?_
          refine w_bipush C dX5_multiplicity_32 (by decide) ?_
          refine m_callv [.int (iZ (0)), .int (iZ (7))] hsz C (fun z => cm_copyRow l D Q G g2L g2S g2N gD2 (xB X fB) Y2 0 7 NG hZ2 (by omega) (by omega) m7 (by omega) z) (cwV 2 C.1.2.2.2.2 (wC_V kX5_94 nX5_copyRow slX5_copyRow iniX5 cdX5_copyRow) rfl rfl rfl (by decide +kernel) ⟨Nat.le_of_ble_eq_true rfl, Nat.le_of_ble_eq_true rfl⟩) rfl ⟨Nat.zero_le _, Nat.zero_le _⟩ (Nat.le_of_ble_eq_true rfl) dX5_multiplicity_34 [.int (iZ (7)), .int (iZ (0)), .ref (Q 0)] rfl (fun v104 hv104 => ?_)
          obtain ⟨Y3, ⟨g3L, g3S, g3N, hZ3, rfl⟩, y3a, y3b⟩ := hv104
          refine w_aload_n C dX5_multiplicity_37 2 rfl ?_
          refine w_bipush C dX5_multiplicity_38 (by decide) ?_
          refine w_iconst C dX5_multiplicity_40 ?_
          refine w_iload_n C dX5_multiplicity_41 3 rfl ?_
          refine m_callv [.int (iZ (8)), .int (iZ (5)), .int (iZ ((ix : Int)))] hsz C (fun z => cm_moveTo l D Q G g3L g3S g3N (upd gD2 0 (iZ ((NG : Int) - 1))) (xB X fB) Y3 8 5 (Na - NG + 1) ix lv cv hZ3 (by omega) (by omega) (by omega) ((upd_ne (by omega)).trans m5) (by omega) (by omega) hlv hlv2 hcv hcv2 (fun i hi => by rw [y3b _ (by omega)]; exact mfb i hi) z) (cwV 3 C.1.2.2.2.2 (wC_V kX5_200 nX5_moveTo slX5_moveTo iniX5 cdX5_moveTo) rfl rfl rfl (by decide +kernel) ⟨Nat.le_of_ble_eq_true rfl, Nat.le_of_ble_eq_true rfl⟩) rfl ⟨Nat.zero_le _, Nat.zero_le _⟩ (Nat.le_of_ble_eq_true rfl) dX5_multiplicity_42 [.int (iZ ((ix : Int))), .int (iZ (5)), .int (iZ (8)), .ref (Q 0)] rfl (fun v105 hv105 => ?_)
          obtain ⟨Y4, ⟨g4L, g4S, g4N, hZ4, rfl⟩, v1, v2⟩ := hv105
          have hmv : ∀ i : Nat, i < Na - NG + 1 → Y4 (9 * 8 + i) = mvd (fun i => Y2 (9 * 5 + i)) (Na - NG + 1) (cv * 2 ^ (30 - lv)) (2 ^ (30 - lv)) i := fun i hi => by
            rw [v1 i hi]
            exact mvd_congr (fun k hk => y3b _ (by omega)) hi
          refine w_aload_n C dX5_multiplicity_45 2 rfl ?_
          refine w_bipush C dX5_multiplicity_46 (by decide) ?_
          refine m_calli [.int (iZ (8))] hsz C (fun z => cm_upTo l D Q G g4L g4S g4N (upd (upd gD2 0 (iZ ((NG : Int) - 1))) 8 (iZ (((Na - NG + 1 : Nat) : Int) - 1))) (xB X fB) Y4 (mvd (fun i => Y2 (9 * 5 + i)) (Na - NG + 1) (cv * 2 ^ (30 - lv)) (2 ^ (30 - lv))) 8 (Na - NG + 1) h hZ4 (by omega) upd_eq (by omega) hmv hTV hh z) (cwV 1 C.1.2.2.2.2 (wC_V kX5_175 nX5_upTo slX5_upTo iniX5 cdX5_upTo) rfl rfl rfl (by decide +kernel) ⟨Nat.le_of_ble_eq_true rfl, Nat.le_of_ble_eq_true rfl⟩) rfl ⟨Nat.zero_le _, Nat.zero_le _⟩ (Nat.le_of_ble_eq_true rfl) dX5_multiplicity_48 [.int (iZ (8)), .ref (Q 0)] rfl (fun r v106 hv106 => ?_)
          obtain ⟨rfl, Y7, tD, fB2, ⟨tL, tS, tN, hZ7, rfl⟩, d1, d2⟩ := hv106
          obtain ⟨uv, huv⟩ : ∃ z : Int, z = UV (Na - NG + 1) h (mvd (fun i => Y2 (9 * 5 + i)) (Na - NG + 1) (cv * 2 ^ (30 - lv)) (2 ^ (30 - lv))) := ⟨_, rfl⟩
          rw [← huv]
          have huv0 : 0 ≤ uv := by rw [huv]; exact UV_0 _ _ _
          rw [← huv] at hu100 hnx
          refine w_iconst C dX5_multiplicity_51 ?_
          refine w_icmp_ne C 59 dX5_multiplicity_52 (by decide) ⟨⟨by omega, by omega⟩, by omega, by omega⟩ (fun c52 => ?_) (fun c52 => ?_)
          · refine w_iconst C dX5_multiplicity_59 ?_
            refine w_istore_n C [(3, .int (iZ (0))), (2, .int (iZ (((n0 : Nat) : Int)))), (0, .ref (Q 0)), (1, .int (iZ ((ix : Int))))] dX5_multiplicity_60 rfl (by decide) rfl ?_
            refine w_iload_n C dX5_multiplicity_61 0 rfl ?_
            refine w_if_eq C 71 dX5_multiplicity_62 (by decide) ⟨by omega, by omega⟩ (fun c62 => ?_) (fun c62 => ?_)
            · refine w_iload_n C dX5_multiplicity_71 1 rfl ?_
              refine w_istore_n C [(2, .int (iZ (((n0 : Nat) : Int)))), (3, .int (iZ (0))), (0, .ref (Q 0)), (1, .int (iZ ((ix : Int))))] dX5_multiplicity_72 rfl (by decide) rfl ?_
              refine w_goto C 20 dX5_multiplicity_73 (by decide) ?_
              refine w_sub [(3, .int (iZ (0))), (2, .int (iZ (((n0 : Nat) : Int)))), (0, .ref (Q 0)), (1, .int (iZ ((ix : Int))))] [1, 0, 2, 3] rfl ?_
              refine w_iload_n C dX5_multiplicity_20 0 rfl ?_
              refine w_if_eq C 76 dX5_multiplicity_21 (by decide) ⟨by omega, by omega⟩ (fun c21b => ?_) (fun c21b => ?_)
              · refine w_iload_n C dX5_multiplicity_76 1 rfl ?_
                exact m_iret hsz C hr hlk (⟨⟨Y7, tD, fB2, ⟨_, _, _, hZ7, rfl⟩⟩, n0, by have g := K 0 ⟨_, _, _, NG, h, hfree, ml5, hh, hTV, Or.inl ⟨by rw [← huv]; exact c52, rfl⟩⟩; exact g, rfl⟩) dX5_multiplicity_77
              · exact absurd c21b (by omega)
            · exact absurd c62 (by omega)
          · refine w_iconst C dX5_multiplicity_55 ?_
            refine w_goto C 60 dX5_multiplicity_56 (by decide) ?_
            refine w_istore_n C [(3, .int (iZ (1))), (2, .int (iZ (((n0 : Nat) : Int)))), (0, .ref (Q 0)), (1, .int (iZ ((ix : Int))))] dX5_multiplicity_60 rfl (by decide) rfl ?_
            refine w_iload_n C dX5_multiplicity_61 0 rfl ?_
            refine w_if_eq C 71 dX5_multiplicity_62 (by decide) ⟨by omega, by omega⟩ (fun c62 => ?_) (fun c62 => ?_)
            · exact absurd c62 (by omega)
            · refine w_iload_n C dX5_multiplicity_65 1 rfl ?_
              refine w_iconst C dX5_multiplicity_66 ?_
              refine w_iadd C dX5_multiplicity_67 ?_
              refine w_top C (((n0 + 1 : Nat) : Int)) (by omega) ?_
              refine w_goto C 72 dX5_multiplicity_68 (by decide) ?_
              refine w_istore_n C [(2, .int (iZ (((n0 + 1 : Nat) : Int)))), (3, .int (iZ (1))), (0, .ref (Q 0)), (1, .int (iZ ((ix : Int))))] dX5_multiplicity_72 rfl (by decide) rfl ?_
              refine w_goto C 20 dX5_multiplicity_73 (by decide) ?_
              refine w_sub [(3, .int (iZ (1))), (2, .int (iZ (((n0 + 1 : Nat) : Int)))), (0, .ref (Q 0)), (1, .int (iZ ((ix : Int))))] [1, 0, 2, 3] rfl ?_
              exact ih (n0 + 1) (fun i => Y2 (9 * 7 + i)) NG Y7 _ _ _ _ _ hZ7 ((d1 0 (by omega) (by omega)).trans ((upd_ne (by omega)).trans upd_eq)) (by omega) (fun i hi => by rw [d2 _ (by omega) (by omega), v2 _ (by omega) (by omega) (by omega)]; exact y3a i hi) ml7 (hnx (by omega)) (fun w hw => by rw [show n0 + 1 + w = n0 + (w + 1) by omega]; exact K (w + 1) ⟨_, _, _, NG, h, hfree, ml5, hh, hTV, Or.inr ⟨by rw [← huv]; omega, w, hw, rfl⟩⟩)
    exact loop kf 0 (gz X.2.2.2.2.2.1) j0 Y1 _ _ _ _ X.2.2.2.2.1 hZ1 upd_eq a1 (fun i hi => a4 i (by omega)) (gz_ldn hT) hC (fun w hw => by rw [Nat.zero_add]; exact hw)
  · exact absurd c5 (by omega)
