theorem mul_rng {a b : Int} (ha : -2147483648 ≤ a ∧ a < 2147483648) (hb : -2147483648 ≤ b ∧ b < 2147483648) : -4611686018427387904 ≤ a * b ∧ a * b ≤ 4611686018427387904 := by
  have h : ((a * b).natAbs : Int) ≤ 4611686018427387904 := by
    rw [Int.natAbs_mul, Int.natCast_mul]
    have h1 := Int.mul_le_mul (show (a.natAbs : Int) ≤ 2147483648 by omega) (show (b.natAbs : Int) ≤ 2147483648 by omega) (by omega) (show (0 : Int) ≤ 2147483648 by omega)
    omega
  omega
/-- a number between -most and most -/
def clampZ (n most : Int) : Int := if most < n then most else if n < -most then -most else n
/-- coefficient k of the polynomial times x less r -/
def tmA (g : Nat → Int32) (r : Int) (k : Nat) : Int := (if k = 0 then 0 else (g (k - 1)).toInt) - r * (g k).toInt
theorem tmA_r (g : Nat → Int32) {r : Int} (hr : -2147483648 ≤ r ∧ r < 2147483648) (k : Nat) : -9223372036854775808 ≤ tmA g r k ∧ tmA g r k < 9223372036854775808 := by
  have h1 := mul_rng hr (i32r (g k))
  have h2 := i32r (g (k - 1))
  unfold tmA
  split <;> omega
theorem tmA_congr {g h : Nat → Int32} {r : Int} {k : Nat} (h1 : g k = h k) (h2 : 0 < k → g (k - 1) = h (k - 1)) : tmA g r k = tmA h r k := by
  unfold tmA
  rw [h1]
  split
  · rfl
  · rw [h2 (by omega)]
set_option maxHeartbeats 4000000 in
set_option maxRecDepth 100000 in
/-- isRoot -/
theorem cm_isRoot (l : Launch) (D : va_G) (Q : Nat → Nat) (G : Nat → ClassId) (fL fS fN fD : Nat → Int32) (X : mX) (fd mn : Int) (i : Int) (hX1 : X.1 = iZ fd) (hX2 : X.2.1 = iZ mn) (hfd : fd = 0 ∨ fd = 1) (hmn : 0 ≤ mn ∧ mn ≤ 8) (hi : -2147483648 ≤ i ∧ i < 2147483648) (sz : Nat) : Met l yX5_isRoot (wC yX5_isRoot cX5_isRoot 2 (some .boolean)) ({ frames := 1, cells := 0, slots := 0, locals := 25 }) (va_Pc [.ref (Q 0), .int (iZ (i))] (mPre D Q G (fL, fS, fN, fD, X) sz)) (va_Qi (fun (r : Int32) (u : mT) => r = iZ (if fd = 1 ∧ 0 ≤ i ∧ i ≤ mn - 1 then 1 else 0) ∧ u = (fL, fS, fN, fD, X)) (mAt D Q G (mA Q sz)) (mA Q sz)) 0 0 (mA Q sz) := by
  refine m_met (cc := cX5_isRoot) (maxL := 2) (ret := (some .boolean)) (by decide) rfl rfl (Nat.le_of_ble_eq_true rfl) ?_
  intro p e s m below meth c hsz C hr hlk
  refine w_sub [(0, .ref (Q 0)), (1, .int (iZ (i)))] [0, 1] rfl ?_
  refine w_aload_n C dX5_isRoot_0 0 rfl ?_
  refine w_get (ci := 5) (ref := "RootIsolatorModel") (T := TX5) (Cn := RX5) (N := 10) C (fun w h => wC_in (inX5 w h)) 0 rfl rfl 5 (by decide) (wC_in fX5_isFound) rfl rfl dX5_isRoot_1 ?_
  refine w_topR C (fd) (hX1) ?_
  refine w_if_eq C 27 dX5_isRoot_4 (by decide) ⟨by omega, by omega⟩ (fun c4 => ?_) (fun c4 => ?_)
  · have hz : (if fd = 1 ∧ 0 ≤ i ∧ i ≤ mn - 1 then (1 : Int) else 0) = 0 := if_neg (fun g => by first | (rw [if_pos g.2] at c20; omega) | omega)
    refine w_iconst C dX5_isRoot_27 ?_
    exact m_zret hsz C hr (rfl) hlk (⟨by rw [hz], rfl⟩) dX5_isRoot_28
  · refine w_iload_n C dX5_isRoot_7 1 rfl ?_
    refine w_i2l C dX5_isRoot_8 ⟨by omega, by omega⟩ ?_
    refine w_lconst C 0 dX5_isRoot_9 rfl ?_
    refine w_aload_n C dX5_isRoot_10 0 rfl ?_
    refine w_get (ci := 5) (ref := "RootIsolatorModel") (T := TX5) (Cn := RX5) (N := 10) C (fun w h => wC_in (inX5 w h)) 0 rfl rfl 6 (by decide) (wC_in fX5_many) rfl rfl dX5_isRoot_11 ?_
    refine w_topR C (mn) (hX2) ?_
    refine w_iconst C dX5_isRoot_14 ?_
    refine w_isub C dX5_isRoot_15 ?_
    refine w_i2l C dX5_isRoot_16 ⟨by omega, by omega⟩ ?_
    refine m_callSi [.long (lZ (i)), .long (lZ (0)), .long (lZ (mn - 1))] hsz C (fun z => cm_in l D Q G fL fS fN fD X (i) (0) (mn - 1) (by omega) (by omega) (by omega) z) (cwS 3 C.1.2.2.2.2 (wC_S kX5_132 stX5_in iniX5 cdX5_in) rfl rfl rfl (by decide +kernel) ⟨Nat.le_of_ble_eq_true rfl, Nat.le_of_ble_eq_true rfl⟩) rfl ⟨Nat.zero_le _, Nat.zero_le _⟩ (Nat.le_of_ble_eq_true rfl) dX5_isRoot_17 [.long (lZ (mn - 1)), .long (lZ (0)), .long (lZ (i))] rfl (fun r v1 hv1 => ?_)
    obtain ⟨rfl, rfl⟩ := hv1
    refine w_if_eq C 27 dX5_isRoot_20 (by decide) (by split <;> omega) (fun c20 => ?_) (fun c20 => ?_)
    · have hz : (if fd = 1 ∧ 0 ≤ i ∧ i ≤ mn - 1 then (1 : Int) else 0) = 0 := if_neg (fun g => by first | (rw [if_pos g.2] at c20; omega) | omega)
      refine w_iconst C dX5_isRoot_27 ?_
      exact m_zret hsz C hr (rfl) hlk (⟨by rw [hz], rfl⟩) dX5_isRoot_28
    · have hz : (if fd = 1 ∧ 0 ≤ i ∧ i ≤ mn - 1 then (1 : Int) else 0) = 1 := if_pos ⟨by omega, Decidable.byContradiction (fun g => c20 (if_neg g))⟩
      refine w_iconst C dX5_isRoot_23 ?_
      refine w_goto C 28 dX5_isRoot_24 (by decide) ?_
      exact m_zret hsz C hr (rfl) hlk (⟨by rw [hz], rfl⟩) dX5_isRoot_28
set_option maxHeartbeats 4000000 in
set_option maxRecDepth 100000 in
/-- level -/
theorem cm_level (l : Launch) (D : va_G) (Q : Nat → Nat) (G : Nat → ClassId) (fL fS fN fD : Nat → Int32) (X : mX) (fd mn : Int) (i : Int) (hX1 : X.1 = iZ fd) (hX2 : X.2.1 = iZ mn) (hfd : fd = 0 ∨ fd = 1) (hmn : 0 ≤ mn ∧ mn ≤ 8) (hi : -2147483648 ≤ i ∧ i < 2147483648) (sz : Nat) : Met l yX5_level (wC yX5_level cX5_level 2 (some .int)) ({ frames := 2, cells := 0, slots := 0, locals := 46 }) (va_Pc [.ref (Q 0), .int (iZ (i))] (mPre D Q G (fL, fS, fN, fD, X) sz)) (va_Qi (fun (r : Int32) (u : mT) => r = (if fd = 1 ∧ 0 ≤ i ∧ i ≤ mn - 1 then X.2.2.1 i.toNat else iZ (-1)) ∧ u = (fL, fS, fN, fD, X)) (mAt D Q G (mA Q sz)) (mA Q sz)) 0 0 (mA Q sz) := by
  refine m_met (cc := cX5_level) (maxL := 2) (ret := (some .int)) (by decide) rfl rfl (Nat.le_of_ble_eq_true rfl) ?_
  intro p e s m below meth c hsz C hr hlk
  refine w_sub [(0, .ref (Q 0)), (1, .int (iZ (i)))] [0, 1] rfl ?_
  refine w_aload_n C dX5_level_0 0 rfl ?_
  refine w_iload_n C dX5_level_1 1 rfl ?_
  refine m_calli [.int (iZ (i))] hsz C (fun z => cm_isRoot l D Q G fL fS fN fD X fd mn i hX1 hX2 hfd hmn hi z) (cwV 1 C.1.2.2.2.2 (wC_V kX5_193 nX5_isRoot slX5_isRoot iniX5 cdX5_isRoot) rfl rfl rfl (by decide +kernel) ⟨Nat.le_of_ble_eq_true rfl, Nat.le_of_ble_eq_true rfl⟩) rfl ⟨Nat.zero_le _, Nat.zero_le _⟩ (Nat.le_of_ble_eq_true rfl) dX5_level_2 [.int (iZ (i)), .ref (Q 0)] rfl (fun r v1 hv1 => ?_)
  obtain ⟨rfl, rfl⟩ := hv1
  refine w_if_eq C 17 dX5_level_5 (by decide) (by split <;> omega) (fun c5 => ?_) (fun c5 => ?_)
  · have hrt : ¬ (fd = 1 ∧ 0 ≤ i ∧ i ≤ mn - 1) := fun g => by rw [if_pos g] at c5; omega
    refine w_iconst C dX5_level_17 ?_
    exact m_iret hsz C hr hlk (⟨by rw [if_neg hrt], rfl⟩) dX5_level_18
  · have hrt : fd = 1 ∧ 0 ≤ i ∧ i ≤ mn - 1 := Decidable.byContradiction (fun g => c5 (if_neg g))
    refine w_aload_n C dX5_level_8 0 rfl ?_
    refine w_get (ci := 5) (ref := "RootIsolatorModel") (T := TX5) (Cn := RX5) (N := 10) C (fun w h => wC_in (inX5 w h)) 0 rfl rfl 7 (by decide) (wC_in fX5_levels) rfl rfl dX5_level_9 ?_
    refine w_iload_n C dX5_level_12 1 rfl ?_
    refine w_iald C 6 0 rfl rfl (i.toNat) ((X.2.2.1 i.toNat).toInt) ⟨by omega, by omega, by omega⟩ ((iZ_self _).symm) dX5_level_13 ?_
    refine w_goto C 18 dX5_level_14 (by decide) ?_
    exact m_iret hsz C hr hlk (⟨by rw [if_pos hrt, iZ_self], rfl⟩) dX5_level_18
set_option maxHeartbeats 4000000 in
set_option maxRecDepth 100000 in
/-- cell -/
theorem cm_cell (l : Launch) (D : va_G) (Q : Nat → Nat) (G : Nat → ClassId) (fL fS fN fD : Nat → Int32) (X : mX) (fd mn : Int) (i : Int) (hX1 : X.1 = iZ fd) (hX2 : X.2.1 = iZ mn) (hfd : fd = 0 ∨ fd = 1) (hmn : 0 ≤ mn ∧ mn ≤ 8) (hi : -2147483648 ≤ i ∧ i < 2147483648) (sz : Nat) : Met l yX5_cell (wC yX5_cell cX5_cell 2 (some .long)) ({ frames := 2, cells := 0, slots := 0, locals := 46 }) (va_Pc [.ref (Q 0), .int (iZ (i))] (mPre D Q G (fL, fS, fN, fD, X) sz)) (va_Ql (fun (r : Int64) (u : mT) => r = (if fd = 1 ∧ 0 ≤ i ∧ i ≤ mn - 1 then X.2.2.2.1 i.toNat else lZ 0) ∧ u = (fL, fS, fN, fD, X)) (mAt D Q G (mA Q sz)) (mA Q sz)) 0 0 (mA Q sz) := by
  refine m_met (cc := cX5_cell) (maxL := 2) (ret := (some .long)) (by decide) rfl rfl (Nat.le_of_ble_eq_true rfl) ?_
  intro p e s m below meth c hsz C hr hlk
  refine w_sub [(0, .ref (Q 0)), (1, .int (iZ (i)))] [0, 1] rfl ?_
  refine w_aload_n C dX5_cell_0 0 rfl ?_
  refine w_iload_n C dX5_cell_1 1 rfl ?_
  refine m_calli [.int (iZ (i))] hsz C (fun z => cm_isRoot l D Q G fL fS fN fD X fd mn i hX1 hX2 hfd hmn hi z) (cwV 1 C.1.2.2.2.2 (wC_V kX5_193 nX5_isRoot slX5_isRoot iniX5 cdX5_isRoot) rfl rfl rfl (by decide +kernel) ⟨Nat.le_of_ble_eq_true rfl, Nat.le_of_ble_eq_true rfl⟩) rfl ⟨Nat.zero_le _, Nat.zero_le _⟩ (Nat.le_of_ble_eq_true rfl) dX5_cell_2 [.int (iZ (i)), .ref (Q 0)] rfl (fun r v1 hv1 => ?_)
  obtain ⟨rfl, rfl⟩ := hv1
  refine w_if_eq C 17 dX5_cell_5 (by decide) (by split <;> omega) (fun c5 => ?_) (fun c5 => ?_)
  · have hrt : ¬ (fd = 1 ∧ 0 ≤ i ∧ i ≤ mn - 1) := fun g => by rw [if_pos g] at c5; omega
    refine w_lconst C 0 dX5_cell_17 rfl ?_
    exact m_lret hsz C hr hlk (⟨by rw [if_neg hrt], rfl⟩) dX5_cell_18
  · have hrt : fd = 1 ∧ 0 ≤ i ∧ i ≤ mn - 1 := Decidable.byContradiction (fun g => c5 (if_neg g))
    refine w_aload_n C dX5_cell_8 0 rfl ?_
    refine w_get (ci := 5) (ref := "RootIsolatorModel") (T := TX5) (Cn := RX5) (N := 10) C (fun w h => wC_in (inX5 w h)) 0 rfl rfl 8 (by decide) (wC_in fX5_cells) rfl rfl dX5_cell_9 ?_
    refine w_iload_n C dX5_cell_12 1 rfl ?_
    refine w_lald C 7 1 rfl rfl (i.toNat) ((X.2.2.2.1 i.toNat).toInt) ⟨by omega, by omega, by omega⟩ ((lZ_self _).symm) dX5_cell_13 ?_
    refine w_goto C 18 dX5_cell_14 (by decide) ?_
    exact m_lret hsz C hr hlk (⟨by rw [if_pos hrt, lZ_self], rfl⟩) dX5_cell_18
set_option maxHeartbeats 4000000 in
set_option maxRecDepth 100000 in
/-- fine -/
theorem cm_fine (l : Launch) (D : va_G) (Q : Nat → Nat) (G : Nat → ClassId) (fL fS fN fD : Nat → Int32) (X : mX) (n : Int) (ex : Nat) (hn : -9223372036854775808 ≤ n ∧ n < 9223372036854775808) (hex : ex ≤ 30) (sz : Nat) : Met l yX5_fine (wC yX5_fine cX5_fine 7 (some .long)) ({ frames := 0, cells := 0, slots := 0, locals := 0 }) (va_Pc [.long (lZ (n)), .int (iZ ((ex : Int)))] (mPre D Q G (fL, fS, fN, fD, X) sz)) (va_Ql (fun (r : Int64) (u : mT) => r = lZ (clampZ n (2 ^ (30 + ex)) * 2 ^ (30 - ex)) ∧ u = (fL, fS, fN, fD, X)) (mAt D Q G (mA Q sz)) (mA Q sz)) 0 0 (mA Q sz) := by
  refine m_met (cc := cX5_fine) (maxL := 7) (ret := (some .long)) (by decide) rfl rfl (Nat.le_of_ble_eq_true rfl) ?_
  intro p e s m below meth c hsz C hr hlk
  refine w_sub [(0, .long (lZ (n))), (2, .int (iZ ((ex : Int))))] [0, 1] rfl ?_
  obtain ⟨w, hw⟩ : ∃ w : Int, w = 2 ^ (30 + ex) := ⟨_, rfl⟩
  have hw1 : 0 < w := by rw [hw]; exact i2pos _
  have hw2 : w ≤ 1152921504606846976 := by rw [hw]; exact Int.le_trans (pow_mono (by decide) (show 30 + ex ≤ 60 by omega)) (by decide)
  refine w_lconst C 1 dX5_fine_0 rfl ?_
  refine w_bipush C dX5_fine_1 (by decide) ?_
  refine w_iload_n C dX5_fine_3 1 rfl ?_
  refine w_iadd C dX5_fine_4 ?_
  refine w_top C (((30 + ex : Nat) : Int)) (by omega) ?_
  refine w_lshl C (30 + ex) dX5_fine_5 ⟨rfl, by omega⟩ ?_
  refine w_topl C (w) (by rw [hw, Int.one_mul]) ?_
  refine w_lstore_n C [(3, .long (lZ (w))), (0, .long (lZ (n))), (2, .int (iZ ((ex : Int))))] dX5_fine_6 rfl (by decide) rfl ?_
  refine w_lload_n C dX5_fine_7 1 rfl ?_
  refine w_lload_n C dX5_fine_8 0 rfl ?_
  have J1 : ZW p l e ({ frames := 0, cells := 0, slots := 0, locals := 0 }) s m ([.long (lZ (n)), .int (iZ ((ex : Int)))] : List Value).toArray below meth c D (mA Q sz) 7 0 0 (MQ below (va_Ql (fun (r : Int64) (u : mT) => r = lZ (clampZ n (2 ^ (30 + ex)) * 2 ^ (30 - ex)) ∧ u = (fL, fS, fN, fD, X)) (mAt D Q G (mA Q sz)) (mA Q sz)) ([.long (lZ (n)), .int (iZ ((ex : Int)))] : List Value).toArray s 0 0 (mA Q sz)) (mU Q G (fL, fS, fN, fD, X)) 30 [(3, .long (lZ (w))), (0, .long (lZ (n))), (2, .int (iZ ((ex : Int))))] [.long (lZ (clampZ n w))] := by
    refine w_lstore C [(5, .long (lZ (clampZ n w))), (3, .long (lZ (w))), (0, .long (lZ (n))), (2, .int (iZ ((ex : Int))))] dX5_fine_30 (by decide) rfl ?_
    refine w_lload C dX5_fine_32 0 rfl ?_
    refine w_bipush C dX5_fine_34 (by decide) ?_
    refine w_iload_n C dX5_fine_36 3 rfl ?_
    refine w_isub C dX5_fine_37 ?_
    refine w_top C (((30 - ex : Nat) : Int)) (by omega) ?_
    refine w_lshl C (30 - ex) dX5_fine_38 ⟨rfl, by omega⟩ ?_
    exact m_lret hsz C hr hlk (⟨by rw [← hw], rfl⟩) dX5_fine_39
  refine w_lif_le C 17 dX5_fine_9 dX5_fine_10 (by decide) ⟨⟨by omega, by omega⟩, by omega, by omega⟩ (fun c9 => ?_) (fun c9 => ?_)
  · refine w_lload_n C dX5_fine_17 1 rfl ?_
    refine w_lload_n C dX5_fine_18 0 rfl ?_
    refine w_lneg C dX5_fine_19 ?_
    refine w_lif_ge C 29 dX5_fine_20 dX5_fine_21 (by decide) ⟨⟨by omega, by omega⟩, by omega, by omega⟩ (fun c20 => ?_) (fun c20 => ?_)
    · refine w_lload_n C dX5_fine_29 1 rfl ?_
      refine w_topl C (clampZ n w) (by unfold clampZ; split; omega; split <;> omega) ?_
      exact J1
    · refine w_lload_n C dX5_fine_24 0 rfl ?_
      refine w_lneg C dX5_fine_25 ?_
      refine w_goto C 30 dX5_fine_26 (by decide) ?_
      refine w_topl C (clampZ n w) (by unfold clampZ; split; omega; split <;> omega) ?_
      exact J1
  · refine w_lload_n C dX5_fine_13 0 rfl ?_
    refine w_goto C 30 dX5_fine_14 (by decide) ?_
    refine w_topl C (clampZ n w) (by unfold clampZ; split; omega; split <;> omega) ?_
    exact J1
set_option maxHeartbeats 4000000 in
set_option maxRecDepth 100000 in
/-- swap -/
theorem cm_swap (l : Launch) (D : va_G) (Q : Nat → Nat) (G : Nat → ClassId) (fL fS fN fD : Nat → Int32) (X : mX)   (sz : Nat) : Met l yX5_swap (wC yX5_swap cX5_swap 3 (some .int)) ({ frames := 2, cells := 0, slots := 0, locals := 44 }) (va_Pc [.ref (Q 0)] (mPre D Q G (fL, fS, fN, fD, X) sz)) (va_Qi (fun (r : Int32) (u : mT) => ∃ (h0 h1 : Nat → Int32) (n : Nat), (∀ k : Nat, k < 9 → h0 k = X.2.2.2.2.2.2 k) ∧ (∀ k : Nat, k < 9 → h1 k = X.2.2.2.2.2.1 k) ∧ topN h0 n ∧ r = iZ (if n = 0 then -3 else (n : Int) - 1) ∧ u = (fL, fS, fN, fD, xF (xG1 (xG0 X h0) h1) (iZ 0) (iZ 0))) (mAt D Q G (mA Q sz)) (mA Q sz)) 0 0 (mA Q sz) := by
  refine m_met (cc := cX5_swap) (maxL := 3) (ret := (some .int)) (by decide) rfl rfl (Nat.le_of_ble_eq_true rfl) ?_
  intro p e s m below meth c hsz C hr hlk
  refine w_sub [(0, .ref (Q 0))] [0] rfl ?_
  have loop : ∀ (d : Nat) (k : Nat) (h0 : Nat → Int32) (h1 : Nat → Int32), 9 < k + d → k ≤ 9 → (∀ i : Nat, i < k → h0 i = X.2.2.2.2.2.2 i) → (∀ i : Nat, i < k → h1 i = X.2.2.2.2.2.1 i) → (∀ i : Nat, k ≤ i → h0 i = X.2.2.2.2.2.1 i ∧ h1 i = X.2.2.2.2.2.2 i) → ZW p l e ({ frames := 2, cells := 0, slots := 0, locals := 44 }) s m ([.ref (Q 0)] : List Value).toArray below meth c D (mA Q sz) 3 0 0 (MQ below (va_Qi (fun (r : Int32) (u : mT) => ∃ (h0 h1 : Nat → Int32) (n : Nat), (∀ k : Nat, k < 9 → h0 k = X.2.2.2.2.2.2 k) ∧ (∀ k : Nat, k < 9 → h1 k = X.2.2.2.2.2.1 k) ∧ topN h0 n ∧ r = iZ (if n = 0 then -3 else (n : Int) - 1) ∧ u = (fL, fS, fN, fD, xF (xG1 (xG0 X h0) h1) (iZ 0) (iZ 0))) (mAt D Q G (mA Q sz)) (mA Q sz)) ([.ref (Q 0)] : List Value).toArray s 0 0 (mA Q sz)) (mU Q G (fL, fS, fN, fD, (xG1 (xG0 X h0) h1))) 2 [(1, .int (iZ ((k : Int)))), (0, .ref (Q 0))] [] := by
    intro d
    induction d with
    | zero =>
      intro k h0 h1 hd hk e0 e1 e2
      exact absurd hd (by omega)
    | succ d ih =>
      intro k h0 h1 hd hk e0 e1 e2
      refine w_iload_n C dX5_swap_2 0 rfl ?_
      refine w_bipush C dX5_swap_3 (by decide) ?_
      refine w_icmp_ge C 48 dX5_swap_5 (by decide) ⟨⟨by omega, by omega⟩, by omega, by omega⟩ (fun c5 => ?_) (fun c5 => ?_)
      · refine w_aload_n C dX5_swap_48 1 rfl ?_
        refine m_callv [] hsz C (fun z => cm_forget l D Q G fL fS fN fD (xG1 (xG0 X h0) h1)  z) (cwV 0 C.1.2.2.2.2 (wC_V kX5_150 nX5_forget slX5_forget iniX5 cdX5_forget) rfl rfl rfl (by decide +kernel) ⟨Nat.le_of_ble_eq_true rfl, Nat.le_of_ble_eq_true rfl⟩) rfl ⟨Nat.zero_le _, Nat.zero_le _⟩ (Nat.le_of_ble_eq_true rfl) dX5_swap_49 [.ref (Q 0)] rfl (fun v1 hv1 => ?_)
        obtain rfl := hv1
        refine w_aload_n C dX5_swap_52 1 rfl ?_
        refine w_iconst C dX5_swap_53 ?_
        refine m_calli [.int (iZ (0))] hsz C (fun z => cm_told0 l D Q G fL fS fN fD (xF (xG1 (xG0 X h0) h1) (iZ 0) (iZ 0))  z) (cwV 1 C.1.2.2.2.2 (wC_V kX5_156 nX5_told slX5_told iniX5 cdX5_told) rfl rfl rfl (by decide +kernel) ⟨Nat.le_of_ble_eq_true rfl, Nat.le_of_ble_eq_true rfl⟩) rfl ⟨Nat.zero_le _, Nat.zero_le _⟩ (Nat.le_of_ble_eq_true rfl) dX5_swap_54 [.int (iZ (0)), .ref (Q 0)] rfl (fun r v2 hv2 => ?_)
        obtain ⟨⟨n, hn, rfl⟩, rfl⟩ := hv2
        exact m_iret hsz C hr hlk (⟨h0, h1, n, fun i hi => e0 i (by omega), fun i hi => e1 i (by omega), hn, rfl, rfl⟩) dX5_swap_57
      · refine w_aload_n C dX5_swap_8 1 rfl ?_
        refine w_get (ci := 5) (ref := "RootIsolatorModel") (T := TX5) (Cn := RX5) (N := 10) C (fun w h => wC_in (inX5 w h)) 0 rfl rfl 0 (by decide) (wC_in fX5_given) rfl rfl dX5_swap_9 ?_
        refine w_iconst C dX5_swap_12 ?_
        refine w_aald (n := 2) (f := fun j => some (Q (9 + j))) C 5 3 rfl rfl rfl (0) ⟨rfl, by decide, by decide⟩ (rfl) dX5_swap_13 ?_
        refine w_iload_n C dX5_swap_14 0 rfl ?_
        refine w_iald C 9 0 rfl rfl (k) ((h0 k).toInt) ⟨by omega, by omega, by omega⟩ ((iZ_self _).symm) dX5_swap_15 ?_
        refine w_istore_n C [(2, .int (iZ ((h0 k).toInt))), (1, .int (iZ ((k : Int)))), (0, .ref (Q 0))] dX5_swap_16 rfl (by decide) rfl ?_
        refine w_aload_n C dX5_swap_17 2 rfl ?_
        refine w_get (ci := 5) (ref := "RootIsolatorModel") (T := TX5) (Cn := RX5) (N := 10) C (fun w h => wC_in (inX5 w h)) 0 rfl rfl 0 (by decide) (wC_in fX5_given) rfl rfl dX5_swap_18 ?_
        refine w_iconst C dX5_swap_21 ?_
        refine w_aald (n := 2) (f := fun j => some (Q (9 + j))) C 5 3 rfl rfl rfl (0) ⟨rfl, by decide, by decide⟩ (rfl) dX5_swap_22 ?_
        refine w_iload_n C dX5_swap_23 1 rfl ?_
        refine w_aload_n C dX5_swap_24 2 rfl ?_
        refine w_get (ci := 5) (ref := "RootIsolatorModel") (T := TX5) (Cn := RX5) (N := 10) C (fun w h => wC_in (inX5 w h)) 0 rfl rfl 0 (by decide) (wC_in fX5_given) rfl rfl dX5_swap_25 ?_
        refine w_iconst C dX5_swap_28 ?_
        refine w_aald (n := 2) (f := fun j => some (Q (9 + j))) C 5 3 rfl rfl rfl (1) ⟨rfl, by decide, by decide⟩ (rfl) dX5_swap_29 ?_
        refine w_iload_n C dX5_swap_30 1 rfl ?_
        refine w_iald C 10 0 rfl rfl (k) ((h1 k).toInt) ⟨by omega, by omega, by omega⟩ ((iZ_self _).symm) dX5_swap_31 ?_
        refine w_iast C (mU Q G (fL, fS, fN, fD, (xG0 (xG1 (xG0 X h0) h1) (upd h0 (k) (iZ ((h1 k).toInt)))))) 9 0 rfl rfl (k) ⟨by omega, by omega, by omega⟩ rfl dX5_swap_32 ?_
        refine w_aload_n C dX5_swap_33 2 rfl ?_
        refine w_get (ci := 5) (ref := "RootIsolatorModel") (T := TX5) (Cn := RX5) (N := 10) C (fun w h => wC_in (inX5 w h)) 0 rfl rfl 0 (by decide) (wC_in fX5_given) rfl rfl dX5_swap_34 ?_
        refine w_iconst C dX5_swap_37 ?_
        refine w_aald (n := 2) (f := fun j => some (Q (9 + j))) C 5 3 rfl rfl rfl (1) ⟨rfl, by decide, by decide⟩ (rfl) dX5_swap_38 ?_
        refine w_iload_n C dX5_swap_39 1 rfl ?_
        refine w_iload_n C dX5_swap_40 0 rfl ?_
        refine w_iast C (mU Q G (fL, fS, fN, fD, (xG1 (xG0 (xG1 (xG0 X h0) h1) (upd h0 (k) (iZ ((h1 k).toInt)))) (upd h1 (k) (iZ ((h0 k).toInt)))))) 10 0 rfl rfl (k) ⟨by omega, by omega, by omega⟩ rfl dX5_swap_41 ?_
        refine w_iinc C (((k + 1 : Nat) : Int)) (by omega) [(1, .int (iZ (((k + 1 : Nat) : Int)))), (2, .int (iZ ((h0 k).toInt))), (0, .ref (Q 0))] dX5_swap_42 1 rfl (by decide) rfl ?_
        refine w_goto C 2 dX5_swap_45 (by decide) ?_
        refine w_sub [(1, .int (iZ (((k + 1 : Nat) : Int)))), (0, .ref (Q 0))] [0, 2] rfl ?_
        exact ih (k + 1) _ _ (by omega) (by omega) (fun i hi => by
          by_cases g : i = k
          · subst g; rw [upd_eq, iZ_self]; exact (e2 i (by omega)).2
          · rw [upd_ne g]; exact e0 i (by omega)) (fun i hi => by
          by_cases g : i = k
          · subst g; rw [upd_eq, iZ_self]; exact (e2 i (by omega)).1
          · rw [upd_ne g]; exact e1 i (by omega)) (fun i hi => by rw [upd_ne (by omega), upd_ne (by omega)]; exact e2 i (by omega))
  refine w_iconst C dX5_swap_0 ?_
  refine w_istore_n C [(1, .int (iZ (0))), (0, .ref (Q 0))] dX5_swap_1 rfl (by decide) rfl ?_
  exact loop 10 0 X.2.2.2.2.2.1 X.2.2.2.2.2.2 (by omega) (by omega) (fun i hi => absurd hi (by omega)) (fun i hi => absurd hi (by omega)) (fun _ _ => ⟨rfl, rfl⟩)
set_option maxHeartbeats 4000000 in
set_option maxRecDepth 100000 in
/-- timesAt -/
theorem cm_timesAt (l : Launch) (D : va_G) (Q : Nat → Nat) (G : Nat → ClassId) (fL fS fN fD : Nat → Int32) (X : mX) (k : Nat) (r : Int) (hk : k < 9) (hr0 : -2147483648 ≤ r ∧ r < 2147483648) (sz : Nat) : Met l yX5_timesAt (wC yX5_timesAt cX5_timesAt 3 (some .long)) ({ frames := 0, cells := 0, slots := 0, locals := 0 }) (va_Pc [.ref (Q 0), .int (iZ ((k : Int))), .int (iZ (r))] (mPre D Q G (fL, fS, fN, fD, X) sz)) (va_Ql (fun (q : Int64) (u : mT) => q = lZ (tmA X.2.2.2.2.2.1 r k) ∧ u = (fL, fS, fN, fD, X)) (mAt D Q G (mA Q sz)) (mA Q sz)) 0 0 (mA Q sz) := by
  refine m_met (cc := cX5_timesAt) (maxL := 3) (ret := (some .long)) (by decide) rfl rfl (Nat.le_of_ble_eq_true rfl) ?_
  intro p e s m below meth c hsz C hr hlk
  refine w_sub [(0, .ref (Q 0)), (1, .int (iZ ((k : Int)))), (2, .int (iZ (r)))] [0, 1, 2] rfl ?_
  refine w_iload_n C dX5_timesAt_0 1 rfl ?_
  have J1 : ZW p l e ({ frames := 0, cells := 0, slots := 0, locals := 0 }) s m ([.ref (Q 0), .int (iZ ((k : Int))), .int (iZ (r))] : List Value).toArray below meth c D (mA Q sz) 3 0 0 (MQ below (va_Ql (fun (q : Int64) (u : mT) => q = lZ (tmA X.2.2.2.2.2.1 r k) ∧ u = (fL, fS, fN, fD, X)) (mAt D Q G (mA Q sz)) (mA Q sz)) ([.ref (Q 0), .int (iZ ((k : Int))), .int (iZ (r))] : List Value).toArray s 0 0 (mA Q sz)) (mU Q G (fL, fS, fN, fD, X)) 19 [(0, .ref (Q 0)), (1, .int (iZ ((k : Int)))), (2, .int (iZ (r)))] [.long (lZ (if k = 0 then 0 else (X.2.2.2.2.2.1 (k - 1)).toInt))] := by
    refine w_iload_n C dX5_timesAt_19 2 rfl ?_
    refine w_i2l C dX5_timesAt_20 ⟨by omega, by omega⟩ ?_
    refine w_aload_n C dX5_timesAt_21 0 rfl ?_
    refine w_get (ci := 5) (ref := "RootIsolatorModel") (T := TX5) (Cn := RX5) (N := 10) C (fun w h => wC_in (inX5 w h)) 0 rfl rfl 0 (by decide) (wC_in fX5_given) rfl rfl dX5_timesAt_22 ?_
    refine w_iconst C dX5_timesAt_25 ?_
    refine w_aald (n := 2) (f := fun j => some (Q (9 + j))) C 5 3 rfl rfl rfl (0) ⟨rfl, by decide, by decide⟩ (rfl) dX5_timesAt_26 ?_
    refine w_iload_n C dX5_timesAt_27 1 rfl ?_
    refine w_iald C 9 0 rfl rfl (k) ((X.2.2.2.2.2.1 k).toInt) ⟨by omega, by omega, by omega⟩ ((iZ_self _).symm) dX5_timesAt_28 ?_
    refine w_i2l C dX5_timesAt_29 (i32r _) ?_
    refine w_lmul C dX5_timesAt_30 ?_
    refine w_lsub C dX5_timesAt_31 ?_
    exact m_lret hsz C hr hlk (⟨rfl, rfl⟩) dX5_timesAt_32
  refine w_if_le C 18 dX5_timesAt_1 (by decide) ⟨by omega, by omega⟩ (fun c1 => ?_) (fun c1 => ?_)
  · refine w_lconst C 0 dX5_timesAt_18 rfl ?_
    refine w_topl C (if k = 0 then 0 else (X.2.2.2.2.2.1 (k - 1)).toInt) (by rw [if_pos (by omega)]) ?_
    exact J1
  · refine w_aload_n C dX5_timesAt_4 0 rfl ?_
    refine w_get (ci := 5) (ref := "RootIsolatorModel") (T := TX5) (Cn := RX5) (N := 10) C (fun w h => wC_in (inX5 w h)) 0 rfl rfl 0 (by decide) (wC_in fX5_given) rfl rfl dX5_timesAt_5 ?_
    refine w_iconst C dX5_timesAt_8 ?_
    refine w_aald (n := 2) (f := fun j => some (Q (9 + j))) C 5 3 rfl rfl rfl (0) ⟨rfl, by decide, by decide⟩ (rfl) dX5_timesAt_9 ?_
    refine w_iload_n C dX5_timesAt_10 1 rfl ?_
    refine w_iconst C dX5_timesAt_11 ?_
    refine w_isub C dX5_timesAt_12 ?_
    refine w_iald C 9 0 rfl rfl (k - 1) ((X.2.2.2.2.2.1 (k - 1)).toInt) ⟨by omega, by omega, by omega⟩ ((iZ_self _).symm) dX5_timesAt_13 ?_
    refine w_i2l C dX5_timesAt_14 (i32r _) ?_
    refine w_goto C 19 dX5_timesAt_15 (by decide) ?_
    refine w_topl C (if k = 0 then 0 else (X.2.2.2.2.2.1 (k - 1)).toInt) (by rw [if_neg (by omega)]) ?_
    exact J1
