/-- how many coefficients a given row has: its degree and 1 -/
def topN (g : Nat → Int32) (n : Nat) : Prop := n ≤ 9 ∧ (∀ k : Nat, n ≤ k → k < 9 → (g k).toInt = 0) ∧ (∀ i : Nat, n = i + 1 → (g i).toInt ≠ 0)
set_option maxHeartbeats 4000000 in
set_option maxRecDepth 100000 in
/-- in -/
theorem cm_in (l : Launch) (D : va_G) (Q : Nat → Nat) (G : Nat → ClassId) (fL fS fN fD : Nat → Int32) (X : mX) (v lo hi : Int) (hv : -9223372036854775808 ≤ v ∧ v < 9223372036854775808) (hlo : -9223372036854775808 ≤ lo ∧ lo < 9223372036854775808) (hhi : -9223372036854775808 ≤ hi ∧ hi < 9223372036854775808) (sz : Nat) : Met l yX5_in (wC yX5_in cX5_in 6 (some .boolean)) ({ frames := 0, cells := 0, slots := 0, locals := 0 }) (va_Pc [.long (lZ (v)), .long (lZ (lo)), .long (lZ (hi))] (mPre D Q G (fL, fS, fN, fD, X) sz)) (va_Qi (fun (r : Int32) (u : mT) => r = iZ (if lo ≤ v ∧ v ≤ hi then 1 else 0) ∧ u = (fL, fS, fN, fD, X)) (mAt D Q G (mA Q sz)) (mA Q sz)) 0 0 (mA Q sz) := by
  refine m_met (cc := cX5_in) (maxL := 6) (ret := (some .boolean)) (by decide) rfl rfl (Nat.le_of_ble_eq_true rfl) ?_
  intro p e s m below meth c hsz C hr hlk
  refine w_sub [(0, .long (lZ (v))), (2, .long (lZ (lo))), (4, .long (lZ (hi)))] [0, 1, 2] rfl ?_
  refine w_lload_n C dX5_in_0 0 rfl ?_
  refine w_lload_n C dX5_in_1 1 rfl ?_
  refine w_lif_lt C 17 dX5_in_2 dX5_in_3 (by decide) ⟨⟨by omega, by omega⟩, by omega, by omega⟩ (fun c2 => ?_) (fun c2 => ?_)
  · refine w_iconst C dX5_in_17 ?_
    exact m_zret hsz C hr (rfl) hlk (⟨by rw [if_neg (by omega)], rfl⟩) dX5_in_18
  · refine w_lload_n C dX5_in_6 0 rfl ?_
    refine w_lload C dX5_in_7 2 rfl ?_
    refine w_lif_gt C 17 dX5_in_9 dX5_in_10 (by decide) ⟨⟨by omega, by omega⟩, by omega, by omega⟩ (fun c9 => ?_) (fun c9 => ?_)
    · refine w_iconst C dX5_in_17 ?_
      exact m_zret hsz C hr (rfl) hlk (⟨by rw [if_neg (by omega)], rfl⟩) dX5_in_18
    · refine w_iconst C dX5_in_13 ?_
      refine w_goto C 18 dX5_in_14 (by decide) ?_
      exact m_zret hsz C hr (rfl) hlk (⟨by rw [if_pos ⟨by omega, by omega⟩], rfl⟩) dX5_in_18
set_option maxHeartbeats 4000000 in
set_option maxRecDepth 100000 in
/-- isWhich -/
theorem cm_isWhich (l : Launch) (D : va_G) (Q : Nat → Nat) (G : Nat → ClassId) (fL fS fN fD : Nat → Int32) (X : mX) (w : Int) (hw : -2147483648 ≤ w ∧ w < 2147483648) (sz : Nat) : Met l yX5_isWhich (wC yX5_isWhich cX5_isWhich 1 (some .boolean)) ({ frames := 1, cells := 0, slots := 0, locals := 25 }) (va_Pc [.int (iZ (w))] (mPre D Q G (fL, fS, fN, fD, X) sz)) (va_Qi (fun (r : Int32) (u : mT) => r = iZ (if 0 ≤ w ∧ w ≤ 1 then 1 else 0) ∧ u = (fL, fS, fN, fD, X)) (mAt D Q G (mA Q sz)) (mA Q sz)) 0 0 (mA Q sz) := by
  refine m_met (cc := cX5_isWhich) (maxL := 1) (ret := (some .boolean)) (by decide) rfl rfl (Nat.le_of_ble_eq_true rfl) ?_
  intro p e s m below meth c hsz C hr hlk
  refine w_sub [(0, .int (iZ (w)))] [0] rfl ?_
  refine w_iload_n C dX5_isWhich_0 0 rfl ?_
  refine w_i2l C dX5_isWhich_1 ⟨by omega, by omega⟩ ?_
  refine w_lconst C 0 dX5_isWhich_2 rfl ?_
  refine w_lconst C 1 dX5_isWhich_3 rfl ?_
  refine m_callSi [.long (lZ (w)), .long (lZ (0)), .long (lZ (1))] hsz C (fun z => cm_in l D Q G fL fS fN fD X (w) (0) (1) (by omega) (by omega) (by omega) z) (cwS 3 C.1.2.2.2.2 (wC_S kX5_132 stX5_in iniX5 cdX5_in) rfl rfl rfl (by decide +kernel) ⟨Nat.le_of_ble_eq_true rfl, Nat.le_of_ble_eq_true rfl⟩) rfl ⟨Nat.zero_le _, Nat.zero_le _⟩ (Nat.le_of_ble_eq_true rfl) dX5_isWhich_4 [.long (lZ (1)), .long (lZ (0)), .long (lZ (w))] rfl (fun r v1 hv1 => ?_)
  obtain ⟨rfl, rfl⟩ := hv1
  exact m_zret hsz C hr (by split <;> rfl) hlk (⟨rfl, rfl⟩) dX5_isWhich_7
set_option maxHeartbeats 4000000 in
set_option maxRecDepth 100000 in
/-- forget -/
theorem cm_forget (l : Launch) (D : va_G) (Q : Nat → Nat) (G : Nat → ClassId) (fL fS fN fD : Nat → Int32) (X : mX)   (sz : Nat) : Met l yX5_forget (wC yX5_forget cX5_forget 1 none) ({ frames := 0, cells := 0, slots := 0, locals := 0 }) (va_Pc [.ref (Q 0)] (mPre D Q G (fL, fS, fN, fD, X) sz)) (va_Qv (fun u : mT => u = (fL, fS, fN, fD, xF X (iZ 0) (iZ 0))) (mAt D Q G (mA Q sz)) (mA Q sz)) 0 0 (mA Q sz) := by
  refine m_met (cc := cX5_forget) (maxL := 1) (ret := none) (by decide) rfl rfl (Nat.le_of_ble_eq_true rfl) ?_
  intro p e s m below meth c hsz C hr hlk
  refine w_sub [(0, .ref (Q 0))] [0] rfl ?_
  refine w_aload_n C dX5_forget_0 0 rfl ?_
  refine w_iconst C dX5_forget_1 ?_
  refine w_put (ci := 5) (ref := "RootIsolatorModel") (T := TX5) (Cn := RX5) (N := 10) (ty := .boolean) C (mU Q G (fL, fS, fN, fD, (xF X ((iZ (0))) X.2.1))) (fun w h => wC_in (inX5 w h)) tyX5 tyX5_ok nmX5 0 rfl rfl 5 (by decide) (wC_in fX5_isFound) rfl rfl (by decide +kernel) rfl rfl (Nat.le_of_ble_eq_true rfl) rfl dX5_forget_2 ?_
  refine w_aload_n C dX5_forget_5 0 rfl ?_
  refine w_iconst C dX5_forget_6 ?_
  refine w_put (ci := 5) (ref := "RootIsolatorModel") (T := TX5) (Cn := RX5) (N := 10) (ty := .int) C (mU Q G (fL, fS, fN, fD, (xF X ((iZ (0))) ((iZ (0)))))) (fun w h => wC_in (inX5 w h)) tyX5 tyX5_ok nmX5 0 rfl rfl 6 (by decide) (wC_in fX5_many) rfl rfl (by decide +kernel) rfl rfl (Nat.le_of_ble_eq_true rfl) rfl dX5_forget_7 ?_
  exact m_vret hsz C hr hlk (rfl) dX5_forget_10
set_option maxHeartbeats 4000000 in
set_option maxRecDepth 100000 in
/-- degreeOf -/
theorem cm_degreeOf0 (l : Launch) (D : va_G) (Q : Nat → Nat) (G : Nat → ClassId) (fL fS fN fD : Nat → Int32) (X : mX)   (sz : Nat) : Met l yX5_degreeOf (wC yX5_degreeOf cX5_degreeOf 3 (some .int)) ({ frames := 0, cells := 0, slots := 0, locals := 0 }) (va_Pc [.ref (Q 0), .int (iZ (0))] (mPre D Q G (fL, fS, fN, fD, X) sz)) (va_Qi (fun (r : Int32) (u : mT) => (∃ n : Nat, topN X.2.2.2.2.2.1 n ∧ r = iZ ((n : Int) - 1)) ∧ u = (fL, fS, fN, fD, X)) (mAt D Q G (mA Q sz)) (mA Q sz)) 0 0 (mA Q sz) := by
  refine m_met (cc := cX5_degreeOf) (maxL := 3) (ret := (some .int)) (by decide) rfl rfl (Nat.le_of_ble_eq_true rfl) ?_
  intro p e s m below meth c hsz C hr hlk
  refine w_sub [(0, .ref (Q 0)), (1, .int (iZ (0)))] [0, 1] rfl ?_
  have loop : ∀ (d : Nat) (j : Nat), j < d → j ≤ 9 → (∀ k : Nat, j ≤ k → k < 9 → (X.2.2.2.2.2.1 k).toInt = 0) → ZW p l e ({ frames := 0, cells := 0, slots := 0, locals := 0 }) s m ([.ref (Q 0), .int (iZ (0))] : List Value).toArray below meth c D (mA Q sz) 3 0 0 (MQ below (va_Qi (fun (r : Int32) (u : mT) => (∃ n : Nat, topN X.2.2.2.2.2.1 n ∧ r = iZ ((n : Int) - 1)) ∧ u = (fL, fS, fN, fD, X)) (mAt D Q G (mA Q sz)) (mA Q sz)) ([.ref (Q 0), .int (iZ (0))] : List Value).toArray s 0 0 (mA Q sz)) (mU Q G (fL, fS, fN, fD, X)) 3 [(2, .int (iZ ((j : Int) - 1))), (0, .ref (Q 0)), (1, .int (iZ (0)))] [] := by
    intro d
    induction d with
    | zero =>
      intro j hd hj hz
      exact absurd hd (by omega)
    | succ d ih =>
      intro j hd hj hz
      refine w_iload_n C dX5_degreeOf_3 0 rfl ?_
      refine w_if_lt C 24 dX5_degreeOf_4 (by decide) ⟨by omega, by omega⟩ (fun c4 => ?_) (fun c4 => ?_)
      · refine w_iload_n C dX5_degreeOf_24 0 rfl ?_
        exact m_iret hsz C hr hlk (⟨⟨j, ⟨hj, hz, fun k h => absurd h (by omega)⟩, rfl⟩, rfl⟩) dX5_degreeOf_25
      · obtain ⟨i, rfl⟩ : ∃ i, j = i + 1 := ⟨j - 1, by omega⟩
        refine w_aload_n C dX5_degreeOf_7 1 rfl ?_
        refine w_get (ci := 5) (ref := "RootIsolatorModel") (T := TX5) (Cn := RX5) (N := 10) C (fun w h => wC_in (inX5 w h)) 0 rfl rfl 0 (by decide) (wC_in fX5_given) rfl rfl dX5_degreeOf_8 ?_
        refine w_iload_n C dX5_degreeOf_11 2 rfl ?_
        refine w_aald (n := 2) (f := fun j => some (Q (9 + j))) C 5 3 rfl rfl rfl (0) ⟨rfl, by decide, by decide⟩ (rfl) dX5_degreeOf_12 ?_
        refine w_iload_n C dX5_degreeOf_13 0 rfl ?_
        refine w_iald C 9 0 rfl rfl (i) ((X.2.2.2.2.2.1 i).toInt) ⟨by omega, by omega, by omega⟩ ((iZ_self _).symm) dX5_degreeOf_14 ?_
        refine w_if_ne C 24 dX5_degreeOf_15 (by decide) (i32r _) (fun c15 => ?_) (fun c15 => ?_)
        · refine w_iload_n C dX5_degreeOf_24 0 rfl ?_
          exact m_iret hsz C hr hlk (⟨⟨i + 1, ⟨hj, hz, fun k h => by (have : k = i := by omega); subst this; exact c15⟩, rfl⟩, rfl⟩) dX5_degreeOf_25
        · refine w_iinc C ((i : Int) - 1) (by omega) [(2, .int (iZ ((i : Int) - 1))), (0, .ref (Q 0)), (1, .int (iZ (0)))] dX5_degreeOf_18 0 rfl (by decide) rfl ?_
          refine w_goto C 3 dX5_degreeOf_21 (by decide) ?_
          exact ih i (by omega) (by omega) (fun k h1 h2 => by
            rcases Nat.lt_or_ge i k with g | g
            · exact hz k (by omega) h2
            · have : k = i := by omega
              subst this; exact c15)
  refine w_bipush C dX5_degreeOf_0 (by decide) ?_
  refine w_top C (((9 : Nat) : Int) - 1) (by omega) ?_
  refine w_istore_n C [(2, .int (iZ (((9 : Nat) : Int) - 1))), (0, .ref (Q 0)), (1, .int (iZ (0)))] dX5_degreeOf_2 rfl (by decide) rfl ?_
  exact loop 10 9 (by omega) (by omega) (fun k h1 h2 => absurd h1 (by omega))
set_option maxHeartbeats 4000000 in
set_option maxRecDepth 100000 in
/-- told -/
theorem cm_told0 (l : Launch) (D : va_G) (Q : Nat → Nat) (G : Nat → ClassId) (fL fS fN fD : Nat → Int32) (X : mX)   (sz : Nat) : Met l yX5_told (wC yX5_told cX5_told 3 (some .int)) ({ frames := 1, cells := 0, slots := 0, locals := 22 }) (va_Pc [.ref (Q 0), .int (iZ (0))] (mPre D Q G (fL, fS, fN, fD, X) sz)) (va_Qi (fun (r : Int32) (u : mT) => (∃ n : Nat, topN X.2.2.2.2.2.1 n ∧ r = iZ (if n = 0 then -3 else (n : Int) - 1)) ∧ u = (fL, fS, fN, fD, X)) (mAt D Q G (mA Q sz)) (mA Q sz)) 0 0 (mA Q sz) := by
  refine m_met (cc := cX5_told) (maxL := 3) (ret := (some .int)) (by decide) rfl rfl (Nat.le_of_ble_eq_true rfl) ?_
  intro p e s m below meth c hsz C hr hlk
  refine w_sub [(0, .ref (Q 0)), (1, .int (iZ (0)))] [0, 1] rfl ?_
  refine w_aload_n C dX5_told_0 0 rfl ?_
  refine w_iload_n C dX5_told_1 1 rfl ?_
  refine m_calli [.int (iZ (0))] hsz C (fun z => cm_degreeOf0 l D Q G fL fS fN fD X  z) (cwV 1 C.1.2.2.2.2 (wC_V kX5_153 nX5_degreeOf slX5_degreeOf iniX5 cdX5_degreeOf) rfl rfl rfl (by decide +kernel) ⟨Nat.le_of_ble_eq_true rfl, Nat.le_of_ble_eq_true rfl⟩) rfl ⟨Nat.zero_le _, Nat.zero_le _⟩ (Nat.le_of_ble_eq_true rfl) dX5_told_2 [.int (iZ (0)), .ref (Q 0)] rfl (fun r v1 hv1 => ?_)
  obtain ⟨⟨n, hn, rfl⟩, rfl⟩ := hv1
  have hn9 := hn.1
  refine w_istore_n C [(2, .int (iZ ((n : Int) - 1))), (0, .ref (Q 0)), (1, .int (iZ (0)))] dX5_told_5 rfl (by decide) rfl ?_
  refine w_iload_n C dX5_told_6 0 rfl ?_
  refine w_if_ge C 15 dX5_told_7 (by decide) ⟨by omega, by omega⟩ (fun c7 => ?_) (fun c7 => ?_)
  · refine w_iload_n C dX5_told_15 0 rfl ?_
    exact m_iret hsz C hr hlk (⟨⟨n, hn, by rw [if_neg (by omega)]⟩, rfl⟩) dX5_told_16
  · refine w_bipush C dX5_told_10 (by decide) ?_
    refine w_goto C 16 dX5_told_12 (by decide) ?_
    exact m_iret hsz C hr hlk (⟨⟨n, hn, by rw [if_pos (by omega)]⟩, rfl⟩) dX5_told_16
set_option maxHeartbeats 4000000 in
set_option maxRecDepth 100000 in
/-- degree -/
theorem cm_degree0 (l : Launch) (D : va_G) (Q : Nat → Nat) (G : Nat → ClassId) (fL fS fN fD : Nat → Int32) (X : mX)   (sz : Nat) : Met l yX5_degree (wC yX5_degree cX5_degree 2 (some .int)) ({ frames := 2, cells := 0, slots := 0, locals := 45 }) (va_Pc [.ref (Q 0), .int (iZ (0))] (mPre D Q G (fL, fS, fN, fD, X) sz)) (va_Qi (fun (r : Int32) (u : mT) => (∃ n : Nat, topN X.2.2.2.2.2.1 n ∧ r = iZ (if n = 0 then -3 else (n : Int) - 1)) ∧ u = (fL, fS, fN, fD, X)) (mAt D Q G (mA Q sz)) (mA Q sz)) 0 0 (mA Q sz) := by
  refine m_met (cc := cX5_degree) (maxL := 2) (ret := (some .int)) (by decide) rfl rfl (Nat.le_of_ble_eq_true rfl) ?_
  intro p e s m below meth c hsz C hr hlk
  refine w_sub [(0, .ref (Q 0)), (1, .int (iZ (0)))] [0, 1] rfl ?_
  refine w_iload_n C dX5_degree_0 1 rfl ?_
  refine m_callSi [.int (iZ (0))] hsz C (fun z => cm_isWhich l D Q G fL fS fN fD X (0) (by omega) z) (cwS 1 C.1.2.2.2.2 (wC_S kX5_140 stX5_isWhich iniX5 cdX5_isWhich) rfl rfl rfl (by decide +kernel) ⟨Nat.le_of_ble_eq_true rfl, Nat.le_of_ble_eq_true rfl⟩) rfl ⟨Nat.zero_le _, Nat.zero_le _⟩ (Nat.le_of_ble_eq_true rfl) dX5_degree_1 [.int (iZ (0))] rfl (fun r v1 hv1 => ?_)
  obtain ⟨rfl, rfl⟩ := hv1
  refine w_top C (1) (by decide) ?_
  refine w_if_eq C 15 dX5_degree_4 (by decide) ⟨by omega, by omega⟩ (fun c4 => ?_) (fun c4 => ?_)
  · exact absurd c4 (by omega)
  · refine w_aload_n C dX5_degree_7 0 rfl ?_
    refine w_iload_n C dX5_degree_8 1 rfl ?_
    refine m_calli [.int (iZ (0))] hsz C (fun z => cm_told0 l D Q G fL fS fN fD X  z) (cwV 1 C.1.2.2.2.2 (wC_V kX5_156 nX5_told slX5_told iniX5 cdX5_told) rfl rfl rfl (by decide +kernel) ⟨Nat.le_of_ble_eq_true rfl, Nat.le_of_ble_eq_true rfl⟩) rfl ⟨Nat.zero_le _, Nat.zero_le _⟩ (Nat.le_of_ble_eq_true rfl) dX5_degree_9 [.int (iZ (0)), .ref (Q 0)] rfl (fun r v2 hv2 => ?_)
    obtain ⟨⟨n, hn, rfl⟩, rfl⟩ := hv2
    refine w_goto C 17 dX5_degree_12 (by decide) ?_
    exact m_iret hsz C hr hlk (⟨⟨n, hn, rfl⟩, rfl⟩) dX5_degree_17
set_option maxHeartbeats 4000000 in
set_option maxRecDepth 100000 in
/-- get -/
theorem cm_get0 (l : Launch) (D : va_G) (Q : Nat → Nat) (G : Nat → ClassId) (fL fS fN fD : Nat → Int32) (X : mX) (pw : Int) (hpw : -2147483648 ≤ pw ∧ pw < 2147483648) (sz : Nat) : Met l yX5_get (wC yX5_get cX5_get 3 (some .int)) ({ frames := 2, cells := 0, slots := 0, locals := 45 }) (va_Pc [.ref (Q 0), .int (iZ (0)), .int (iZ (pw))] (mPre D Q G (fL, fS, fN, fD, X) sz)) (va_Qi (fun (r : Int32) (u : mT) => r = (if 0 ≤ pw ∧ pw ≤ 8 then X.2.2.2.2.2.1 pw.toNat else 0) ∧ u = (fL, fS, fN, fD, X)) (mAt D Q G (mA Q sz)) (mA Q sz)) 0 0 (mA Q sz) := by
  refine m_met (cc := cX5_get) (maxL := 3) (ret := (some .int)) (by decide) rfl rfl (Nat.le_of_ble_eq_true rfl) ?_
  intro p e s m below meth c hsz C hr hlk
  refine w_sub [(0, .ref (Q 0)), (1, .int (iZ (0))), (2, .int (iZ (pw)))] [0, 1, 2] rfl ?_
  refine w_iload_n C dX5_get_0 1 rfl ?_
  refine m_callSi [.int (iZ (0))] hsz C (fun z => cm_isWhich l D Q G fL fS fN fD X (0) (by omega) z) (cwS 1 C.1.2.2.2.2 (wC_S kX5_140 stX5_isWhich iniX5 cdX5_isWhich) rfl rfl rfl (by decide +kernel) ⟨Nat.le_of_ble_eq_true rfl, Nat.le_of_ble_eq_true rfl⟩) rfl ⟨Nat.zero_le _, Nat.zero_le _⟩ (Nat.le_of_ble_eq_true rfl) dX5_get_1 [.int (iZ (0))] rfl (fun r v1 hv1 => ?_)
  obtain ⟨rfl, rfl⟩ := hv1
  refine w_top C (1) (by decide) ?_
  refine w_if_eq C 30 dX5_get_4 (by decide) ⟨by omega, by omega⟩ (fun c4 => ?_) (fun c4 => ?_)
  · exact absurd c4 (by omega)
  · refine w_iload_n C dX5_get_7 2 rfl ?_
    refine w_i2l C dX5_get_8 ⟨by omega, by omega⟩ ?_
    refine w_lconst C 0 dX5_get_9 rfl ?_
    refine w_ldc2 C (8) dX5_get_10 (wC_in kclX5_144) ?_
    refine m_callSi [.long (lZ (pw)), .long (lZ (0)), .long (lZ (8))] hsz C (fun z => cm_in l D Q G fL fS fN fD X (pw) (0) (8) (by omega) (by omega) (by omega) z) (cwS 3 C.1.2.2.2.2 (wC_S kX5_132 stX5_in iniX5 cdX5_in) rfl rfl rfl (by decide +kernel) ⟨Nat.le_of_ble_eq_true rfl, Nat.le_of_ble_eq_true rfl⟩) rfl ⟨Nat.zero_le _, Nat.zero_le _⟩ (Nat.le_of_ble_eq_true rfl) dX5_get_13 [.long (lZ (8)), .long (lZ (0)), .long (lZ (pw))] rfl (fun r v2 hv2 => ?_)
    obtain ⟨rfl, rfl⟩ := hv2
    refine w_if_eq C 30 dX5_get_16 (by decide) (by split <;> omega) (fun c16 => ?_) (fun c16 => ?_)
    · have hpw2 : ¬ (0 ≤ pw ∧ pw ≤ 8) := fun g => by rw [if_pos g] at c16; omega
      refine w_iconst C dX5_get_30 ?_
      exact m_iret hsz C hr hlk (⟨by rw [if_neg hpw2]; rfl, rfl⟩) dX5_get_31
    · have hpw2 : 0 ≤ pw ∧ pw ≤ 8 := Decidable.byContradiction (fun g => c16 (if_neg g))
      refine w_aload_n C dX5_get_19 0 rfl ?_
      refine w_get (ci := 5) (ref := "RootIsolatorModel") (T := TX5) (Cn := RX5) (N := 10) C (fun w h => wC_in (inX5 w h)) 0 rfl rfl 0 (by decide) (wC_in fX5_given) rfl rfl dX5_get_20 ?_
      refine w_iload_n C dX5_get_23 1 rfl ?_
      refine w_aald (n := 2) (f := fun j => some (Q (9 + j))) C 5 3 rfl rfl rfl (0) ⟨rfl, by decide, by decide⟩ (rfl) dX5_get_24 ?_
      refine w_iload_n C dX5_get_25 2 rfl ?_
      refine w_iald C 9 0 rfl rfl (pw.toNat) ((X.2.2.2.2.2.1 pw.toNat).toInt) ⟨by omega, by omega, by omega⟩ ((iZ_self _).symm) dX5_get_26 ?_
      refine w_goto C 31 dX5_get_27 (by decide) ?_
      exact m_iret hsz C hr hlk (⟨by rw [if_pos hpw2, iZ_self], rfl⟩) dX5_get_31
set_option maxHeartbeats 4000000 in
set_option maxRecDepth 100000 in
/-- set -/
theorem cm_set0 (l : Launch) (D : va_G) (Q : Nat → Nat) (G : Nat → ClassId) (fL fS fN fD : Nat → Int32) (X : mX) (pw cv : Int) (hpw : -2147483648 ≤ pw ∧ pw < 2147483648) (hcv : -2147483648 ≤ cv ∧ cv < 2147483648) (sz : Nat) : Met l yX5_set (wC yX5_set cX5_set 4 (some .int)) ({ frames := 2, cells := 0, slots := 0, locals := 45 }) (va_Pc [.ref (Q 0), .int (iZ (0)), .int (iZ (pw)), .int (iZ (cv))] (mPre D Q G (fL, fS, fN, fD, X) sz)) (va_Qi (fun (r : Int32) (u : mT) => (((0 ≤ pw ∧ pw ≤ 8) ∧ (-1000000000 ≤ cv ∧ cv ≤ 1000000000)) ∧ r = iZ 0 ∧ u = (fL, fS, fN, fD, xF (xG0 X (upd X.2.2.2.2.2.1 pw.toNat (iZ cv))) (iZ 0) (iZ 0))) ∨ (¬ ((0 ≤ pw ∧ pw ≤ 8) ∧ (-1000000000 ≤ cv ∧ cv ≤ 1000000000)) ∧ r = iZ (-2) ∧ u = (fL, fS, fN, fD, X))) (mAt D Q G (mA Q sz)) (mA Q sz)) 0 0 (mA Q sz) := by
  refine m_met (cc := cX5_set) (maxL := 4) (ret := (some .int)) (by decide) rfl rfl (Nat.le_of_ble_eq_true rfl) ?_
  intro p e s m below meth c hsz C hr hlk
  refine w_sub [(0, .ref (Q 0)), (1, .int (iZ (0))), (2, .int (iZ (pw))), (3, .int (iZ (cv)))] [0, 1, 2, 3] rfl ?_
  refine w_iload_n C dX5_set_0 1 rfl ?_
  refine m_callSi [.int (iZ (0))] hsz C (fun z => cm_isWhich l D Q G fL fS fN fD X (0) (by omega) z) (cwS 1 C.1.2.2.2.2 (wC_S kX5_140 stX5_isWhich iniX5 cdX5_isWhich) rfl rfl rfl (by decide +kernel) ⟨Nat.le_of_ble_eq_true rfl, Nat.le_of_ble_eq_true rfl⟩) rfl ⟨Nat.zero_le _, Nat.zero_le _⟩ (Nat.le_of_ble_eq_true rfl) dX5_set_1 [.int (iZ (0))] rfl (fun r v1 hv1 => ?_)
  obtain ⟨rfl, rfl⟩ := hv1
  refine w_top C (1) (by decide) ?_
  refine w_if_eq C 33 dX5_set_4 (by decide) ⟨by omega, by omega⟩ (fun c4 => ?_) (fun c4 => ?_)
  · exact absurd c4 (by omega)
  · refine w_iload_n C dX5_set_7 2 rfl ?_
    refine w_i2l C dX5_set_8 ⟨by omega, by omega⟩ ?_
    refine w_lconst C 0 dX5_set_9 rfl ?_
    refine w_ldc2 C (8) dX5_set_10 (wC_in kclX5_144) ?_
    refine m_callSi [.long (lZ (pw)), .long (lZ (0)), .long (lZ (8))] hsz C (fun z => cm_in l D Q G fL fS fN fD X (pw) (0) (8) (by omega) (by omega) (by omega) z) (cwS 3 C.1.2.2.2.2 (wC_S kX5_132 stX5_in iniX5 cdX5_in) rfl rfl rfl (by decide +kernel) ⟨Nat.le_of_ble_eq_true rfl, Nat.le_of_ble_eq_true rfl⟩) rfl ⟨Nat.zero_le _, Nat.zero_le _⟩ (Nat.le_of_ble_eq_true rfl) dX5_set_13 [.long (lZ (8)), .long (lZ (0)), .long (lZ (pw))] rfl (fun r v2 hv2 => ?_)
    obtain ⟨rfl, rfl⟩ := hv2
    refine w_if_eq C 33 dX5_set_16 (by decide) (by split <;> omega) (fun c16 => ?_) (fun c16 => ?_)
    · have hno : ¬ ((0 ≤ pw ∧ pw ≤ 8) ∧ (-1000000000 ≤ cv ∧ cv ≤ 1000000000)) := fun g => by first | (rw [if_pos g.2] at c30; omega) | (rw [if_pos g.1] at c16; omega)
      refine w_bipush C dX5_set_33 (by decide) ?_
      exact m_iret hsz C hr hlk (Or.inr ⟨hno, rfl, rfl⟩) dX5_set_35
    · refine w_iload_n C dX5_set_19 3 rfl ?_
      refine w_i2l C dX5_set_20 ⟨by omega, by omega⟩ ?_
      refine w_ldc2 C (-1000000000) dX5_set_21 (wC_in kclX5_146) ?_
      refine w_ldc2 C (1000000000) dX5_set_24 (wC_in kclX5_148) ?_
      refine m_callSi [.long (lZ (cv)), .long (lZ ((-1000000000))), .long (lZ (1000000000))] hsz C (fun z => cm_in l D Q G fL fS fN fD X (cv) (-1000000000) (1000000000) (by omega) (by omega) (by omega) z) (cwS 3 C.1.2.2.2.2 (wC_S kX5_132 stX5_in iniX5 cdX5_in) rfl rfl rfl (by decide +kernel) ⟨Nat.le_of_ble_eq_true rfl, Nat.le_of_ble_eq_true rfl⟩) rfl ⟨Nat.zero_le _, Nat.zero_le _⟩ (Nat.le_of_ble_eq_true rfl) dX5_set_27 [.long (lZ (1000000000)), .long (lZ ((-1000000000))), .long (lZ (cv))] rfl (fun r v3 hv3 => ?_)
      obtain ⟨rfl, rfl⟩ := hv3
      refine w_if_ne C 36 dX5_set_30 (by decide) (by split <;> omega) (fun c30 => ?_) (fun c30 => ?_)
      · have h1 : 0 ≤ pw ∧ pw ≤ 8 := Decidable.byContradiction (fun g => c16 (if_neg g))
        have h2 : -1000000000 ≤ cv ∧ cv ≤ 1000000000 := Decidable.byContradiction (fun g => c30 (if_neg g))
        refine w_aload_n C dX5_set_36 0 rfl ?_
        refine w_get (ci := 5) (ref := "RootIsolatorModel") (T := TX5) (Cn := RX5) (N := 10) C (fun w h => wC_in (inX5 w h)) 0 rfl rfl 0 (by decide) (wC_in fX5_given) rfl rfl dX5_set_37 ?_
        refine w_iload_n C dX5_set_40 1 rfl ?_
        refine w_aald (n := 2) (f := fun j => some (Q (9 + j))) C 5 3 rfl rfl rfl (0) ⟨rfl, by decide, by decide⟩ (rfl) dX5_set_41 ?_
        refine w_iload_n C dX5_set_42 2 rfl ?_
        refine w_iload_n C dX5_set_43 3 rfl ?_
        refine w_iast C (mU Q G (fL, fS, fN, fD, (xG0 X (upd X.2.2.2.2.2.1 (pw.toNat) (iZ (cv)))))) 9 0 rfl rfl (pw.toNat) ⟨by omega, by omega, by omega⟩ rfl dX5_set_44 ?_
        refine w_iload_n C dX5_set_45 1 rfl ?_
        refine w_if_ne C 53 dX5_set_46 (by decide) ⟨by omega, by omega⟩ (fun c46 => ?_) (fun c46 => ?_)
        · exact absurd c46 (by omega)
        · refine w_aload_n C dX5_set_49 0 rfl ?_
          refine m_callv [] hsz C (fun z => cm_forget l D Q G fL fS fN fD (xG0 X (upd X.2.2.2.2.2.1 (pw.toNat) (iZ (cv))))  z) (cwV 0 C.1.2.2.2.2 (wC_V kX5_150 nX5_forget slX5_forget iniX5 cdX5_forget) rfl rfl rfl (by decide +kernel) ⟨Nat.le_of_ble_eq_true rfl, Nat.le_of_ble_eq_true rfl⟩) rfl ⟨Nat.zero_le _, Nat.zero_le _⟩ (Nat.le_of_ble_eq_true rfl) dX5_set_50 [.ref (Q 0)] rfl (fun v4 hv4 => ?_)
          obtain rfl := hv4
          refine w_iconst C dX5_set_53 ?_
          exact m_iret hsz C hr hlk (Or.inl ⟨⟨h1, h2⟩, rfl, rfl⟩) dX5_set_54
      · have hno : ¬ ((0 ≤ pw ∧ pw ≤ 8) ∧ (-1000000000 ≤ cv ∧ cv ≤ 1000000000)) := fun g => by first | (rw [if_pos g.2] at c30; omega) | (rw [if_pos g.1] at c16; omega)
        refine w_bipush C dX5_set_33 (by decide) ?_
        exact m_iret hsz C hr hlk (Or.inr ⟨hno, rfl, rfl⟩) dX5_set_35
set_option maxHeartbeats 4000000 in
set_option maxRecDepth 100000 in
/-- degreeOf -/
theorem cm_degreeOf1 (l : Launch) (D : va_G) (Q : Nat → Nat) (G : Nat → ClassId) (fL fS fN fD : Nat → Int32) (X : mX)   (sz : Nat) : Met l yX5_degreeOf (wC yX5_degreeOf cX5_degreeOf 3 (some .int)) ({ frames := 0, cells := 0, slots := 0, locals := 0 }) (va_Pc [.ref (Q 0), .int (iZ (1))] (mPre D Q G (fL, fS, fN, fD, X) sz)) (va_Qi (fun (r : Int32) (u : mT) => (∃ n : Nat, topN X.2.2.2.2.2.2 n ∧ r = iZ ((n : Int) - 1)) ∧ u = (fL, fS, fN, fD, X)) (mAt D Q G (mA Q sz)) (mA Q sz)) 0 0 (mA Q sz) := by
  refine m_met (cc := cX5_degreeOf) (maxL := 3) (ret := (some .int)) (by decide) rfl rfl (Nat.le_of_ble_eq_true rfl) ?_
  intro p e s m below meth c hsz C hr hlk
  refine w_sub [(0, .ref (Q 0)), (1, .int (iZ (1)))] [0, 1] rfl ?_
  have loop : ∀ (d : Nat) (j : Nat), j < d → j ≤ 9 → (∀ k : Nat, j ≤ k → k < 9 → (X.2.2.2.2.2.2 k).toInt = 0) → ZW p l e ({ frames := 0, cells := 0, slots := 0, locals := 0 }) s m ([.ref (Q 0), .int (iZ (1))] : List Value).toArray below meth c D (mA Q sz) 3 0 0 (MQ below (va_Qi (fun (r : Int32) (u : mT) => (∃ n : Nat, topN X.2.2.2.2.2.2 n ∧ r = iZ ((n : Int) - 1)) ∧ u = (fL, fS, fN, fD, X)) (mAt D Q G (mA Q sz)) (mA Q sz)) ([.ref (Q 0), .int (iZ (1))] : List Value).toArray s 0 0 (mA Q sz)) (mU Q G (fL, fS, fN, fD, X)) 3 [(2, .int (iZ ((j : Int) - 1))), (0, .ref (Q 0)), (1, .int (iZ (1)))] [] := by
    intro d
    induction d with
    | zero =>
      intro j hd hj hz
      exact absurd hd (by omega)
    | succ d ih =>
      intro j hd hj hz
      refine w_iload_n C dX5_degreeOf_3 0 rfl ?_
      refine w_if_lt C 24 dX5_degreeOf_4 (by decide) ⟨by omega, by omega⟩ (fun c4 => ?_) (fun c4 => ?_)
      · refine w_iload_n C dX5_degreeOf_24 0 rfl ?_
        exact m_iret hsz C hr hlk (⟨⟨j, ⟨hj, hz, fun k h => absurd h (by omega)⟩, rfl⟩, rfl⟩) dX5_degreeOf_25
      · obtain ⟨i, rfl⟩ : ∃ i, j = i + 1 := ⟨j - 1, by omega⟩
        refine w_aload_n C dX5_degreeOf_7 1 rfl ?_
        refine w_get (ci := 5) (ref := "RootIsolatorModel") (T := TX5) (Cn := RX5) (N := 10) C (fun w h => wC_in (inX5 w h)) 0 rfl rfl 0 (by decide) (wC_in fX5_given) rfl rfl dX5_degreeOf_8 ?_
        refine w_iload_n C dX5_degreeOf_11 2 rfl ?_
        refine w_aald (n := 2) (f := fun j => some (Q (9 + j))) C 5 3 rfl rfl rfl (1) ⟨rfl, by decide, by decide⟩ (rfl) dX5_degreeOf_12 ?_
        refine w_iload_n C dX5_degreeOf_13 0 rfl ?_
        refine w_iald C 10 0 rfl rfl (i) ((X.2.2.2.2.2.2 i).toInt) ⟨by omega, by omega, by omega⟩ ((iZ_self _).symm) dX5_degreeOf_14 ?_
        refine w_if_ne C 24 dX5_degreeOf_15 (by decide) (i32r _) (fun c15 => ?_) (fun c15 => ?_)
        · refine w_iload_n C dX5_degreeOf_24 0 rfl ?_
          exact m_iret hsz C hr hlk (⟨⟨i + 1, ⟨hj, hz, fun k h => by (have : k = i := by omega); subst this; exact c15⟩, rfl⟩, rfl⟩) dX5_degreeOf_25
        · refine w_iinc C ((i : Int) - 1) (by omega) [(2, .int (iZ ((i : Int) - 1))), (0, .ref (Q 0)), (1, .int (iZ (1)))] dX5_degreeOf_18 0 rfl (by decide) rfl ?_
          refine w_goto C 3 dX5_degreeOf_21 (by decide) ?_
          exact ih i (by omega) (by omega) (fun k h1 h2 => by
            rcases Nat.lt_or_ge i k with g | g
            · exact hz k (by omega) h2
            · have : k = i := by omega
              subst this; exact c15)
  refine w_bipush C dX5_degreeOf_0 (by decide) ?_
  refine w_top C (((9 : Nat) : Int) - 1) (by omega) ?_
  refine w_istore_n C [(2, .int (iZ (((9 : Nat) : Int) - 1))), (0, .ref (Q 0)), (1, .int (iZ (1)))] dX5_degreeOf_2 rfl (by decide) rfl ?_
  exact loop 10 9 (by omega) (by omega) (fun k h1 h2 => absurd h1 (by omega))
set_option maxHeartbeats 4000000 in
set_option maxRecDepth 100000 in
/-- told -/
theorem cm_told1 (l : Launch) (D : va_G) (Q : Nat → Nat) (G : Nat → ClassId) (fL fS fN fD : Nat → Int32) (X : mX)   (sz : Nat) : Met l yX5_told (wC yX5_told cX5_told 3 (some .int)) ({ frames := 1, cells := 0, slots := 0, locals := 22 }) (va_Pc [.ref (Q 0), .int (iZ (1))] (mPre D Q G (fL, fS, fN, fD, X) sz)) (va_Qi (fun (r : Int32) (u : mT) => (∃ n : Nat, topN X.2.2.2.2.2.2 n ∧ r = iZ (if n = 0 then -3 else (n : Int) - 1)) ∧ u = (fL, fS, fN, fD, X)) (mAt D Q G (mA Q sz)) (mA Q sz)) 0 0 (mA Q sz) := by
  refine m_met (cc := cX5_told) (maxL := 3) (ret := (some .int)) (by decide) rfl rfl (Nat.le_of_ble_eq_true rfl) ?_
  intro p e s m below meth c hsz C hr hlk
  refine w_sub [(0, .ref (Q 0)), (1, .int (iZ (1)))] [0, 1] rfl ?_
  refine w_aload_n C dX5_told_0 0 rfl ?_
  refine w_iload_n C dX5_told_1 1 rfl ?_
  refine m_calli [.int (iZ (1))] hsz C (fun z => cm_degreeOf1 l D Q G fL fS fN fD X  z) (cwV 1 C.1.2.2.2.2 (wC_V kX5_153 nX5_degreeOf slX5_degreeOf iniX5 cdX5_degreeOf) rfl rfl rfl (by decide +kernel) ⟨Nat.le_of_ble_eq_true rfl, Nat.le_of_ble_eq_true rfl⟩) rfl ⟨Nat.zero_le _, Nat.zero_le _⟩ (Nat.le_of_ble_eq_true rfl) dX5_told_2 [.int (iZ (1)), .ref (Q 0)] rfl (fun r v1 hv1 => ?_)
  obtain ⟨⟨n, hn, rfl⟩, rfl⟩ := hv1
  have hn9 := hn.1
  refine w_istore_n C [(2, .int (iZ ((n : Int) - 1))), (0, .ref (Q 0)), (1, .int (iZ (1)))] dX5_told_5 rfl (by decide) rfl ?_
  refine w_iload_n C dX5_told_6 0 rfl ?_
  refine w_if_ge C 15 dX5_told_7 (by decide) ⟨by omega, by omega⟩ (fun c7 => ?_) (fun c7 => ?_)
  · refine w_iload_n C dX5_told_15 0 rfl ?_
    exact m_iret hsz C hr hlk (⟨⟨n, hn, by rw [if_neg (by omega)]⟩, rfl⟩) dX5_told_16
  · refine w_bipush C dX5_told_10 (by decide) ?_
    refine w_goto C 16 dX5_told_12 (by decide) ?_
    exact m_iret hsz C hr hlk (⟨⟨n, hn, by rw [if_pos (by omega)]⟩, rfl⟩) dX5_told_16
set_option maxHeartbeats 4000000 in
set_option maxRecDepth 100000 in
/-- degree -/
theorem cm_degree1 (l : Launch) (D : va_G) (Q : Nat → Nat) (G : Nat → ClassId) (fL fS fN fD : Nat → Int32) (X : mX)   (sz : Nat) : Met l yX5_degree (wC yX5_degree cX5_degree 2 (some .int)) ({ frames := 2, cells := 0, slots := 0, locals := 45 }) (va_Pc [.ref (Q 0), .int (iZ (1))] (mPre D Q G (fL, fS, fN, fD, X) sz)) (va_Qi (fun (r : Int32) (u : mT) => (∃ n : Nat, topN X.2.2.2.2.2.2 n ∧ r = iZ (if n = 0 then -3 else (n : Int) - 1)) ∧ u = (fL, fS, fN, fD, X)) (mAt D Q G (mA Q sz)) (mA Q sz)) 0 0 (mA Q sz) := by
  refine m_met (cc := cX5_degree) (maxL := 2) (ret := (some .int)) (by decide) rfl rfl (Nat.le_of_ble_eq_true rfl) ?_
  intro p e s m below meth c hsz C hr hlk
  refine w_sub [(0, .ref (Q 0)), (1, .int (iZ (1)))] [0, 1] rfl ?_
  refine w_iload_n C dX5_degree_0 1 rfl ?_
  refine m_callSi [.int (iZ (1))] hsz C (fun z => cm_isWhich l D Q G fL fS fN fD X (1) (by omega) z) (cwS 1 C.1.2.2.2.2 (wC_S kX5_140 stX5_isWhich iniX5 cdX5_isWhich) rfl rfl rfl (by decide +kernel) ⟨Nat.le_of_ble_eq_true rfl, Nat.le_of_ble_eq_true rfl⟩) rfl ⟨Nat.zero_le _, Nat.zero_le _⟩ (Nat.le_of_ble_eq_true rfl) dX5_degree_1 [.int (iZ (1))] rfl (fun r v1 hv1 => ?_)
  obtain ⟨rfl, rfl⟩ := hv1
  refine w_top C (1) (by decide) ?_
  refine w_if_eq C 15 dX5_degree_4 (by decide) ⟨by omega, by omega⟩ (fun c4 => ?_) (fun c4 => ?_)
  · exact absurd c4 (by omega)
  · refine w_aload_n C dX5_degree_7 0 rfl ?_
    refine w_iload_n C dX5_degree_8 1 rfl ?_
    refine m_calli [.int (iZ (1))] hsz C (fun z => cm_told1 l D Q G fL fS fN fD X  z) (cwV 1 C.1.2.2.2.2 (wC_V kX5_156 nX5_told slX5_told iniX5 cdX5_told) rfl rfl rfl (by decide +kernel) ⟨Nat.le_of_ble_eq_true rfl, Nat.le_of_ble_eq_true rfl⟩) rfl ⟨Nat.zero_le _, Nat.zero_le _⟩ (Nat.le_of_ble_eq_true rfl) dX5_degree_9 [.int (iZ (1)), .ref (Q 0)] rfl (fun r v2 hv2 => ?_)
    obtain ⟨⟨n, hn, rfl⟩, rfl⟩ := hv2
    refine w_goto C 17 dX5_degree_12 (by decide) ?_
    exact m_iret hsz C hr hlk (⟨⟨n, hn, rfl⟩, rfl⟩) dX5_degree_17
set_option maxHeartbeats 4000000 in
set_option maxRecDepth 100000 in
/-- get -/
theorem cm_get1 (l : Launch) (D : va_G) (Q : Nat → Nat) (G : Nat → ClassId) (fL fS fN fD : Nat → Int32) (X : mX) (pw : Int) (hpw : -2147483648 ≤ pw ∧ pw < 2147483648) (sz : Nat) : Met l yX5_get (wC yX5_get cX5_get 3 (some .int)) ({ frames := 2, cells := 0, slots := 0, locals := 45 }) (va_Pc [.ref (Q 0), .int (iZ (1)), .int (iZ (pw))] (mPre D Q G (fL, fS, fN, fD, X) sz)) (va_Qi (fun (r : Int32) (u : mT) => r = (if 0 ≤ pw ∧ pw ≤ 8 then X.2.2.2.2.2.2 pw.toNat else 0) ∧ u = (fL, fS, fN, fD, X)) (mAt D Q G (mA Q sz)) (mA Q sz)) 0 0 (mA Q sz) := by
  refine m_met (cc := cX5_get) (maxL := 3) (ret := (some .int)) (by decide) rfl rfl (Nat.le_of_ble_eq_true rfl) ?_
  intro p e s m below meth c hsz C hr hlk
  refine w_sub [(0, .ref (Q 0)), (1, .int (iZ (1))), (2, .int (iZ (pw)))] [0, 1, 2] rfl ?_
  refine w_iload_n C dX5_get_0 1 rfl ?_
  refine m_callSi [.int (iZ (1))] hsz C (fun z => cm_isWhich l D Q G fL fS fN fD X (1) (by omega) z) (cwS 1 C.1.2.2.2.2 (wC_S kX5_140 stX5_isWhich iniX5 cdX5_isWhich) rfl rfl rfl (by decide +kernel) ⟨Nat.le_of_ble_eq_true rfl, Nat.le_of_ble_eq_true rfl⟩) rfl ⟨Nat.zero_le _, Nat.zero_le _⟩ (Nat.le_of_ble_eq_true rfl) dX5_get_1 [.int (iZ (1))] rfl (fun r v1 hv1 => ?_)
  obtain ⟨rfl, rfl⟩ := hv1
  refine w_top C (1) (by decide) ?_
  refine w_if_eq C 30 dX5_get_4 (by decide) ⟨by omega, by omega⟩ (fun c4 => ?_) (fun c4 => ?_)
  · exact absurd c4 (by omega)
  · refine w_iload_n C dX5_get_7 2 rfl ?_
    refine w_i2l C dX5_get_8 ⟨by omega, by omega⟩ ?_
    refine w_lconst C 0 dX5_get_9 rfl ?_
    refine w_ldc2 C (8) dX5_get_10 (wC_in kclX5_144) ?_
    refine m_callSi [.long (lZ (pw)), .long (lZ (0)), .long (lZ (8))] hsz C (fun z => cm_in l D Q G fL fS fN fD X (pw) (0) (8) (by omega) (by omega) (by omega) z) (cwS 3 C.1.2.2.2.2 (wC_S kX5_132 stX5_in iniX5 cdX5_in) rfl rfl rfl (by decide +kernel) ⟨Nat.le_of_ble_eq_true rfl, Nat.le_of_ble_eq_true rfl⟩) rfl ⟨Nat.zero_le _, Nat.zero_le _⟩ (Nat.le_of_ble_eq_true rfl) dX5_get_13 [.long (lZ (8)), .long (lZ (0)), .long (lZ (pw))] rfl (fun r v2 hv2 => ?_)
    obtain ⟨rfl, rfl⟩ := hv2
    refine w_if_eq C 30 dX5_get_16 (by decide) (by split <;> omega) (fun c16 => ?_) (fun c16 => ?_)
    · have hpw2 : ¬ (0 ≤ pw ∧ pw ≤ 8) := fun g => by rw [if_pos g] at c16; omega
      refine w_iconst C dX5_get_30 ?_
      exact m_iret hsz C hr hlk (⟨by rw [if_neg hpw2]; rfl, rfl⟩) dX5_get_31
    · have hpw2 : 0 ≤ pw ∧ pw ≤ 8 := Decidable.byContradiction (fun g => c16 (if_neg g))
      refine w_aload_n C dX5_get_19 0 rfl ?_
      refine w_get (ci := 5) (ref := "RootIsolatorModel") (T := TX5) (Cn := RX5) (N := 10) C (fun w h => wC_in (inX5 w h)) 0 rfl rfl 0 (by decide) (wC_in fX5_given) rfl rfl dX5_get_20 ?_
      refine w_iload_n C dX5_get_23 1 rfl ?_
      refine w_aald (n := 2) (f := fun j => some (Q (9 + j))) C 5 3 rfl rfl rfl (1) ⟨rfl, by decide, by decide⟩ (rfl) dX5_get_24 ?_
      refine w_iload_n C dX5_get_25 2 rfl ?_
      refine w_iald C 10 0 rfl rfl (pw.toNat) ((X.2.2.2.2.2.2 pw.toNat).toInt) ⟨by omega, by omega, by omega⟩ ((iZ_self _).symm) dX5_get_26 ?_
      refine w_goto C 31 dX5_get_27 (by decide) ?_
      exact m_iret hsz C hr hlk (⟨by rw [if_pos hpw2, iZ_self], rfl⟩) dX5_get_31
set_option maxHeartbeats 4000000 in
set_option maxRecDepth 100000 in
/-- set -/
theorem cm_set1 (l : Launch) (D : va_G) (Q : Nat → Nat) (G : Nat → ClassId) (fL fS fN fD : Nat → Int32) (X : mX) (pw cv : Int) (hpw : -2147483648 ≤ pw ∧ pw < 2147483648) (hcv : -2147483648 ≤ cv ∧ cv < 2147483648) (sz : Nat) : Met l yX5_set (wC yX5_set cX5_set 4 (some .int)) ({ frames := 2, cells := 0, slots := 0, locals := 45 }) (va_Pc [.ref (Q 0), .int (iZ (1)), .int (iZ (pw)), .int (iZ (cv))] (mPre D Q G (fL, fS, fN, fD, X) sz)) (va_Qi (fun (r : Int32) (u : mT) => (((0 ≤ pw ∧ pw ≤ 8) ∧ (-1000000000 ≤ cv ∧ cv ≤ 1000000000)) ∧ r = iZ 0 ∧ u = (fL, fS, fN, fD, xG1 X (upd X.2.2.2.2.2.2 pw.toNat (iZ cv)))) ∨ (¬ ((0 ≤ pw ∧ pw ≤ 8) ∧ (-1000000000 ≤ cv ∧ cv ≤ 1000000000)) ∧ r = iZ (-2) ∧ u = (fL, fS, fN, fD, X))) (mAt D Q G (mA Q sz)) (mA Q sz)) 0 0 (mA Q sz) := by
  refine m_met (cc := cX5_set) (maxL := 4) (ret := (some .int)) (by decide) rfl rfl (Nat.le_of_ble_eq_true rfl) ?_
  intro p e s m below meth c hsz C hr hlk
  refine w_sub [(0, .ref (Q 0)), (1, .int (iZ (1))), (2, .int (iZ (pw))), (3, .int (iZ (cv)))] [0, 1, 2, 3] rfl ?_
  refine w_iload_n C dX5_set_0 1 rfl ?_
  refine m_callSi [.int (iZ (1))] hsz C (fun z => cm_isWhich l D Q G fL fS fN fD X (1) (by omega) z) (cwS 1 C.1.2.2.2.2 (wC_S kX5_140 stX5_isWhich iniX5 cdX5_isWhich) rfl rfl rfl (by decide +kernel) ⟨Nat.le_of_ble_eq_true rfl, Nat.le_of_ble_eq_true rfl⟩) rfl ⟨Nat.zero_le _, Nat.zero_le _⟩ (Nat.le_of_ble_eq_true rfl) dX5_set_1 [.int (iZ (1))] rfl (fun r v1 hv1 => ?_)
  obtain ⟨rfl, rfl⟩ := hv1
  refine w_top C (1) (by decide) ?_
  refine w_if_eq C 33 dX5_set_4 (by decide) ⟨by omega, by omega⟩ (fun c4 => ?_) (fun c4 => ?_)
  · exact absurd c4 (by omega)
  · refine w_iload_n C dX5_set_7 2 rfl ?_
    refine w_i2l C dX5_set_8 ⟨by omega, by omega⟩ ?_
    refine w_lconst C 0 dX5_set_9 rfl ?_
    refine w_ldc2 C (8) dX5_set_10 (wC_in kclX5_144) ?_
    refine m_callSi [.long (lZ (pw)), .long (lZ (0)), .long (lZ (8))] hsz C (fun z => cm_in l D Q G fL fS fN fD X (pw) (0) (8) (by omega) (by omega) (by omega) z) (cwS 3 C.1.2.2.2.2 (wC_S kX5_132 stX5_in iniX5 cdX5_in) rfl rfl rfl (by decide +kernel) ⟨Nat.le_of_ble_eq_true rfl, Nat.le_of_ble_eq_true rfl⟩) rfl ⟨Nat.zero_le _, Nat.zero_le _⟩ (Nat.le_of_ble_eq_true rfl) dX5_set_13 [.long (lZ (8)), .long (lZ (0)), .long (lZ (pw))] rfl (fun r v2 hv2 => ?_)
    obtain ⟨rfl, rfl⟩ := hv2
    refine w_if_eq C 33 dX5_set_16 (by decide) (by split <;> omega) (fun c16 => ?_) (fun c16 => ?_)
    · have hno : ¬ ((0 ≤ pw ∧ pw ≤ 8) ∧ (-1000000000 ≤ cv ∧ cv ≤ 1000000000)) := fun g => by first | (rw [if_pos g.2] at c30; omega) | (rw [if_pos g.1] at c16; omega)
      refine w_bipush C dX5_set_33 (by decide) ?_
      exact m_iret hsz C hr hlk (Or.inr ⟨hno, rfl, rfl⟩) dX5_set_35
    · refine w_iload_n C dX5_set_19 3 rfl ?_
      refine w_i2l C dX5_set_20 ⟨by omega, by omega⟩ ?_
      refine w_ldc2 C (-1000000000) dX5_set_21 (wC_in kclX5_146) ?_
      refine w_ldc2 C (1000000000) dX5_set_24 (wC_in kclX5_148) ?_
      refine m_callSi [.long (lZ (cv)), .long (lZ ((-1000000000))), .long (lZ (1000000000))] hsz C (fun z => cm_in l D Q G fL fS fN fD X (cv) (-1000000000) (1000000000) (by omega) (by omega) (by omega) z) (cwS 3 C.1.2.2.2.2 (wC_S kX5_132 stX5_in iniX5 cdX5_in) rfl rfl rfl (by decide +kernel) ⟨Nat.le_of_ble_eq_true rfl, Nat.le_of_ble_eq_true rfl⟩) rfl ⟨Nat.zero_le _, Nat.zero_le _⟩ (Nat.le_of_ble_eq_true rfl) dX5_set_27 [.long (lZ (1000000000)), .long (lZ ((-1000000000))), .long (lZ (cv))] rfl (fun r v3 hv3 => ?_)
      obtain ⟨rfl, rfl⟩ := hv3
      refine w_if_ne C 36 dX5_set_30 (by decide) (by split <;> omega) (fun c30 => ?_) (fun c30 => ?_)
      · have h1 : 0 ≤ pw ∧ pw ≤ 8 := Decidable.byContradiction (fun g => c16 (if_neg g))
        have h2 : -1000000000 ≤ cv ∧ cv ≤ 1000000000 := Decidable.byContradiction (fun g => c30 (if_neg g))
        refine w_aload_n C dX5_set_36 0 rfl ?_
        refine w_get (ci := 5) (ref := "RootIsolatorModel") (T := TX5) (Cn := RX5) (N := 10) C (fun w h => wC_in (inX5 w h)) 0 rfl rfl 0 (by decide) (wC_in fX5_given) rfl rfl dX5_set_37 ?_
        refine w_iload_n C dX5_set_40 1 rfl ?_
        refine w_aald (n := 2) (f := fun j => some (Q (9 + j))) C 5 3 rfl rfl rfl (1) ⟨rfl, by decide, by decide⟩ (rfl) dX5_set_41 ?_
        refine w_iload_n C dX5_set_42 2 rfl ?_
        refine w_iload_n C dX5_set_43 3 rfl ?_
        refine w_iast C (mU Q G (fL, fS, fN, fD, (xG1 X (upd X.2.2.2.2.2.2 (pw.toNat) (iZ (cv)))))) 10 0 rfl rfl (pw.toNat) ⟨by omega, by omega, by omega⟩ rfl dX5_set_44 ?_
        refine w_iload_n C dX5_set_45 1 rfl ?_
        refine w_if_ne C 53 dX5_set_46 (by decide) ⟨by omega, by omega⟩ (fun c46 => ?_) (fun c46 => ?_)
        · refine w_iconst C dX5_set_53 ?_
          exact m_iret hsz C hr hlk (Or.inl ⟨⟨h1, h2⟩, rfl, rfl⟩) dX5_set_54
        · exact absurd c46 (by omega)
      · have hno : ¬ ((0 ≤ pw ∧ pw ≤ 8) ∧ (-1000000000 ≤ cv ∧ cv ≤ 1000000000)) := fun g => by first | (rw [if_pos g.2] at c30; omega) | (rw [if_pos g.1] at c16; omega)
        refine w_bipush C dX5_set_33 (by decide) ?_
        exact m_iret hsz C hr hlk (Or.inr ⟨hno, rfl, rfl⟩) dX5_set_35
set_option maxHeartbeats 4000000 in
set_option maxRecDepth 100000 in
/-- degree of what there is not -/
theorem cm_degreeB (l : Launch) (D : va_G) (Q : Nat → Nat) (G : Nat → ClassId) (fL fS fN fD : Nat → Int32) (X : mX) (w : Int)  (hw : -2147483648 ≤ w ∧ w < 2147483648) (hbad : ¬ (0 ≤ w ∧ w ≤ 1)) (sz : Nat) : Met l yX5_degree (wC yX5_degree cX5_degree 2 (some .int)) ({ frames := 2, cells := 0, slots := 0, locals := 45 }) (va_Pc [.ref (Q 0), .int (iZ (w))] (mPre D Q G (fL, fS, fN, fD, X) sz)) (va_Qi (fun (r : Int32) (u : mT) => r = iZ (-2) ∧ u = (fL, fS, fN, fD, X)) (mAt D Q G (mA Q sz)) (mA Q sz)) 0 0 (mA Q sz) := by
  refine m_met (cc := cX5_degree) (maxL := 2) (ret := (some .int)) (by decide) rfl rfl (Nat.le_of_ble_eq_true rfl) ?_
  intro p e s m below meth c hsz C hr hlk
  refine w_sub [(0, .ref (Q 0)), (1, .int (iZ (w)))] [0, 1] rfl ?_
  refine w_iload_n C dX5_degree_0 1 rfl ?_
  refine m_callSi [.int (iZ (w))] hsz C (fun z => cm_isWhich l D Q G fL fS fN fD X (w) (by omega) z) (cwS 1 C.1.2.2.2.2 (wC_S kX5_140 stX5_isWhich iniX5 cdX5_isWhich) rfl rfl rfl (by decide +kernel) ⟨Nat.le_of_ble_eq_true rfl, Nat.le_of_ble_eq_true rfl⟩) rfl ⟨Nat.zero_le _, Nat.zero_le _⟩ (Nat.le_of_ble_eq_true rfl) dX5_degree_1 [.int (iZ (w))] rfl (fun r v1 hv1 => ?_)
  obtain ⟨rfl, rfl⟩ := hv1
  refine w_top C (0) (if_neg hbad) ?_
  refine w_if_eq C 15 dX5_degree_4 (by decide) ⟨by omega, by omega⟩ (fun c4 => ?_) (fun c4 => ?_)
  · refine w_bipush C dX5_degree_15 (by decide) ?_
    exact m_iret hsz C hr hlk (⟨rfl, rfl⟩) dX5_degree_17
  · exact absurd c4 (by omega)
set_option maxHeartbeats 4000000 in
set_option maxRecDepth 100000 in
/-- get of what there is not -/
theorem cm_getB (l : Launch) (D : va_G) (Q : Nat → Nat) (G : Nat → ClassId) (fL fS fN fD : Nat → Int32) (X : mX) (w : Int) (pw : Int) (hw : -2147483648 ≤ w ∧ w < 2147483648) (hbad : ¬ (0 ≤ w ∧ w ≤ 1)) (sz : Nat) : Met l yX5_get (wC yX5_get cX5_get 3 (some .int)) ({ frames := 2, cells := 0, slots := 0, locals := 45 }) (va_Pc [.ref (Q 0), .int (iZ (w)), .int (iZ (pw))] (mPre D Q G (fL, fS, fN, fD, X) sz)) (va_Qi (fun (r : Int32) (u : mT) => r = iZ (0) ∧ u = (fL, fS, fN, fD, X)) (mAt D Q G (mA Q sz)) (mA Q sz)) 0 0 (mA Q sz) := by
  refine m_met (cc := cX5_get) (maxL := 3) (ret := (some .int)) (by decide) rfl rfl (Nat.le_of_ble_eq_true rfl) ?_
  intro p e s m below meth c hsz C hr hlk
  refine w_sub [(0, .ref (Q 0)), (1, .int (iZ (w))), (2, .int (iZ (pw)))] [0, 1, 2] rfl ?_
  refine w_iload_n C dX5_get_0 1 rfl ?_
  refine m_callSi [.int (iZ (w))] hsz C (fun z => cm_isWhich l D Q G fL fS fN fD X (w) (by omega) z) (cwS 1 C.1.2.2.2.2 (wC_S kX5_140 stX5_isWhich iniX5 cdX5_isWhich) rfl rfl rfl (by decide +kernel) ⟨Nat.le_of_ble_eq_true rfl, Nat.le_of_ble_eq_true rfl⟩) rfl ⟨Nat.zero_le _, Nat.zero_le _⟩ (Nat.le_of_ble_eq_true rfl) dX5_get_1 [.int (iZ (w))] rfl (fun r v1 hv1 => ?_)
  obtain ⟨rfl, rfl⟩ := hv1
  refine w_top C (0) (if_neg hbad) ?_
  refine w_if_eq C 30 dX5_get_4 (by decide) ⟨by omega, by omega⟩ (fun c4 => ?_) (fun c4 => ?_)
  · refine w_iconst C dX5_get_30 ?_
    exact m_iret hsz C hr hlk (⟨rfl, rfl⟩) dX5_get_31
  · exact absurd c4 (by omega)
set_option maxHeartbeats 4000000 in
set_option maxRecDepth 100000 in
/-- set of what there is not -/
theorem cm_setB (l : Launch) (D : va_G) (Q : Nat → Nat) (G : Nat → ClassId) (fL fS fN fD : Nat → Int32) (X : mX) (w : Int) (pw cv : Int) (hw : -2147483648 ≤ w ∧ w < 2147483648) (hbad : ¬ (0 ≤ w ∧ w ≤ 1)) (sz : Nat) : Met l yX5_set (wC yX5_set cX5_set 4 (some .int)) ({ frames := 2, cells := 0, slots := 0, locals := 45 }) (va_Pc [.ref (Q 0), .int (iZ (w)), .int (iZ (pw)), .int (iZ (cv))] (mPre D Q G (fL, fS, fN, fD, X) sz)) (va_Qi (fun (r : Int32) (u : mT) => r = iZ (-2) ∧ u = (fL, fS, fN, fD, X)) (mAt D Q G (mA Q sz)) (mA Q sz)) 0 0 (mA Q sz) := by
  refine m_met (cc := cX5_set) (maxL := 4) (ret := (some .int)) (by decide) rfl rfl (Nat.le_of_ble_eq_true rfl) ?_
  intro p e s m below meth c hsz C hr hlk
  refine w_sub [(0, .ref (Q 0)), (1, .int (iZ (w))), (2, .int (iZ (pw))), (3, .int (iZ (cv)))] [0, 1, 2, 3] rfl ?_
  refine w_iload_n C dX5_set_0 1 rfl ?_
  refine m_callSi [.int (iZ (w))] hsz C (fun z => cm_isWhich l D Q G fL fS fN fD X (w) (by omega) z) (cwS 1 C.1.2.2.2.2 (wC_S kX5_140 stX5_isWhich iniX5 cdX5_isWhich) rfl rfl rfl (by decide +kernel) ⟨Nat.le_of_ble_eq_true rfl, Nat.le_of_ble_eq_true rfl⟩) rfl ⟨Nat.zero_le _, Nat.zero_le _⟩ (Nat.le_of_ble_eq_true rfl) dX5_set_1 [.int (iZ (w))] rfl (fun r v1 hv1 => ?_)
  obtain ⟨rfl, rfl⟩ := hv1
  refine w_top C (0) (if_neg hbad) ?_
  refine w_if_eq C 33 dX5_set_4 (by decide) ⟨by omega, by omega⟩ (fun c4 => ?_) (fun c4 => ?_)
  · refine w_bipush C dX5_set_33 (by decide) ?_
    exact m_iret hsz C hr hlk (⟨rfl, rfl⟩) dX5_set_35
  · exact absurd c4 (by omega)
