/-- sums of the uppermost m of N places -/
def sfx (c : Nat → Int) (N : Nat) : Nat → Int
  | 0 => 0
  | m + 1 => c (N - (m + 1)) + sfx c N m
def pass (c : Nat → Int) (N i : Nat) : Nat → Int := fun k => if i ≤ k ∧ k < N then sfx c N (N - k) else c k
/-- i rounds of the move by 1 -/
def shf (c : Nat → Int) (N : Nat) : Nat → Nat → Int
  | 0 => c
  | i + 1 => pass (shf c N i) N i
theorem sfx_congr {c e : Nat → Int} {N : Nat} : ∀ {m : Nat}, (∀ k, N - m ≤ k → k < N → c k = e k) → m ≤ N → sfx c N m = sfx e N m
  | 0, _, _ => rfl
  | m + 1, h, hm => by
    simp only [sfx]
    rw [h (N - (m + 1)) (by omega) (by omega), sfx_congr (m := m) (fun k h1 h2 => h k (by omega) h2) (by omega)]
theorem sfx_abs {c : Nat → Int} {N : Nat} {M : Int} : ∀ {m : Nat}, (∀ k, k < N → ((c k).natAbs : Int) ≤ M) → m ≤ N → ((sfx c N m).natAbs : Int) ≤ m * M
  | 0, _, _ => by simp [sfx]
  | m + 1, h, hm => by
    have h1 := sfx_abs (m := m) h (by omega)
    have h2 := h (N - (m + 1)) (by omega)
    have h3 := Int.natAbs_add_le (c (N - (m + 1))) (sfx c N m)
    simp only [sfx]
    rw [show ((m + 1 : Nat) : Int) * M = m * M + M by rw [Int.natCast_add, Int.add_mul]; simp]
    omega
theorem shf_out {c : Nat → Int} {N i k : Nat} (h : N ≤ k) : shf c N i k = c k := by
  induction i with
  | zero => rfl
  | succ i ih => simp only [shf, pass]; rw [if_neg (by omega), ih]
theorem shf_abs {c : Nat → Int} {N : Nat} {M : Int} (hM : 0 ≤ M) (hN : N ≤ 9) (h : ∀ k, k < N → ((c k).natAbs : Int) ≤ M) : ∀ i k : Nat, k < N → ((shf c N i k).natAbs : Int) ≤ 16 ^ i * M
  | 0, k, hk => by simp [shf]; exact h k hk
  | i + 1, k, hk => by
    have h1 := shf_abs hM hN h i
    have hp : (0 : Int) ≤ 16 ^ i * M := Int.mul_nonneg (Int.le_of_lt (Int.pow_pos (by omega))) hM
    have e : (16 : Int) ^ (i + 1) * M = 16 * (16 ^ i * M) := by rw [Int.pow_succ, Int.mul_assoc, Int.mul_left_comm]
    rw [e]
    simp only [shf, pass]
    by_cases q : i ≤ k ∧ k < N
    · rw [if_pos q]
      have h2 := sfx_abs (m := N - k) h1 (by omega)
      have h3 := Int.mul_le_mul_of_nonneg_right (show ((N - k : Nat) : Int) ≤ 16 by omega) hp
      omega
    · rw [if_neg q]; have := h1 k hk; omega
set_option maxHeartbeats 4000000 in
set_option maxRecDepth 100000 in
/-- findDegree: the greatest power whose number is not 0 -/
theorem cm_findDegree (l : Launch) (D : va_G) (Q : Nat → Nat) (G : Nat → ClassId) (fL fS fN fD : Nat → Int32) (X : mX) (Z : Nat → Int) (r N : Nat) (hZ : mAll fL fS fN Z) (hr2 : r < 15) (hN : N ≤ 9) (sz : Nat) : Met l yX5_findDegree (wC yX5_findDegree cX5_findDegree 4 none) ({ frames := 1, cells := 0, slots := 0, locals := 21 }) (va_Pc [.ref (Q 0), .int (iZ ((r : Int))), .int (iZ ((N : Int) - 1))] (mPre D Q G (fL, fS, fN, fD, X) sz)) (va_Qv (fun u : mT => ∃ j : Nat, j ≤ N ∧ (∀ k : Nat, j ≤ k → k < N → Z (9 * r + k) = 0) ∧ (∀ i : Nat, j = i + 1 → Z (9 * r + i) ≠ 0) ∧ u = (fL, fS, fN, upd fD r (iZ ((j : Int) - 1)), X)) (mAt D Q G (mA Q sz)) (mA Q sz)) 0 0 (mA Q sz) := by
  refine m_met (cc := cX5_findDegree) (maxL := 4) (ret := none) (by decide) rfl rfl (Nat.le_of_ble_eq_true rfl) ?_
  intro p e s m below meth c hsz C hr hlk
  refine w_sub [(0, .ref (Q 0)), (1, .int (iZ ((r : Int)))), (2, .int (iZ ((N : Int) - 1)))] [0, 1, 2] rfl ?_
  have loop : ∀ (d : Nat) (j : Nat), j < d → j ≤ N → (∀ k : Nat, j ≤ k → k < N → Z (9 * r + k) = 0) → ZW p l e ({ frames := 1, cells := 0, slots := 0, locals := 21 }) s m ([.ref (Q 0), .int (iZ ((r : Int))), .int (iZ ((N : Int) - 1))] : List Value).toArray below meth c D (mA Q sz) 4 0 0 (MQ below (va_Qv (fun u : mT => ∃ j : Nat, j ≤ N ∧ (∀ k : Nat, j ≤ k → k < N → Z (9 * r + k) = 0) ∧ (∀ i : Nat, j = i + 1 → Z (9 * r + i) ≠ 0) ∧ u = (fL, fS, fN, upd fD r (iZ ((j : Int) - 1)), X)) (mAt D Q G (mA Q sz)) (mA Q sz)) ([.ref (Q 0), .int (iZ ((r : Int))), .int (iZ ((N : Int) - 1))] : List Value).toArray s 0 0 (mA Q sz)) (mU Q G (fL, fS, fN, fD, X)) 2 [(3, .int (iZ ((j : Int) - 1))), (0, .ref (Q 0)), (1, .int (iZ ((r : Int)))), (2, .int (iZ ((N : Int) - 1)))] [] := by
    intro d
    induction d with
    | zero =>
      intro j hd hj hz
      exact absurd hd (by omega)
    | succ d ih =>
      intro j hd hj hz
      refine w_iload_n C dX5_findDegree_2 0 rfl ?_
      refine w_if_lt C 25 dX5_findDegree_3 (by decide) ⟨by omega, by omega⟩ (fun c3 => ?_) (fun c3 => ?_)
      · refine w_aload_n C dX5_findDegree_25 1 rfl ?_
        refine w_get (ci := 5) (ref := "RootIsolatorModel") (T := TX5) (Cn := RX5) (N := 10) C (fun w h => wC_in (inX5 w h)) 0 rfl rfl 4 (by decide) (wC_in fX5_degrees) rfl rfl dX5_findDegree_26 ?_
        refine w_iload_n C dX5_findDegree_29 2 rfl ?_
        refine w_iload_n C dX5_findDegree_30 0 rfl ?_
        refine w_iast C (mU Q G (fL, fS, fN, (upd fD (r) (iZ ((j : Int) - 1))), X)) 4 0 rfl rfl (r) ⟨by omega, by omega, by omega⟩ rfl dX5_findDegree_31 ?_
        exact m_vret hsz C hr hlk (⟨j, hj, hz, fun k h => absurd h (by omega), rfl⟩) dX5_findDegree_32
      · obtain ⟨i, rfl⟩ : ∃ i, j = i + 1 := ⟨j - 1, by omega⟩
        have hsr := sgn_r (Z (9 * r + i))
        refine w_aload_n C dX5_findDegree_6 1 rfl ?_
        refine w_get (ci := 5) (ref := "RootIsolatorModel") (T := TX5) (Cn := RX5) (N := 10) C (fun w h => wC_in (inX5 w h)) 0 rfl rfl 3 (by decide) (wC_in fX5_signs) rfl rfl dX5_findDegree_7 ?_
        refine w_iload_n C dX5_findDegree_10 2 rfl ?_
        refine w_iload_n C dX5_findDegree_11 0 rfl ?_
        refine w_top C ((i : Int)) (by omega) ?_
        refine m_callSi [.int (iZ ((r : Int))), .int (iZ ((i : Int)))] hsz C (fun z => cm_at l D Q G fL fS fN fD X (r) (i) z) (cwS 2 C.1.2.2.2.2 (wC_S kX5_79 stX5_at iniX5 cdX5_at) rfl rfl rfl (by decide +kernel) ⟨Nat.le_of_ble_eq_true rfl, Nat.le_of_ble_eq_true rfl⟩) rfl ⟨Nat.zero_le _, Nat.zero_le _⟩ (Nat.le_of_ble_eq_true rfl) dX5_findDegree_12 [.int (iZ ((i : Int))), .int (iZ ((r : Int))), .ref (Q 3)] rfl (fun r v1 hv1 => ?_)
        obtain ⟨rfl, rfl⟩ := hv1
        refine w_iald C 3 0 rfl rfl (9 * r + i) ((Z (9 * r + i)).sign) ⟨by omega, by omega, by omega⟩ (mNum_sgn (hZ (9 * r + i) (by omega))) dX5_findDegree_15 ?_
        refine w_if_ne C 25 dX5_findDegree_16 (by decide) ⟨by omega, by omega⟩ (fun c16 => ?_) (fun c16 => ?_)
        · refine w_aload_n C dX5_findDegree_25 1 rfl ?_
          refine w_get (ci := 5) (ref := "RootIsolatorModel") (T := TX5) (Cn := RX5) (N := 10) C (fun w h => wC_in (inX5 w h)) 0 rfl rfl 4 (by decide) (wC_in fX5_degrees) rfl rfl dX5_findDegree_26 ?_
          refine w_iload_n C dX5_findDegree_29 2 rfl ?_
          refine w_iload_n C dX5_findDegree_30 0 rfl ?_
          refine w_iast C (mU Q G (fL, fS, fN, (upd fD (r) (iZ (((i + 1 : Nat) : Int) - 1))), X)) 4 0 rfl rfl (r) ⟨by omega, by omega, by omega⟩ rfl dX5_findDegree_31 ?_
          exact m_vret hsz C hr hlk (⟨i + 1, hj, hz, fun k h => by (have : k = i := by omega); subst this; exact fun g => c16 (by rw [g]; rfl), rfl⟩) dX5_findDegree_32
        · refine w_iinc C ((i : Int) - 1) (by omega) [(3, .int (iZ ((i : Int) - 1))), (0, .ref (Q 0)), (1, .int (iZ ((r : Int)))), (2, .int (iZ ((N : Int) - 1)))] dX5_findDegree_19 0 rfl (by decide) rfl ?_
          refine w_goto C 2 dX5_findDegree_22 (by decide) ?_
          exact ih i (by omega) (by omega) (fun k h1 h2 => by
            rcases Nat.lt_or_ge i k with g | g
            · exact hz k (by omega) h2
            · have : k = i := by omega
              subst this; exact sgn_zero c16)
  refine w_iload_n C dX5_findDegree_0 2 rfl ?_
  refine w_istore_n C [(3, .int (iZ ((N : Int) - 1))), (0, .ref (Q 0)), (1, .int (iZ ((r : Int)))), (2, .int (iZ ((N : Int) - 1)))] dX5_findDegree_1 rfl (by decide) rfl ?_
  exact loop (N + 1) N (by omega) (Nat.le_refl _) (fun k h1 h2 => absurd h1 (by omega))
set_option maxHeartbeats 4000000 in
set_option maxRecDepth 100000 in
/-- copyRow: a row becomes another -/
theorem cm_copyRow (l : Launch) (D : va_G) (Q : Nat → Nat) (G : Nat → ClassId) (fL fS fN fD : Nat → Int32) (X : mX) (Z : Nat → Int) (t r N : Nat) (hZ : mAll fL fS fN Z) (ht : t < 15) (hr2 : r < 15) (hn : fD r = iZ ((N : Int) - 1)) (hN : N ≤ 9) (sz : Nat) : Met l yX5_copyRow (wC yX5_copyRow cX5_copyRow 4 none) ({ frames := 1, cells := 0, slots := 0, locals := 23 }) (va_Pc [.ref (Q 0), .int (iZ ((t : Int))), .int (iZ ((r : Int)))] (mPre D Q G (fL, fS, fN, fD, X) sz)) (va_Qv (fun u : mT => ∃ Y : Nat → Int, mPost (upd fD t (iZ ((N : Int) - 1))) X Y u ∧ (∀ i : Nat, i < N → Y (9 * t + i) = Z (9 * r + i)) ∧ ∀ c : Nat, (c < 9 * t ∨ 9 * t + N ≤ c) → Y c = Z c) (mAt D Q G (mA Q sz)) (mA Q sz)) 0 0 (mA Q sz) := by
  refine m_met (cc := cX5_copyRow) (maxL := 4) (ret := none) (by decide) rfl rfl (Nat.le_of_ble_eq_true rfl) ?_
  intro p e s m below meth c hsz C hr hlk
  refine w_sub [(0, .ref (Q 0)), (1, .int (iZ ((t : Int)))), (2, .int (iZ ((r : Int))))] [0, 1, 2] rfl ?_
  have loop : ∀ (d : Nat) (k : Nat) (Y : Nat → Int) (kL : Nat → Int32) (kS : Nat → Int32) (kN : Nat → Int32), N < k + d → k ≤ N → mAll kL kS kN Y → (∀ i : Nat, i < k → Y (9 * t + i) = Z (9 * r + i)) → (∀ c : Nat, (c < 9 * t ∨ 9 * t + k ≤ c) → Y c = Z c) → ZW p l e ({ frames := 1, cells := 0, slots := 0, locals := 23 }) s m ([.ref (Q 0), .int (iZ ((t : Int))), .int (iZ ((r : Int)))] : List Value).toArray below meth c D (mA Q sz) 4 0 0 (MQ below (va_Qv (fun u : mT => ∃ Y : Nat → Int, mPost (upd fD t (iZ ((N : Int) - 1))) X Y u ∧ (∀ i : Nat, i < N → Y (9 * t + i) = Z (9 * r + i)) ∧ ∀ c : Nat, (c < 9 * t ∨ 9 * t + N ≤ c) → Y c = Z c) (mAt D Q G (mA Q sz)) (mA Q sz)) ([.ref (Q 0), .int (iZ ((t : Int))), .int (iZ ((r : Int)))] : List Value).toArray s 0 0 (mA Q sz)) (mU Q G (kL, kS, kN, fD, X)) 2 [(3, .int (iZ ((k : Int)))), (0, .ref (Q 0)), (1, .int (iZ ((t : Int)))), (2, .int (iZ ((r : Int))))] [] := by
    intro d
    induction d with
    | zero =>
      intro k Y kL kS kN hd hk hZ h1 h2
      exact absurd hd (by omega)
    | succ d ih =>
      intro k Y kL kS kN hd hk hZ h1 h2
      refine w_iload_n C dX5_copyRow_2 0 rfl ?_
      refine w_aload_n C dX5_copyRow_3 1 rfl ?_
      refine w_get (ci := 5) (ref := "RootIsolatorModel") (T := TX5) (Cn := RX5) (N := 10) C (fun w h => wC_in (inX5 w h)) 0 rfl rfl 4 (by decide) (wC_in fX5_degrees) rfl rfl dX5_copyRow_4 ?_
      refine w_iload_n C dX5_copyRow_7 3 rfl ?_
      refine w_iald C 4 0 rfl rfl (r) ((N : Int) - 1) ⟨by omega, by omega, by omega⟩ (hn) dX5_copyRow_8 ?_
      refine w_icmp_gt C 32 dX5_copyRow_9 (by decide) ⟨⟨by omega, by omega⟩, by omega, by omega⟩ (fun c9 => ?_) (fun c9 => ?_)
      · refine w_aload_n C dX5_copyRow_32 1 rfl ?_
        refine w_get (ci := 5) (ref := "RootIsolatorModel") (T := TX5) (Cn := RX5) (N := 10) C (fun w h => wC_in (inX5 w h)) 0 rfl rfl 4 (by decide) (wC_in fX5_degrees) rfl rfl dX5_copyRow_33 ?_
        refine w_iload_n C dX5_copyRow_36 2 rfl ?_
        refine w_aload_n C dX5_copyRow_37 1 rfl ?_
        refine w_get (ci := 5) (ref := "RootIsolatorModel") (T := TX5) (Cn := RX5) (N := 10) C (fun w h => wC_in (inX5 w h)) 0 rfl rfl 4 (by decide) (wC_in fX5_degrees) rfl rfl dX5_copyRow_38 ?_
        refine w_iload_n C dX5_copyRow_41 3 rfl ?_
        refine w_iald C 4 0 rfl rfl (r) ((N : Int) - 1) ⟨by omega, by omega, by omega⟩ (hn) dX5_copyRow_42 ?_
        refine w_iast C (mU Q G (kL, kS, kN, (upd fD (t) (iZ ((N : Int) - 1))), X)) 4 0 rfl rfl (t) ⟨by omega, by omega, by omega⟩ rfl dX5_copyRow_43 ?_
        exact m_vret hsz C hr hlk (⟨Y, ⟨_, _, _, hZ, rfl⟩, fun i hi => h1 i (by omega), fun c hc => h2 c (by omega)⟩) dX5_copyRow_44
      · refine w_aload_n C dX5_copyRow_12 1 rfl ?_
        refine w_iload_n C dX5_copyRow_13 2 rfl ?_
        refine w_iload_n C dX5_copyRow_14 0 rfl ?_
        refine m_callSi [.int (iZ ((t : Int))), .int (iZ ((k : Int)))] hsz C (fun z => cm_at l D Q G kL kS kN fD X (t) (k) z) (cwS 2 C.1.2.2.2.2 (wC_S kX5_79 stX5_at iniX5 cdX5_at) rfl rfl rfl (by decide +kernel) ⟨Nat.le_of_ble_eq_true rfl, Nat.le_of_ble_eq_true rfl⟩) rfl ⟨Nat.zero_le _, Nat.zero_le _⟩ (Nat.le_of_ble_eq_true rfl) dX5_copyRow_15 [.int (iZ ((k : Int))), .int (iZ ((t : Int))), .ref (Q 0)] rfl (fun r v1 hv1 => ?_)
        obtain ⟨rfl, rfl⟩ := hv1
        refine w_iload_n C dX5_copyRow_18 3 rfl ?_
        refine w_iload_n C dX5_copyRow_19 0 rfl ?_
        refine m_callSi [.int (iZ ((r : Int))), .int (iZ ((k : Int)))] hsz C (fun z => cm_at l D Q G kL kS kN fD X (r) (k) z) (cwS 2 C.1.2.2.2.2 (wC_S kX5_79 stX5_at iniX5 cdX5_at) rfl rfl rfl (by decide +kernel) ⟨Nat.le_of_ble_eq_true rfl, Nat.le_of_ble_eq_true rfl⟩) rfl ⟨Nat.zero_le _, Nat.zero_le _⟩ (Nat.le_of_ble_eq_true rfl) dX5_copyRow_20 [.int (iZ ((k : Int))), .int (iZ ((r : Int))), .int (iZ (((9 * t + k : Nat) : Int))), .ref (Q 0)] rfl (fun r v2 hv2 => ?_)
        obtain ⟨rfl, rfl⟩ := hv2
        refine m_callv [.int (iZ (((9 * t + k : Nat) : Int))), .int (iZ (((9 * r + k : Nat) : Int)))] hsz C (fun z => cm_copy l D Q G kL kS kN fD X (9 * t + k) (9 * r + k) (Y (9 * r + k)) (by omega) (by omega) (hZ _ (by omega)) z) (cwV 2 C.1.2.2.2.2 (wC_V kX5_49 nX5_copy slX5_copy iniX5 cdX5_copy) rfl rfl rfl (by decide +kernel) ⟨Nat.le_of_ble_eq_true rfl, Nat.le_of_ble_eq_true rfl⟩) rfl ⟨Nat.zero_le _, Nat.zero_le _⟩ (Nat.le_of_ble_eq_true rfl) dX5_copyRow_23 [.int (iZ (((9 * r + k : Nat) : Int))), .int (iZ (((9 * t + k : Nat) : Int))), .ref (Q 0)] rfl (fun v3 hv3 => ?_)
        obtain ⟨gL3, gS3, gN3, hZ3, rfl⟩ := mSet_all hZ hv3
        refine w_iinc C (((k + 1 : Nat) : Int)) (by omega) [(3, .int (iZ (((k + 1 : Nat) : Int)))), (0, .ref (Q 0)), (1, .int (iZ ((t : Int)))), (2, .int (iZ ((r : Int))))] dX5_copyRow_26 0 rfl (by decide) rfl ?_
        refine w_goto C 2 dX5_copyRow_29 (by decide) ?_
        exact ih (k + 1) (uZ Y (9 * t + k) (Y (9 * r + k))) _ _ _ (by omega) (by omega) hZ3 (fun i hi => by
          rcases Nat.lt_or_ge i k with g | g
          · rw [uZ_ne (by omega)]; exact h1 i g
          · have : i = k := by omega
            subst this; rw [uZ_eq]; exact h2 _ (by omega)) (fun c hc => by rw [uZ_ne (by omega)]; exact h2 c (by omega))
  refine w_iconst C dX5_copyRow_0 ?_
  refine w_istore_n C [(3, .int (iZ (0))), (0, .ref (Q 0)), (1, .int (iZ ((t : Int)))), (2, .int (iZ ((r : Int))))] dX5_copyRow_1 rfl (by decide) rfl ?_
  exact loop (N + 1) 0 Z fL fS fN (by omega) (by omega) hZ (fun i hi => absurd hi (by omega)) (fun _ _ => rfl)
set_option maxHeartbeats 4000000 in
set_option maxRecDepth 100000 in
/-- halve -/
theorem cm_halve (l : Launch) (D : va_G) (Q : Nat → Nat) (G : Nat → ClassId) (fL fS fN fD : Nat → Int32) (X : mX) (Z : Nat → Int) (r N : Nat) (pb : Nat) (hZ : mAll fL fS fN Z) (hr2 : r < 15) (hn : fD r = iZ ((N : Int) - 1)) (hN : N ≤ 9) (hB : ∀ i : Nat, i < N → ((Z (9 * r + i)).natAbs : Int) < 2 ^ (31 * pb)) (hp : pb ≤ 638) (sz : Nat) : Met l yX5_halve (wC yX5_halve cX5_halve 3 none) ({ frames := 2, cells := 0, slots := 0, locals := 52 }) (va_Pc [.ref (Q 0), .int (iZ ((r : Int)))] (mPre D Q G (fL, fS, fN, fD, X) sz)) (va_Qv (fun u : mT => ∃ Y : Nat → Int, mPost fD X Y u ∧ (∀ i : Nat, i < N → Y (9 * r + i) = Z (9 * r + i) * 2 ^ (N - 1 - i)) ∧ ∀ c : Nat, (c < 9 * r ∨ 9 * r + (N) ≤ c) → Y c = Z c) (mAt D Q G (mA Q sz)) (mA Q sz)) 0 0 (mA Q sz) := by
  refine m_met (cc := cX5_halve) (maxL := 3) (ret := none) (by decide) rfl rfl (Nat.le_of_ble_eq_true rfl) ?_
  intro p e s m below meth c hsz C hr hlk
  refine w_sub [(0, .ref (Q 0)), (1, .int (iZ ((r : Int))))] [0, 1] rfl ?_
  have loop : ∀ (d : Nat) (k : Nat) (Y : Nat → Int) (kL : Nat → Int32) (kS : Nat → Int32) (kN : Nat → Int32), N < k + d → k ≤ N → mAll kL kS kN Y → (∀ i : Nat, i < k → Y (9 * r + i) = Z (9 * r + i) * 2 ^ (N - 1 - i)) → (∀ c : Nat, (c < 9 * r ∨ 9 * r + k ≤ c) → Y c = Z c) → ZW p l e ({ frames := 2, cells := 0, slots := 0, locals := 52 }) s m ([.ref (Q 0), .int (iZ ((r : Int)))] : List Value).toArray below meth c D (mA Q sz) 3 0 0 (MQ below (va_Qv (fun u : mT => ∃ Y : Nat → Int, mPost fD X Y u ∧ (∀ i : Nat, i < N → Y (9 * r + i) = Z (9 * r + i) * 2 ^ (N - 1 - i)) ∧ ∀ c : Nat, (c < 9 * r ∨ 9 * r + (N) ≤ c) → Y c = Z c) (mAt D Q G (mA Q sz)) (mA Q sz)) ([.ref (Q 0), .int (iZ ((r : Int)))] : List Value).toArray s 0 0 (mA Q sz)) (mU Q G (kL, kS, kN, fD, X)) 2 [(2, .int (iZ ((k : Int)))), (0, .ref (Q 0)), (1, .int (iZ ((r : Int))))] [] := by
    intro d
    induction d with
    | zero =>
      intro k Y kL kS kN hd hk hZ h1 h2
      exact absurd hd (by omega)
    | succ d ih =>
      intro k Y kL kS kN hd hk hZ h1 h2
      refine w_iload_n C dX5_halve_2 0 rfl ?_
      refine w_aload_n C dX5_halve_3 1 rfl ?_
      refine w_get (ci := 5) (ref := "RootIsolatorModel") (T := TX5) (Cn := RX5) (N := 10) C (fun w h => wC_in (inX5 w h)) 0 rfl rfl 4 (by decide) (wC_in fX5_degrees) rfl rfl dX5_halve_4 ?_
      refine w_iload_n C dX5_halve_7 2 rfl ?_
      refine w_iald C 4 0 rfl rfl (r) ((N : Int) - 1) ⟨by omega, by omega, by omega⟩ (hn) dX5_halve_8 ?_
      refine w_icmp_gt C 35 dX5_halve_9 (by decide) ⟨⟨by omega, by omega⟩, by omega, by omega⟩ (fun c9 => ?_) (fun c9 => ?_)
      · exact m_vret hsz C hr hlk (⟨Y, ⟨_, _, _, hZ, rfl⟩, fun i hi => h1 i (by omega), fun c hc => h2 c (by omega)⟩) dX5_halve_35
      · refine w_aload_n C dX5_halve_12 1 rfl ?_
        refine w_iload_n C dX5_halve_13 2 rfl ?_
        refine w_iload_n C dX5_halve_14 0 rfl ?_
        refine m_callSi [.int (iZ ((r : Int))), .int (iZ ((k : Int)))] hsz C (fun z => cm_at l D Q G kL kS kN fD X (r) (k) z) (cwS 2 C.1.2.2.2.2 (wC_S kX5_79 stX5_at iniX5 cdX5_at) rfl rfl rfl (by decide +kernel) ⟨Nat.le_of_ble_eq_true rfl, Nat.le_of_ble_eq_true rfl⟩) rfl ⟨Nat.zero_le _, Nat.zero_le _⟩ (Nat.le_of_ble_eq_true rfl) dX5_halve_15 [.int (iZ ((k : Int))), .int (iZ ((r : Int))), .ref (Q 0)] rfl (fun r v1 hv1 => ?_)
        obtain ⟨rfl, rfl⟩ := hv1
        refine w_aload_n C dX5_halve_18 1 rfl ?_
        refine w_get (ci := 5) (ref := "RootIsolatorModel") (T := TX5) (Cn := RX5) (N := 10) C (fun w h => wC_in (inX5 w h)) 0 rfl rfl 4 (by decide) (wC_in fX5_degrees) rfl rfl dX5_halve_19 ?_
        refine w_iload_n C dX5_halve_22 2 rfl ?_
        refine w_iald C 4 0 rfl rfl (r) ((N : Int) - 1) ⟨by omega, by omega, by omega⟩ (hn) dX5_halve_23 ?_
        refine w_iload_n C dX5_halve_24 0 rfl ?_
        refine w_isub C dX5_halve_25 ?_
        refine w_top C (((N - 1 - k : Nat) : Int)) (by omega) ?_
        refine m_callv [.int (iZ (((9 * r + k : Nat) : Int))), .int (iZ (((N - 1 - k : Nat) : Int)))] hsz C (fun z => cm_up l D Q G kL kS kN fD X (9 * r + k) (N - 1 - k) pb (Y (9 * r + k)) (by omega) (hZ _ (by omega)) (by rw [h2 _ (by omega)]; exact hB k (by omega)) (by omega) z) (cwV 2 C.1.2.2.2.2 (wC_V kX5_68 nX5_up slX5_up iniX5 cdX5_up) rfl rfl rfl (by decide +kernel) ⟨Nat.le_of_ble_eq_true rfl, Nat.le_of_ble_eq_true rfl⟩) rfl ⟨Nat.zero_le _, Nat.zero_le _⟩ (Nat.le_of_ble_eq_true rfl) dX5_halve_26 [.int (iZ (((N - 1 - k : Nat) : Int))), .int (iZ (((9 * r + k : Nat) : Int))), .ref (Q 0)] rfl (fun v2 hv2 => ?_)
        obtain ⟨gL2, gS2, gN2, hZ2, rfl⟩ := mSet_all hZ hv2
        refine w_iinc C (((k + 1 : Nat) : Int)) (by omega) [(2, .int (iZ (((k + 1 : Nat) : Int)))), (0, .ref (Q 0)), (1, .int (iZ ((r : Int))))] dX5_halve_29 0 rfl (by decide) rfl ?_
        refine w_goto C 2 dX5_halve_32 (by decide) ?_
        exact ih (k + 1) (uZ Y (9 * r + k) (Y (9 * r + k) * 2 ^ (N - 1 - k))) _ _ _ (by omega) (by omega) hZ2 (fun i hi => by
          rcases Nat.lt_or_ge i k with g | g
          · rw [uZ_ne (by omega)]; exact h1 i g
          · have : i = k := by omega
            subst this; rw [uZ_eq, h2 _ (by omega)]) (fun c hc => by rw [uZ_ne (by omega)]; exact h2 c (by omega))
  refine w_iconst C dX5_halve_0 ?_
  refine w_istore_n C [(2, .int (iZ (0))), (0, .ref (Q 0)), (1, .int (iZ ((r : Int))))] dX5_halve_1 rfl (by decide) rfl ?_
  exact loop (N + 1) 0 Z fL fS fN (by omega) (by omega) hZ (fun i hi => absurd hi (by omega)) (fun _ _ => rfl)
set_option maxHeartbeats 4000000 in
set_option maxRecDepth 100000 in
/-- twice -/
theorem cm_twice (l : Launch) (D : va_G) (Q : Nat → Nat) (G : Nat → ClassId) (fL fS fN fD : Nat → Int32) (X : mX) (Z : Nat → Int) (r N : Nat)  (hZ : mAll fL fS fN Z) (hr2 : r < 15) (hn : fD r = iZ ((N : Int) - 1)) (hN : N ≤ 9) (sz : Nat) : Met l yX5_twice (wC yX5_twice cX5_twice 3 none) ({ frames := 2, cells := 0, slots := 0, locals := 52 }) (va_Pc [.ref (Q 0), .int (iZ ((r : Int)))] (mPre D Q G (fL, fS, fN, fD, X) sz)) (va_Qv (fun u : mT => ∃ Y : Nat → Int, mPost fD X Y u ∧ (∀ i : Nat, i < N - 1 → Y (9 * r + i) = (Z (9 * r + i)).sign * (((Z (9 * r + i)).natAbs : Int) / 2 ^ (N - 1 - i))) ∧ ∀ c : Nat, (c < 9 * r ∨ 9 * r + (N - 1) ≤ c) → Y c = Z c) (mAt D Q G (mA Q sz)) (mA Q sz)) 0 0 (mA Q sz) := by
  refine m_met (cc := cX5_twice) (maxL := 3) (ret := none) (by decide) rfl rfl (Nat.le_of_ble_eq_true rfl) ?_
  intro p e s m below meth c hsz C hr hlk
  refine w_sub [(0, .ref (Q 0)), (1, .int (iZ ((r : Int))))] [0, 1] rfl ?_
  have loop : ∀ (d : Nat) (k : Nat) (Y : Nat → Int) (kL : Nat → Int32) (kS : Nat → Int32) (kN : Nat → Int32), N - 1 < k + d → k ≤ N - 1 → mAll kL kS kN Y → (∀ i : Nat, i < k → Y (9 * r + i) = (Z (9 * r + i)).sign * (((Z (9 * r + i)).natAbs : Int) / 2 ^ (N - 1 - i))) → (∀ c : Nat, (c < 9 * r ∨ 9 * r + k ≤ c) → Y c = Z c) → ZW p l e ({ frames := 2, cells := 0, slots := 0, locals := 52 }) s m ([.ref (Q 0), .int (iZ ((r : Int)))] : List Value).toArray below meth c D (mA Q sz) 3 0 0 (MQ below (va_Qv (fun u : mT => ∃ Y : Nat → Int, mPost fD X Y u ∧ (∀ i : Nat, i < N - 1 → Y (9 * r + i) = (Z (9 * r + i)).sign * (((Z (9 * r + i)).natAbs : Int) / 2 ^ (N - 1 - i))) ∧ ∀ c : Nat, (c < 9 * r ∨ 9 * r + (N - 1) ≤ c) → Y c = Z c) (mAt D Q G (mA Q sz)) (mA Q sz)) ([.ref (Q 0), .int (iZ ((r : Int)))] : List Value).toArray s 0 0 (mA Q sz)) (mU Q G (kL, kS, kN, fD, X)) 2 [(2, .int (iZ ((k : Int)))), (0, .ref (Q 0)), (1, .int (iZ ((r : Int))))] [] := by
    intro d
    induction d with
    | zero =>
      intro k Y kL kS kN hd hk hZ h1 h2
      exact absurd hd (by omega)
    | succ d ih =>
      intro k Y kL kS kN hd hk hZ h1 h2
      refine w_iload_n C dX5_twice_2 0 rfl ?_
      refine w_aload_n C dX5_twice_3 1 rfl ?_
      refine w_get (ci := 5) (ref := "RootIsolatorModel") (T := TX5) (Cn := RX5) (N := 10) C (fun w h => wC_in (inX5 w h)) 0 rfl rfl 4 (by decide) (wC_in fX5_degrees) rfl rfl dX5_twice_4 ?_
      refine w_iload_n C dX5_twice_7 2 rfl ?_
      refine w_iald C 4 0 rfl rfl (r) ((N : Int) - 1) ⟨by omega, by omega, by omega⟩ (hn) dX5_twice_8 ?_
      refine w_icmp_ge C 35 dX5_twice_9 (by decide) ⟨⟨by omega, by omega⟩, by omega, by omega⟩ (fun c9 => ?_) (fun c9 => ?_)
      · exact m_vret hsz C hr hlk (⟨Y, ⟨_, _, _, hZ, rfl⟩, fun i hi => h1 i (by omega), fun c hc => h2 c (by omega)⟩) dX5_twice_35
      · refine w_aload_n C dX5_twice_12 1 rfl ?_
        refine w_iload_n C dX5_twice_13 2 rfl ?_
        refine w_iload_n C dX5_twice_14 0 rfl ?_
        refine m_callSi [.int (iZ ((r : Int))), .int (iZ ((k : Int)))] hsz C (fun z => cm_at l D Q G kL kS kN fD X (r) (k) z) (cwS 2 C.1.2.2.2.2 (wC_S kX5_79 stX5_at iniX5 cdX5_at) rfl rfl rfl (by decide +kernel) ⟨Nat.le_of_ble_eq_true rfl, Nat.le_of_ble_eq_true rfl⟩) rfl ⟨Nat.zero_le _, Nat.zero_le _⟩ (Nat.le_of_ble_eq_true rfl) dX5_twice_15 [.int (iZ ((k : Int))), .int (iZ ((r : Int))), .ref (Q 0)] rfl (fun r v1 hv1 => ?_)
        obtain ⟨rfl, rfl⟩ := hv1
        refine w_aload_n C dX5_twice_18 1 rfl ?_
        refine w_get (ci := 5) (ref := "RootIsolatorModel") (T := TX5) (Cn := RX5) (N := 10) C (fun w h => wC_in (inX5 w h)) 0 rfl rfl 4 (by decide) (wC_in fX5_degrees) rfl rfl dX5_twice_19 ?_
        refine w_iload_n C dX5_twice_22 2 rfl ?_
        refine w_iald C 4 0 rfl rfl (r) ((N : Int) - 1) ⟨by omega, by omega, by omega⟩ (hn) dX5_twice_23 ?_
        refine w_iload_n C dX5_twice_24 0 rfl ?_
        refine w_isub C dX5_twice_25 ?_
        refine w_top C (((N - 1 - k : Nat) : Int)) (by omega) ?_
        refine m_callv [.int (iZ (((9 * r + k : Nat) : Int))), .int (iZ (((N - 1 - k : Nat) : Int)))] hsz C (fun z => cm_down l D Q G kL kS kN fD X (9 * r + k) (N - 1 - k) (Y (9 * r + k)) (by omega) (by omega) (hZ _ (by omega)) z) (cwV 2 C.1.2.2.2.2 (wC_V kX5_110 nX5_down slX5_down iniX5 cdX5_down) rfl rfl rfl (by decide +kernel) ⟨Nat.le_of_ble_eq_true rfl, Nat.le_of_ble_eq_true rfl⟩) rfl ⟨Nat.zero_le _, Nat.zero_le _⟩ (Nat.le_of_ble_eq_true rfl) dX5_twice_26 [.int (iZ (((N - 1 - k : Nat) : Int))), .int (iZ (((9 * r + k : Nat) : Int))), .ref (Q 0)] rfl (fun v2 hv2 => ?_)
        obtain ⟨gL2, gS2, gN2, hZ2, rfl⟩ := mSet_all hZ hv2
        refine w_iinc C (((k + 1 : Nat) : Int)) (by omega) [(2, .int (iZ (((k + 1 : Nat) : Int)))), (0, .ref (Q 0)), (1, .int (iZ ((r : Int))))] dX5_twice_29 0 rfl (by decide) rfl ?_
        refine w_goto C 2 dX5_twice_32 (by decide) ?_
        exact ih (k + 1) (uZ Y (9 * r + k) ((Y (9 * r + k)).sign * (((Y (9 * r + k)).natAbs : Int) / 2 ^ (N - 1 - k)))) _ _ _ (by omega) (by omega) hZ2 (fun i hi => by
          rcases Nat.lt_or_ge i k with g | g
          · rw [uZ_ne (by omega)]; exact h1 i g
          · have : i = k := by omega
            subst this; rw [uZ_eq, h2 _ (by omega)]) (fun c hc => by rw [uZ_ne (by omega)]; exact h2 c (by omega))
  refine w_iconst C dX5_twice_0 ?_
  refine w_istore_n C [(2, .int (iZ (0))), (0, .ref (Q 0)), (1, .int (iZ ((r : Int))))] dX5_twice_1 rfl (by decide) rfl ?_
  exact loop (N - 1 + 1) 0 Z fL fS fN (by omega) (by omega) hZ (fun i hi => absurd hi (by omega)) (fun _ _ => rfl)
set_option maxHeartbeats 4000000 in
set_option maxRecDepth 100000 in
/-- shiftRow: the row is moved by 1 -/
theorem cm_shiftRow (l : Launch) (D : va_G) (Q : Nat → Nat) (G : Nat → ClassId) (fL fS fN fD : Nat → Int32) (X : mX) (Z : Nat → Int) (r N : Nat) (M : Int) (hZ : mAll fL fS fN Z) (hr2 : r < 15) (hn : fD r = iZ ((N : Int) - 1)) (hN : N ≤ 9) (hM : 0 ≤ M) (hB : ∀ i : Nat, i < N → ((Z (9 * r + i)).natAbs : Int) ≤ M) (hM2 : 16 ^ 9 * M < 2 ^ (31 * 639)) (sz : Nat) : Met l yX5_shiftRow (wC yX5_shiftRow cX5_shiftRow 4 none) ({ frames := 3, cells := 0, slots := 0, locals := 80 }) (va_Pc [.ref (Q 0), .int (iZ ((r : Int)))] (mPre D Q G (fL, fS, fN, fD, X) sz)) (va_Qv (fun u : mT => ∃ Y : Nat → Int, mPost fD X Y u ∧ (∀ i : Nat, i < N → Y (9 * r + i) = shf (fun k => Z (9 * r + k)) N (N - 1) i) ∧ ∀ c : Nat, (c < 9 * r ∨ 9 * r + N ≤ c) → Y c = Z c) (mAt D Q G (mA Q sz)) (mA Q sz)) 0 0 (mA Q sz) := by
  refine m_met (cc := cX5_shiftRow) (maxL := 4) (ret := none) (by decide) rfl rfl (Nat.le_of_ble_eq_true rfl) ?_
  intro p e s m below meth c hsz C hr hlk
  refine w_sub [(0, .ref (Q 0)), (1, .int (iZ ((r : Int))))] [0, 1] rfl ?_
  have hab := fun i => shf_abs (c := (fun k => Z (9 * r + k))) hM hN hB i
  have h16 : ∀ i : Nat, i ≤ 8 → 16 * (16 ^ i * M) ≤ 16 ^ 9 * M := fun i hi => by
    have h1 : (16 : Int) ^ (i + 1) ≤ 16 ^ 9 := by
      have h9 : (16 : Nat) ^ (i + 1) ≤ 16 ^ 9 := Nat.pow_le_pow_right (by omega) (by omega)
      have e1 : ((16 ^ (i + 1) : Nat) : Int) = 16 ^ (i + 1) := by simp
      rw [← e1]; omega
    have h2 := Int.mul_le_mul_of_nonneg_right h1 hM
    rw [Int.pow_succ, Int.mul_assoc, Int.mul_left_comm] at h2; omega
  have loop : ∀ (d : Nat) (i : Nat) (Y : Nat → Int) (kL : Nat → Int32) (kS : Nat → Int32) (kN : Nat → Int32), N < i + d → (i = 0 ∨ i + 1 ≤ N) → mAll kL kS kN Y → (∀ q : Nat, q < N → Y (9 * r + q) = shf (fun k => Z (9 * r + k)) N i q) → (∀ c : Nat, (c < 9 * r ∨ 9 * r + N ≤ c) → Y c = Z c) → ZW p l e ({ frames := 3, cells := 0, slots := 0, locals := 80 }) s m ([.ref (Q 0), .int (iZ ((r : Int)))] : List Value).toArray below meth c D (mA Q sz) 4 0 0 (MQ below (va_Qv (fun u : mT => ∃ Y : Nat → Int, mPost fD X Y u ∧ (∀ i : Nat, i < N → Y (9 * r + i) = shf (fun k => Z (9 * r + k)) N (N - 1) i) ∧ ∀ c : Nat, (c < 9 * r ∨ 9 * r + N ≤ c) → Y c = Z c) (mAt D Q G (mA Q sz)) (mA Q sz)) ([.ref (Q 0), .int (iZ ((r : Int)))] : List Value).toArray s 0 0 (mA Q sz)) (mU Q G (kL, kS, kN, fD, X)) 2 [(2, .int (iZ ((i : Int)))), (0, .ref (Q 0)), (1, .int (iZ ((r : Int))))] [] := by
    intro d
    induction d with
    | zero =>
      intro i Y kL kS kN hd hi hZ h1 h2
      exact absurd hd (by omega)
    | succ d ih =>
      intro i Y kL kS kN hd hi hZ h1 h2
      refine w_iload_n C dX5_shiftRow_2 0 rfl ?_
      refine w_aload_n C dX5_shiftRow_3 1 rfl ?_
      refine w_get (ci := 5) (ref := "RootIsolatorModel") (T := TX5) (Cn := RX5) (N := 10) C (fun w h => wC_in (inX5 w h)) 0 rfl rfl 4 (by decide) (wC_in fX5_degrees) rfl rfl dX5_shiftRow_4 ?_
      refine w_iload_n C dX5_shiftRow_7 2 rfl ?_
      refine w_iald C 4 0 rfl rfl (r) ((N : Int) - 1) ⟨by omega, by omega, by omega⟩ (hn) dX5_shiftRow_8 ?_
      refine w_icmp_ge C 60 dX5_shiftRow_9 (by decide) ⟨⟨by omega, by omega⟩, by omega, by omega⟩ (fun c9 => ?_) (fun c9 => ?_)
      · exact m_vret hsz C hr hlk (⟨Y, ⟨_, _, _, hZ, rfl⟩, fun q hq => by rw [show N - 1 = i by omega]; exact h1 q hq, h2⟩) dX5_shiftRow_60
      · refine w_aload_n C dX5_shiftRow_12 1 rfl ?_
        refine w_get (ci := 5) (ref := "RootIsolatorModel") (T := TX5) (Cn := RX5) (N := 10) C (fun w h => wC_in (inX5 w h)) 0 rfl rfl 4 (by decide) (wC_in fX5_degrees) rfl rfl dX5_shiftRow_13 ?_
        refine w_iload_n C dX5_shiftRow_16 2 rfl ?_
        refine w_iald C 4 0 rfl rfl (r) ((N : Int) - 1) ⟨by omega, by omega, by omega⟩ (hn) dX5_shiftRow_17 ?_
        refine w_iconst C dX5_shiftRow_18 ?_
        refine w_isub C dX5_shiftRow_19 ?_
        refine w_top C (((N - 1 : Nat) : Int) - 1) (by omega) ?_
        refine w_istore_n C [(3, .int (iZ (((N - 1 : Nat) : Int) - 1))), (2, .int (iZ ((i : Int)))), (0, .ref (Q 0)), (1, .int (iZ ((r : Int))))] dX5_shiftRow_20 rfl (by decide) rfl ?_
        have inner : ∀ (d : Nat) (j : Nat) (V : Nat → Int) (pL : Nat → Int32) (pS : Nat → Int32) (pN : Nat → Int32), j < i + d → i ≤ j ∧ j + 1 ≤ N → mAll pL pS pN V → (∀ q : Nat, j ≤ q → q < N → V (9 * r + q) = sfx (shf (fun k => Z (9 * r + k)) N i) N (N - q)) → (∀ q : Nat, q < j → V (9 * r + q) = shf (fun k => Z (9 * r + k)) N i q) → (∀ c : Nat, (c < 9 * r ∨ 9 * r + N ≤ c) → V c = Z c) → ZW p l e ({ frames := 3, cells := 0, slots := 0, locals := 80 }) s m ([.ref (Q 0), .int (iZ ((r : Int)))] : List Value).toArray below meth c D (mA Q sz) 4 0 0 (MQ below (va_Qv (fun u : mT => ∃ Y : Nat → Int, mPost fD X Y u ∧ (∀ i : Nat, i < N → Y (9 * r + i) = shf (fun k => Z (9 * r + k)) N (N - 1) i) ∧ ∀ c : Nat, (c < 9 * r ∨ 9 * r + N ≤ c) → Y c = Z c) (mAt D Q G (mA Q sz)) (mA Q sz)) ([.ref (Q 0), .int (iZ ((r : Int)))] : List Value).toArray s 0 0 (mA Q sz)) (mU Q G (pL, pS, pN, fD, X)) 21 [(3, .int (iZ ((j : Int) - 1))), (2, .int (iZ ((i : Int)))), (0, .ref (Q 0)), (1, .int (iZ ((r : Int))))] [] := by
          intro d
          induction d with
          | zero =>
            intro j V pL pS pN hd hj hZv g1 g2 g3
            exact absurd hd (by omega)
          | succ d ih2 =>
            intro j V pL pS pN hd hj hZv g1 g2 g3
            refine w_iload_n C dX5_shiftRow_21 0 rfl ?_
            refine w_iload_n C dX5_shiftRow_22 1 rfl ?_
            refine w_icmp_lt C 54 dX5_shiftRow_23 (by decide) ⟨⟨by omega, by omega⟩, by omega, by omega⟩ (fun c23 => ?_) (fun c23 => ?_)
            · have hji : j = i := by omega
              subst hji
              refine w_iinc C (((j + 1 : Nat) : Int)) (by omega) [(2, .int (iZ (((j + 1 : Nat) : Int)))), (3, .int (iZ ((j : Int) - 1))), (0, .ref (Q 0)), (1, .int (iZ ((r : Int))))] dX5_shiftRow_54 1 rfl (by decide) rfl ?_
              refine w_goto C 2 dX5_shiftRow_57 (by decide) ?_
              refine w_sub [(2, .int (iZ (((j + 1 : Nat) : Int)))), (0, .ref (Q 0)), (1, .int (iZ ((r : Int))))] [0, 2, 3] rfl ?_
              exact ih (j + 1) V _ _ _ (by omega) (by omega) hZv (fun q hq => by
                simp only [shf, pass]
                by_cases e : j ≤ q
                · rw [if_pos ⟨e, hq⟩]; exact g1 q e hq
                · rw [if_neg (by omega)]; exact g2 q (by omega)) g3
            · obtain ⟨k, rfl⟩ : ∃ k, j = k + 1 := ⟨j - 1, by omega⟩
              refine w_aload_n C dX5_shiftRow_26 2 rfl ?_
              refine w_iload_n C dX5_shiftRow_27 3 rfl ?_
              refine w_iload_n C dX5_shiftRow_28 0 rfl ?_
              refine w_top C ((k : Int)) (by omega) ?_
              refine m_callSi [.int (iZ ((r : Int))), .int (iZ ((k : Int)))] hsz C (fun z => cm_at l D Q G pL pS pN fD X (r) (k) z) (cwS 2 C.1.2.2.2.2 (wC_S kX5_79 stX5_at iniX5 cdX5_at) rfl rfl rfl (by decide +kernel) ⟨Nat.le_of_ble_eq_true rfl, Nat.le_of_ble_eq_true rfl⟩) rfl ⟨Nat.zero_le _, Nat.zero_le _⟩ (Nat.le_of_ble_eq_true rfl) dX5_shiftRow_29 [.int (iZ ((k : Int))), .int (iZ ((r : Int))), .ref (Q 0)] rfl (fun r v101 hv101 => ?_)
              obtain ⟨rfl, rfl⟩ := hv101
              refine w_iload_n C dX5_shiftRow_32 3 rfl ?_
              refine w_iload_n C dX5_shiftRow_33 0 rfl ?_
              refine w_top C ((k : Int)) (by omega) ?_
              refine m_callSi [.int (iZ ((r : Int))), .int (iZ ((k : Int)))] hsz C (fun z => cm_at l D Q G pL pS pN fD X (r) (k) z) (cwS 2 C.1.2.2.2.2 (wC_S kX5_79 stX5_at iniX5 cdX5_at) rfl rfl rfl (by decide +kernel) ⟨Nat.le_of_ble_eq_true rfl, Nat.le_of_ble_eq_true rfl⟩) rfl ⟨Nat.zero_le _, Nat.zero_le _⟩ (Nat.le_of_ble_eq_true rfl) dX5_shiftRow_34 [.int (iZ ((k : Int))), .int (iZ ((r : Int))), .int (iZ (((9 * r + k : Nat) : Int))), .ref (Q 0)] rfl (fun r v102 hv102 => ?_)
              obtain ⟨rfl, rfl⟩ := hv102
              refine w_iload_n C dX5_shiftRow_37 3 rfl ?_
              refine w_iload_n C dX5_shiftRow_38 0 rfl ?_
              refine w_iconst C dX5_shiftRow_39 ?_
              refine w_iadd C dX5_shiftRow_40 ?_
              refine w_top C (((k + 1 : Nat) : Int)) (by omega) ?_
              refine m_callSi [.int (iZ ((r : Int))), .int (iZ (((k + 1 : Nat) : Int)))] hsz C (fun z => cm_at l D Q G pL pS pN fD X (r) (k + 1) z) (cwS 2 C.1.2.2.2.2 (wC_S kX5_79 stX5_at iniX5 cdX5_at) rfl rfl rfl (by decide +kernel) ⟨Nat.le_of_ble_eq_true rfl, Nat.le_of_ble_eq_true rfl⟩) rfl ⟨Nat.zero_le _, Nat.zero_le _⟩ (Nat.le_of_ble_eq_true rfl) dX5_shiftRow_41 [.int (iZ (((k + 1 : Nat) : Int))), .int (iZ ((r : Int))), .int (iZ (((9 * r + k : Nat) : Int))), .int (iZ (((9 * r + k : Nat) : Int))), .ref (Q 0)] rfl (fun r v103 hv103 => ?_)
              obtain ⟨rfl, rfl⟩ := hv103
              refine w_iconst C dX5_shiftRow_44 ?_
              refine m_callv [.int (iZ (((9 * r + k : Nat) : Int))), .int (iZ (((9 * r + k : Nat) : Int))), .int (iZ (((9 * r + (k + 1) : Nat) : Int))), .int (iZ (1))] hsz C (fun z => cm_add l D Q G pL pS pN fD X (9 * r + k) (9 * r + k) (9 * r + (k + 1)) 1 (V (9 * r + k)) (V (9 * r + (k + 1))) (by omega) (by omega) (by omega) (Or.inl rfl) (hZv _ (by omega)) (hZv _ (by omega)) (by rw [g2 k (by omega)]; have e1 := hab i k (by omega); have e2 := h16 i (by omega); have e3 : (0 : Int) ≤ 16 ^ i * M := Int.mul_nonneg (Int.le_of_lt (Int.pow_pos (by omega))) hM; omega) (by rw [g1 (k + 1) (by omega) (by omega)]; have e1 := sfx_abs (m := N - (k + 1)) (hab i) (by omega); have e2 := h16 i (by omega); have e3 : (0 : Int) ≤ 16 ^ i * M := Int.mul_nonneg (Int.le_of_lt (Int.pow_pos (by omega))) hM; have e4 := Int.mul_le_mul_of_nonneg_right (show ((N - (k + 1) : Nat) : Int) ≤ 16 by omega) e3; omega) z) (cwV 4 C.1.2.2.2.2 (wC_V kX5_91 nX5_add slX5_add iniX5 cdX5_add) rfl rfl rfl (by decide +kernel) ⟨Nat.le_of_ble_eq_true rfl, Nat.le_of_ble_eq_true rfl⟩) rfl ⟨Nat.zero_le _, Nat.zero_le _⟩ (Nat.le_of_ble_eq_true rfl) dX5_shiftRow_45 [.int (iZ (1)), .int (iZ (((9 * r + (k + 1) : Nat) : Int))), .int (iZ (((9 * r + k : Nat) : Int))), .int (iZ (((9 * r + k : Nat) : Int))), .ref (Q 0)] rfl (fun v104 hv104 => ?_)
              obtain ⟨gL104, gS104, gN104, hZ104, rfl⟩ := mSet_all hZv hv104
              refine w_iinc C ((k : Int) - 1) (by omega) [(3, .int (iZ ((k : Int) - 1))), (2, .int (iZ ((i : Int)))), (0, .ref (Q 0)), (1, .int (iZ ((r : Int))))] dX5_shiftRow_48 0 rfl (by decide) rfl ?_
              refine w_goto C 21 dX5_shiftRow_51 (by decide) ?_
              exact ih2 k (uZ V (9 * r + k) (V (9 * r + k) + 1 * V (9 * r + (k + 1)))) _ _ _ (by omega) (by omega) hZ104 (fun q e1 e2 => by
                by_cases e : q = k
                · subst e; rw [uZ_eq, g2 q (by omega), g1 (q + 1) (by omega) (by omega), show N - q = (N - (q + 1)) + 1 by omega]
                  simp only [sfx]; rw [show N - (N - (q + 1) + 1) = q by omega, Int.one_mul]
                · rw [uZ_ne (by omega)]; exact g1 q (by omega) e2) (fun q e1 => by rw [uZ_ne (by omega)]; exact g2 q (by omega)) (fun c hc => by rw [uZ_ne (by omega)]; exact g3 c hc)
        exact inner N (N - 1) Y kL kS kN (by omega) (by omega) hZ (fun q e1 e2 => by
          have : q = N - 1 := by omega
          subst this; rw [h1 _ (by omega), show N - (N - 1) = 0 + 1 by omega]; simp only [sfx]; rw [Int.add_zero]) (fun q e1 => h1 q (by omega)) h2
  refine w_iconst C dX5_shiftRow_0 ?_
  refine w_istore_n C [(2, .int (iZ (0))), (0, .ref (Q 0)), (1, .int (iZ ((r : Int))))] dX5_shiftRow_1 rfl (by decide) rfl ?_
  exact loop (N + 1) 0 Z fL fS fN (by omega) (Or.inl rfl) hZ (fun _ _ => rfl) (fun _ _ => rfl)
