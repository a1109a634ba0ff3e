def psum (c : Nat → Int) : Nat → Int
  | 0 => 0
  | n + 1 => psum c n + c n
theorem psum_abs {c : Nat → Int} {M : Int} {N : Nat} (h : ∀ k, k < N → ((c k).natAbs : Int) ≤ M) : ∀ n : Nat, n ≤ N → ((psum c n).natAbs : Int) ≤ n * M
  | 0, _ => by simp [psum]
  | n + 1, hn => by
    have h1 := psum_abs h n (by omega)
    have h2 := h n (by omega)
    have h3 := Int.natAbs_add_le (psum c n) (c n)
    simp only [psum]
    rw [show ((n + 1 : Nat) : Int) * M = n * M + M by rw [Int.natCast_add, Int.add_mul]; simp]
    omega
theorem psum_congr {c e : Nat → Int} : ∀ {n : Nat}, (∀ k, k < n → c k = e k) → psum c n = psum e n
  | 0, _ => rfl
  | n + 1, h => by simp only [psum]; rw [psum_congr (fun k hk => h k (by omega)), h n (by omega)]
/-- the last sign that is not 0 among the first, and how often it changed -/
def vl (e : Nat → Int) : Nat → Int
  | 0 => 0
  | k + 1 => if (e k).sign = 0 then vl e k else (e k).sign
def vc (e : Nat → Int) : Nat → Nat
  | 0 => 0
  | k + 1 => if (e k).sign ≠ 0 ∧ vl e k ≠ 0 ∧ (e k).sign ≠ vl e k then vc e k + 1 else vc e k
theorem vl_r (e : Nat → Int) : ∀ k : Nat, -1 ≤ vl e k ∧ vl e k ≤ 1
  | 0 => by simp [vl]
  | k + 1 => by simp only [vl]; have h1 := vl_r e k; have h2 := sgn_r (e k); split <;> omega
theorem vc_le (e : Nat → Int) : ∀ k : Nat, vc e k ≤ k
  | 0 => Nat.le_refl 0
  | k + 1 => by simp only [vc]; have h1 := vc_le e k; split <;> omega
theorem vl_congr {c e : Nat → Int} : ∀ {n : Nat}, (∀ k, k < n → c k = e k) → vl c n = vl e n
  | 0, _ => rfl
  | n + 1, h => by simp only [vl]; rw [vl_congr (fun k hk => h k (by omega)), h n (by omega)]
theorem vc_congr {c e : Nat → Int} : ∀ {n : Nat}, (∀ k, k < n → c k = e k) → vc c n = vc e n
  | 0, _ => rfl
  | n + 1, h => by simp only [vc]; rw [vc_congr (fun k hk => h k (by omega)), vl_congr (fun k hk => h k (by omega)), h n (by omega)]
theorem shf_congr {c e : Nat → Int} {N : Nat} (h : ∀ k, k < N → c k = e k) : ∀ i k : Nat, k < N → shf c N i k = shf e N i k
  | 0, k, hk => h k hk
  | i + 1, k, hk => by
    simp only [shf, pass]
    by_cases q : i ≤ k ∧ k < N
    · rw [if_pos q, if_pos q]
      exact sfx_congr (fun j h1 h2 => shf_congr h i j h2) (by omega)
    · rw [if_neg q, if_neg q]; exact shf_congr h i k hk
theorem m16_le {M : Int} (hM : 0 ≤ M) (h : 16 ^ 9 * M < 2 ^ (31 * 639)) : 16 * M < 2 ^ (31 * 639) := by
  have h1 := Int.mul_le_mul_of_nonneg_right (show (16 : Int) ≤ 16 ^ 9 by decide) hM
  omega
set_option maxHeartbeats 4000000 in
set_option maxRecDepth 100000 in
/-- signAtOne: the sign of the sum of the numbers of a row -/
theorem cm_signAtOne (l : Launch) (D : va_G) (Q : Nat → Nat) (G : Nat → ClassId) (fL fS fN fD : Nat → Int32) (X : mX) (Z : Nat → Int) (r N : Nat) (M : Int) (hZ : mAll fL fS fN Z) (hr2 : r < 15) (hn : fD r = iZ ((N : Int) - 1)) (hN : N ≤ 9) (hM : 0 ≤ M) (hB : ∀ i : Nat, i < N → ((Z (9 * r + i)).natAbs : Int) ≤ M) (hM2 : 16 ^ 9 * M < 2 ^ (31 * 639)) (sz : Nat) : Met l yX5_signAtOne (wC yX5_signAtOne cX5_signAtOne 3 (some .int)) ({ frames := 3, cells := 0, slots := 0, locals := 80 }) (va_Pc [.ref (Q 0), .int (iZ ((r : Int)))] (mPre D Q G (fL, fS, fN, fD, X) sz)) (va_Qi (fun (q : Int32) (u : mT) => q = iZ (psum (fun k => Z (9 * r + k)) N).sign ∧ ∃ Y : Nat → Int, mPost fD X Y u ∧ ∀ c : Nat, c ≠ 135 → Y c = Z c) (mAt D Q G (mA Q sz)) (mA Q sz)) 0 0 (mA Q sz) := by
  refine m_met (cc := cX5_signAtOne) (maxL := 3) (ret := (some .int)) (by decide) rfl rfl (Nat.le_of_ble_eq_true rfl) ?_
  intro p e s m below meth c hsz C hr hlk
  refine w_sub [(0, .ref (Q 0)), (1, .int (iZ ((r : Int))))] [0, 1] rfl ?_
  have hps := psum_abs (c := fun k => Z (9 * r + k)) hB
  have hm16 := m16_le hM hM2
  have loop : ∀ (d : Nat) (k : Nat) (Y : Nat → Int) (kL : Nat → Int32) (kS : Nat → Int32) (kN : Nat → Int32), N < k + d → k ≤ N → mAll kL kS kN Y → Y 135 = psum (fun k => Z (9 * r + k)) k → (∀ c : Nat, c ≠ 135 → Y c = Z c) → ZW p l e ({ frames := 3, cells := 0, slots := 0, locals := 80 }) s m ([.ref (Q 0), .int (iZ ((r : Int)))] : List Value).toArray below meth c D (mA Q sz) 3 0 0 (MQ below (va_Qi (fun (q : Int32) (u : mT) => q = iZ (psum (fun k => Z (9 * r + k)) N).sign ∧ ∃ Y : Nat → Int, mPost fD X Y u ∧ ∀ c : Nat, c ≠ 135 → Y c = Z c) (mAt D Q G (mA Q sz)) (mA Q sz)) ([.ref (Q 0), .int (iZ ((r : Int)))] : List Value).toArray s 0 0 (mA Q sz)) (mU Q G (kL, kS, kN, fD, X)) 10 [(2, .int (iZ ((k : Int)))), (0, .ref (Q 0)), (1, .int (iZ ((r : Int))))] [] := by
    intro d
    induction d with
    | zero =>
      intro k Y kL kS kN hd hk hZ h1 h2
      exact absurd hd (by omega)
    | succ d ih =>
      intro k Y kL kS kN hd hk hZ h1 h2
      refine w_iload_n C dX5_signAtOne_10 0 rfl ?_
      refine w_aload_n C dX5_signAtOne_11 1 rfl ?_
      refine w_get (ci := 5) (ref := "RootIsolatorModel") (T := TX5) (Cn := RX5) (N := 10) C (fun w h => wC_in (inX5 w h)) 0 rfl rfl 4 (by decide) (wC_in fX5_degrees) rfl rfl dX5_signAtOne_12 ?_
      refine w_iload_n C dX5_signAtOne_15 2 rfl ?_
      refine w_iald C 4 0 rfl rfl (r) ((N : Int) - 1) ⟨by omega, by omega, by omega⟩ (hn) dX5_signAtOne_16 ?_
      refine w_icmp_gt C 42 dX5_signAtOne_17 (by decide) ⟨⟨by omega, by omega⟩, by omega, by omega⟩ (fun c17 => ?_) (fun c17 => ?_)
      · refine w_aload_n C dX5_signAtOne_42 1 rfl ?_
        refine w_get (ci := 5) (ref := "RootIsolatorModel") (T := TX5) (Cn := RX5) (N := 10) C (fun w h => wC_in (inX5 w h)) 0 rfl rfl 3 (by decide) (wC_in fX5_signs) rfl rfl dX5_signAtOne_43 ?_
        refine w_sipush C dX5_signAtOne_46 (by decide) ?_
        refine w_iald C 3 0 rfl rfl (135) ((Y 135).sign) ⟨by omega, by omega, by omega⟩ (mNum_sgn (hZ 135 (by omega))) dX5_signAtOne_49 ?_
        exact m_iret hsz C hr hlk (⟨by rw [h1, show k = N by omega], Y, ⟨_, _, _, hZ, rfl⟩, h2⟩) dX5_signAtOne_50
      · refine w_aload_n C dX5_signAtOne_20 1 rfl ?_
        refine w_sipush C dX5_signAtOne_21 (by decide) ?_
        refine w_sipush C dX5_signAtOne_24 (by decide) ?_
        refine w_iload_n C dX5_signAtOne_27 2 rfl ?_
        refine w_iload_n C dX5_signAtOne_28 0 rfl ?_
        refine m_callSi [.int (iZ ((r : Int))), .int (iZ ((k : Int)))] hsz C (fun z => cm_at l D Q G kL kS kN fD X (r) (k) z) (cwS 2 C.1.2.2.2.2 (wC_S kX5_79 stX5_at iniX5 cdX5_at) rfl rfl rfl (by decide +kernel) ⟨Nat.le_of_ble_eq_true rfl, Nat.le_of_ble_eq_true rfl⟩) rfl ⟨Nat.zero_le _, Nat.zero_le _⟩ (Nat.le_of_ble_eq_true rfl) dX5_signAtOne_29 [.int (iZ ((k : Int))), .int (iZ ((r : Int))), .int (iZ (135)), .int (iZ (135)), .ref (Q 0)] rfl (fun r v1 hv1 => ?_)
        obtain ⟨rfl, rfl⟩ := hv1
        refine w_iconst C dX5_signAtOne_32 ?_
        refine m_callv [.int (iZ (135)), .int (iZ (135)), .int (iZ (((9 * r + k : Nat) : Int))), .int (iZ (1))] hsz C (fun z => cm_add l D Q G kL kS kN fD X 135 135 (9 * r + k) 1 (Y 135) (Y (9 * r + k)) (by omega) (by omega) (by omega) (Or.inl rfl) (hZ _ (by omega)) (hZ _ (by omega)) (by rw [h1]; have e1 := hps k (by omega); have e2 := Int.mul_le_mul_of_nonneg_right (show (k : Int) ≤ 16 by omega) hM; omega) (by rw [h2 _ (by omega)]; have e1 := hB k (by omega); omega) z) (cwV 4 C.1.2.2.2.2 (wC_V kX5_91 nX5_add slX5_add iniX5 cdX5_add) rfl rfl rfl (by decide +kernel) ⟨Nat.le_of_ble_eq_true rfl, Nat.le_of_ble_eq_true rfl⟩) rfl ⟨Nat.zero_le _, Nat.zero_le _⟩ (Nat.le_of_ble_eq_true rfl) dX5_signAtOne_33 [.int (iZ (1)), .int (iZ (((9 * r + k : Nat) : Int))), .int (iZ (135)), .int (iZ (135)), .ref (Q 0)] rfl (fun v2 hv2 => ?_)
        obtain ⟨gL2, gS2, gN2, hZ2, rfl⟩ := mSet_all hZ hv2
        refine w_iinc C (((k + 1 : Nat) : Int)) (by omega) [(2, .int (iZ (((k + 1 : Nat) : Int)))), (0, .ref (Q 0)), (1, .int (iZ ((r : Int))))] dX5_signAtOne_36 0 rfl (by decide) rfl ?_
        refine w_goto C 10 dX5_signAtOne_39 (by decide) ?_
        exact ih (k + 1) (uZ Y 135 (Y 135 + 1 * Y (9 * r + k))) _ _ _ (by omega) (by omega) hZ2 (by rw [uZ_eq, h1, h2 _ (by omega), Int.one_mul]; rfl) (fun c hc => by rw [uZ_ne hc]; exact h2 c hc)
  refine w_aload_n C dX5_signAtOne_0 0 rfl ?_
  refine w_sipush C dX5_signAtOne_1 (by decide) ?_
  refine w_lconst C 0 dX5_signAtOne_4 rfl ?_
  refine m_callv [.int (iZ (135)), .long (lZ (0))] hsz C (fun z => cm_setLong l D Q G fL fS fN fD X 135 0 (by omega) (by omega) (by omega) z) (cwV 2 C.1.2.2.2.2 (wC_V kX5_64 nX5_setLong slX5_setLong iniX5 cdX5_setLong) rfl rfl rfl (by decide +kernel) ⟨Nat.le_of_ble_eq_true rfl, Nat.le_of_ble_eq_true rfl⟩) rfl ⟨Nat.zero_le _, Nat.zero_le _⟩ (Nat.le_of_ble_eq_true rfl) dX5_signAtOne_5 [.long (lZ (0)), .int (iZ (135)), .ref (Q 0)] rfl (fun v3 hv3 => ?_)
  obtain ⟨gL3, gS3, gN3, hZ3, rfl⟩ := mSet_all hZ hv3
  refine w_iconst C dX5_signAtOne_8 ?_
  refine w_istore_n C [(2, .int (iZ (0))), (0, .ref (Q 0)), (1, .int (iZ ((r : Int))))] dX5_signAtOne_9 rfl (by decide) rfl ?_
  exact loop (N + 1) 0 (uZ Z 135 0) _ _ _ (by omega) (by omega) hZ3 (by rw [uZ_eq]; rfl) (fun c hc => uZ_ne hc)
set_option maxHeartbeats 4000000 in
set_option maxRecDepth 100000 in
/-- changes: how often the sign changes behind the map of the row to all positive numbers -/
theorem cm_changes (l : Launch) (D : va_G) (Q : Nat → Nat) (G : Nat → ClassId) (fL fS fN fD : Nat → Int32) (X : mX) (Z : Nat → Int) (r N : Nat) (M : Int) (hZ : mAll fL fS fN Z) (hr2 : r < 15) (hr12 : r ≠ 12) (hn : fD r = iZ ((N : Int) - 1)) (hN : N ≤ 9) (hM : 0 ≤ M) (hB : ∀ i : Nat, i < N → ((Z (9 * r + i)).natAbs : Int) ≤ M) (hM2 : 16 ^ 9 * M < 2 ^ (31 * 639)) (sz : Nat) : Met l yX5_changes (wC yX5_changes cX5_changes 7 (some .int)) ({ frames := 4, cells := 0, slots := 0, locals := 103 }) (va_Pc [.ref (Q 0), .int (iZ ((r : Int)))] (mPre D Q G (fL, fS, fN, fD, X) sz)) (va_Qi (fun (q : Int32) (u : mT) => q = iZ ((vc (shf (fun k => Z (9 * r + (N - 1 - k))) N (N - 1)) N : Nat) : Int) ∧ ∃ Y : Nat → Int, mPost (upd fD 12 (iZ ((N : Int) - 1))) X Y u ∧ ∀ c : Nat, (c < 108 ∨ 117 ≤ c) → Y c = Z c) (mAt D Q G (mA Q sz)) (mA Q sz)) 0 0 (mA Q sz) := by
  refine m_met (cc := cX5_changes) (maxL := 7) (ret := (some .int)) (by decide) rfl rfl (Nat.le_of_ble_eq_true rfl) ?_
  intro p e s m below meth c hsz C hr hlk
  refine w_sub [(0, .ref (Q 0)), (1, .int (iZ ((r : Int))))] [0, 1] rfl ?_
  have loop : ∀ (d : Nat) (k : Nat) (Y : Nat → Int) (kL : Nat → Int32) (kS : Nat → Int32) (kN : Nat → Int32), N < k + d → k ≤ N → mAll kL kS kN Y → (∀ i : Nat, i < k → Y (9 * 12 + i) = Z (9 * r + (N - 1 - i))) → (∀ c : Nat, (c < 108 ∨ 108 + k ≤ c) → Y c = Z c) → ZW p l e ({ frames := 4, cells := 0, slots := 0, locals := 103 }) s m ([.ref (Q 0), .int (iZ ((r : Int)))] : List Value).toArray below meth c D (mA Q sz) 7 0 0 (MQ below (va_Qi (fun (q : Int32) (u : mT) => q = iZ ((vc (shf (fun k => Z (9 * r + (N - 1 - k))) N (N - 1)) N : Nat) : Int) ∧ ∃ Y : Nat → Int, mPost (upd fD 12 (iZ ((N : Int) - 1))) X Y u ∧ ∀ c : Nat, (c < 108 ∨ 117 ≤ c) → Y c = Z c) (mAt D Q G (mA Q sz)) (mA Q sz)) ([.ref (Q 0), .int (iZ ((r : Int)))] : List Value).toArray s 0 0 (mA Q sz)) (mU Q G (kL, kS, kN, fD, X)) 9 [(3, .int (iZ ((k : Int)))), (2, .int (iZ ((N : Int) - 1))), (0, .ref (Q 0)), (1, .int (iZ ((r : Int))))] [] := by
    intro d
    induction d with
    | zero =>
      intro k Y kL kS kN hd hk hZ h1 h2
      exact absurd hd (by omega)
    | succ d ih =>
      intro k Y kL kS kN hd hk hZ h1 h2
      refine w_iload_n C dX5_changes_9 0 rfl ?_
      refine w_iload_n C dX5_changes_10 1 rfl ?_
      refine w_icmp_gt C 37 dX5_changes_11 (by decide) ⟨⟨by omega, by omega⟩, by omega, by omega⟩ (fun c11 => ?_) (fun c11 => ?_)
      · refine w_aload_n C dX5_changes_37 2 rfl ?_
        refine w_get (ci := 5) (ref := "RootIsolatorModel") (T := TX5) (Cn := RX5) (N := 10) C (fun w h => wC_in (inX5 w h)) 0 rfl rfl 4 (by decide) (wC_in fX5_degrees) rfl rfl dX5_changes_38 ?_
        refine w_bipush C dX5_changes_41 (by decide) ?_
        refine w_iload_n C dX5_changes_43 1 rfl ?_
        refine w_iast C (mU Q G (kL, kS, kN, (upd fD (12) (iZ ((N : Int) - 1))), X)) 4 0 rfl rfl (12) ⟨by omega, by omega, by omega⟩ rfl dX5_changes_44 ?_
        refine w_aload_n C dX5_changes_45 2 rfl ?_
        refine w_bipush C dX5_changes_46 (by decide) ?_
        refine m_callv [.int (iZ (12))] hsz C (fun z => cm_shiftRow l D Q G kL kS kN (upd fD (12) (iZ ((N : Int) - 1))) X Y 12 N M hZ (by omega) upd_eq hN hM (fun i hi => by rw [h1 i (by omega)]; exact hB _ (by omega)) hM2 z) (cwV 1 C.1.2.2.2.2 (wC_V kX5_113 nX5_shiftRow slX5_shiftRow iniX5 cdX5_shiftRow) rfl rfl rfl (by decide +kernel) ⟨Nat.le_of_ble_eq_true rfl, Nat.le_of_ble_eq_true rfl⟩) rfl ⟨Nat.zero_le _, Nat.zero_le _⟩ (Nat.le_of_ble_eq_true rfl) dX5_changes_48 [.int (iZ (12)), .ref (Q 0)] rfl (fun v1 hv1 => ?_)
        obtain ⟨V, ⟨sL, sS, sN, hZs, rfl⟩, hV1, hV2⟩ := hv1
        obtain ⟨E, hE⟩ : ∃ E : Nat → Int, E = fun k => V (9 * 12 + k) := ⟨_, rfl⟩
        have hEs : ∀ k : Nat, k < N → E k = shf (fun k => Z (9 * r + (N - 1 - k))) N (N - 1) k := fun k hk => by rw [hE]; exact (hV1 k hk).trans (shf_congr (fun j hj => h1 j (by omega)) (N - 1) k hk)
        refine w_iconst C dX5_changes_51 ?_
        refine w_istore_n C [(3, .int (iZ (0))), (2, .int (iZ ((N : Int) - 1))), (0, .ref (Q 0)), (1, .int (iZ ((r : Int))))] dX5_changes_52 rfl (by decide) rfl ?_
        refine w_iconst C dX5_changes_53 ?_
        refine w_istore C [(4, .int (iZ (0))), (3, .int (iZ (0))), (2, .int (iZ ((N : Int) - 1))), (0, .ref (Q 0)), (1, .int (iZ ((r : Int))))] dX5_changes_54 (by decide) rfl ?_
        refine w_iconst C dX5_changes_56 ?_
        refine w_istore C [(5, .int (iZ (0))), (4, .int (iZ (0))), (3, .int (iZ (0))), (2, .int (iZ ((N : Int) - 1))), (0, .ref (Q 0)), (1, .int (iZ ((r : Int))))] dX5_changes_57 (by decide) rfl ?_
        have cnt : ∀ (d : Nat) (k : Nat), N < k + d → k ≤ N → ZW p l e ({ frames := 4, cells := 0, slots := 0, locals := 103 }) s m ([.ref (Q 0), .int (iZ ((r : Int)))] : List Value).toArray below meth c D (mA Q sz) 7 0 0 (MQ below (va_Qi (fun (q : Int32) (u : mT) => q = iZ ((vc (shf (fun k => Z (9 * r + (N - 1 - k))) N (N - 1)) N : Nat) : Int) ∧ ∃ Y : Nat → Int, mPost (upd fD 12 (iZ ((N : Int) - 1))) X Y u ∧ ∀ c : Nat, (c < 108 ∨ 117 ≤ c) → Y c = Z c) (mAt D Q G (mA Q sz)) (mA Q sz)) ([.ref (Q 0), .int (iZ ((r : Int)))] : List Value).toArray s 0 0 (mA Q sz)) (mU Q G (sL, sS, sN, (upd fD 12 (iZ ((N : Int) - 1))), X)) 59 [(5, .int (iZ ((k : Int)))), (4, .int (iZ (vl E k))), (3, .int (iZ (((vc E k : Nat) : Int)))), (0, .ref (Q 0)), (1, .int (iZ ((r : Int)))), (2, .int (iZ ((N : Int) - 1)))] [] := by
          intro d
          induction d with
          | zero =>
            intro k hd hk
            exact absurd hd (by omega)
          | succ d ih3 =>
            intro k hd hk
            have hvl := vl_r E k
            have hvc := vc_le E k
            have hsr := sgn_r (E k)
            refine w_iload C dX5_changes_59 0 rfl ?_
            refine w_iload_n C dX5_changes_61 5 rfl ?_
            refine w_icmp_gt C 124 dX5_changes_62 (by decide) ⟨⟨by omega, by omega⟩, by omega, by omega⟩ (fun c62 => ?_) (fun c62 => ?_)
            · refine w_iload_n C dX5_changes_124 2 rfl ?_
              exact m_iret hsz C hr hlk (⟨by rw [show k = N by omega]; exact congrArg (fun q : Nat => iZ (q : Int)) (vc_congr hEs), V, ⟨_, _, _, hZs, rfl⟩, fun c hc => (hV2 c (by omega)).trans (h2 c (by omega))⟩) dX5_changes_125
            · refine w_aload_n C dX5_changes_65 3 rfl ?_
              refine w_get (ci := 5) (ref := "RootIsolatorModel") (T := TX5) (Cn := RX5) (N := 10) C (fun w h => wC_in (inX5 w h)) 0 rfl rfl 3 (by decide) (wC_in fX5_signs) rfl rfl dX5_changes_66 ?_
              refine w_bipush C dX5_changes_69 (by decide) ?_
              refine w_iload C dX5_changes_71 0 rfl ?_
              refine m_callSi [.int (iZ (12)), .int (iZ ((k : Int)))] hsz C (fun z => cm_at l D Q G sL sS sN (upd fD 12 (iZ ((N : Int) - 1))) X (12) (k) z) (cwS 2 C.1.2.2.2.2 (wC_S kX5_79 stX5_at iniX5 cdX5_at) rfl rfl rfl (by decide +kernel) ⟨Nat.le_of_ble_eq_true rfl, Nat.le_of_ble_eq_true rfl⟩) rfl ⟨Nat.zero_le _, Nat.zero_le _⟩ (Nat.le_of_ble_eq_true rfl) dX5_changes_73 [.int (iZ ((k : Int))), .int (iZ (12)), .ref (Q 3)] rfl (fun r v102 hv102 => ?_)
              obtain ⟨rfl, rfl⟩ := hv102
              refine w_iald C 3 0 rfl rfl (9 * 12 + k) ((E k).sign) ⟨by omega, by omega, by omega⟩ (by rw [hE]; exact mNum_sgn (hZs _ (by omega))) dX5_changes_76 ?_
              refine w_istore C [(6, .int (iZ ((E k).sign))), (5, .int (iZ ((k : Int)))), (4, .int (iZ (vl E k))), (3, .int (iZ (((vc E k : Nat) : Int)))), (0, .ref (Q 0)), (1, .int (iZ ((r : Int)))), (2, .int (iZ ((N : Int) - 1)))] dX5_changes_77 (by decide) rfl ?_
              refine w_iload C dX5_changes_79 0 rfl ?_
              have J103 : ZW p l e ({ frames := 4, cells := 0, slots := 0, locals := 103 }) s m ([.ref (Q 0), .int (iZ ((r : Int)))] : List Value).toArray below meth c D (mA Q sz) 7 0 0 (MQ below (va_Qi (fun (q : Int32) (u : mT) => q = iZ ((vc (shf (fun k => Z (9 * r + (N - 1 - k))) N (N - 1)) N : Nat) : Int) ∧ ∃ Y : Nat → Int, mPost (upd fD 12 (iZ ((N : Int) - 1))) X Y u ∧ ∀ c : Nat, (c < 108 ∨ 117 ≤ c) → Y c = Z c) (mAt D Q G (mA Q sz)) (mA Q sz)) ([.ref (Q 0), .int (iZ ((r : Int)))] : List Value).toArray s 0 0 (mA Q sz)) (mU Q G (sL, sS, sN, (upd fD 12 (iZ ((N : Int) - 1))), X)) 103 [(6, .int (iZ ((E k).sign))), (5, .int (iZ ((k : Int)))), (4, .int (iZ (vl E k))), (3, .int (iZ (((vc E k : Nat) : Int)))), (0, .ref (Q 0)), (1, .int (iZ ((r : Int)))), (2, .int (iZ ((N : Int) - 1)))] [.int (iZ (((vc E (k + 1) : Nat) : Int)))] := by
                refine w_istore_n C [(3, .int (iZ (((vc E (k + 1) : Nat) : Int)))), (6, .int (iZ ((E k).sign))), (5, .int (iZ ((k : Int)))), (4, .int (iZ (vl E k))), (0, .ref (Q 0)), (1, .int (iZ ((r : Int)))), (2, .int (iZ ((N : Int) - 1)))] dX5_changes_103 rfl (by decide) rfl ?_
                refine w_iload C dX5_changes_104 1 rfl ?_
                have J104 : ZW p l e ({ frames := 4, cells := 0, slots := 0, locals := 103 }) s m ([.ref (Q 0), .int (iZ ((r : Int)))] : List Value).toArray below meth c D (mA Q sz) 7 0 0 (MQ below (va_Qi (fun (q : Int32) (u : mT) => q = iZ ((vc (shf (fun k => Z (9 * r + (N - 1 - k))) N (N - 1)) N : Nat) : Int) ∧ ∃ Y : Nat → Int, mPost (upd fD 12 (iZ ((N : Int) - 1))) X Y u ∧ ∀ c : Nat, (c < 108 ∨ 117 ≤ c) → Y c = Z c) (mAt D Q G (mA Q sz)) (mA Q sz)) ([.ref (Q 0), .int (iZ ((r : Int)))] : List Value).toArray s 0 0 (mA Q sz)) (mU Q G (sL, sS, sN, (upd fD 12 (iZ ((N : Int) - 1))), X)) 116 [(3, .int (iZ (((vc E (k + 1) : Nat) : Int)))), (6, .int (iZ ((E k).sign))), (5, .int (iZ ((k : Int)))), (4, .int (iZ (vl E k))), (0, .ref (Q 0)), (1, .int (iZ ((r : Int)))), (2, .int (iZ ((N : Int) - 1)))] [.int (iZ (vl E (k + 1)))] := by
                  refine w_istore C [(4, .int (iZ (vl E (k + 1)))), (3, .int (iZ (((vc E (k + 1) : Nat) : Int)))), (6, .int (iZ ((E k).sign))), (5, .int (iZ ((k : Int)))), (0, .ref (Q 0)), (1, .int (iZ ((r : Int)))), (2, .int (iZ ((N : Int) - 1)))] dX5_changes_116 (by decide) rfl ?_
                  refine w_iinc C (((k + 1 : Nat) : Int)) (by omega) [(5, .int (iZ (((k + 1 : Nat) : Int)))), (4, .int (iZ (vl E (k + 1)))), (3, .int (iZ (((vc E (k + 1) : Nat) : Int)))), (6, .int (iZ ((E k).sign))), (0, .ref (Q 0)), (1, .int (iZ ((r : Int)))), (2, .int (iZ ((N : Int) - 1)))] dX5_changes_118 3 rfl (by decide) rfl ?_
                  refine w_goto C 59 dX5_changes_121 (by decide) ?_
                  refine w_sub [(5, .int (iZ (((k + 1 : Nat) : Int)))), (4, .int (iZ (vl E (k + 1)))), (3, .int (iZ (((vc E (k + 1) : Nat) : Int)))), (0, .ref (Q 0)), (1, .int (iZ ((r : Int)))), (2, .int (iZ ((N : Int) - 1)))] [0, 1, 2, 4, 5, 6] rfl ?_
                  exact ih3 (k + 1) (by omega) (by omega)
                refine w_if_ne C 114 dX5_changes_106 (by decide) ⟨by omega, by omega⟩ (fun c106 => ?_) (fun c106 => ?_)
                · refine w_iload C dX5_changes_114 1 rfl ?_
                  refine w_top C (vl E (k + 1)) (by simp only [vl]; split <;> omega) ?_
                  exact J104
                · refine w_iload C dX5_changes_109 3 rfl ?_
                  refine w_goto C 116 dX5_changes_111 (by decide) ?_
                  refine w_top C (vl E (k + 1)) (by simp only [vl]; split <;> omega) ?_
                  exact J104
              refine w_if_eq C 102 dX5_changes_81 (by decide) ⟨by omega, by omega⟩ (fun c81 => ?_) (fun c81 => ?_)
              · refine w_iload_n C dX5_changes_102 3 rfl ?_
                refine w_top C (((vc E (k + 1) : Nat) : Int)) (by simp only [vc]; split <;> omega) ?_
                exact J103
              · refine w_iload C dX5_changes_84 2 rfl ?_
                refine w_if_eq C 102 dX5_changes_86 (by decide) ⟨by omega, by omega⟩ (fun c86 => ?_) (fun c86 => ?_)
                · refine w_iload_n C dX5_changes_102 3 rfl ?_
                  refine w_top C (((vc E (k + 1) : Nat) : Int)) (by simp only [vc]; split <;> omega) ?_
                  exact J103
                · refine w_iload C dX5_changes_89 0 rfl ?_
                  refine w_iload C dX5_changes_91 2 rfl ?_
                  refine w_icmp_eq C 102 dX5_changes_93 (by decide) ⟨⟨by omega, by omega⟩, by omega, by omega⟩ (fun c93 => ?_) (fun c93 => ?_)
                  · refine w_iload_n C dX5_changes_102 3 rfl ?_
                    refine w_top C (((vc E (k + 1) : Nat) : Int)) (by simp only [vc]; split <;> omega) ?_
                    exact J103
                  · refine w_iload_n C dX5_changes_96 3 rfl ?_
                    refine w_iconst C dX5_changes_97 ?_
                    refine w_iadd C dX5_changes_98 ?_
                    refine w_goto C 103 dX5_changes_99 (by decide) ?_
                    refine w_top C (((vc E (k + 1) : Nat) : Int)) (by simp only [vc]; split <;> omega) ?_
                    exact J103
        refine w_sub [(5, .int (iZ (0))), (4, .int (iZ (0))), (3, .int (iZ (0))), (0, .ref (Q 0)), (1, .int (iZ ((r : Int)))), (2, .int (iZ ((N : Int) - 1)))] [0, 1, 2, 4, 5, 3] rfl ?_
        exact cnt (N + 1) 0 (by omega) (by omega)
      · refine w_aload_n C dX5_changes_14 2 rfl ?_
        refine w_bipush C dX5_changes_15 (by decide) ?_
        refine w_iload_n C dX5_changes_17 0 rfl ?_
        refine m_callSi [.int (iZ (12)), .int (iZ ((k : Int)))] hsz C (fun z => cm_at l D Q G kL kS kN fD X (12) (k) z) (cwS 2 C.1.2.2.2.2 (wC_S kX5_79 stX5_at iniX5 cdX5_at) rfl rfl rfl (by decide +kernel) ⟨Nat.le_of_ble_eq_true rfl, Nat.le_of_ble_eq_true rfl⟩) rfl ⟨Nat.zero_le _, Nat.zero_le _⟩ (Nat.le_of_ble_eq_true rfl) dX5_changes_18 [.int (iZ ((k : Int))), .int (iZ (12)), .ref (Q 0)] rfl (fun r v205 hv205 => ?_)
        obtain ⟨rfl, rfl⟩ := hv205
        refine w_iload_n C dX5_changes_21 3 rfl ?_
        refine w_iload_n C dX5_changes_22 1 rfl ?_
        refine w_iload_n C dX5_changes_23 0 rfl ?_
        refine w_isub C dX5_changes_24 ?_
        refine w_top C (((N - 1 - k : Nat) : Int)) (by omega) ?_
        refine m_callSi [.int (iZ ((r : Int))), .int (iZ (((N - 1 - k : Nat) : Int)))] hsz C (fun z => cm_at l D Q G kL kS kN fD X (r) (N - 1 - k) z) (cwS 2 C.1.2.2.2.2 (wC_S kX5_79 stX5_at iniX5 cdX5_at) rfl rfl rfl (by decide +kernel) ⟨Nat.le_of_ble_eq_true rfl, Nat.le_of_ble_eq_true rfl⟩) rfl ⟨Nat.zero_le _, Nat.zero_le _⟩ (Nat.le_of_ble_eq_true rfl) dX5_changes_25 [.int (iZ (((N - 1 - k : Nat) : Int))), .int (iZ ((r : Int))), .int (iZ (((9 * 12 + k : Nat) : Int))), .ref (Q 0)] rfl (fun r v206 hv206 => ?_)
        obtain ⟨rfl, rfl⟩ := hv206
        refine m_callv [.int (iZ (((9 * 12 + k : Nat) : Int))), .int (iZ (((9 * r + (N - 1 - k) : Nat) : Int)))] hsz C (fun z => cm_copy l D Q G kL kS kN fD X (9 * 12 + k) (9 * r + (N - 1 - k)) (Y (9 * r + (N - 1 - k))) (by omega) (by omega) (hZ _ (by omega)) z) (cwV 2 C.1.2.2.2.2 (wC_V kX5_49 nX5_copy slX5_copy iniX5 cdX5_copy) rfl rfl rfl (by decide +kernel) ⟨Nat.le_of_ble_eq_true rfl, Nat.le_of_ble_eq_true rfl⟩) rfl ⟨Nat.zero_le _, Nat.zero_le _⟩ (Nat.le_of_ble_eq_true rfl) dX5_changes_28 [.int (iZ (((9 * r + (N - 1 - k) : Nat) : Int))), .int (iZ (((9 * 12 + k : Nat) : Int))), .ref (Q 0)] rfl (fun v207 hv207 => ?_)
        obtain ⟨gL207, gS207, gN207, hZ207, rfl⟩ := mSet_all hZ hv207
        refine w_iinc C (((k + 1 : Nat) : Int)) (by omega) [(3, .int (iZ (((k + 1 : Nat) : Int)))), (2, .int (iZ ((N : Int) - 1))), (0, .ref (Q 0)), (1, .int (iZ ((r : Int))))] dX5_changes_31 0 rfl (by decide) rfl ?_
        refine w_goto C 9 dX5_changes_34 (by decide) ?_
        exact ih (k + 1) (uZ Y (9 * 12 + k) (Y (9 * r + (N - 1 - k)))) _ _ _ (by omega) (by omega) hZ207 (fun i hi => by
          rcases Nat.lt_or_ge i k with g | g
          · rw [uZ_ne (by omega)]; exact h1 i g
          · have : i = k := by omega
            subst this; rw [uZ_eq]; exact h2 _ (by omega)) (fun c hc => by rw [uZ_ne (by omega)]; exact h2 c (by omega))
  refine w_aload_n C dX5_changes_0 0 rfl ?_
  refine w_get (ci := 5) (ref := "RootIsolatorModel") (T := TX5) (Cn := RX5) (N := 10) C (fun w h => wC_in (inX5 w h)) 0 rfl rfl 4 (by decide) (wC_in fX5_degrees) rfl rfl dX5_changes_1 ?_
  refine w_iload_n C dX5_changes_4 1 rfl ?_
  refine w_iald C 4 0 rfl rfl (r) ((N : Int) - 1) ⟨by omega, by omega, by omega⟩ (hn) dX5_changes_5 ?_
  refine w_istore_n C [(2, .int (iZ ((N : Int) - 1))), (0, .ref (Q 0)), (1, .int (iZ ((r : Int))))] dX5_changes_6 rfl (by decide) rfl ?_
  refine w_iconst C dX5_changes_7 ?_
  refine w_istore_n C [(3, .int (iZ (0))), (2, .int (iZ ((N : Int) - 1))), (0, .ref (Q 0)), (1, .int (iZ ((r : Int))))] dX5_changes_8 rfl (by decide) rfl ?_
  exact loop (N + 1) 0 Z fL fS fN (by omega) (by omega) hZ (fun i hi => absurd hi (by omega)) (fun _ _ => rfl)
