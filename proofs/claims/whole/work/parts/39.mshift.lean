theorem bnd5 {A : Int} (h0 : 0 ≤ A) (hA : A ≤ 2147483648) {i : Nat} (hi : i ≤ 90) : (1 + A) ^ i * 2 ^ 31 < 2 ^ (31 * 630) := by
  have h1 : (1 + A) ^ i ≤ ((2 : Int) ^ 32) ^ 90 := Int.le_trans (int_pow_le (by omega) (show 1 + A ≤ 2 ^ 32 from Int.le_trans (show 1 + A ≤ 2147483649 by omega) (by decide))) (pow_mono (by decide) hi)
  have h2 := Int.mul_le_mul_of_nonneg_right h1 (Int.le_of_lt (i2pos 31))
  rw [i2pow, ← Int.pow_add] at h2
  exact Int.lt_of_le_of_lt h2 (i2lt (by omega))
theorem gz_31 (g : Nat → Int32) (k : Nat) : ((gz g k).natAbs : Int) ≤ 2 ^ 31 := by
  have h := i32r (g k)
  unfold gz
  exact Int.le_trans (show ((g k).toInt.natAbs : Int) ≤ 2147483648 by omega) (by decide)
/-- a number of one limb -/
theorem mNum_1 {fL fS fN : Nat → Int32} {a : Nat} {z : Int} (h : mNum fL fS fN a z) (hz : (z.natAbs : Int) ≤ 1000000000) : ∃ n : Nat, fS a = iZ n ∧ n ≤ 1 ∧ (n = 0 → z = 0) ∧ (n = 1 → z.sign * (fL (640 * a)).toInt = z) := by
  obtain ⟨n, h1, h2, h3, h4, h5, h6⟩ := h
  have h7 := mNum_size (N := 1) h3 h4 h6 (Int.lt_of_le_of_lt hz (by decide))
  refine ⟨n, h2, h7, fun g => ?_, fun g => ?_⟩
  · subst g; simp only [zv] at h6; omega
  · subst g
    have h8 : (fL (640 * a)).toInt = (z.natAbs : Int) := by rw [h6, zv_cons]; simp [zv]
    rw [h8, Int.sign_mul_natAbs]
set_option maxHeartbeats 4000000 in
set_option maxRecDepth 100000 in
/-- exact -/
theorem cm_exact (l : Launch) (D : va_G) (Q : Nat → Nat) (G : Nat → ClassId) (fL fS fN fD : Nat → Int32) (X : mX) (Z : Nat → Int) (ix lv : Nat) (cv mn : Int) (hZ : mAll fL fS fN Z) (hX1 : X.1 = iZ 1) (hX2 : X.2.1 = iZ mn) (hmn : mn ≤ 8) (hix : (ix : Int) ≤ mn - 1) (hlv : X.2.2.1 ix = iZ lv) (hlv2 : lv ≤ 30) (hcv : X.2.2.2.1 ix = lZ cv) (hcv2 : -2305843009213693952 ≤ cv * 2 ^ (30 - lv) ∧ cv * 2 ^ (30 - lv) ≤ 2305843009213693952) (hcv3 : -4611686018427387904 ≤ cv ∧ cv ≤ 4611686018427387904) (sz : Nat) : Met l yX5_exact (wC yX5_exact cX5_exact 2 (some .int)) ({ frames := 4, cells := 0, slots := 0, locals := 106 }) (va_Pc [.ref (Q 0), .int (iZ ((ix : Int)))] (mPre D Q G (fL, fS, fN, fD, X) sz)) (va_Qi (fun (q : Int32) (u : mT) => mScr X u ∧ ∃ N : Nat, topN X.2.2.2.2.2.1 N ∧ q = iZ (if hrn (fun k => (X.2.2.2.2.2.1 k).toInt) N (cv + 1) lv N = 0 then 1 else 0)) (mAt D Q G (mA Q sz)) (mA Q sz)) 0 0 (mA Q sz) := by
  refine m_met (cc := cX5_exact) (maxL := 2) (ret := (some .int)) (by decide) rfl rfl (Nat.le_of_ble_eq_true rfl) ?_
  intro p e s m below meth c hsz C hr hlk
  refine w_sub [(0, .ref (Q 0)), (1, .int (iZ ((ix : Int))))] [0, 1] rfl ?_
  refine w_aload_n C dX5_exact_0 0 rfl ?_
  refine w_iload_n C dX5_exact_1 1 rfl ?_
  refine m_calli [.int (iZ ((ix : Int)))] hsz C (fun z => cm_isRoot l D Q G fL fS fN fD X 1 mn (ix : Int) hX1 hX2 (Or.inr rfl) (by omega) (by omega) z) (cwV 1 C.1.2.2.2.2 (wC_V kX5_193 nX5_isRoot slX5_isRoot iniX5 cdX5_isRoot) rfl rfl rfl (by decide +kernel) ⟨Nat.le_of_ble_eq_true rfl, Nat.le_of_ble_eq_true rfl⟩) rfl ⟨Nat.zero_le _, Nat.zero_le _⟩ (Nat.le_of_ble_eq_true rfl) dX5_exact_2 [.int (iZ ((ix : Int))), .ref (Q 0)] rfl (fun r v1 hv1 => ?_)
  obtain ⟨rfl, rfl⟩ := hv1
  refine w_top C (1) (if_pos ⟨rfl, by omega, hix⟩) ?_
  refine w_if_ne C 10 dX5_exact_5 (by decide) ⟨by omega, by omega⟩ (fun c5 => ?_) (fun c5 => ?_)
  · refine w_aload_n C dX5_exact_10 0 rfl ?_
    refine w_iconst C dX5_exact_11 ?_
    refine w_aload_n C dX5_exact_12 0 rfl ?_
    refine w_get (ci := 5) (ref := "RootIsolatorModel") (T := TX5) (Cn := RX5) (N := 10) C (fun w h => wC_in (inX5 w h)) 0 rfl rfl 8 (by decide) (wC_in fX5_cells) rfl rfl dX5_exact_13 ?_
    refine w_iload_n C dX5_exact_16 1 rfl ?_
    refine w_lald C 7 1 rfl rfl (ix) (cv) ⟨by omega, by omega, by omega⟩ (hcv) dX5_exact_17 ?_
    refine w_lconst C 1 dX5_exact_18 rfl ?_
    refine w_ladd C dX5_exact_19 ?_
    refine w_aload_n C dX5_exact_20 0 rfl ?_
    refine w_get (ci := 5) (ref := "RootIsolatorModel") (T := TX5) (Cn := RX5) (N := 10) C (fun w h => wC_in (inX5 w h)) 0 rfl rfl 7 (by decide) (wC_in fX5_levels) rfl rfl dX5_exact_21 ?_
    refine w_iload_n C dX5_exact_24 1 rfl ?_
    refine w_iald C 6 0 rfl rfl (ix) ((lv : Int)) ⟨by omega, by omega, by omega⟩ (hlv) dX5_exact_25 ?_
    refine m_calli [.int (iZ (0)), .long (lZ (cv + 1)), .int (iZ ((lv : Int)))] hsz C (fun z => cm_sign0 l D Q G fL fS fN fD X Z (cv + 1) lv hZ (by omega) hlv2 z) (cwV 3 C.1.2.2.2.2 (wC_V kX5_196 nX5_sign slX5_sign iniX5 cdX5_sign) rfl rfl rfl (by decide +kernel) ⟨Nat.le_of_ble_eq_true rfl, Nat.le_of_ble_eq_true rfl⟩) rfl ⟨Nat.zero_le _, Nat.zero_le _⟩ (Nat.le_of_ble_eq_true rfl) dX5_exact_26 [.int (iZ ((lv : Int))), .long (lZ (cv + 1)), .int (iZ (0)), .ref (Q 0)] rfl (fun r v2 hv2 => ?_)
    obtain ⟨N, hN, rfl, Y1, ⟨g1L, g1S, g1N, hZ1, rfl⟩, y1⟩ := hv2
    refine w_if_ne C 36 dX5_exact_29 (by decide) (by have := sgn_r (hrn (fun k => (X.2.2.2.2.2.1 k).toInt) N (cv + 1) lv N); omega) (fun c29 => ?_) (fun c29 => ?_)
    · refine w_iconst C dX5_exact_36 ?_
      exact m_iret hsz C hr hlk (⟨mScr_of ⟨_, _, _, hZ1, rfl⟩, N, hN, by rw [if_neg (fun g => c29 (by rw [g]; rfl))]⟩) dX5_exact_37
    · refine w_iconst C dX5_exact_32 ?_
      refine w_goto C 37 dX5_exact_33 (by decide) ?_
      exact m_iret hsz C hr hlk (⟨mScr_of ⟨_, _, _, hZ1, rfl⟩, N, hN, by rw [if_pos (sgn_zero c29)]⟩) dX5_exact_37
  · exact absurd c5 (by omega)
set_option maxHeartbeats 4000000 in
set_option maxRecDepth 100000 in
/-- shift -/
theorem cm_shift (l : Launch) (D : va_G) (Q : Nat → Nat) (G : Nat → ClassId) (fL fS fN fD : Nat → Int32) (X : mX) (Z : Nat → Int) (r : Int) (hZ : mAll fL fS fN Z) (hr0 : -2147483648 ≤ r ∧ r < 2147483648) (sz : Nat) : Met l yX5_shift (wC yX5_shift cX5_shift 5 (some .int)) ({ frames := 3, cells := 0, slots := 0, locals := 80 }) (va_Pc [.ref (Q 0), .int (iZ (r))] (mPre D Q G (fL, fS, fN, fD, X) sz)) (va_Qi (fun (q : Int32) (u : mT) => ∃ n : Nat, topN X.2.2.2.2.2.1 n ∧ ((n = 0 ∧ q = iZ (-3) ∧ mScr X u) ∨ (n ≠ 0 ∧ ¬ (∀ i : Nat, i < n → (((sha (gz X.2.2.2.2.2.1) n r (n - 1)) i).natAbs : Int) ≤ 1000000000) ∧ q = iZ (-5) ∧ mScr X u) ∨ (n ≠ 0 ∧ (∀ i : Nat, i < n → (((sha (gz X.2.2.2.2.2.1) n r (n - 1)) i).natAbs : Int) ≤ 1000000000) ∧ ∃ (h0 : Nat → Int32) (k : Nat), (∀ i : Nat, i < n → h0 i = iZ (sha (gz X.2.2.2.2.2.1) n r (n - 1) i)) ∧ (∀ i : Nat, n ≤ i → h0 i = X.2.2.2.2.2.1 i) ∧ topN h0 k ∧ q = iZ (if k = 0 then -3 else (k : Int) - 1) ∧ mScr (xF (xG0 X h0) (iZ 0) (iZ 0)) u))) (mAt D Q G (mA Q sz)) (mA Q sz)) 0 0 (mA Q sz) := by
  refine m_met (cc := cX5_shift) (maxL := 5) (ret := (some .int)) (by decide) rfl rfl (Nat.le_of_ble_eq_true rfl) ?_
  intro p e s m below meth c hsz C hr hlk
  refine w_sub [(0, .ref (Q 0)), (1, .int (iZ (r)))] [0, 1] rfl ?_
  obtain ⟨A, hA⟩ : ∃ A : Int, A = (r.natAbs : Int) := ⟨_, rfl⟩
  have hA0 : 0 ≤ A ∧ A ≤ 2147483648 := by omega
  have hM0 : (0 : Int) ≤ 2 ^ 31 := Int.le_of_lt (i2pos _)
  have hpm : ∀ i : Nat, i ≤ 90 → (1 + A) ^ i * 2 ^ 31 < 2 ^ (31 * 630) := fun i hi => bnd5 hA0.1 hA0.2 hi
  have h630 : (2 : Int) ^ (31 * 630) ≤ 2 ^ (31 * 639) := pw31_le (by omega)
  refine w_aload_n C dX5_shift_0 0 rfl ?_
  refine w_iconst C dX5_shift_1 ?_
  refine m_calli [.int (iZ (0))] hsz C (fun z => cm_degreeOf0 l D Q G fL fS fN fD X  z) (cwV 1 C.1.2.2.2.2 (wC_V kX5_153 nX5_degreeOf slX5_degreeOf iniX5 cdX5_degreeOf) rfl rfl rfl (by decide +kernel) ⟨Nat.le_of_ble_eq_true rfl, Nat.le_of_ble_eq_true rfl⟩) rfl ⟨Nat.zero_le _, Nat.zero_le _⟩ (Nat.le_of_ble_eq_true rfl) dX5_shift_2 [.int (iZ (0)), .ref (Q 0)] rfl (fun r v1 hv1 => ?_)
  obtain ⟨⟨n, hn, rfl⟩, rfl⟩ := hv1
  have hn9 := hn.1
  have hsh := fun i => sha_abs (c := (gz X.2.2.2.2.2.1)) (N := n) hM0 hA0.1 (Int.le_of_eq hA.symm) hn9 (fun k _ => gz_31 X.2.2.2.2.2.1 k) i
  refine w_istore_n C [(2, .int (iZ ((n : Int) - 1))), (0, .ref (Q 0)), (1, .int (iZ (r)))] dX5_shift_5 rfl (by decide) rfl ?_
  refine w_iload_n C dX5_shift_6 0 rfl ?_
  refine w_if_ge C 13 dX5_shift_7 (by decide) ⟨by omega, by omega⟩ (fun c7 => ?_) (fun c7 => ?_)
  · refine w_aload_n C dX5_shift_13 1 rfl ?_
    refine w_iconst C dX5_shift_14 ?_
    refine w_iconst C dX5_shift_15 ?_
    refine m_callv [.int (iZ (0)), .int (iZ (0))] hsz C (fun z => cm_take0 l D Q G fL fS fN fD X Z 0 hZ (by omega) z) (cwV 2 C.1.2.2.2.2 (wC_V kX5_165 nX5_take slX5_take iniX5 cdX5_take) rfl rfl rfl (by decide +kernel) ⟨Nat.le_of_ble_eq_true rfl, Nat.le_of_ble_eq_true rfl⟩) rfl ⟨Nat.zero_le _, Nat.zero_le _⟩ (Nat.le_of_ble_eq_true rfl) dX5_shift_16 [.int (iZ (0)), .int (iZ (0)), .ref (Q 0)] rfl (fun v2 hv2 => ?_)
    obtain ⟨Y1, j0, ⟨g1L, g1S, g1N, hZ1, rfl⟩, a1, a2, a3, a4, a5⟩ := hv2
    have ej : j0 = n := topN_u ⟨a1, a2, a3⟩ hn
    rw [ej]
    refine w_aload_n C dX5_shift_19 1 rfl ?_
    refine w_sipush C dX5_shift_20 (by decide) ?_
    refine w_iload_n C dX5_shift_23 2 rfl ?_
    refine w_i2l C dX5_shift_24 ⟨by omega, by omega⟩ ?_
    refine m_callv [.int (iZ (135)), .long (lZ (r))] hsz C (fun z => cm_setLong l D Q G g1L g1S g1N (upd fD 0 (iZ ((n : Int) - 1))) X 135 r (by omega) (by omega) (by omega) z) (cwV 2 C.1.2.2.2.2 (wC_V kX5_64 nX5_setLong slX5_setLong iniX5 cdX5_setLong) rfl rfl rfl (by decide +kernel) ⟨Nat.le_of_ble_eq_true rfl, Nat.le_of_ble_eq_true rfl⟩) rfl ⟨Nat.zero_le _, Nat.zero_le _⟩ (Nat.le_of_ble_eq_true rfl) dX5_shift_25 [.long (lZ (r)), .int (iZ (135)), .ref (Q 0)] rfl (fun v3 hv3 => ?_)
    obtain ⟨gL3, gS3, gN3, hZ3, rfl⟩ := mSet_all hZ1 hv3
    refine w_iconst C dX5_shift_28 ?_
    refine w_istore_n C [(3, .int (iZ (0))), (2, .int (iZ ((n : Int) - 1))), (0, .ref (Q 0)), (1, .int (iZ (r)))] dX5_shift_29 rfl (by decide) rfl ?_
    have p2 : ∀ (d : Nat) (i : Nat) (Y : Nat → Int) (kL : Nat → Int32) (kS : Nat → Int32) (kN : Nat → Int32), n < i + d → (i = 0 ∨ i + 1 ≤ n) → mAll kL kS kN Y → (∀ q : Nat, q < n → Y (9 * 0 + q) = sha (gz X.2.2.2.2.2.1) n r i q) → Y 135 = r → ZW p l e ({ frames := 3, cells := 0, slots := 0, locals := 80 }) s m ([.ref (Q 0), .int (iZ (r))] : List Value).toArray below meth c D (mA Q sz) 5 0 0 (MQ below (va_Qi (fun (q : Int32) (u : mT) => ∃ n : Nat, topN X.2.2.2.2.2.1 n ∧ ((n = 0 ∧ q = iZ (-3) ∧ mScr X u) ∨ (n ≠ 0 ∧ ¬ (∀ i : Nat, i < n → (((sha (gz X.2.2.2.2.2.1) n r (n - 1)) i).natAbs : Int) ≤ 1000000000) ∧ q = iZ (-5) ∧ mScr X u) ∨ (n ≠ 0 ∧ (∀ i : Nat, i < n → (((sha (gz X.2.2.2.2.2.1) n r (n - 1)) i).natAbs : Int) ≤ 1000000000) ∧ ∃ (h0 : Nat → Int32) (k : Nat), (∀ i : Nat, i < n → h0 i = iZ (sha (gz X.2.2.2.2.2.1) n r (n - 1) i)) ∧ (∀ i : Nat, n ≤ i → h0 i = X.2.2.2.2.2.1 i) ∧ topN h0 k ∧ q = iZ (if k = 0 then -3 else (k : Int) - 1) ∧ mScr (xF (xG0 X h0) (iZ 0) (iZ 0)) u))) (mAt D Q G (mA Q sz)) (mA Q sz)) ([.ref (Q 0), .int (iZ (r))] : List Value).toArray s 0 0 (mA Q sz)) (mU Q G (kL, kS, kN, (upd fD 0 (iZ ((n : Int) - 1))), X)) 30 [(3, .int (iZ ((i : Int)))), (2, .int (iZ ((n : Int) - 1))), (0, .ref (Q 0)), (1, .int (iZ (r)))] [] := by
      intro d
      induction d with
      | zero =>
        intro i Y kL kS kN hd hi hZ h1 h0
        exact absurd hd (by omega)
      | succ d ih3 =>
        intro i Y kL kS kN hd hi hZ h1 h0
        refine w_iload_n C dX5_shift_30 0 rfl ?_
        refine w_iload_n C dX5_shift_31 1 rfl ?_
        refine w_icmp_ge C 96 dX5_shift_32 (by decide) ⟨⟨by omega, by omega⟩, by omega, by omega⟩ (fun c32 => ?_) (fun c32 => ?_)
        · refine w_iconst C dX5_shift_96 ?_
          refine w_istore_n C [(3, .int (iZ (0))), (2, .int (iZ ((n : Int) - 1))), (0, .ref (Q 0)), (1, .int (iZ (r)))] dX5_shift_97 rfl (by decide) rfl ?_
          have l3 : ∀ (d : Nat) (k : Nat) (W1 : Nat → Int) (uL : Nat → Int32) (uS : Nat → Int32) (uN : Nat → Int32), n < k + d → k ≤ n → mAll uL uS uN W1 → (∀ i : Nat, i < n → W1 (9 * 0 + i) = sha (gz X.2.2.2.2.2.1) n r (n - 1) i) → (∀ i : Nat, i < k → (((sha (gz X.2.2.2.2.2.1) n r (n - 1)) i).natAbs : Int) ≤ 1000000000) → ZW p l e ({ frames := 3, cells := 0, slots := 0, locals := 80 }) s m ([.ref (Q 0), .int (iZ (r))] : List Value).toArray below meth c D (mA Q sz) 5 0 0 (MQ below (va_Qi (fun (q : Int32) (u : mT) => ∃ n : Nat, topN X.2.2.2.2.2.1 n ∧ ((n = 0 ∧ q = iZ (-3) ∧ mScr X u) ∨ (n ≠ 0 ∧ ¬ (∀ i : Nat, i < n → (((sha (gz X.2.2.2.2.2.1) n r (n - 1)) i).natAbs : Int) ≤ 1000000000) ∧ q = iZ (-5) ∧ mScr X u) ∨ (n ≠ 0 ∧ (∀ i : Nat, i < n → (((sha (gz X.2.2.2.2.2.1) n r (n - 1)) i).natAbs : Int) ≤ 1000000000) ∧ ∃ (h0 : Nat → Int32) (k : Nat), (∀ i : Nat, i < n → h0 i = iZ (sha (gz X.2.2.2.2.2.1) n r (n - 1) i)) ∧ (∀ i : Nat, n ≤ i → h0 i = X.2.2.2.2.2.1 i) ∧ topN h0 k ∧ q = iZ (if k = 0 then -3 else (k : Int) - 1) ∧ mScr (xF (xG0 X h0) (iZ 0) (iZ 0)) u))) (mAt D Q G (mA Q sz)) (mA Q sz)) ([.ref (Q 0), .int (iZ (r))] : List Value).toArray s 0 0 (mA Q sz)) (mU Q G (uL, uS, uN, (upd fD 0 (iZ ((n : Int) - 1))), X)) 98 [(3, .int (iZ ((k : Int)))), (2, .int (iZ ((n : Int) - 1))), (0, .ref (Q 0)), (1, .int (iZ (r)))] [] := by
            intro d
            induction d with
            | zero =>
              intro k W1 uL uS uN hd hk hZw w1 hs
              exact absurd hd (by omega)
            | succ d ih5 =>
              intro k W1 uL uS uN hd hk hZw w1 hs
              refine w_iload_n C dX5_shift_98 0 rfl ?_
              refine w_iload_n C dX5_shift_99 1 rfl ?_
              refine w_icmp_gt C 124 dX5_shift_100 (by decide) ⟨⟨by omega, by omega⟩, by omega, by omega⟩ (fun c100 => ?_) (fun c100 => ?_)
              · have hall : (∀ i : Nat, i < n → (((sha (gz X.2.2.2.2.2.1) n r (n - 1)) i).natAbs : Int) ≤ 1000000000) := fun i hi => hs i (by omega)
                refine w_iconst C dX5_shift_124 ?_
                refine w_istore_n C [(3, .int (iZ (0))), (2, .int (iZ ((n : Int) - 1))), (0, .ref (Q 0)), (1, .int (iZ (r)))] dX5_shift_125 rfl (by decide) rfl ?_
                have l4 : ∀ (d : Nat) (k : Nat) (h0 : Nat → Int32), n < k + d → k ≤ n → (∀ i : Nat, i < k → h0 i = iZ (sha (gz X.2.2.2.2.2.1) n r (n - 1) i)) → (∀ i : Nat, k ≤ i → h0 i = X.2.2.2.2.2.1 i) → ZW p l e ({ frames := 3, cells := 0, slots := 0, locals := 80 }) s m ([.ref (Q 0), .int (iZ (r))] : List Value).toArray below meth c D (mA Q sz) 5 0 0 (MQ below (va_Qi (fun (q : Int32) (u : mT) => ∃ n : Nat, topN X.2.2.2.2.2.1 n ∧ ((n = 0 ∧ q = iZ (-3) ∧ mScr X u) ∨ (n ≠ 0 ∧ ¬ (∀ i : Nat, i < n → (((sha (gz X.2.2.2.2.2.1) n r (n - 1)) i).natAbs : Int) ≤ 1000000000) ∧ q = iZ (-5) ∧ mScr X u) ∨ (n ≠ 0 ∧ (∀ i : Nat, i < n → (((sha (gz X.2.2.2.2.2.1) n r (n - 1)) i).natAbs : Int) ≤ 1000000000) ∧ ∃ (h0 : Nat → Int32) (k : Nat), (∀ i : Nat, i < n → h0 i = iZ (sha (gz X.2.2.2.2.2.1) n r (n - 1) i)) ∧ (∀ i : Nat, n ≤ i → h0 i = X.2.2.2.2.2.1 i) ∧ topN h0 k ∧ q = iZ (if k = 0 then -3 else (k : Int) - 1) ∧ mScr (xF (xG0 X h0) (iZ 0) (iZ 0)) u))) (mAt D Q G (mA Q sz)) (mA Q sz)) ([.ref (Q 0), .int (iZ (r))] : List Value).toArray s 0 0 (mA Q sz)) (mU Q G (uL, uS, uN, (upd fD 0 (iZ ((n : Int) - 1))), (xG0 X h0))) 126 [(3, .int (iZ ((k : Int)))), (2, .int (iZ ((n : Int) - 1))), (0, .ref (Q 0)), (1, .int (iZ (r)))] [] := by
                  intro d
                  induction d with
                  | zero =>
                    intro k h0 hd hk e1 e2
                    exact absurd hd (by omega)
                  | succ d ih6 =>
                    intro k h0 hd hk e1 e2
                    refine w_iload_n C dX5_shift_126 0 rfl ?_
                    refine w_iload_n C dX5_shift_127 1 rfl ?_
                    refine w_icmp_gt C 185 dX5_shift_128 (by decide) ⟨⟨by omega, by omega⟩, by omega, by omega⟩ (fun c128 => ?_) (fun c128 => ?_)
                    · refine w_aload_n C dX5_shift_185 2 rfl ?_
                      refine m_callv [] hsz C (fun z => cm_forget l D Q G uL uS uN (upd fD 0 (iZ ((n : Int) - 1))) (xG0 X h0)  z) (cwV 0 C.1.2.2.2.2 (wC_V kX5_150 nX5_forget slX5_forget iniX5 cdX5_forget) rfl rfl rfl (by decide +kernel) ⟨Nat.le_of_ble_eq_true rfl, Nat.le_of_ble_eq_true rfl⟩) rfl ⟨Nat.zero_le _, Nat.zero_le _⟩ (Nat.le_of_ble_eq_true rfl) dX5_shift_186 [.ref (Q 0)] rfl (fun v304 hv304 => ?_)
                      obtain rfl := hv304
                      refine w_aload_n C dX5_shift_189 2 rfl ?_
                      refine w_iconst C dX5_shift_190 ?_
                      refine m_calli [.int (iZ (0))] hsz C (fun z => cm_told0 l D Q G uL uS uN (upd fD 0 (iZ ((n : Int) - 1))) (xF (xG0 X h0) (iZ 0) (iZ 0))  z) (cwV 1 C.1.2.2.2.2 (wC_V kX5_156 nX5_told slX5_told iniX5 cdX5_told) rfl rfl rfl (by decide +kernel) ⟨Nat.le_of_ble_eq_true rfl, Nat.le_of_ble_eq_true rfl⟩) rfl ⟨Nat.zero_le _, Nat.zero_le _⟩ (Nat.le_of_ble_eq_true rfl) dX5_shift_191 [.int (iZ (0)), .ref (Q 0)] rfl (fun r v305 hv305 => ?_)
                      obtain ⟨⟨kk, hkk, rfl⟩, rfl⟩ := hv305
                      exact m_iret hsz C hr hlk (⟨n, hn, Or.inr (Or.inr ⟨by omega, hall, h0, kk, fun i hi => e1 i (by omega), fun i hi => e2 i (by omega), hkk, rfl, mScr_of ⟨_, _, _, hZw, rfl⟩⟩)⟩) dX5_shift_194
                    · refine w_iconst C dX5_shift_131 ?_
                      refine w_iload_n C dX5_shift_132 0 rfl ?_
                      refine m_callSi [.int (iZ (0)), .int (iZ ((k : Int)))] hsz C (fun z => cm_at l D Q G uL uS uN (upd fD 0 (iZ ((n : Int) - 1))) (xG0 X h0) (0) (k) z) (cwS 2 C.1.2.2.2.2 (wC_S kX5_79 stX5_at iniX5 cdX5_at) rfl rfl rfl (by decide +kernel) ⟨Nat.le_of_ble_eq_true rfl, Nat.le_of_ble_eq_true rfl⟩) rfl ⟨Nat.zero_le _, Nat.zero_le _⟩ (Nat.le_of_ble_eq_true rfl) dX5_shift_133 [.int (iZ ((k : Int))), .int (iZ (0))] rfl (fun r v306 hv306 => ?_)
                      obtain ⟨rfl, rfl⟩ := hv306
                      refine w_istore C [(4, .int (iZ (((9 * 0 + k : Nat) : Int)))), (3, .int (iZ ((k : Int)))), (2, .int (iZ ((n : Int) - 1))), (0, .ref (Q 0)), (1, .int (iZ (r)))] dX5_shift_136 (by decide) rfl ?_
                      obtain ⟨nk, hnk1, hnk2, hnk3, hnk4⟩ := mNum_1 (hZw (9 * 0 + k) (by omega)) (by rw [w1 k (by omega)]; exact hall k (by omega))
                      refine w_aload_n C dX5_shift_138 3 rfl ?_
                      refine w_get (ci := 5) (ref := "RootIsolatorModel") (T := TX5) (Cn := RX5) (N := 10) C (fun w h => wC_in (inX5 w h)) 0 rfl rfl 0 (by decide) (wC_in fX5_given) rfl rfl dX5_shift_139 ?_
                      refine w_iconst C dX5_shift_142 ?_
                      refine w_aald (n := 2) (f := fun j => some (Q (9 + j))) C 5 3 rfl rfl rfl (0) ⟨rfl, by decide, by decide⟩ (rfl) dX5_shift_143 ?_
                      refine w_iload_n C dX5_shift_144 1 rfl ?_
                      refine w_aload_n C dX5_shift_145 3 rfl ?_
                      refine w_get (ci := 5) (ref := "RootIsolatorModel") (T := TX5) (Cn := RX5) (N := 10) C (fun w h => wC_in (inX5 w h)) 0 rfl rfl 2 (by decide) (wC_in fX5_sizes) rfl rfl dX5_shift_146 ?_
                      refine w_iload C dX5_shift_149 0 rfl ?_
                      refine w_iald C 2 0 rfl rfl (9 * 0 + k) ((nk : Int)) ⟨by omega, by omega, by omega⟩ (hnk1) dX5_shift_151 ?_
                      have J307 : ZW p l e ({ frames := 3, cells := 0, slots := 0, locals := 80 }) s m ([.ref (Q 0), .int (iZ (r))] : List Value).toArray below meth c D (mA Q sz) 5 0 0 (MQ below (va_Qi (fun (q : Int32) (u : mT) => ∃ n : Nat, topN X.2.2.2.2.2.1 n ∧ ((n = 0 ∧ q = iZ (-3) ∧ mScr X u) ∨ (n ≠ 0 ∧ ¬ (∀ i : Nat, i < n → (((sha (gz X.2.2.2.2.2.1) n r (n - 1)) i).natAbs : Int) ≤ 1000000000) ∧ q = iZ (-5) ∧ mScr X u) ∨ (n ≠ 0 ∧ (∀ i : Nat, i < n → (((sha (gz X.2.2.2.2.2.1) n r (n - 1)) i).natAbs : Int) ≤ 1000000000) ∧ ∃ (h0 : Nat → Int32) (k : Nat), (∀ i : Nat, i < n → h0 i = iZ (sha (gz X.2.2.2.2.2.1) n r (n - 1) i)) ∧ (∀ i : Nat, n ≤ i → h0 i = X.2.2.2.2.2.1 i) ∧ topN h0 k ∧ q = iZ (if k = 0 then -3 else (k : Int) - 1) ∧ mScr (xF (xG0 X h0) (iZ 0) (iZ 0)) u))) (mAt D Q G (mA Q sz)) (mA Q sz)) ([.ref (Q 0), .int (iZ (r))] : List Value).toArray s 0 0 (mA Q sz)) (mU Q G (uL, uS, uN, (upd fD 0 (iZ ((n : Int) - 1))), (xG0 X h0))) 178 [(4, .int (iZ (((9 * 0 + k : Nat) : Int)))), (3, .int (iZ ((k : Int)))), (2, .int (iZ ((n : Int) - 1))), (0, .ref (Q 0)), (1, .int (iZ (r)))] [.int (iZ (W1 (9 * 0 + k))), .int (iZ ((k : Int))), .ref (Q 9)] := by
                        refine w_iast C (mU Q G (uL, uS, uN, (upd fD 0 (iZ ((n : Int) - 1))), (xG0 (xG0 X h0) (upd h0 (k) (iZ (W1 (9 * 0 + k))))))) 9 0 rfl rfl (k) ⟨by omega, by omega, by omega⟩ rfl dX5_shift_178 ?_
                        refine w_iinc C (((k + 1 : Nat) : Int)) (by omega) [(3, .int (iZ (((k + 1 : Nat) : Int)))), (4, .int (iZ (((9 * 0 + k : Nat) : Int)))), (2, .int (iZ ((n : Int) - 1))), (0, .ref (Q 0)), (1, .int (iZ (r)))] dX5_shift_179 1 rfl (by decide) rfl ?_
                        refine w_goto C 126 dX5_shift_182 (by decide) ?_
                        refine w_sub [(3, .int (iZ (((k + 1 : Nat) : Int)))), (2, .int (iZ ((n : Int) - 1))), (0, .ref (Q 0)), (1, .int (iZ (r)))] [0, 2, 3, 4] rfl ?_
                        exact ih6 (k + 1) _ (by omega) (by omega) (fun i hi => by
                          by_cases g : i = k
                          · subst g; rw [upd_eq, w1 i (by omega)]
                          · rw [upd_ne g]; exact e1 i (by omega)) (fun i hi => by rw [upd_ne (by omega)]; exact e2 i (by omega))
                      refine w_if_ne C 159 dX5_shift_152 (by decide) ⟨by omega, by omega⟩ (fun c152 => ?_) (fun c152 => ?_)
                      · refine w_aload_n C dX5_shift_159 3 rfl ?_
                        refine w_get (ci := 5) (ref := "RootIsolatorModel") (T := TX5) (Cn := RX5) (N := 10) C (fun w h => wC_in (inX5 w h)) 0 rfl rfl 3 (by decide) (wC_in fX5_signs) rfl rfl dX5_shift_160 ?_
                        refine w_iload C dX5_shift_163 0 rfl ?_
                        refine w_iald C 3 0 rfl rfl (9 * 0 + k) ((W1 (9 * 0 + k)).sign) ⟨by omega, by omega, by omega⟩ (mNum_sgn (hZw _ (by omega))) dX5_shift_165 ?_
                        refine w_aload_n C dX5_shift_166 3 rfl ?_
                        refine w_get (ci := 5) (ref := "RootIsolatorModel") (T := TX5) (Cn := RX5) (N := 10) C (fun w h => wC_in (inX5 w h)) 0 rfl rfl 1 (by decide) (wC_in fX5_limbs) rfl rfl dX5_shift_167 ?_
                        refine w_sipush C dX5_shift_170 (by decide) ?_
                        refine w_iload C dX5_shift_173 0 rfl ?_
                        refine w_imul C dX5_shift_175 ?_
                        refine w_iald C 1 0 rfl rfl (640 * (9 * 0 + k)) ((uL (640 * (9 * 0 + k))).toInt) ⟨by omega, by omega, by omega⟩ ((iZ_self _).symm) dX5_shift_176 ?_
                        refine w_imul C dX5_shift_177 ?_
                        refine w_top C (W1 (9 * 0 + k)) (hnk4 (by omega)) ?_
                        exact J307
                      · refine w_iconst C dX5_shift_155 ?_
                        refine w_goto C 178 dX5_shift_156 (by decide) ?_
                        refine w_top C (W1 (9 * 0 + k)) ((hnk3 (by omega)).symm) ?_
                        exact J307
                exact l4 (n + 1) 0 X.2.2.2.2.2.1 (by omega) (by omega) (fun i g => absurd g (by omega)) (fun _ _ => rfl)
              · refine w_aload_n C dX5_shift_103 2 rfl ?_
                refine w_iconst C dX5_shift_104 ?_
                refine w_iload_n C dX5_shift_105 0 rfl ?_
                refine m_callSi [.int (iZ (0)), .int (iZ ((k : Int)))] hsz C (fun z => cm_at l D Q G uL uS uN (upd fD 0 (iZ ((n : Int) - 1))) X (0) (k) z) (cwS 2 C.1.2.2.2.2 (wC_S kX5_79 stX5_at iniX5 cdX5_at) rfl rfl rfl (by decide +kernel) ⟨Nat.le_of_ble_eq_true rfl, Nat.le_of_ble_eq_true rfl⟩) rfl ⟨Nat.zero_le _, Nat.zero_le _⟩ (Nat.le_of_ble_eq_true rfl) dX5_shift_106 [.int (iZ ((k : Int))), .int (iZ (0)), .ref (Q 0)] rfl (fun r v408 hv408 => ?_)
                obtain ⟨rfl, rfl⟩ := hv408
                refine m_calli [.int (iZ (((9 * 0 + k : Nat) : Int)))] hsz C (fun z => cm_isSmall l D Q G uL uS uN (upd fD 0 (iZ ((n : Int) - 1))) X W1 (9 * 0 + k) hZw (by omega) z) (cwV 1 C.1.2.2.2.2 (wC_V kX5_210 nX5_isSmall slX5_isSmall iniX5 cdX5_isSmall) rfl rfl rfl (by decide +kernel) ⟨Nat.le_of_ble_eq_true rfl, Nat.le_of_ble_eq_true rfl⟩) rfl ⟨Nat.zero_le _, Nat.zero_le _⟩ (Nat.le_of_ble_eq_true rfl) dX5_shift_109 [.int (iZ (((9 * 0 + k : Nat) : Int))), .ref (Q 0)] rfl (fun r v409 hv409 => ?_)
                obtain ⟨rfl, W2, ⟨zL, zS, zN, hZz, rfl⟩, z1⟩ := hv409
                refine w_if_ne C 118 dX5_shift_112 (by decide) (by split <;> omega) (fun c112 => ?_) (fun c112 => ?_)
                · refine w_iinc C (((k + 1 : Nat) : Int)) (by omega) [(3, .int (iZ (((k + 1 : Nat) : Int)))), (2, .int (iZ ((n : Int) - 1))), (0, .ref (Q 0)), (1, .int (iZ (r)))] dX5_shift_118 0 rfl (by decide) rfl ?_
                  refine w_goto C 98 dX5_shift_121 (by decide) ?_
                  exact ih5 (k + 1) W2 _ _ _ (by omega) (by omega) hZz (fun i hi => (z1 _ (by omega)).trans (w1 i hi)) (fun i hi => by
                    rcases Nat.lt_or_ge i k with g | g
                    · exact hs i g
                    · rw [show i = k by omega, ← w1 k (by omega)]; exact Decidable.byContradiction (fun g => c112 (if_neg g)))
                · have hno : ¬ (∀ i : Nat, i < n → (((sha (gz X.2.2.2.2.2.1) n r (n - 1)) i).natAbs : Int) ≤ 1000000000) := fun g => by have g2 := g k (by omega); rw [← w1 k (by omega)] at g2; rw [if_pos g2] at c112; omega
                  refine w_bipush C dX5_shift_115 (by decide) ?_
                  exact m_iret hsz C hr hlk (⟨n, hn, Or.inr (Or.inl ⟨by omega, hno, rfl, mScr_of ⟨_, _, _, hZz, rfl⟩⟩)⟩) dX5_shift_117
          exact l3 (n + 1) 0 Y _ _ _ (by omega) (by omega) hZ (fun q g => by (have e : i = n - 1 := by omega); subst e; exact h1 q g) (fun i g => absurd g (by omega))
        · refine w_iload_n C dX5_shift_35 1 rfl ?_
          refine w_iconst C dX5_shift_36 ?_
          refine w_isub C dX5_shift_37 ?_
          refine w_top C (((n - 1 : Nat) : Int) - 1) (by omega) ?_
          refine w_istore C [(4, .int (iZ (((n - 1 : Nat) : Int) - 1))), (3, .int (iZ ((i : Int)))), (2, .int (iZ ((n : Int) - 1))), (0, .ref (Q 0)), (1, .int (iZ (r)))] dX5_shift_38 (by decide) rfl ?_
          have p2in : ∀ (d : Nat) (j : Nat) (V : Nat → Int) (vL : Nat → Int32) (vS : Nat → Int32) (vN : Nat → Int32), j < i + d → i ≤ j ∧ j + 1 ≤ n → mAll vL vS vN V → (∀ q : Nat, j ≤ q → q < n → V (9 * 0 + q) = sfa (sha (gz X.2.2.2.2.2.1) n r i) n r (n - q)) → (∀ q : Nat, q < j → V (9 * 0 + q) = sha (gz X.2.2.2.2.2.1) n r i q) → V 135 = r → ZW p l e ({ frames := 3, cells := 0, slots := 0, locals := 80 }) s m ([.ref (Q 0), .int (iZ (r))] : List Value).toArray below meth c D (mA Q sz) 5 0 0 (MQ below (va_Qi (fun (q : Int32) (u : mT) => ∃ n : Nat, topN X.2.2.2.2.2.1 n ∧ ((n = 0 ∧ q = iZ (-3) ∧ mScr X u) ∨ (n ≠ 0 ∧ ¬ (∀ i : Nat, i < n → (((sha (gz X.2.2.2.2.2.1) n r (n - 1)) i).natAbs : Int) ≤ 1000000000) ∧ q = iZ (-5) ∧ mScr X u) ∨ (n ≠ 0 ∧ (∀ i : Nat, i < n → (((sha (gz X.2.2.2.2.2.1) n r (n - 1)) i).natAbs : Int) ≤ 1000000000) ∧ ∃ (h0 : Nat → Int32) (k : Nat), (∀ i : Nat, i < n → h0 i = iZ (sha (gz X.2.2.2.2.2.1) n r (n - 1) i)) ∧ (∀ i : Nat, n ≤ i → h0 i = X.2.2.2.2.2.1 i) ∧ topN h0 k ∧ q = iZ (if k = 0 then -3 else (k : Int) - 1) ∧ mScr (xF (xG0 X h0) (iZ 0) (iZ 0)) u))) (mAt D Q G (mA Q sz)) (mA Q sz)) ([.ref (Q 0), .int (iZ (r))] : List Value).toArray s 0 0 (mA Q sz)) (mU Q G (vL, vS, vN, (upd fD 0 (iZ ((n : Int) - 1))), X)) 40 [(4, .int (iZ ((j : Int) - 1))), (3, .int (iZ ((i : Int)))), (2, .int (iZ ((n : Int) - 1))), (0, .ref (Q 0)), (1, .int (iZ (r)))] [] := by
            intro d
            induction d with
            | zero =>
              intro j V vL vS vN hd hj hZv g1 g2 g0
              exact absurd hd (by omega)
            | succ d ih4 =>
              intro j V vL vS vN hd hj hZv g1 g2 g0
              refine w_iload C dX5_shift_40 0 rfl ?_
              refine w_iload_n C dX5_shift_42 1 rfl ?_
              refine w_icmp_lt C 90 dX5_shift_43 (by decide) ⟨⟨by omega, by omega⟩, by omega, by omega⟩ (fun c43 => ?_) (fun c43 => ?_)
              · have hji : j = i := by omega
                subst hji
                refine w_iinc C (((j + 1 : Nat) : Int)) (by omega) [(3, .int (iZ (((j + 1 : Nat) : Int)))), (4, .int (iZ ((j : Int) - 1))), (2, .int (iZ ((n : Int) - 1))), (0, .ref (Q 0)), (1, .int (iZ (r)))] dX5_shift_90 1 rfl (by decide) rfl ?_
                refine w_goto C 30 dX5_shift_93 (by decide) ?_
                refine w_sub [(3, .int (iZ (((j + 1 : Nat) : Int)))), (2, .int (iZ ((n : Int) - 1))), (0, .ref (Q 0)), (1, .int (iZ (r)))] [0, 2, 3, 4] rfl ?_
                exact ih3 (j + 1) V _ _ _ (by omega) (by omega) hZv (fun q hq => by
                  simp only [sha, passa]
                  by_cases e : j ≤ q
                  · rw [if_pos ⟨e, hq⟩]; exact g1 q e hq
                  · rw [if_neg (by omega)]; exact g2 q (by omega)) g0
              · obtain ⟨k, rfl⟩ : ∃ k, j = k + 1 := ⟨j - 1, by omega⟩
                have hsb := sfa_abs (N := n) (a := r) (M := (1 + A) ^ (9 * i) * 2 ^ 31) (Int.mul_nonneg (Int.le_of_lt (Int.pow_pos (by omega))) hM0) hA0.1 (Int.le_of_eq hA.symm) (m := n - (k + 1)) (hsh i) (by omega)
                have hsb2 : (1 + A) ^ (n - (k + 1)) * ((1 + A) ^ (9 * i) * 2 ^ 31) < 2 ^ (31 * 630) := by rw [← Int.mul_assoc, ← Int.pow_add]; exact hpm _ (by omega)
                refine w_aload_n C dX5_shift_46 3 rfl ?_
                refine w_sipush C dX5_shift_47 (by decide) ?_
                refine w_iconst C dX5_shift_50 ?_
                refine w_iload C dX5_shift_51 0 rfl ?_
                refine w_iconst C dX5_shift_53 ?_
                refine w_iadd C dX5_shift_54 ?_
                refine w_top C (((k + 1 : Nat) : Int)) (by omega) ?_
                refine m_callSi [.int (iZ (0)), .int (iZ (((k + 1 : Nat) : Int)))] hsz C (fun z => cm_at l D Q G vL vS vN (upd fD 0 (iZ ((n : Int) - 1))) X (0) (k + 1) z) (cwS 2 C.1.2.2.2.2 (wC_S kX5_79 stX5_at iniX5 cdX5_at) rfl rfl rfl (by decide +kernel) ⟨Nat.le_of_ble_eq_true rfl, Nat.le_of_ble_eq_true rfl⟩) rfl ⟨Nat.zero_le _, Nat.zero_le _⟩ (Nat.le_of_ble_eq_true rfl) dX5_shift_55 [.int (iZ (((k + 1 : Nat) : Int))), .int (iZ (0)), .int (iZ (136)), .ref (Q 0)] rfl (fun r v610 hv610 => ?_)
                obtain ⟨rfl, rfl⟩ := hv610
                refine w_sipush C dX5_shift_58 (by decide) ?_
                refine m_callv [.int (iZ (136)), .int (iZ (((9 * 0 + (k + 1) : Nat) : Int))), .int (iZ (135))] hsz C (fun z => cm_multiply l D Q G vL vS vN (upd fD 0 (iZ ((n : Int) - 1))) X 136 (9 * 0 + (k + 1)) 135 630 3 (V (9 * 0 + (k + 1))) (V 135) (by omega) (by omega) (by omega) (by omega) (by omega) (hZv _ (by omega)) (hZv _ (by omega)) (by rw [g1 (k + 1) (by omega) (by omega)]; omega) (by rw [g0]; exact Int.lt_of_lt_of_le (show (r.natAbs : Int) < 9223372036854775809 by omega) (by decide)) (by omega) z) (cwV 3 C.1.2.2.2.2 (wC_V kX5_88 nX5_multiply slX5_multiply iniX5 cdX5_multiply) rfl rfl rfl (by decide +kernel) ⟨Nat.le_of_ble_eq_true rfl, Nat.le_of_ble_eq_true rfl⟩) rfl ⟨Nat.zero_le _, Nat.zero_le _⟩ (Nat.le_of_ble_eq_true rfl) dX5_shift_61 [.int (iZ (135)), .int (iZ (((9 * 0 + (k + 1) : Nat) : Int))), .int (iZ (136)), .ref (Q 0)] rfl (fun v611 hv611 => ?_)
                obtain ⟨gL611, gS611, gN611, hZ611, rfl⟩ := mSet_all hZv hv611
                refine w_aload_n C dX5_shift_64 3 rfl ?_
                refine w_iconst C dX5_shift_65 ?_
                refine w_iload C dX5_shift_66 0 rfl ?_
                refine w_top C ((k : Int)) (by omega) ?_
                refine m_callSi [.int (iZ (0)), .int (iZ ((k : Int)))] hsz C (fun z => cm_at l D Q G gL611 gS611 gN611 (upd fD 0 (iZ ((n : Int) - 1))) X (0) (k) z) (cwS 2 C.1.2.2.2.2 (wC_S kX5_79 stX5_at iniX5 cdX5_at) rfl rfl rfl (by decide +kernel) ⟨Nat.le_of_ble_eq_true rfl, Nat.le_of_ble_eq_true rfl⟩) rfl ⟨Nat.zero_le _, Nat.zero_le _⟩ (Nat.le_of_ble_eq_true rfl) dX5_shift_68 [.int (iZ ((k : Int))), .int (iZ (0)), .ref (Q 0)] rfl (fun r v612 hv612 => ?_)
                obtain ⟨rfl, rfl⟩ := hv612
                refine w_iconst C dX5_shift_71 ?_
                refine w_iload C dX5_shift_72 0 rfl ?_
                refine w_top C ((k : Int)) (by omega) ?_
                refine m_callSi [.int (iZ (0)), .int (iZ ((k : Int)))] hsz C (fun z => cm_at l D Q G gL611 gS611 gN611 (upd fD 0 (iZ ((n : Int) - 1))) X (0) (k) z) (cwS 2 C.1.2.2.2.2 (wC_S kX5_79 stX5_at iniX5 cdX5_at) rfl rfl rfl (by decide +kernel) ⟨Nat.le_of_ble_eq_true rfl, Nat.le_of_ble_eq_true rfl⟩) rfl ⟨Nat.zero_le _, Nat.zero_le _⟩ (Nat.le_of_ble_eq_true rfl) dX5_shift_74 [.int (iZ ((k : Int))), .int (iZ (0)), .int (iZ (((9 * 0 + k : Nat) : Int))), .ref (Q 0)] rfl (fun r v613 hv613 => ?_)
                obtain ⟨rfl, rfl⟩ := hv613
                refine w_sipush C dX5_shift_77 (by decide) ?_
                refine w_iconst C dX5_shift_80 ?_
                refine m_callv [.int (iZ (((9 * 0 + k : Nat) : Int))), .int (iZ (((9 * 0 + k : Nat) : Int))), .int (iZ (136)), .int (iZ (1))] hsz C (fun z => cm_add l D Q G gL611 gS611 gN611 (upd fD 0 (iZ ((n : Int) - 1))) X (9 * 0 + k) (9 * 0 + k) 136 1 ((uZ V 136 (V (9 * 0 + (k + 1)) * V 135)) (9 * 0 + k)) ((uZ V 136 (V (9 * 0 + (k + 1)) * V 135)) 136) (by omega) (by omega) (by omega) (Or.inl rfl) (hZ611 _ (by omega)) (hZ611 _ (by omega)) (by rw [uZ_ne (by omega), g2 k (by omega)]; have e1 := hsh i k (by omega); have e2 := hpm (9 * i) (by omega); omega) (by rw [uZ_eq, g1 (k + 1) (by omega) (by omega), g0, Int.natAbs_mul, Int.natCast_mul]; have e1 := Int.mul_le_mul hsb (Int.le_of_eq hA.symm) (by omega) (Int.mul_nonneg (Int.le_of_lt (Int.pow_pos (by omega))) (Int.mul_nonneg (Int.le_of_lt (Int.pow_pos (by omega))) hM0)); have e2 : (1 + A) ^ (n - (k + 1)) * ((1 + A) ^ (9 * i) * 2 ^ 31) * A ≤ (1 + A) ^ (n - (k + 1)) * ((1 + A) ^ (9 * i) * 2 ^ 31) * (1 + A) := Int.mul_le_mul_of_nonneg_left (by omega) (Int.mul_nonneg (Int.le_of_lt (Int.pow_pos (by omega))) (Int.mul_nonneg (Int.le_of_lt (Int.pow_pos (by omega))) hM0)); have e4 : (1 + A) ^ (n - (k + 1)) * ((1 + A) ^ (9 * i) * 2 ^ 31) * (1 + A) = (1 + A) ^ (n - (k + 1) + 9 * i + 1) * 2 ^ 31 := (by rw [Int.pow_succ (1 + A), Int.pow_add (1 + A)]; ac_rfl); have e3 := hpm (n - (k + 1) + 9 * i + 1) (by omega); rw [e4] at e2; omega) z) (cwV 4 C.1.2.2.2.2 (wC_V kX5_91 nX5_add slX5_add iniX5 cdX5_add) rfl rfl rfl (by decide +kernel) ⟨Nat.le_of_ble_eq_true rfl, Nat.le_of_ble_eq_true rfl⟩) rfl ⟨Nat.zero_le _, Nat.zero_le _⟩ (Nat.le_of_ble_eq_true rfl) dX5_shift_81 [.int (iZ (1)), .int (iZ (136)), .int (iZ (((9 * 0 + k : Nat) : Int))), .int (iZ (((9 * 0 + k : Nat) : Int))), .ref (Q 0)] rfl (fun v614 hv614 => ?_)
                obtain ⟨gL614, gS614, gN614, hZ614, rfl⟩ := mSet_all hZ611 hv614
                refine w_iinc C ((k : Int) - 1) (by omega) [(4, .int (iZ ((k : Int) - 1))), (3, .int (iZ ((i : Int)))), (2, .int (iZ ((n : Int) - 1))), (0, .ref (Q 0)), (1, .int (iZ (r)))] dX5_shift_84 0 rfl (by decide) rfl ?_
                refine w_goto C 40 dX5_shift_87 (by decide) ?_
                exact ih4 k (uZ (uZ V 136 (V (9 * 0 + (k + 1)) * V 135)) (9 * 0 + k) ((uZ V 136 (V (9 * 0 + (k + 1)) * V 135)) (9 * 0 + k) + 1 * (uZ V 136 (V (9 * 0 + (k + 1)) * V 135)) 136)) _ _ _ (by omega) (by omega) hZ614 (fun q e1 e2 => by
                  by_cases e : q = k
                  · subst e; rw [uZ_eq, uZ_ne (by omega), uZ_eq, g2 q (by omega), g1 (q + 1) (by omega) (by omega), g0, show n - q = (n - (q + 1)) + 1 by omega]
                    simp only [sfa]; rw [show n - (n - (q + 1) + 1) = q by omega, Int.one_mul]
                  · rw [uZ_ne (by omega), uZ_ne (by omega)]; exact g1 q (by omega) e2) (fun q e1 => by rw [uZ_ne (by omega), uZ_ne (by omega)]; exact g2 q (by omega)) (by rw [uZ_ne (by omega), uZ_ne (by omega)]; exact g0)
          exact p2in n (n - 1) Y _ _ _ (by omega) (by omega) hZ (fun q e1 e2 => by
            have : q = n - 1 := by omega
            subst this; rw [h1 _ (by omega), show n - (n - 1) = 0 + 1 by omega]; simp only [sfa]; rw [Int.zero_mul, Int.add_zero]) (fun q e1 => h1 q (by omega)) h0
    exact p2 (n + 1) 0 (uZ Y1 135 r) _ _ _ (by omega) (Or.inl rfl) hZ3 (fun q g => by rw [uZ_ne (by omega)]; exact a4 q (by omega)) uZ_eq
  · refine w_bipush C dX5_shift_10 (by decide) ?_
    exact m_iret hsz C hr hlk (⟨n, hn, Or.inl ⟨by omega, rfl, mScr_of ⟨_, _, _, hZ, rfl⟩⟩⟩) dX5_shift_12
