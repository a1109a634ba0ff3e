/-- the value of the polynomial with the first n of the coefficients c at t -/
def ev (c : Nat → Int) : Nat → Int → Int
  | 0, _ => 0
  | n + 1, t => ev c n t + c n * t ^ n
theorem ev_congr {c e : Nat → Int} {t : Int} : ∀ {n : Nat}, (∀ k, k < n → c k = e k) → ev c n t = ev e n t
  | 0, _ => rfl
  | n + 1, h => by simp only [ev]; rw [ev_congr (fun k hk => h k (by omega)), h n (by omega)]
theorem ev_cut {c : Nat → Int} {t : Int} {j : Nat} : ∀ {n : Nat}, j ≤ n → (∀ k, j ≤ k → k < n → c k = 0) → ev c n t = ev c j t
  | 0, h, _ => by have : j = 0 := by omega
                  subst this; rfl
  | n + 1, h, hz => by
    rcases Nat.lt_or_ge n j with q | q
    · have : j = n + 1 := by omega
      subst this; rfl
    · simp only [ev]; rw [ev_cut q (fun k h1 h2 => hz k h1 (by omega)), hz n q (by omega), Int.zero_mul, Int.add_zero]
theorem ev_mul {c : Nat → Int} {a t : Int} : ∀ {n : Nat}, ev (fun i => c i * a) n t = ev c n t * a
  | 0 => by simp [ev]
  | n + 1 => by simp only [ev]; rw [ev_mul, Int.add_mul, Int.mul_right_comm]
theorem ev_add {c e : Nat → Int} {t : Int} : ∀ {n : Nat}, ev (fun i => c i + e i) n t = ev c n t + ev e n t
  | 0 => by simp [ev]
  | n + 1 => by simp only [ev]; rw [ev_add, Int.add_mul]; omega
theorem ev_sub {c e : Nat → Int} {t : Int} : ∀ {n : Nat}, ev (fun i => c i - e i) n t = ev c n t - ev e n t
  | 0 => by simp [ev]
  | n + 1 => by simp only [ev]; rw [ev_sub, Int.sub_mul]; omega
theorem ev_low {c : Nat → Int} {t : Int} : ∀ {n : Nat}, (∀ k, k < n → c k = 0) → ev c n t = 0
  | 0, _ => rfl
  | n + 1, hz => by simp only [ev]; rw [ev_low (fun k hk => hz k (by omega)), hz n (by omega)]; simp
theorem ev_shift {c e : Nat → Int} {t : Int} {d : Nat} : ∀ {m : Nat}, (∀ k, k < d → c k = 0) → (∀ k, k < m → c (d + k) = e k) → ev c (d + m) t = ev e m t * t ^ d
  | 0, h0, _ => by rw [Nat.add_zero, ev_low h0]; simp [ev]
  | m + 1, h0, h1 => by
    rw [← Nat.add_assoc]
    simp only [ev]
    rw [ev_shift h0 (fun k hk => h1 k (by omega)), h1 m (by omega), Int.add_mul, Int.pow_add, Int.mul_assoc, Int.mul_comm (t ^ d)]
theorem ev_one {c : Nat → Int} {t v : Int} {d n : Nat} (hd : d < n) (h : ∀ k, k < n → c k = if k = d then v else 0) : ev c n t = v * t ^ d := by
  rw [ev_cut (j := d + 1) (by omega) (fun k h1 h2 => by rw [h k h2, if_neg (by omega)])]
  simp only [ev]
  rw [ev_low (fun k hk => by rw [h k (by omega), if_neg (by omega)]), h d hd, if_pos rfl, Int.zero_add]
/-- one step of the division -/
theorem red_step {R0 qB qv B R V lc td s1 : Int} (h : s1 * R0 = qv * B + R) (R' q' : Int) (hR : R' = R * lc - B * V * td) (hq : q' = qv * lc + V * td) : s1 * lc * R0 = q' * B + R' := by
  rw [Int.mul_right_comm, h, hR, hq, Int.add_mul, Int.add_mul]
  have e1 : qv * B * lc = qv * lc * B := Int.mul_right_comm _ _ _
  have e2 : V * td * B = B * V * td := by rw [Int.mul_comm (V * td) B, Int.mul_assoc]
  omega
set_option maxHeartbeats 4000000 in
set_option maxRecDepth 100000 in
/-- reduce: division by a row, times powers of its first number -/
theorem cm_reduce (l : Launch) (D : va_G) (Q : Nat → Nat) (G : Nat → ClassId) (fL fS fN fD : Nat → Int32) (X : mX) (Z : Nat → Int) (N2 N3 pR pB : Nat) (M MB : Int) (hZ : mAll fL fS fN Z) (hd2 : fD 2 = iZ ((N2 : Int) - 1)) (hd3 : fD 3 = iZ ((N3 : Int) - 1)) (hN : N2 ≤ 9) (h13 : 1 ≤ N3) (h32 : N3 ≤ N2) (ht2 : Z (9 * 2 + (N2 - 1)) ≠ 0) (hlc : Z (9 * 3 + (N3 - 1)) ≠ 0) (hM : 0 ≤ M) (hMB : 1 ≤ MB) (hB2 : ∀ i : Nat, i < N2 → ((Z (9 * 2 + i)).natAbs : Int) ≤ M) (hB3 : ∀ i : Nat, i < N3 → ((Z (9 * 3 + i)).natAbs : Int) ≤ MB) (hp1 : (2 * MB) ^ 9 * M < 2 ^ (31 * pR)) (hp2 : MB < 2 ^ (31 * pB)) (hpp : pR + pB ≤ 638) (sz : Nat) : Met l yX5_reduce (wC yX5_reduce cX5_reduce 4 none) ({ frames := 3, cells := 0, slots := 0, locals := 80 }) (va_Pc [.ref (Q 0)] (mPre D Q G (fL, fS, fN, fD, X) sz)) (va_Qv (fun u : mT => ∃ (Y : Nat → Int) (gD : Nat → Int32) (j s : Nat), mPost gD X Y u ∧ gD 2 = iZ ((j : Int) - 1) ∧ gD 4 = iZ (((N2 - N3 + 1) : Nat) - 1 : Int) ∧ (∀ q : Nat, q ≠ 2 → q ≠ 4 → gD q = fD q) ∧ j < N3 ∧ (∀ i : Nat, j = i + 1 → Y (9 * 2 + i) ≠ 0) ∧ 1 ≤ s ∧ s ≤ N2 - N3 + 1 ∧ (∀ t : Int, (Z (9 * 3 + (N3 - 1))) ^ s * ev (fun i => Z (9 * 2 + i)) N2 t = ev (fun i => Y (9 * 4 + i)) (N2 - N3 + 1) t * ev (fun i => Z (9 * 3 + i)) N3 t + ev (fun i => Y (9 * 2 + i)) j t) ∧ Y (9 * 4 + (N2 - N3)) ≠ 0 ∧ (∀ i : Nat, i < j → ((Y (9 * 2 + i)).natAbs : Int) ≤ ((2 * MB) ^ s * M)) ∧ (∀ i : Nat, i < (N2 - N3 + 1) → ((Y (9 * 4 + i)).natAbs : Int) ≤ ((2 * MB) ^ s * M)) ∧ ∀ c : Nat, c ≠ 136 → c ≠ 137 → (c < 18 ∨ 27 ≤ c) → (c < 36 ∨ 45 ≤ c) → Y c = Z c) (mAt D Q G (mA Q sz)) (mA Q sz)) 0 0 (mA Q sz) := by
  refine m_met (cc := cX5_reduce) (maxL := 4) (ret := none) (by decide) rfl rfl (Nat.le_of_ble_eq_true rfl) ?_
  intro p e s m below meth c hsz C hr hlk
  refine w_sub [(0, .ref (Q 0))] [0] rfl ?_
  have hK0 : ∀ s : Nat, (0 : Int) ≤ (2 * MB) ^ s * M := fun s => Int.mul_nonneg (Int.le_of_lt (Int.pow_pos (by omega))) hM
  have hKm : ∀ s : Nat, s ≤ 9 → (2 * MB) ^ s * M < 2 ^ (31 * pR) := fun s hs => Int.lt_of_le_of_lt (Int.mul_le_mul_of_nonneg_right (pow_mono (by omega) hs) hM) hp1
  have hKs : ∀ s : Nat, (2 * MB) ^ (s + 1) * M = MB * ((2 * MB) ^ s * M) + MB * ((2 * MB) ^ s * M) := fun s => by rw [Int.pow_succ, Int.mul_right_comm, Int.mul_comm ((2 * MB) ^ s * M), Int.mul_assoc 2 MB]; omega
  have h638 : ∀ p : Nat, p ≤ 639 → (2 : Int) ^ (31 * p) ≤ 2 ^ (31 * 639) := fun p hp => pw31_le hp
  refine w_aload_n C dX5_reduce_0 0 rfl ?_
  refine w_get (ci := 5) (ref := "RootIsolatorModel") (T := TX5) (Cn := RX5) (N := 10) C (fun w h => wC_in (inX5 w h)) 0 rfl rfl 4 (by decide) (wC_in fX5_degrees) rfl rfl dX5_reduce_1 ?_
  refine w_iconst C dX5_reduce_4 ?_
  refine w_iald C 4 0 rfl rfl (3) ((N3 : Int) - 1) ⟨by omega, by omega, by omega⟩ (hd3) dX5_reduce_5 ?_
  refine w_istore_n C [(1, .int (iZ ((N3 : Int) - 1))), (0, .ref (Q 0))] dX5_reduce_6 rfl (by decide) rfl ?_
  refine w_aload_n C dX5_reduce_7 1 rfl ?_
  refine w_get (ci := 5) (ref := "RootIsolatorModel") (T := TX5) (Cn := RX5) (N := 10) C (fun w h => wC_in (inX5 w h)) 0 rfl rfl 4 (by decide) (wC_in fX5_degrees) rfl rfl dX5_reduce_8 ?_
  refine w_iconst C dX5_reduce_11 ?_
  refine w_aload_n C dX5_reduce_12 1 rfl ?_
  refine w_get (ci := 5) (ref := "RootIsolatorModel") (T := TX5) (Cn := RX5) (N := 10) C (fun w h => wC_in (inX5 w h)) 0 rfl rfl 4 (by decide) (wC_in fX5_degrees) rfl rfl dX5_reduce_13 ?_
  refine w_iconst C dX5_reduce_16 ?_
  refine w_iald C 4 0 rfl rfl (2) ((N2 : Int) - 1) ⟨by omega, by omega, by omega⟩ (hd2) dX5_reduce_17 ?_
  refine w_iload_n C dX5_reduce_18 0 rfl ?_
  refine w_isub C dX5_reduce_19 ?_
  refine w_top C ((((N2 - N3 + 1) : Nat) : Int) - 1) (by omega) ?_
  refine w_iast C (mU Q G (fL, fS, fN, (upd fD (4) (iZ ((((N2 - N3 + 1) : Nat) : Int) - 1))), X)) 4 0 rfl rfl (4) ⟨by omega, by omega, by omega⟩ rfl dX5_reduce_20 ?_
  refine w_iconst C dX5_reduce_21 ?_
  refine w_istore_n C [(2, .int (iZ (0))), (1, .int (iZ ((N3 : Int) - 1))), (0, .ref (Q 0))] dX5_reduce_22 rfl (by decide) rfl ?_
  have p0 : ∀ (d : Nat) (k : Nat) (P0 : Nat → Int) (pL : Nat → Int32) (pS : Nat → Int32) (pN : Nat → Int32), (N2 - N3 + 1) < k + d → k ≤ (N2 - N3 + 1) → mAll pL pS pN P0 → (∀ i : Nat, i < k → P0 (9 * 4 + i) = 0) → (∀ c : Nat, (c < 36 ∨ 36 + (N2 - N3 + 1) ≤ c) → P0 c = Z c) → ZW p l e ({ frames := 3, cells := 0, slots := 0, locals := 80 }) s m ([.ref (Q 0)] : List Value).toArray below meth c D (mA Q sz) 4 0 0 (MQ below (va_Qv (fun u : mT => ∃ (Y : Nat → Int) (gD : Nat → Int32) (j s : Nat), mPost gD X Y u ∧ gD 2 = iZ ((j : Int) - 1) ∧ gD 4 = iZ (((N2 - N3 + 1) : Nat) - 1 : Int) ∧ (∀ q : Nat, q ≠ 2 → q ≠ 4 → gD q = fD q) ∧ j < N3 ∧ (∀ i : Nat, j = i + 1 → Y (9 * 2 + i) ≠ 0) ∧ 1 ≤ s ∧ s ≤ N2 - N3 + 1 ∧ (∀ t : Int, (Z (9 * 3 + (N3 - 1))) ^ s * ev (fun i => Z (9 * 2 + i)) N2 t = ev (fun i => Y (9 * 4 + i)) (N2 - N3 + 1) t * ev (fun i => Z (9 * 3 + i)) N3 t + ev (fun i => Y (9 * 2 + i)) j t) ∧ Y (9 * 4 + (N2 - N3)) ≠ 0 ∧ (∀ i : Nat, i < j → ((Y (9 * 2 + i)).natAbs : Int) ≤ ((2 * MB) ^ s * M)) ∧ (∀ i : Nat, i < (N2 - N3 + 1) → ((Y (9 * 4 + i)).natAbs : Int) ≤ ((2 * MB) ^ s * M)) ∧ ∀ c : Nat, c ≠ 136 → c ≠ 137 → (c < 18 ∨ 27 ≤ c) → (c < 36 ∨ 45 ≤ c) → Y c = Z c) (mAt D Q G (mA Q sz)) (mA Q sz)) ([.ref (Q 0)] : List Value).toArray s 0 0 (mA Q sz)) (mU Q G (pL, pS, pN, (upd fD 4 (iZ ((((N2 - N3 + 1) : Nat) : Int) - 1))), X)) 23 [(2, .int (iZ ((k : Int)))), (1, .int (iZ ((N3 : Int) - 1))), (0, .ref (Q 0))] [] := by
    intro d
    induction d with
    | zero =>
      intro k P0 pL pS pN hd hk hZp p1 p2
      exact absurd hd (by omega)
    | succ d ihp =>
      intro k P0 pL pS pN hd hk hZp p1 p2
      refine w_iload_n C dX5_reduce_23 0 rfl ?_
      refine w_aload_n C dX5_reduce_24 2 rfl ?_
      refine w_get (ci := 5) (ref := "RootIsolatorModel") (T := TX5) (Cn := RX5) (N := 10) C (fun w h => wC_in (inX5 w h)) 0 rfl rfl 4 (by decide) (wC_in fX5_degrees) rfl rfl dX5_reduce_25 ?_
      refine w_iconst C dX5_reduce_28 ?_
      refine w_iald C 4 0 rfl rfl (4) ((((N2 - N3 + 1) : Nat) : Int) - 1) ⟨by omega, by omega, by omega⟩ ((upd_eq : upd fD 4 (iZ ((((N2 - N3 + 1) : Nat) : Int) - 1)) 4 = _)) dX5_reduce_29 ?_
      refine w_icmp_gt C 49 dX5_reduce_30 (by decide) ⟨⟨by omega, by omega⟩, by omega, by omega⟩ (fun c30 => ?_) (fun c30 => ?_)
      · have ol : ∀ (d : Nat) (n2 : Nat) (sx : Nat) (Y : Nat → Int) (kL : Nat → Int32) (kS : Nat → Int32) (kN : Nat → Int32) (gD : Nat → Int32), n2 < d → mAll kL kS kN Y → gD 2 = iZ ((n2 : Int) - 1) → gD 4 = iZ ((((N2 - N3 + 1) : Nat) : Int) - 1) → (∀ q : Nat, q ≠ 2 → q ≠ 4 → gD q = fD q) → sx + n2 ≤ N2 ∧ sx ≤ N2 - N3 + 1 → (∀ i : Nat, n2 = i + 1 → Y (9 * 2 + i) ≠ 0) → (sx = 0 ∨ 1 ≤ sx) → (∀ t : Int, (Z (9 * 3 + (N3 - 1))) ^ sx * ev (fun i => Z (9 * 2 + i)) N2 t = ev (fun i => Y (9 * 4 + i)) (N2 - N3 + 1) t * ev (fun i => Z (9 * 3 + i)) N3 t + ev (fun i => Y (9 * 2 + i)) n2 t) → (1 ≤ sx → Y (9 * 4 + (N2 - N3)) ≠ 0) → (∀ i : Nat, i < n2 → ((Y (9 * 2 + i)).natAbs : Int) ≤ ((2 * MB) ^ sx * M)) → (∀ i : Nat, i < (N2 - N3 + 1) → ((Y (9 * 4 + i)).natAbs : Int) ≤ ((2 * MB) ^ sx * M)) → (sx = 0 → n2 = N2 ∧ ∀ i : Nat, i < N2 → Y (9 * 2 + i) = Z (9 * 2 + i)) → (sx = 0 → ∀ i : Nat, i < (N2 - N3 + 1) → Y (9 * 4 + i) = 0) → (∀ c : Nat, c ≠ 136 → c ≠ 137 → (c < 18 ∨ 27 ≤ c) → (c < 36 ∨ 45 ≤ c) → Y c = Z c) → ZW p l e ({ frames := 3, cells := 0, slots := 0, locals := 80 }) s m ([.ref (Q 0)] : List Value).toArray below meth c D (mA Q sz) 4 0 0 (MQ below (va_Qv (fun u : mT => ∃ (Y : Nat → Int) (gD : Nat → Int32) (j s : Nat), mPost gD X Y u ∧ gD 2 = iZ ((j : Int) - 1) ∧ gD 4 = iZ (((N2 - N3 + 1) : Nat) - 1 : Int) ∧ (∀ q : Nat, q ≠ 2 → q ≠ 4 → gD q = fD q) ∧ j < N3 ∧ (∀ i : Nat, j = i + 1 → Y (9 * 2 + i) ≠ 0) ∧ 1 ≤ s ∧ s ≤ N2 - N3 + 1 ∧ (∀ t : Int, (Z (9 * 3 + (N3 - 1))) ^ s * ev (fun i => Z (9 * 2 + i)) N2 t = ev (fun i => Y (9 * 4 + i)) (N2 - N3 + 1) t * ev (fun i => Z (9 * 3 + i)) N3 t + ev (fun i => Y (9 * 2 + i)) j t) ∧ Y (9 * 4 + (N2 - N3)) ≠ 0 ∧ (∀ i : Nat, i < j → ((Y (9 * 2 + i)).natAbs : Int) ≤ ((2 * MB) ^ s * M)) ∧ (∀ i : Nat, i < (N2 - N3 + 1) → ((Y (9 * 4 + i)).natAbs : Int) ≤ ((2 * MB) ^ s * M)) ∧ ∀ c : Nat, c ≠ 136 → c ≠ 137 → (c < 18 ∨ 27 ≤ c) → (c < 36 ∨ 45 ≤ c) → Y c = Z c) (mAt D Q G (mA Q sz)) (mA Q sz)) ([.ref (Q 0)] : List Value).toArray s 0 0 (mA Q sz)) (mU Q G (kL, kS, kN, gD, X)) 49 [(1, .int (iZ ((N3 : Int) - 1))), (0, .ref (Q 0))] [] := by
          intro d
          induction d with
          | zero =>
            intro n2 sx Y kL kS kN gD hd hZ hg2 hg4 hgo hsn htn hsn2 hid hqt hrr hq hs0 hq0 hfr
            exact absurd hd (by omega)
          | succ d ih2 =>
            intro n2 sx Y kL kS kN gD hd hZ hg2 hg4 hgo hsn htn hsn2 hid hqt hrr hq hs0 hq0 hfr
            refine w_aload_n C dX5_reduce_49 1 rfl ?_
            refine w_get (ci := 5) (ref := "RootIsolatorModel") (T := TX5) (Cn := RX5) (N := 10) C (fun w h => wC_in (inX5 w h)) 0 rfl rfl 4 (by decide) (wC_in fX5_degrees) rfl rfl dX5_reduce_50 ?_
            refine w_iconst C dX5_reduce_53 ?_
            refine w_iald C 4 0 rfl rfl (2) (((n2 : Nat) : Int) - 1) ⟨by omega, by omega, by omega⟩ (hg2) dX5_reduce_54 ?_
            refine w_iload_n C dX5_reduce_55 0 rfl ?_
            refine w_icmp_lt C 263 dX5_reduce_56 (by decide) ⟨⟨by omega, by omega⟩, by omega, by omega⟩ (fun c56 => ?_) (fun c56 => ?_)
            · exact m_vret hsz C hr hlk (⟨Y, gD, n2, sx, ⟨_, _, _, hZ, rfl⟩, hg2, hg4, hgo, by omega, htn, by rcases hsn2 with g | g; (have := (hs0 g).1; omega); exact g, by omega, hid, hqt (by rcases hsn2 with g | g; (have := (hs0 g).1; omega); exact g), hrr, hq, hfr⟩) dX5_reduce_263
            · refine w_aload_n C dX5_reduce_59 1 rfl ?_
              refine w_get (ci := 5) (ref := "RootIsolatorModel") (T := TX5) (Cn := RX5) (N := 10) C (fun w h => wC_in (inX5 w h)) 0 rfl rfl 4 (by decide) (wC_in fX5_degrees) rfl rfl dX5_reduce_60 ?_
              refine w_iconst C dX5_reduce_63 ?_
              refine w_iald C 4 0 rfl rfl (2) (((n2 : Nat) : Int) - 1) ⟨by omega, by omega, by omega⟩ (hg2) dX5_reduce_64 ?_
              refine w_iload_n C dX5_reduce_65 0 rfl ?_
              refine w_isub C dX5_reduce_66 ?_
              refine w_top C ((((n2 - N3) : Nat) : Int)) (by omega) ?_
              refine w_istore_n C [(2, .int (iZ ((((n2 - N3) : Nat) : Int)))), (1, .int (iZ ((N3 : Int) - 1))), (0, .ref (Q 0))] dX5_reduce_67 rfl (by decide) rfl ?_
              refine w_aload_n C dX5_reduce_68 2 rfl ?_
              refine w_sipush C dX5_reduce_69 (by decide) ?_
              refine w_iconst C dX5_reduce_72 ?_
              refine w_aload_n C dX5_reduce_73 2 rfl ?_
              refine w_get (ci := 5) (ref := "RootIsolatorModel") (T := TX5) (Cn := RX5) (N := 10) C (fun w h => wC_in (inX5 w h)) 0 rfl rfl 4 (by decide) (wC_in fX5_degrees) rfl rfl dX5_reduce_74 ?_
              refine w_iconst C dX5_reduce_77 ?_
              refine w_iald C 4 0 rfl rfl (2) (((n2 : Nat) : Int) - 1) ⟨by omega, by omega, by omega⟩ (hg2) dX5_reduce_78 ?_
              refine w_top C (((n2 - 1 : Nat) : Int)) (by omega) ?_
              refine m_callSi [.int (iZ (2)), .int (iZ (((n2 - 1 : Nat) : Int)))] hsz C (fun z => cm_at l D Q G kL kS kN gD X (2) (n2 - 1) z) (cwS 2 C.1.2.2.2.2 (wC_S kX5_79 stX5_at iniX5 cdX5_at) rfl rfl rfl (by decide +kernel) ⟨Nat.le_of_ble_eq_true rfl, Nat.le_of_ble_eq_true rfl⟩) rfl ⟨Nat.zero_le _, Nat.zero_le _⟩ (Nat.le_of_ble_eq_true rfl) dX5_reduce_79 [.int (iZ (((n2 - 1 : Nat) : Int))), .int (iZ (2)), .int (iZ (137)), .ref (Q 0)] rfl (fun r v201 hv201 => ?_)
              obtain ⟨rfl, rfl⟩ := hv201
              refine m_callv [.int (iZ (137)), .int (iZ (((9 * 2 + (n2 - 1) : Nat) : Int)))] hsz C (fun z => cm_copy l D Q G kL kS kN gD X 137 (9 * 2 + (n2 - 1)) (Y (9 * 2 + (n2 - 1))) (by omega) (by omega) (hZ _ (by omega)) z) (cwV 2 C.1.2.2.2.2 (wC_V kX5_49 nX5_copy slX5_copy iniX5 cdX5_copy) rfl rfl rfl (by decide +kernel) ⟨Nat.le_of_ble_eq_true rfl, Nat.le_of_ble_eq_true rfl⟩) rfl ⟨Nat.zero_le _, Nat.zero_le _⟩ (Nat.le_of_ble_eq_true rfl) dX5_reduce_82 [.int (iZ (((9 * 2 + (n2 - 1) : Nat) : Int))), .int (iZ (137)), .ref (Q 0)] rfl (fun v202 hv202 => ?_)
              obtain ⟨gL202, gS202, gN202, hZ202, rfl⟩ := mSet_all hZ hv202
              refine w_iconst C dX5_reduce_85 ?_
              refine w_istore_n C [(3, .int (iZ (0))), (2, .int (iZ ((((n2 - N3) : Nat) : Int)))), (1, .int (iZ ((N3 : Int) - 1))), (0, .ref (Q 0))] dX5_reduce_86 rfl (by decide) rfl ?_
              have lbl : ∀ (d : Nat) (k : Nat) (W1 : Nat → Int) (wL : Nat → Int32) (wS : Nat → Int32) (wN : Nat → Int32), n2 < k + d → k ≤ n2 → mAll wL wS wN W1 → (∀ i : Nat, i < k → W1 (9 * 2 + i) = Y (9 * 2 + i) * Z (9 * 3 + (N3 - 1))) → (∀ i : Nat, k ≤ i → i < n2 → W1 (9 * 2 + i) = Y (9 * 2 + i)) → W1 137 = Y (9 * 2 + (n2 - 1)) → (∀ c : Nat, c ≠ 136 → c ≠ 137 → (c < 18 ∨ 18 + n2 ≤ c) → W1 c = Y c) → ZW p l e ({ frames := 3, cells := 0, slots := 0, locals := 80 }) s m ([.ref (Q 0)] : List Value).toArray below meth c D (mA Q sz) 4 0 0 (MQ below (va_Qv (fun u : mT => ∃ (Y : Nat → Int) (gD : Nat → Int32) (j s : Nat), mPost gD X Y u ∧ gD 2 = iZ ((j : Int) - 1) ∧ gD 4 = iZ (((N2 - N3 + 1) : Nat) - 1 : Int) ∧ (∀ q : Nat, q ≠ 2 → q ≠ 4 → gD q = fD q) ∧ j < N3 ∧ (∀ i : Nat, j = i + 1 → Y (9 * 2 + i) ≠ 0) ∧ 1 ≤ s ∧ s ≤ N2 - N3 + 1 ∧ (∀ t : Int, (Z (9 * 3 + (N3 - 1))) ^ s * ev (fun i => Z (9 * 2 + i)) N2 t = ev (fun i => Y (9 * 4 + i)) (N2 - N3 + 1) t * ev (fun i => Z (9 * 3 + i)) N3 t + ev (fun i => Y (9 * 2 + i)) j t) ∧ Y (9 * 4 + (N2 - N3)) ≠ 0 ∧ (∀ i : Nat, i < j → ((Y (9 * 2 + i)).natAbs : Int) ≤ ((2 * MB) ^ s * M)) ∧ (∀ i : Nat, i < (N2 - N3 + 1) → ((Y (9 * 4 + i)).natAbs : Int) ≤ ((2 * MB) ^ s * M)) ∧ ∀ c : Nat, c ≠ 136 → c ≠ 137 → (c < 18 ∨ 27 ≤ c) → (c < 36 ∨ 45 ≤ c) → Y c = Z c) (mAt D Q G (mA Q sz)) (mA Q sz)) ([.ref (Q 0)] : List Value).toArray s 0 0 (mA Q sz)) (mU Q G (wL, wS, wN, gD, X)) 87 [(3, .int (iZ ((k : Int)))), (2, .int (iZ ((((n2 - N3) : Nat) : Int)))), (1, .int (iZ ((N3 : Int) - 1))), (0, .ref (Q 0))] [] := by
                intro d
                induction d with
                | zero =>
                  intro k W1 wL wS wN hd hk hZw w1k w1b w137 w2
                  exact absurd hd (by omega)
                | succ d ih4 =>
                  intro k W1 wL wS wN hd hk hZw w1k w1b w137 w2
                  refine w_iload_n C dX5_reduce_87 0 rfl ?_
                  refine w_aload_n C dX5_reduce_88 3 rfl ?_
                  refine w_get (ci := 5) (ref := "RootIsolatorModel") (T := TX5) (Cn := RX5) (N := 10) C (fun w h => wC_in (inX5 w h)) 0 rfl rfl 4 (by decide) (wC_in fX5_degrees) rfl rfl dX5_reduce_89 ?_
                  refine w_iconst C dX5_reduce_92 ?_
                  refine w_iald C 4 0 rfl rfl (2) (((n2 : Nat) : Int) - 1) ⟨by omega, by omega, by omega⟩ (hg2) dX5_reduce_93 ?_
                  refine w_icmp_gt C 132 dX5_reduce_94 (by decide) ⟨⟨by omega, by omega⟩, by omega, by omega⟩ (fun c94 => ?_) (fun c94 => ?_)
                  · have w1 : ∀ i : Nat, i < n2 → W1 (9 * 2 + i) = Y (9 * 2 + i) * Z (9 * 3 + (N3 - 1)) := fun i hi => w1k i (by omega)
                    refine w_iconst C dX5_reduce_132 ?_
                    refine w_istore_n C [(3, .int (iZ (0))), (2, .int (iZ ((((n2 - N3) : Nat) : Int)))), (1, .int (iZ ((N3 : Int) - 1))), (0, .ref (Q 0))] dX5_reduce_133 rfl (by decide) rfl ?_
                    have lcl : ∀ (d : Nat) (k : Nat) (F : Nat → Int) (cL : Nat → Int32) (cS : Nat → Int32) (cN : Nat → Int32), N3 < k + d → k ≤ N3 → mAll cL cS cN F → (∀ i : Nat, i < n2 → F (9 * 2 + i) = Y (9 * 2 + i) * Z (9 * 3 + (N3 - 1)) - (if (n2 - N3) ≤ i ∧ i < (n2 - N3) + k then Z (9 * 3 + (i - (n2 - N3))) * Y (9 * 2 + (n2 - 1)) else 0)) → (∀ c : Nat, c ≠ 136 → (c < 18 ∨ 18 + n2 ≤ c) → F c = W1 c) → ZW p l e ({ frames := 3, cells := 0, slots := 0, locals := 80 }) s m ([.ref (Q 0)] : List Value).toArray below meth c D (mA Q sz) 4 0 0 (MQ below (va_Qv (fun u : mT => ∃ (Y : Nat → Int) (gD : Nat → Int32) (j s : Nat), mPost gD X Y u ∧ gD 2 = iZ ((j : Int) - 1) ∧ gD 4 = iZ (((N2 - N3 + 1) : Nat) - 1 : Int) ∧ (∀ q : Nat, q ≠ 2 → q ≠ 4 → gD q = fD q) ∧ j < N3 ∧ (∀ i : Nat, j = i + 1 → Y (9 * 2 + i) ≠ 0) ∧ 1 ≤ s ∧ s ≤ N2 - N3 + 1 ∧ (∀ t : Int, (Z (9 * 3 + (N3 - 1))) ^ s * ev (fun i => Z (9 * 2 + i)) N2 t = ev (fun i => Y (9 * 4 + i)) (N2 - N3 + 1) t * ev (fun i => Z (9 * 3 + i)) N3 t + ev (fun i => Y (9 * 2 + i)) j t) ∧ Y (9 * 4 + (N2 - N3)) ≠ 0 ∧ (∀ i : Nat, i < j → ((Y (9 * 2 + i)).natAbs : Int) ≤ ((2 * MB) ^ s * M)) ∧ (∀ i : Nat, i < (N2 - N3 + 1) → ((Y (9 * 4 + i)).natAbs : Int) ≤ ((2 * MB) ^ s * M)) ∧ ∀ c : Nat, c ≠ 136 → c ≠ 137 → (c < 18 ∨ 27 ≤ c) → (c < 36 ∨ 45 ≤ c) → Y c = Z c) (mAt D Q G (mA Q sz)) (mA Q sz)) ([.ref (Q 0)] : List Value).toArray s 0 0 (mA Q sz)) (mU Q G (cL, cS, cN, gD, X)) 134 [(3, .int (iZ ((k : Int)))), (2, .int (iZ ((((n2 - N3) : Nat) : Int)))), (1, .int (iZ ((N3 : Int) - 1))), (0, .ref (Q 0))] [] := by
                      intro d
                      induction d with
                      | zero =>
                        intro k F cL cS cN hd hk hZc e1k e2
                        exact absurd hd (by omega)
                      | succ d ih5 =>
                        intro k F cL cS cN hd hk hZc e1k e2
                        have hFBk : ∀ i : Nat, i < N3 → F (9 * 3 + i) = Z (9 * 3 + i) := fun i hi => by rw [e2 _ (by omega) (by omega), w2 _ (by omega) (by omega) (by omega)]; exact hfr _ (by omega) (by omega) (by omega) (by omega)
                        have hF137 : F 137 = Y (9 * 2 + (n2 - 1)) := (e2 _ (by omega) (by omega)).trans w137
                        refine w_iload_n C dX5_reduce_134 0 rfl ?_
                        refine w_iload_n C dX5_reduce_135 2 rfl ?_
                        refine w_icmp_gt C 182 dX5_reduce_136 (by decide) ⟨⟨by omega, by omega⟩, by omega, by omega⟩ (fun c136 => ?_) (fun c136 => ?_)
                        · have hkn : k = N3 := by omega
                          have e1 : ∀ i : Nat, i < n2 → F (9 * 2 + i) = Y (9 * 2 + i) * Z (9 * 3 + (N3 - 1)) - (if (n2 - N3) ≤ i then Z (9 * 3 + (i - (n2 - N3))) * Y (9 * 2 + (n2 - 1)) else 0) := fun i hi => by
                            rw [e1k i hi]
                            by_cases g : (n2 - N3) ≤ i
                            · rw [if_pos ⟨g, by omega⟩, if_pos g]
                            · rw [if_neg (fun q => g q.1), if_neg g]
                          have hFB : ∀ i : Nat, i < N3 → F (9 * 3 + i) = Z (9 * 3 + i) := hFBk
                          refine w_iconst C dX5_reduce_182 ?_
                          refine w_istore_n C [(3, .int (iZ (0))), (2, .int (iZ ((((n2 - N3) : Nat) : Int)))), (1, .int (iZ ((N3 : Int) - 1))), (0, .ref (Q 0))] dX5_reduce_183 rfl (by decide) rfl ?_
                          have ld : ∀ (d : Nat) (k : Nat) (E : Nat → Int) (dL : Nat → Int32) (dS : Nat → Int32) (dN : Nat → Int32), (N2 - N3 + 1) < k + d → k ≤ (N2 - N3 + 1) → mAll dL dS dN E → (∀ i : Nat, i < k → E (9 * 4 + i) = Y (9 * 4 + i) * Z (9 * 3 + (N3 - 1))) → (∀ i : Nat, k ≤ i → i < (N2 - N3 + 1) → E (9 * 4 + i) = Y (9 * 4 + i)) → (∀ c : Nat, c ≠ 136 → (c < 36 ∨ 36 + (N2 - N3 + 1) ≤ c) → E c = F c) → ZW p l e ({ frames := 3, cells := 0, slots := 0, locals := 80 }) s m ([.ref (Q 0)] : List Value).toArray below meth c D (mA Q sz) 4 0 0 (MQ below (va_Qv (fun u : mT => ∃ (Y : Nat → Int) (gD : Nat → Int32) (j s : Nat), mPost gD X Y u ∧ gD 2 = iZ ((j : Int) - 1) ∧ gD 4 = iZ (((N2 - N3 + 1) : Nat) - 1 : Int) ∧ (∀ q : Nat, q ≠ 2 → q ≠ 4 → gD q = fD q) ∧ j < N3 ∧ (∀ i : Nat, j = i + 1 → Y (9 * 2 + i) ≠ 0) ∧ 1 ≤ s ∧ s ≤ N2 - N3 + 1 ∧ (∀ t : Int, (Z (9 * 3 + (N3 - 1))) ^ s * ev (fun i => Z (9 * 2 + i)) N2 t = ev (fun i => Y (9 * 4 + i)) (N2 - N3 + 1) t * ev (fun i => Z (9 * 3 + i)) N3 t + ev (fun i => Y (9 * 2 + i)) j t) ∧ Y (9 * 4 + (N2 - N3)) ≠ 0 ∧ (∀ i : Nat, i < j → ((Y (9 * 2 + i)).natAbs : Int) ≤ ((2 * MB) ^ s * M)) ∧ (∀ i : Nat, i < (N2 - N3 + 1) → ((Y (9 * 4 + i)).natAbs : Int) ≤ ((2 * MB) ^ s * M)) ∧ ∀ c : Nat, c ≠ 136 → c ≠ 137 → (c < 18 ∨ 27 ≤ c) → (c < 36 ∨ 45 ≤ c) → Y c = Z c) (mAt D Q G (mA Q sz)) (mA Q sz)) ([.ref (Q 0)] : List Value).toArray s 0 0 (mA Q sz)) (mU Q G (dL, dS, dN, gD, X)) 184 [(3, .int (iZ ((k : Int)))), (2, .int (iZ ((((n2 - N3) : Nat) : Int)))), (1, .int (iZ ((N3 : Int) - 1))), (0, .ref (Q 0))] [] := by
                            intro d
                            induction d with
                            | zero =>
                              intro k E dL dS dN hd hk hZd d1 d1b d2
                              exact absurd hd (by omega)
                            | succ d ih6 =>
                              intro k E dL dS dN hd hk hZd d1 d1b d2
                              refine w_iload_n C dX5_reduce_184 0 rfl ?_
                              refine w_aload_n C dX5_reduce_185 3 rfl ?_
                              refine w_get (ci := 5) (ref := "RootIsolatorModel") (T := TX5) (Cn := RX5) (N := 10) C (fun w h => wC_in (inX5 w h)) 0 rfl rfl 4 (by decide) (wC_in fX5_degrees) rfl rfl dX5_reduce_186 ?_
                              refine w_iconst C dX5_reduce_189 ?_
                              refine w_iald C 4 0 rfl rfl (4) ((((N2 - N3 + 1) : Nat) : Int) - 1) ⟨by omega, by omega, by omega⟩ (hg4) dX5_reduce_190 ?_
                              refine w_icmp_gt C 229 dX5_reduce_191 (by decide) ⟨⟨by omega, by omega⟩, by omega, by omega⟩ (fun c191 => ?_) (fun c191 => ?_)
                              · have hkq : k = (N2 - N3 + 1) := by omega
                                have hV137 : E 137 = Y (9 * 2 + (n2 - 1)) := by rw [d2 _ (by omega) (by omega), e2 _ (by omega) (by omega)]; exact w137
                                have hqd : E (9 * 4 + (n2 - N3)) = Y (9 * 4 + (n2 - N3)) * Z (9 * 3 + (N3 - 1)) := d1 _ (by omega)
                                have hlcb := hB3 (N3 - 1) (by omega)
                                have hab : ∀ i : Nat, i < (N2 - N3 + 1) → ((E (9 * 4 + i)).natAbs : Int) ≤ MB * ((2 * MB) ^ sx * M) := fun i hi => by
                                  rw [d1 i (by omega), Int.natAbs_mul, Int.natCast_mul, Int.mul_comm]
                                  exact Int.mul_le_mul hlcb (hq i hi) (by omega) (by omega)
                                have hVb : (((Y (9 * 2 + (n2 - 1))).natAbs : Int)) ≤ (2 * MB) ^ sx * M := hrr (n2 - 1) (by omega)
                                have hMBK : (2 * MB) ^ sx * M ≤ MB * ((2 * MB) ^ sx * M) := by
                                  have g := Int.mul_le_mul_of_nonneg_right hMB (hK0 sx)
                                  omega
                                have hKss := hKs sx
                                have hK1 := hKm (sx + 1) (by omega)
                                have h639 := h638 pR (by omega)
                                refine w_aload_n C dX5_reduce_229 3 rfl ?_
                                refine w_iconst C dX5_reduce_230 ?_
                                refine w_iload_n C dX5_reduce_231 1 rfl ?_
                                refine m_callSi [.int (iZ (4)), .int (iZ ((((n2 - N3) : Nat) : Int)))] hsz C (fun z => cm_at l D Q G dL dS dN gD X (4) (n2 - N3) z) (cwS 2 C.1.2.2.2.2 (wC_S kX5_79 stX5_at iniX5 cdX5_at) rfl rfl rfl (by decide +kernel) ⟨Nat.le_of_ble_eq_true rfl, Nat.le_of_ble_eq_true rfl⟩) rfl ⟨Nat.zero_le _, Nat.zero_le _⟩ (Nat.le_of_ble_eq_true rfl) dX5_reduce_232 [.int (iZ ((((n2 - N3) : Nat) : Int))), .int (iZ (4)), .ref (Q 0)] rfl (fun r v503 hv503 => ?_)
                                obtain ⟨rfl, rfl⟩ := hv503
                                refine w_iconst C dX5_reduce_235 ?_
                                refine w_iload_n C dX5_reduce_236 1 rfl ?_
                                refine m_callSi [.int (iZ (4)), .int (iZ ((((n2 - N3) : Nat) : Int)))] hsz C (fun z => cm_at l D Q G dL dS dN gD X (4) (n2 - N3) z) (cwS 2 C.1.2.2.2.2 (wC_S kX5_79 stX5_at iniX5 cdX5_at) rfl rfl rfl (by decide +kernel) ⟨Nat.le_of_ble_eq_true rfl, Nat.le_of_ble_eq_true rfl⟩) rfl ⟨Nat.zero_le _, Nat.zero_le _⟩ (Nat.le_of_ble_eq_true rfl) dX5_reduce_237 [.int (iZ ((((n2 - N3) : Nat) : Int))), .int (iZ (4)), .int (iZ (((9 * 4 + (n2 - N3) : Nat) : Int))), .ref (Q 0)] rfl (fun r v504 hv504 => ?_)
                                obtain ⟨rfl, rfl⟩ := hv504
                                refine w_sipush C dX5_reduce_240 (by decide) ?_
                                refine w_iconst C dX5_reduce_243 ?_
                                refine m_callv [.int (iZ (((9 * 4 + (n2 - N3) : Nat) : Int))), .int (iZ (((9 * 4 + (n2 - N3) : Nat) : Int))), .int (iZ (137)), .int (iZ (1))] hsz C (fun z => cm_add l D Q G dL dS dN gD X (9 * 4 + (n2 - N3)) (9 * 4 + (n2 - N3)) 137 1 (E (9 * 4 + (n2 - N3))) (E 137) (by omega) (by omega) (by omega) (Or.inl rfl) (hZd _ (by omega)) (hZd _ (by omega)) (by have g1 := hab (n2 - N3) (by omega); omega) (by rw [hV137]; omega) z) (cwV 4 C.1.2.2.2.2 (wC_V kX5_91 nX5_add slX5_add iniX5 cdX5_add) rfl rfl rfl (by decide +kernel) ⟨Nat.le_of_ble_eq_true rfl, Nat.le_of_ble_eq_true rfl⟩) rfl ⟨Nat.zero_le _, Nat.zero_le _⟩ (Nat.le_of_ble_eq_true rfl) dX5_reduce_244 [.int (iZ (1)), .int (iZ (137)), .int (iZ (((9 * 4 + (n2 - N3) : Nat) : Int))), .int (iZ (((9 * 4 + (n2 - N3) : Nat) : Int))), .ref (Q 0)] rfl (fun v505 hv505 => ?_)
                                obtain ⟨gL505, gS505, gN505, hZ505, rfl⟩ := mSet_all hZd hv505
                                refine w_aload_n C dX5_reduce_247 3 rfl ?_
                                refine w_iconst C dX5_reduce_248 ?_
                                refine w_aload_n C dX5_reduce_249 3 rfl ?_
                                refine w_get (ci := 5) (ref := "RootIsolatorModel") (T := TX5) (Cn := RX5) (N := 10) C (fun w h => wC_in (inX5 w h)) 0 rfl rfl 4 (by decide) (wC_in fX5_degrees) rfl rfl dX5_reduce_250 ?_
                                refine w_iconst C dX5_reduce_253 ?_
                                refine w_iald C 4 0 rfl rfl (2) (((n2 : Nat) : Int) - 1) ⟨by omega, by omega, by omega⟩ (hg2) dX5_reduce_254 ?_
                                refine w_iconst C dX5_reduce_255 ?_
                                refine w_isub C dX5_reduce_256 ?_
                                refine w_top C (((n2 - 1 : Nat) : Int) - 1) (by omega) ?_
                                refine m_callv [.int (iZ (2)), .int (iZ (((n2 - 1 : Nat) : Int) - 1))] hsz C (fun z => cm_findDegree l D Q G gL505 gS505 gN505 gD X (uZ E (9 * 4 + (n2 - N3)) (E (9 * 4 + (n2 - N3)) + 1 * E 137)) 2 (n2 - 1) hZ505 (by omega) (by omega) z) (cwV 2 C.1.2.2.2.2 (wC_V kX5_82 nX5_findDegree slX5_findDegree iniX5 cdX5_findDegree) rfl rfl rfl (by decide +kernel) ⟨Nat.le_of_ble_eq_true rfl, Nat.le_of_ble_eq_true rfl⟩) rfl ⟨Nat.zero_le _, Nat.zero_le _⟩ (Nat.le_of_ble_eq_true rfl) dX5_reduce_257 [.int (iZ (((n2 - 1 : Nat) : Int) - 1)), .int (iZ (2)), .ref (Q 0)] rfl (fun v506 hv506 => ?_)
                                obtain ⟨j, hj1, hj2, hj3, rfl⟩ := hv506
                                refine w_goto C 49 dX5_reduce_260 (by decide) ?_
                                refine w_sub [(1, .int (iZ ((N3 : Int) - 1))), (0, .ref (Q 0))] [2, 3] rfl ?_
                                obtain ⟨P, hP⟩ : ∃ P : Nat → Int, P = (uZ E (9 * 4 + (n2 - N3)) (E (9 * 4 + (n2 - N3)) + 1 * E 137)) := ⟨_, rfl⟩
                                have hZP := hZ505
                                rw [← hP] at hZP hj2 hj3
                                have hPR : ∀ i : Nat, i < n2 → P (9 * 2 + i) = Y (9 * 2 + i) * Z (9 * 3 + (N3 - 1)) - (if (n2 - N3) ≤ i then Z (9 * 3 + (i - (n2 - N3))) * Y (9 * 2 + (n2 - 1)) else 0) := fun i hi => by rw [hP, uZ_ne (by omega), d2 _ (by omega) (by omega)]; exact e1 i hi
                                have hPQ : ∀ i : Nat, i < (N2 - N3 + 1) → P (9 * 4 + i) = Y (9 * 4 + i) * Z (9 * 3 + (N3 - 1)) + (if i = (n2 - N3) then Y (9 * 2 + (n2 - 1)) else 0) := fun i hi => by
                                  rw [hP]
                                  by_cases g : i = (n2 - N3)
                                  · subst g; rw [uZ_eq, if_pos rfl, d1 _ (by omega), hV137, Int.one_mul]
                                  · rw [uZ_ne (by omega), if_neg g, d1 _ (by omega), Int.add_zero]
                                have htop0 : P (9 * 2 + (n2 - 1)) = 0 := by rw [hPR _ (by omega), if_pos (by omega), show n2 - 1 - (n2 - N3) = N3 - 1 by omega, Int.mul_comm]; omega
                                have hPRb : ∀ i : Nat, i < n2 → ((P (9 * 2 + i)).natAbs : Int) ≤ (2 * MB) ^ (sx + 1) * M := fun i hi => by
                                  rw [hPR i hi, hKss]
                                  have g1 : ((Y (9 * 2 + i) * Z (9 * 3 + (N3 - 1))).natAbs : Int) ≤ MB * ((2 * MB) ^ sx * M) := by rw [Int.natAbs_mul, Int.natCast_mul, Int.mul_comm]; exact Int.mul_le_mul hlcb (hrr i hi) (by omega) (by omega)
                                  have g2 : (((if (n2 - N3) ≤ i then Z (9 * 3 + (i - (n2 - N3))) * Y (9 * 2 + (n2 - 1)) else 0 : Int)).natAbs : Int) ≤ MB * ((2 * MB) ^ sx * M) := by
                                    split
                                    · rw [Int.natAbs_mul, Int.natCast_mul]; exact Int.mul_le_mul (hB3 _ (by omega)) hVb (by omega) (by omega)
                                    · have := Int.mul_nonneg (show (0 : Int) ≤ MB by omega) (hK0 sx); simp; exact this
                                  have g3 := Int.natAbs_sub_le (Y (9 * 2 + i) * Z (9 * 3 + (N3 - 1))) (if (n2 - N3) ≤ i then Z (9 * 3 + (i - (n2 - N3))) * Y (9 * 2 + (n2 - 1)) else 0)
                                  omega
                                exact ih2 j (sx + 1) P _ _ _ _ (by omega) hZP upd_eq ((upd_ne (by omega)).trans hg4) (fun q g1 g2 => (upd_ne g1).trans (hgo q g1 g2)) (by omega) hj3 (by omega) (fun t => by
                                  have hRj : ev (fun i => P (9 * 2 + i)) j t = ev (fun i => P (9 * 2 + i)) n2 t := (ev_cut (by omega) (fun k g1 g2 => by rcases Nat.lt_or_ge k (n2 - 1) with g | g; exact hj2 k g1 g; rw [show k = n2 - 1 by omega]; exact htop0)).symm
                                  rw [hRj, Int.pow_succ]
                                  refine red_step (R := ev (fun i => Y (9 * 2 + i)) n2 t) (qB := 0) (V := Y (9 * 2 + (n2 - 1))) (td := t ^ (n2 - N3)) (hid t) _ _ ?_ ?_
                                  · rw [ev_congr (e := fun i => Y (9 * 2 + i) * Z (9 * 3 + (N3 - 1)) - (if (n2 - N3) ≤ i then Z (9 * 3 + (i - (n2 - N3))) * Y (9 * 2 + (n2 - 1)) else 0)) (fun i hi => hPR i hi), ev_sub, ev_mul]
                                    have g : ev (fun i => (if (n2 - N3) ≤ i then Z (9 * 3 + (i - (n2 - N3))) * Y (9 * 2 + (n2 - 1)) else 0 : Int)) ((n2 - N3) + N3) t = ev (fun i => Z (9 * 3 + i) * Y (9 * 2 + (n2 - 1))) N3 t * t ^ (n2 - N3) := ev_shift (fun k hk => if_neg (by omega)) (fun k hk => by rw [if_pos (by omega), show (n2 - N3) + k - (n2 - N3) = k by omega])
                                    rw [show (n2 - N3) + N3 = n2 by omega] at g
                                    rw [g, ev_mul]
                                  · rw [ev_congr (e := fun i => Y (9 * 4 + i) * Z (9 * 3 + (N3 - 1)) + (if i = (n2 - N3) then Y (9 * 2 + (n2 - 1)) else 0)) (fun i hi => hPQ i hi), ev_add, ev_mul, ev_one (d := (n2 - N3)) (v := Y (9 * 2 + (n2 - 1))) (by omega) (fun k hk => rfl)]) (fun g => by
                                  rw [hPQ _ (by omega)]
                                  by_cases gs : sx = 0
                                  · subst gs; have gn := hs0 rfl
                                    rw [hq0 rfl _ (by omega), if_pos (by omega), Int.zero_mul, Int.zero_add]; rw [show N2 - 1 = n2 - 1 by omega] at ht2; rw [← gn.2 _ (by omega)] at ht2; exact ht2
                                  · rw [if_neg (by omega), Int.add_zero]; exact Int.mul_ne_zero (hqt (by omega)) hlc) (fun i hi => hPRb i (by omega)) (fun i hi => by
                                  rw [hPQ i hi, hKss]
                                  have g1 : ((Y (9 * 4 + i) * Z (9 * 3 + (N3 - 1))).natAbs : Int) ≤ MB * ((2 * MB) ^ sx * M) := by rw [Int.natAbs_mul, Int.natCast_mul, Int.mul_comm]; exact Int.mul_le_mul hlcb (hq i hi) (by omega) (by omega)
                                  have g3 := Int.natAbs_add_le (Y (9 * 4 + i) * Z (9 * 3 + (N3 - 1))) (if i = (n2 - N3) then Y (9 * 2 + (n2 - 1)) else 0)
                                  split at g3 <;> split <;> omega) (fun g => absurd g (by omega)) (fun g => absurd g (by omega)) (fun c g1 g2 g3 g4 => by rw [hP, uZ_ne (by omega), d2 _ g1 (by omega), e2 _ g1 (by omega), w2 _ g1 g2 (by omega)]; exact hfr c g1 g2 g3 g4)
                              · refine w_aload_n C dX5_reduce_194 3 rfl ?_
                                refine w_sipush C dX5_reduce_195 (by decide) ?_
                                refine w_iconst C dX5_reduce_198 ?_
                                refine w_iload_n C dX5_reduce_199 0 rfl ?_
                                refine m_callSi [.int (iZ (4)), .int (iZ ((k : Int)))] hsz C (fun z => cm_at l D Q G dL dS dN gD X (4) (k) z) (cwS 2 C.1.2.2.2.2 (wC_S kX5_79 stX5_at iniX5 cdX5_at) rfl rfl rfl (by decide +kernel) ⟨Nat.le_of_ble_eq_true rfl, Nat.le_of_ble_eq_true rfl⟩) rfl ⟨Nat.zero_le _, Nat.zero_le _⟩ (Nat.le_of_ble_eq_true rfl) dX5_reduce_200 [.int (iZ ((k : Int))), .int (iZ (4)), .int (iZ (136)), .ref (Q 0)] rfl (fun r v507 hv507 => ?_)
                                obtain ⟨rfl, rfl⟩ := hv507
                                refine w_iconst C dX5_reduce_203 ?_
                                refine w_iload_n C dX5_reduce_204 2 rfl ?_
                                refine w_top C (((N3 - 1 : Nat) : Int)) (by omega) ?_
                                refine m_callSi [.int (iZ (3)), .int (iZ (((N3 - 1 : Nat) : Int)))] hsz C (fun z => cm_at l D Q G dL dS dN gD X (3) (N3 - 1) z) (cwS 2 C.1.2.2.2.2 (wC_S kX5_79 stX5_at iniX5 cdX5_at) rfl rfl rfl (by decide +kernel) ⟨Nat.le_of_ble_eq_true rfl, Nat.le_of_ble_eq_true rfl⟩) rfl ⟨Nat.zero_le _, Nat.zero_le _⟩ (Nat.le_of_ble_eq_true rfl) dX5_reduce_205 [.int (iZ (((N3 - 1 : Nat) : Int))), .int (iZ (3)), .int (iZ (((9 * 4 + k : Nat) : Int))), .int (iZ (136)), .ref (Q 0)] rfl (fun r v508 hv508 => ?_)
                                obtain ⟨rfl, rfl⟩ := hv508
                                refine m_callv [.int (iZ (136)), .int (iZ (((9 * 4 + k : Nat) : Int))), .int (iZ (((9 * 3 + (N3 - 1) : Nat) : Int)))] hsz C (fun z => cm_multiply l D Q G dL dS dN gD X 136 (9 * 4 + k) (9 * 3 + (N3 - 1)) pR pB (E (9 * 4 + k)) (E (9 * 3 + (N3 - 1))) (by omega) (by omega) (by omega) (by omega) (by omega) (hZd _ (by omega)) (hZd _ (by omega)) (by rw [d1b k (by omega) (by omega)]; have g1 := hq k (by omega); have g2 := hKm sx (by omega); omega) (by rw [d2 _ (by omega) (by omega), hFB _ (by omega)]; have g1 := hB3 (N3 - 1) (by omega); omega) (by omega) z) (cwV 3 C.1.2.2.2.2 (wC_V kX5_88 nX5_multiply slX5_multiply iniX5 cdX5_multiply) rfl rfl rfl (by decide +kernel) ⟨Nat.le_of_ble_eq_true rfl, Nat.le_of_ble_eq_true rfl⟩) rfl ⟨Nat.zero_le _, Nat.zero_le _⟩ (Nat.le_of_ble_eq_true rfl) dX5_reduce_208 [.int (iZ (((9 * 3 + (N3 - 1) : Nat) : Int))), .int (iZ (((9 * 4 + k : Nat) : Int))), .int (iZ (136)), .ref (Q 0)] rfl (fun v509 hv509 => ?_)
                                obtain ⟨gL509, gS509, gN509, hZ509, rfl⟩ := mSet_all hZd hv509
                                refine w_aload_n C dX5_reduce_211 3 rfl ?_
                                refine w_iconst C dX5_reduce_212 ?_
                                refine w_iload_n C dX5_reduce_213 0 rfl ?_
                                refine m_callSi [.int (iZ (4)), .int (iZ ((k : Int)))] hsz C (fun z => cm_at l D Q G gL509 gS509 gN509 gD X (4) (k) z) (cwS 2 C.1.2.2.2.2 (wC_S kX5_79 stX5_at iniX5 cdX5_at) rfl rfl rfl (by decide +kernel) ⟨Nat.le_of_ble_eq_true rfl, Nat.le_of_ble_eq_true rfl⟩) rfl ⟨Nat.zero_le _, Nat.zero_le _⟩ (Nat.le_of_ble_eq_true rfl) dX5_reduce_214 [.int (iZ ((k : Int))), .int (iZ (4)), .ref (Q 0)] rfl (fun r v510 hv510 => ?_)
                                obtain ⟨rfl, rfl⟩ := hv510
                                refine w_sipush C dX5_reduce_217 (by decide) ?_
                                refine m_callv [.int (iZ (((9 * 4 + k : Nat) : Int))), .int (iZ (136))] hsz C (fun z => cm_copy l D Q G gL509 gS509 gN509 gD X (9 * 4 + k) 136 ((uZ E 136 (E (9 * 4 + k) * E (9 * 3 + (N3 - 1)))) 136) (by omega) (by omega) (hZ509 _ (by omega)) z) (cwV 2 C.1.2.2.2.2 (wC_V kX5_49 nX5_copy slX5_copy iniX5 cdX5_copy) rfl rfl rfl (by decide +kernel) ⟨Nat.le_of_ble_eq_true rfl, Nat.le_of_ble_eq_true rfl⟩) rfl ⟨Nat.zero_le _, Nat.zero_le _⟩ (Nat.le_of_ble_eq_true rfl) dX5_reduce_220 [.int (iZ (136)), .int (iZ (((9 * 4 + k : Nat) : Int))), .ref (Q 0)] rfl (fun v511 hv511 => ?_)
                                obtain ⟨gL511, gS511, gN511, hZ511, rfl⟩ := mSet_all hZ509 hv511
                                refine w_iinc C (((k + 1 : Nat) : Int)) (by omega) [(3, .int (iZ (((k + 1 : Nat) : Int)))), (2, .int (iZ ((((n2 - N3) : Nat) : Int)))), (1, .int (iZ ((N3 : Int) - 1))), (0, .ref (Q 0))] dX5_reduce_223 0 rfl (by decide) rfl ?_
                                refine w_goto C 184 dX5_reduce_226 (by decide) ?_
                                exact ih6 (k + 1) (uZ (uZ E 136 (E (9 * 4 + k) * E (9 * 3 + (N3 - 1)))) (9 * 4 + k) ((uZ E 136 (E (9 * 4 + k) * E (9 * 3 + (N3 - 1)))) 136)) _ _ _ (by omega) (by omega) hZ511 (fun i g => by
                                  by_cases e : i = k
                                  · subst e; rw [uZ_eq, uZ_eq, d1b i (by omega) (by omega), d2 _ (by omega) (by omega), hFB _ (by omega)]
                                  · rw [uZ_ne (by omega), uZ_ne (by omega)]; exact d1 i (by omega)) (fun i g1 g2 => by rw [uZ_ne (by omega), uZ_ne (by omega)]; exact d1b i (by omega) g2) (fun c g1 g2 => by rw [uZ_ne (by omega), uZ_ne g1]; exact d2 c g1 g2)
                          exact ld ((N2 - N3 + 1) + 1) 0 F _ _ _ (by omega) (by omega) hZc (fun i g => absurd g (by omega)) (fun i _ g => by rw [e2 _ (by omega) (by omega)]; exact w2 _ (by omega) (by omega) (by omega)) (fun _ _ _ => rfl)
                        · refine w_aload_n C dX5_reduce_139 3 rfl ?_
                          refine w_sipush C dX5_reduce_140 (by decide) ?_
                          refine w_iconst C dX5_reduce_143 ?_
                          refine w_iload_n C dX5_reduce_144 0 rfl ?_
                          refine m_callSi [.int (iZ (3)), .int (iZ ((k : Int)))] hsz C (fun z => cm_at l D Q G cL cS cN gD X (3) (k) z) (cwS 2 C.1.2.2.2.2 (wC_S kX5_79 stX5_at iniX5 cdX5_at) rfl rfl rfl (by decide +kernel) ⟨Nat.le_of_ble_eq_true rfl, Nat.le_of_ble_eq_true rfl⟩) rfl ⟨Nat.zero_le _, Nat.zero_le _⟩ (Nat.le_of_ble_eq_true rfl) dX5_reduce_145 [.int (iZ ((k : Int))), .int (iZ (3)), .int (iZ (136)), .ref (Q 0)] rfl (fun r v612 hv612 => ?_)
                          obtain ⟨rfl, rfl⟩ := hv612
                          refine w_sipush C dX5_reduce_148 (by decide) ?_
                          refine m_callv [.int (iZ (136)), .int (iZ (((9 * 3 + k : Nat) : Int))), .int (iZ (137))] hsz C (fun z => cm_multiply l D Q G cL cS cN gD X 136 (9 * 3 + k) 137 pB pR (F (9 * 3 + k)) (F 137) (by omega) (by omega) (by omega) (by omega) (by omega) (hZc _ (by omega)) (hZc _ (by omega)) (by rw [hFBk k (by omega)]; have g := hB3 k (by omega); omega) (by rw [hF137]; have g := hrr (n2 - 1) (by omega); have g2 := hKm sx (by omega); omega) (by omega) z) (cwV 3 C.1.2.2.2.2 (wC_V kX5_88 nX5_multiply slX5_multiply iniX5 cdX5_multiply) rfl rfl rfl (by decide +kernel) ⟨Nat.le_of_ble_eq_true rfl, Nat.le_of_ble_eq_true rfl⟩) rfl ⟨Nat.zero_le _, Nat.zero_le _⟩ (Nat.le_of_ble_eq_true rfl) dX5_reduce_151 [.int (iZ (137)), .int (iZ (((9 * 3 + k : Nat) : Int))), .int (iZ (136)), .ref (Q 0)] rfl (fun v613 hv613 => ?_)
                          obtain ⟨gL613, gS613, gN613, hZ613, rfl⟩ := mSet_all hZc hv613
                          refine w_aload_n C dX5_reduce_154 3 rfl ?_
                          refine w_iconst C dX5_reduce_155 ?_
                          refine w_iload_n C dX5_reduce_156 0 rfl ?_
                          refine w_iload_n C dX5_reduce_157 1 rfl ?_
                          refine w_iadd C dX5_reduce_158 ?_
                          refine w_top C (((k + (n2 - N3) : Nat) : Int)) (by omega) ?_
                          refine m_callSi [.int (iZ (2)), .int (iZ (((k + (n2 - N3) : Nat) : Int)))] hsz C (fun z => cm_at l D Q G gL613 gS613 gN613 gD X (2) (k + (n2 - N3)) z) (cwS 2 C.1.2.2.2.2 (wC_S kX5_79 stX5_at iniX5 cdX5_at) rfl rfl rfl (by decide +kernel) ⟨Nat.le_of_ble_eq_true rfl, Nat.le_of_ble_eq_true rfl⟩) rfl ⟨Nat.zero_le _, Nat.zero_le _⟩ (Nat.le_of_ble_eq_true rfl) dX5_reduce_159 [.int (iZ (((k + (n2 - N3) : Nat) : Int))), .int (iZ (2)), .ref (Q 0)] rfl (fun r v614 hv614 => ?_)
                          obtain ⟨rfl, rfl⟩ := hv614
                          refine w_iconst C dX5_reduce_162 ?_
                          refine w_iload_n C dX5_reduce_163 0 rfl ?_
                          refine w_iload_n C dX5_reduce_164 1 rfl ?_
                          refine w_iadd C dX5_reduce_165 ?_
                          refine w_top C (((k + (n2 - N3) : Nat) : Int)) (by omega) ?_
                          refine m_callSi [.int (iZ (2)), .int (iZ (((k + (n2 - N3) : Nat) : Int)))] hsz C (fun z => cm_at l D Q G gL613 gS613 gN613 gD X (2) (k + (n2 - N3)) z) (cwS 2 C.1.2.2.2.2 (wC_S kX5_79 stX5_at iniX5 cdX5_at) rfl rfl rfl (by decide +kernel) ⟨Nat.le_of_ble_eq_true rfl, Nat.le_of_ble_eq_true rfl⟩) rfl ⟨Nat.zero_le _, Nat.zero_le _⟩ (Nat.le_of_ble_eq_true rfl) dX5_reduce_166 [.int (iZ (((k + (n2 - N3) : Nat) : Int))), .int (iZ (2)), .int (iZ (((9 * 2 + (k + (n2 - N3)) : Nat) : Int))), .ref (Q 0)] rfl (fun r v615 hv615 => ?_)
                          obtain ⟨rfl, rfl⟩ := hv615
                          refine w_sipush C dX5_reduce_169 (by decide) ?_
                          refine w_iconst C dX5_reduce_172 ?_
                          refine m_callv [.int (iZ (((9 * 2 + (k + (n2 - N3)) : Nat) : Int))), .int (iZ (((9 * 2 + (k + (n2 - N3)) : Nat) : Int))), .int (iZ (136)), .int (iZ ((-1)))] hsz C (fun z => cm_add l D Q G gL613 gS613 gN613 gD X (9 * 2 + (k + (n2 - N3))) (9 * 2 + (k + (n2 - N3))) 136 (-1) ((uZ F 136 (F (9 * 3 + k) * F 137)) (9 * 2 + (k + (n2 - N3)))) ((uZ F 136 (F (9 * 3 + k) * F 137)) 136) (by omega) (by omega) (by omega) (Or.inr rfl) (hZ613 _ (by omega)) (hZ613 _ (by omega)) (by rw [uZ_ne (by omega), e1k _ (by omega), if_neg (by omega), Int.sub_zero, Int.natAbs_mul, Int.natCast_mul, Int.mul_comm]; have g1 := Int.mul_le_mul (hB3 (N3 - 1) (by omega)) (hrr (k + (n2 - N3)) (by omega)) (by omega) (show (0 : Int) ≤ MB by omega); have g2 := hKs sx; have g3 := hKm (sx + 1) (by omega); have g4 := h638 pR (by omega); have g5 := Int.mul_nonneg (show (0 : Int) ≤ MB by omega) (hK0 sx); omega) (by rw [uZ_eq, hFBk k (by omega), hF137, Int.natAbs_mul, Int.natCast_mul]; have g1 := Int.mul_le_mul (hB3 k (by omega)) (hrr (n2 - 1) (by omega)) (by omega) (show (0 : Int) ≤ MB by omega); have g2 := hKs sx; have g3 := hKm (sx + 1) (by omega); have g4 := h638 pR (by omega); have g5 := Int.mul_nonneg (show (0 : Int) ≤ MB by omega) (hK0 sx); omega) z) (cwV 4 C.1.2.2.2.2 (wC_V kX5_91 nX5_add slX5_add iniX5 cdX5_add) rfl rfl rfl (by decide +kernel) ⟨Nat.le_of_ble_eq_true rfl, Nat.le_of_ble_eq_true rfl⟩) rfl ⟨Nat.zero_le _, Nat.zero_le _⟩ (Nat.le_of_ble_eq_true rfl) dX5_reduce_173 [.int (iZ ((-1))), .int (iZ (136)), .int (iZ (((9 * 2 + (k + (n2 - N3)) : Nat) : Int))), .int (iZ (((9 * 2 + (k + (n2 - N3)) : Nat) : Int))), .ref (Q 0)] rfl (fun v616 hv616 => ?_)
                          obtain ⟨gL616, gS616, gN616, hZ616, rfl⟩ := mSet_all hZ613 hv616
                          refine w_iinc C (((k + 1 : Nat) : Int)) (by omega) [(3, .int (iZ (((k + 1 : Nat) : Int)))), (2, .int (iZ ((((n2 - N3) : Nat) : Int)))), (1, .int (iZ ((N3 : Int) - 1))), (0, .ref (Q 0))] dX5_reduce_176 0 rfl (by decide) rfl ?_
                          refine w_goto C 134 dX5_reduce_179 (by decide) ?_
                          exact ih5 (k + 1) (uZ (uZ F 136 (F (9 * 3 + k) * F 137)) (9 * 2 + (k + (n2 - N3))) ((uZ F 136 (F (9 * 3 + k) * F 137)) (9 * 2 + (k + (n2 - N3))) + -1 * (uZ F 136 (F (9 * 3 + k) * F 137)) 136)) _ _ _ (by omega) (by omega) hZ616 (fun i g => by
                            by_cases e : i = k + (n2 - N3)
                            · subst e; rw [uZ_eq, uZ_ne (by omega), uZ_eq, e1k _ g, if_neg (by omega), if_pos (by omega), hFBk k (by omega), hF137, show k + (n2 - N3) - (n2 - N3) = k by omega]; omega
                            · rw [uZ_ne (by omega), uZ_ne (by omega), e1k i g]
                              congr 1
                              by_cases q : (n2 - N3) ≤ i ∧ i < (n2 - N3) + k
                              · rw [if_pos q, if_pos ⟨q.1, by omega⟩]
                              · rw [if_neg q, if_neg (by omega)]) (fun c g1 g2 => by rw [uZ_ne (by omega), uZ_ne g1]; exact e2 c g1 g2)
                    exact lcl (N3 + 1) 0 W1 _ _ _ (by omega) (by omega) hZw (fun i g => by rw [if_neg (by omega), Int.sub_zero]; exact w1 i (by omega)) (fun _ _ _ => rfl)
                  · refine w_aload_n C dX5_reduce_97 3 rfl ?_
                    refine w_sipush C dX5_reduce_98 (by decide) ?_
                    refine w_iconst C dX5_reduce_101 ?_
                    refine w_iload_n C dX5_reduce_102 0 rfl ?_
                    refine m_callSi [.int (iZ (2)), .int (iZ ((k : Int)))] hsz C (fun z => cm_at l D Q G wL wS wN gD X (2) (k) z) (cwS 2 C.1.2.2.2.2 (wC_S kX5_79 stX5_at iniX5 cdX5_at) rfl rfl rfl (by decide +kernel) ⟨Nat.le_of_ble_eq_true rfl, Nat.le_of_ble_eq_true rfl⟩) rfl ⟨Nat.zero_le _, Nat.zero_le _⟩ (Nat.le_of_ble_eq_true rfl) dX5_reduce_103 [.int (iZ ((k : Int))), .int (iZ (2)), .int (iZ (136)), .ref (Q 0)] rfl (fun r v717 hv717 => ?_)
                    obtain ⟨rfl, rfl⟩ := hv717
                    refine w_iconst C dX5_reduce_106 ?_
                    refine w_iload_n C dX5_reduce_107 2 rfl ?_
                    refine w_top C (((N3 - 1 : Nat) : Int)) (by omega) ?_
                    refine m_callSi [.int (iZ (3)), .int (iZ (((N3 - 1 : Nat) : Int)))] hsz C (fun z => cm_at l D Q G wL wS wN gD X (3) (N3 - 1) z) (cwS 2 C.1.2.2.2.2 (wC_S kX5_79 stX5_at iniX5 cdX5_at) rfl rfl rfl (by decide +kernel) ⟨Nat.le_of_ble_eq_true rfl, Nat.le_of_ble_eq_true rfl⟩) rfl ⟨Nat.zero_le _, Nat.zero_le _⟩ (Nat.le_of_ble_eq_true rfl) dX5_reduce_108 [.int (iZ (((N3 - 1 : Nat) : Int))), .int (iZ (3)), .int (iZ (((9 * 2 + k : Nat) : Int))), .int (iZ (136)), .ref (Q 0)] rfl (fun r v718 hv718 => ?_)
                    obtain ⟨rfl, rfl⟩ := hv718
                    refine m_callv [.int (iZ (136)), .int (iZ (((9 * 2 + k : Nat) : Int))), .int (iZ (((9 * 3 + (N3 - 1) : Nat) : Int)))] hsz C (fun z => cm_multiply l D Q G wL wS wN gD X 136 (9 * 2 + k) (9 * 3 + (N3 - 1)) pR pB (W1 (9 * 2 + k)) (W1 (9 * 3 + (N3 - 1))) (by omega) (by omega) (by omega) (by omega) (by omega) (hZw _ (by omega)) (hZw _ (by omega)) (by rw [w1b k (by omega) (by omega)]; have g1 := hrr k (by omega); have g2 := hKm sx (by omega); omega) (by rw [w2 _ (by omega) (by omega) (by omega), hfr _ (by omega) (by omega) (by omega) (by omega)]; have g1 := hB3 (N3 - 1) (by omega); omega) (by omega) z) (cwV 3 C.1.2.2.2.2 (wC_V kX5_88 nX5_multiply slX5_multiply iniX5 cdX5_multiply) rfl rfl rfl (by decide +kernel) ⟨Nat.le_of_ble_eq_true rfl, Nat.le_of_ble_eq_true rfl⟩) rfl ⟨Nat.zero_le _, Nat.zero_le _⟩ (Nat.le_of_ble_eq_true rfl) dX5_reduce_111 [.int (iZ (((9 * 3 + (N3 - 1) : Nat) : Int))), .int (iZ (((9 * 2 + k : Nat) : Int))), .int (iZ (136)), .ref (Q 0)] rfl (fun v719 hv719 => ?_)
                    obtain ⟨gL719, gS719, gN719, hZ719, rfl⟩ := mSet_all hZw hv719
                    refine w_aload_n C dX5_reduce_114 3 rfl ?_
                    refine w_iconst C dX5_reduce_115 ?_
                    refine w_iload_n C dX5_reduce_116 0 rfl ?_
                    refine m_callSi [.int (iZ (2)), .int (iZ ((k : Int)))] hsz C (fun z => cm_at l D Q G gL719 gS719 gN719 gD X (2) (k) z) (cwS 2 C.1.2.2.2.2 (wC_S kX5_79 stX5_at iniX5 cdX5_at) rfl rfl rfl (by decide +kernel) ⟨Nat.le_of_ble_eq_true rfl, Nat.le_of_ble_eq_true rfl⟩) rfl ⟨Nat.zero_le _, Nat.zero_le _⟩ (Nat.le_of_ble_eq_true rfl) dX5_reduce_117 [.int (iZ ((k : Int))), .int (iZ (2)), .ref (Q 0)] rfl (fun r v720 hv720 => ?_)
                    obtain ⟨rfl, rfl⟩ := hv720
                    refine w_sipush C dX5_reduce_120 (by decide) ?_
                    refine m_callv [.int (iZ (((9 * 2 + k : Nat) : Int))), .int (iZ (136))] hsz C (fun z => cm_copy l D Q G gL719 gS719 gN719 gD X (9 * 2 + k) 136 ((uZ W1 136 (W1 (9 * 2 + k) * W1 (9 * 3 + (N3 - 1)))) 136) (by omega) (by omega) (hZ719 _ (by omega)) z) (cwV 2 C.1.2.2.2.2 (wC_V kX5_49 nX5_copy slX5_copy iniX5 cdX5_copy) rfl rfl rfl (by decide +kernel) ⟨Nat.le_of_ble_eq_true rfl, Nat.le_of_ble_eq_true rfl⟩) rfl ⟨Nat.zero_le _, Nat.zero_le _⟩ (Nat.le_of_ble_eq_true rfl) dX5_reduce_123 [.int (iZ (136)), .int (iZ (((9 * 2 + k : Nat) : Int))), .ref (Q 0)] rfl (fun v721 hv721 => ?_)
                    obtain ⟨gL721, gS721, gN721, hZ721, rfl⟩ := mSet_all hZ719 hv721
                    refine w_iinc C (((k + 1 : Nat) : Int)) (by omega) [(3, .int (iZ (((k + 1 : Nat) : Int)))), (2, .int (iZ ((((n2 - N3) : Nat) : Int)))), (1, .int (iZ ((N3 : Int) - 1))), (0, .ref (Q 0))] dX5_reduce_126 0 rfl (by decide) rfl ?_
                    refine w_goto C 87 dX5_reduce_129 (by decide) ?_
                    exact ih4 (k + 1) (uZ (uZ W1 136 (W1 (9 * 2 + k) * W1 (9 * 3 + (N3 - 1)))) (9 * 2 + k) ((uZ W1 136 (W1 (9 * 2 + k) * W1 (9 * 3 + (N3 - 1)))) 136)) _ _ _ (by omega) (by omega) hZ721 (fun i g => by
                      by_cases e : i = k
                      · subst e; rw [uZ_eq, uZ_eq, w1b i (by omega) (by omega), w2 _ (by omega) (by omega) (by omega), hfr (9 * 3 + (N3 - 1)) (by omega) (by omega) (by omega) (by omega)]
                      · rw [uZ_ne (by omega), uZ_ne (by omega)]; exact w1k i (by omega)) (fun i g1 g2 => by rw [uZ_ne (by omega), uZ_ne (by omega)]; exact w1b i (by omega) g2) (by rw [uZ_ne (by omega), uZ_ne (by omega)]; exact w137) (fun c g1 g2 g3 => by rw [uZ_ne (by omega), uZ_ne g1]; exact w2 c g1 g2 g3)
              exact lbl (n2 + 1) 0 (uZ Y 137 (Y (9 * 2 + (n2 - 1)))) _ _ _ (by omega) (by omega) hZ202 (fun i g => absurd g (by omega)) (fun i _ g => uZ_ne (by omega)) uZ_eq (fun c g1 g2 _ => uZ_ne g2)
        refine w_sub [(1, .int (iZ ((N3 : Int) - 1))), (0, .ref (Q 0))] [1, 2] rfl ?_
        exact ol (N2 + 1) N2 0 P0 _ _ _ _ (by omega) hZp ((upd_ne (by omega)).trans hd2) upd_eq (fun q _ g => upd_ne g) (by omega) (fun i g => by rw [p2 _ (by omega), show i = N2 - 1 by omega]; exact ht2) (Or.inl rfl) (fun t => by
          rw [Int.pow_zero, Int.one_mul, ev_cut (c := fun i => P0 (9 * 4 + i)) (j := 0) (Nat.zero_le _) (fun k _ g => p1 k (by omega))]
          simp only [ev]
          rw [Int.zero_mul, Int.zero_add]; exact ev_congr (fun i hi => (p2 _ (by omega)).symm)) (fun g => absurd g (by omega)) (fun i hi => by rw [p2 _ (by omega), Int.pow_zero, Int.one_mul]; exact hB2 i hi) (fun i hi => by rw [p1 i (by omega), Int.pow_zero, Int.one_mul]; simp; exact hM) (fun _ => ⟨rfl, fun i hi => p2 _ (by omega)⟩) (fun _ i hi => p1 i (by omega)) (fun c g1 g2 g3 g4 => p2 c (by omega))
      · refine w_aload_n C dX5_reduce_33 2 rfl ?_
        refine w_iconst C dX5_reduce_34 ?_
        refine w_iload_n C dX5_reduce_35 0 rfl ?_
        refine m_callSi [.int (iZ (4)), .int (iZ ((k : Int)))] hsz C (fun z => cm_at l D Q G pL pS pN (upd fD 4 (iZ ((((N2 - N3 + 1) : Nat) : Int) - 1))) X (4) (k) z) (cwS 2 C.1.2.2.2.2 (wC_S kX5_79 stX5_at iniX5 cdX5_at) rfl rfl rfl (by decide +kernel) ⟨Nat.le_of_ble_eq_true rfl, Nat.le_of_ble_eq_true rfl⟩) rfl ⟨Nat.zero_le _, Nat.zero_le _⟩ (Nat.le_of_ble_eq_true rfl) dX5_reduce_36 [.int (iZ ((k : Int))), .int (iZ (4)), .ref (Q 0)] rfl (fun r v922 hv922 => ?_)
        obtain ⟨rfl, rfl⟩ := hv922
        refine w_lconst C 0 dX5_reduce_39 rfl ?_
        refine m_callv [.int (iZ (((9 * 4 + k : Nat) : Int))), .long (lZ (0))] hsz C (fun z => cm_setLong l D Q G pL pS pN (upd fD 4 (iZ ((((N2 - N3 + 1) : Nat) : Int) - 1))) X (9 * 4 + k) 0 (by omega) (by omega) (by omega) z) (cwV 2 C.1.2.2.2.2 (wC_V kX5_64 nX5_setLong slX5_setLong iniX5 cdX5_setLong) rfl rfl rfl (by decide +kernel) ⟨Nat.le_of_ble_eq_true rfl, Nat.le_of_ble_eq_true rfl⟩) rfl ⟨Nat.zero_le _, Nat.zero_le _⟩ (Nat.le_of_ble_eq_true rfl) dX5_reduce_40 [.long (lZ (0)), .int (iZ (((9 * 4 + k : Nat) : Int))), .ref (Q 0)] rfl (fun v923 hv923 => ?_)
        obtain ⟨gL923, gS923, gN923, hZ923, rfl⟩ := mSet_all hZp hv923
        refine w_iinc C (((k + 1 : Nat) : Int)) (by omega) [(2, .int (iZ (((k + 1 : Nat) : Int)))), (1, .int (iZ ((N3 : Int) - 1))), (0, .ref (Q 0))] dX5_reduce_43 0 rfl (by decide) rfl ?_
        refine w_goto C 23 dX5_reduce_46 (by decide) ?_
        exact ihp (k + 1) (uZ P0 (9 * 4 + k) 0) _ _ _ (by omega) (by omega) hZ923 (fun i g => by
          by_cases e : i = k
          · subst e; rw [uZ_eq]
          · rw [uZ_ne (by omega)]; exact p1 i (by omega)) (fun c g => by rw [uZ_ne (by omega)]; exact p2 c g)
  exact p0 ((N2 - N3 + 1) + 1) 0 Z _ _ _ (by omega) (by omega) hZ (fun i g => absurd g (by omega)) (fun _ _ => rfl)
