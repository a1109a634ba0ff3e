/-- Horner's sums of the uppermost m of N places at a; rounds of the move by a -/
def sfa (c : Nat → Int) (N : Nat) (a : Int) : Nat → Int
  | 0 => 0
  | m + 1 => c (N - (m + 1)) + sfa c N a m * a
def passa (c : Nat → Int) (N : Nat) (a : Int) (i : Nat) : Nat → Int := fun k => if i ≤ k ∧ k < N then sfa c N a (N - k) else c k
def sha (c : Nat → Int) (N : Nat) (a : Int) : Nat → Nat → Int
  | 0 => c
  | i + 1 => passa (sha c N a i) N a i
theorem sfa_congr {c e : Nat → Int} {N : Nat} {a : Int} : ∀ {m : Nat}, (∀ k, N - m ≤ k → k < N → c k = e k) → m ≤ N → sfa c N a m = sfa e N a m
  | 0, _, _ => rfl
  | m + 1, h, hm => by
    simp only [sfa]
    rw [h (N - (m + 1)) (by omega) (by omega), sfa_congr (m := m) (fun k h1 h2 => h k (by omega) h2) (by omega)]
theorem sha_congr {c e : Nat → Int} {N : Nat} {a : Int} (h : ∀ k, k < N → c k = e k) : ∀ i k : Nat, k < N → sha c N a i k = sha e N a i k
  | 0, k, hk => h k hk
  | i + 1, k, hk => by
    simp only [sha, passa]
    by_cases q : i ≤ k ∧ k < N
    · rw [if_pos q, if_pos q]
      exact sfa_congr (fun j h1 h2 => sha_congr h i j h2) (by omega)
    · rw [if_neg q, if_neg q]; exact sha_congr h i k hk
theorem sfa_abs {c : Nat → Int} {N : Nat} {a M A : Int} (hM : 0 ≤ M) (hA : 0 ≤ A) (ha : (a.natAbs : Int) ≤ A) : ∀ {m : Nat}, (∀ k, k < N → ((c k).natAbs : Int) ≤ M) → m ≤ N → ((sfa c N a m).natAbs : Int) ≤ (1 + A) ^ m * M
  | 0, _, _ => by simp [sfa]; exact hM
  | m + 1, h, hm => by
    have h1 := sfa_abs hM hA ha (m := m) h (by omega)
    have h2 := h (N - (m + 1)) (by omega)
    have h3 := Int.natAbs_add_le (c (N - (m + 1))) (sfa c N a m * a)
    have h4 : ((sfa c N a m * a).natAbs : Int) ≤ (1 + A) ^ m * M * A := by
      rw [Int.natAbs_mul, Int.natCast_mul]
      exact Int.mul_le_mul h1 ha (by omega) (Int.le_trans (by omega) h1)
    have h5 : M ≤ (1 + A) ^ m * M := by
      have h6 : (1 : Int) ≤ (1 + A) ^ m := Int.add_one_le_of_lt (Int.pow_pos (by omega))
      have h7 := Int.mul_le_mul_of_nonneg_right h6 hM
      omega
    simp only [sfa]
    rw [Int.pow_succ, Int.mul_right_comm, Int.mul_add, Int.mul_one]
    omega
theorem sha_abs {c : Nat → Int} {N : Nat} {a M A : Int} (hM : 0 ≤ M) (hA : 0 ≤ A) (ha : (a.natAbs : Int) ≤ A) (hN : N ≤ 9) (h : ∀ k, k < N → ((c k).natAbs : Int) ≤ M) : ∀ i k : Nat, k < N → ((sha c N a i k).natAbs : Int) ≤ (1 + A) ^ (9 * i) * M
  | 0, k, hk => by simp [sha]; exact h k hk
  | i + 1, k, hk => by
    have h1 := sha_abs hM hA ha hN h i
    have hp : (0 : Int) ≤ (1 + A) ^ (9 * i) * M := Int.mul_nonneg (Int.le_of_lt (Int.pow_pos (by omega))) hM
    have h9 : ∀ m : Nat, m ≤ 9 → (1 + A) ^ m * ((1 + A) ^ (9 * i) * M) ≤ (1 + A) ^ (9 * (i + 1)) * M := fun m hm => by
      rw [show 9 * (i + 1) = (9 - m) + (m + 9 * i) by omega, Int.pow_add, Int.pow_add, Int.mul_assoc, Int.mul_assoc]
      have h6 : (1 : Int) ≤ (1 + A) ^ (9 - m) := Int.add_one_le_of_lt (Int.pow_pos (by omega))
      have h8 : (0 : Int) ≤ (1 + A) ^ m * ((1 + A) ^ (9 * i) * M) := Int.mul_nonneg (Int.le_of_lt (Int.pow_pos (by omega))) hp
      have h7 := Int.mul_le_mul_of_nonneg_right h6 h8
      omega
    simp only [sha, passa]
    by_cases q : i ≤ k ∧ k < N
    · rw [if_pos q]
      exact Int.le_trans (sfa_abs hp hA ha (m := N - k) h1 (by omega)) (h9 (N - k) (by omega))
    · rw [if_neg q]
      have h10 := h9 0 (by omega)
      rw [Int.pow_zero, Int.one_mul] at h10
      exact Int.le_trans (h1 k hk) h10
theorem pow_mono {x : Int} (hx : 1 ≤ x) {i j : Nat} (h : i ≤ j) : x ^ i ≤ x ^ j := by
  rw [show j = i + (j - i) by omega, Int.pow_add]
  have h1 : (1 : Int) ≤ x ^ (j - i) := Int.add_one_le_of_lt (Int.pow_pos (by omega))
  have h2 := Int.mul_le_mul_of_nonneg_left h1 (Int.le_of_lt (Int.pow_pos (show 0 < x by omega) : 0 < x ^ i))
  omega
theorem int_pow_le {x y : Int} (hx : 0 ≤ x) (h : x ≤ y) : ∀ {n : Nat}, x ^ n ≤ y ^ n
  | 0 => by simp
  | n + 1 => by
    rw [Int.pow_succ, Int.pow_succ]
    exact Int.mul_le_mul (int_pow_le hx h) h hx (Int.pow_nonneg (by omega))
set_option maxHeartbeats 4000000 in
set_option maxRecDepth 100000 in
/-- move: the row at n + length x, in units of 2 to the power -30 -/
theorem cm_move (l : Launch) (D : va_G) (Q : Nat → Nat) (G : Nat → ClassId) (fL fS fN fD : Nat → Int32) (X : mX) (Z : Nat → Int) (t r N : Nat) (nn len M A : Int) (hZ : mAll fL fS fN Z) (ht : t < 15) (hr2 : r < 15) (htr : t ≠ r) (hn : fD r = iZ ((N : Int) - 1)) (hN : N ≤ 9) (hn1 : -9223372036854775808 ≤ nn ∧ nn < 9223372036854775808) (hl1 : -9223372036854775808 ≤ len ∧ len < 9223372036854775808) (hM : 0 ≤ M) (hA : 1 ≤ A) (hna : (nn.natAbs : Int) ≤ A) (hla : (len.natAbs : Int) ≤ A) (hB : ∀ i : Nat, i < N → ((Z (9 * r + i)).natAbs : Int) ≤ M) (hM2 : (1 + A) ^ 90 * (2 ^ 240 * M) < 2 ^ (31 * 630)) (sz : Nat) : Met l yX5_move (wC yX5_move cX5_move 10 none) ({ frames := 3, cells := 0, slots := 0, locals := 80 }) (va_Pc [.ref (Q 0), .int (iZ ((t : Int))), .int (iZ ((r : Int))), .long (lZ (nn)), .long (lZ (len))] (mPre D Q G (fL, fS, fN, fD, X) sz)) (va_Qv (fun u : mT => ∃ Y : Nat → Int, mPost (upd fD t (iZ ((N : Int) - 1))) X Y u ∧ (∀ i : Nat, i < N → Y (9 * t + i) = sha (fun k => Z (9 * r + k) * 2 ^ (30 * (N - 1 - k))) N nn (N - 1) i * len ^ i) ∧ ∀ c : Nat, c ≠ 135 → c ≠ 136 → (c < 9 * t ∨ 9 * t + N ≤ c) → Y c = Z c) (mAt D Q G (mA Q sz)) (mA Q sz)) 0 0 (mA Q sz) := by
  refine m_met (cc := cX5_move) (maxL := 10) (ret := none) (by decide) rfl rfl (Nat.le_of_ble_eq_true rfl) ?_
  intro p e s m below meth c hsz C hr hlk
  refine w_sub [(0, .ref (Q 0)), (1, .int (iZ ((t : Int)))), (2, .int (iZ ((r : Int)))), (3, .long (lZ (nn))), (5, .long (lZ (len)))] [0, 1, 2, 3, 4] rfl ?_
  have hMB : (0 : Int) ≤ 2 ^ 240 * M := Int.mul_nonneg (by decide) hM
  have hc1 : ∀ k : Nat, k < N → (((fun k => Z (9 * r + k) * 2 ^ (30 * (N - 1 - k))) k).natAbs : Int) ≤ 2 ^ 240 * M := fun k hk => by
    show ((Z (9 * r + k) * 2 ^ (30 * (N - 1 - k))).natAbs : Int) ≤ _
    rw [Int.natAbs_mul, Int.natCast_mul, Int.mul_comm]
    have e1 : (((2 : Int) ^ (30 * (N - 1 - k))).natAbs : Int) = 2 ^ (30 * (N - 1 - k)) := Int.natAbs_of_nonneg (Int.le_of_lt (i2pos _))
    rw [e1]
    exact Int.mul_le_mul (pow_mono (by decide) (by omega)) (hB k hk) (by omega) (by decide)
  have hsh := fun i => sha_abs (c := (fun k => Z (9 * r + k) * 2 ^ (30 * (N - 1 - k)))) hMB (by omega) hna hN hc1 i
  have hpm : ∀ i : Nat, i ≤ 90 → (1 + A) ^ i * (2 ^ 240 * M) < 2 ^ (31 * 630) := fun i hi => Int.lt_of_le_of_lt (Int.mul_le_mul_of_nonneg_right (pow_mono (by omega) hi) hMB) hM2
  have h630 : ∀ p : Nat, 630 ≤ p → (2 : Int) ^ (31 * 630) ≤ 2 ^ (31 * p) := fun p hp => pw31_le hp
  have hlong : ∀ z : Int, (-9223372036854775808 ≤ z ∧ z < 9223372036854775808) → (z.natAbs : Int) < 2 ^ (31 * 3) := fun z hz => Int.lt_of_lt_of_le (show (z.natAbs : Int) < 9223372036854775809 by omega) (by decide)
  refine w_aload_n C dX5_move_0 0 rfl ?_
  refine w_iload_n C dX5_move_1 1 rfl ?_
  refine w_iload_n C dX5_move_2 2 rfl ?_
  refine m_callv [.int (iZ ((t : Int))), .int (iZ ((r : Int)))] hsz C (fun z => cm_copyRow l D Q G fL fS fN fD X Z t r N hZ ht hr2 hn hN z) (cwV 2 C.1.2.2.2.2 (wC_V kX5_94 nX5_copyRow slX5_copyRow iniX5 cdX5_copyRow) rfl rfl rfl (by decide +kernel) ⟨Nat.le_of_ble_eq_true rfl, Nat.le_of_ble_eq_true rfl⟩) rfl ⟨Nat.zero_le _, Nat.zero_le _⟩ (Nat.le_of_ble_eq_true rfl) dX5_move_3 [.int (iZ ((r : Int))), .int (iZ ((t : Int))), .ref (Q 0)] rfl (fun v1 hv1 => ?_)
  obtain ⟨V0, ⟨zL, zS, zN, hZ0, rfl⟩, u1, u2⟩ := hv1
  have hlenb : ∀ q i : Nat, q < N → i ≤ 8 → (((sha (fun k => Z (9 * r + k) * 2 ^ (30 * (N - 1 - k))) N nn (N - 1) q * len ^ (min q i)).natAbs : Int)) < 2 ^ (31 * 630) := fun q i hq hi => by
    rw [Int.natAbs_mul, Int.natCast_mul, Int.natAbs_pow, Int.natCast_pow]
    have e1 := hsh (N - 1) q hq
    have e2 : ((len.natAbs : Nat) : Int) ^ (min q i) ≤ (1 + A) ^ (min q i) := int_pow_le (by omega) (by omega)
    have e3 := Int.mul_le_mul e1 e2 (Int.pow_nonneg (by omega)) (Int.mul_nonneg (Int.le_of_lt (Int.pow_pos (by omega))) hMB)
    rw [Int.mul_right_comm, ← Int.pow_add] at e3
    exact Int.lt_of_le_of_lt e3 (hpm _ (by omega))
  refine w_aload_n C dX5_move_6 0 rfl ?_
  refine w_get (ci := 5) (ref := "RootIsolatorModel") (T := TX5) (Cn := RX5) (N := 10) C (fun w h => wC_in (inX5 w h)) 0 rfl rfl 4 (by decide) (wC_in fX5_degrees) rfl rfl dX5_move_7 ?_
  refine w_iload_n C dX5_move_10 2 rfl ?_
  refine w_iald C 4 0 rfl rfl (r) ((N : Int) - 1) ⟨by omega, by omega, by omega⟩ ((upd_ne (fun g => htr g.symm) : upd fD t (iZ ((N : Int) - 1)) r = fD r).trans hn) dX5_move_11 ?_
  refine w_istore C [(7, .int (iZ ((N : Int) - 1))), (0, .ref (Q 0)), (1, .int (iZ ((t : Int)))), (2, .int (iZ ((r : Int)))), (3, .long (lZ (nn))), (5, .long (lZ (len)))] dX5_move_12 (by decide) rfl ?_
  refine w_iconst C dX5_move_14 ?_
  refine w_istore C [(8, .int (iZ (0))), (7, .int (iZ ((N : Int) - 1))), (0, .ref (Q 0)), (1, .int (iZ ((t : Int)))), (2, .int (iZ ((r : Int)))), (3, .long (lZ (nn))), (5, .long (lZ (len)))] dX5_move_15 (by decide) rfl ?_
  have p1 : ∀ (d : Nat) (k : Nat) (W1 : Nat → Int) (wL : Nat → Int32) (wS : Nat → Int32) (wN : Nat → Int32), N < k + d → k ≤ N → mAll wL wS wN W1 → (∀ q : Nat, q < k → W1 (9 * t + q) = (fun k => Z (9 * r + k) * 2 ^ (30 * (N - 1 - k))) q) → (∀ q : Nat, k ≤ q → q < N → W1 (9 * t + q) = Z (9 * r + q)) → (∀ c : Nat, (c < 9 * t ∨ 9 * t + N ≤ c) → W1 c = Z c) → ZW p l e ({ frames := 3, cells := 0, slots := 0, locals := 80 }) s m ([.ref (Q 0), .int (iZ ((t : Int))), .int (iZ ((r : Int))), .long (lZ (nn)), .long (lZ (len))] : List Value).toArray below meth c D (mA Q sz) 10 0 0 (MQ below (va_Qv (fun u : mT => ∃ Y : Nat → Int, mPost (upd fD t (iZ ((N : Int) - 1))) X Y u ∧ (∀ i : Nat, i < N → Y (9 * t + i) = sha (fun k => Z (9 * r + k) * 2 ^ (30 * (N - 1 - k))) N nn (N - 1) i * len ^ i) ∧ ∀ c : Nat, c ≠ 135 → c ≠ 136 → (c < 9 * t ∨ 9 * t + N ≤ c) → Y c = Z c) (mAt D Q G (mA Q sz)) (mA Q sz)) ([.ref (Q 0), .int (iZ ((t : Int))), .int (iZ ((r : Int))), .long (lZ (nn)), .long (lZ (len))] : List Value).toArray s 0 0 (mA Q sz)) (mU Q G (wL, wS, wN, (upd fD t (iZ ((N : Int) - 1))), X)) 17 [(8, .int (iZ ((k : Int)))), (7, .int (iZ ((N : Int) - 1))), (0, .ref (Q 0)), (1, .int (iZ ((t : Int)))), (2, .int (iZ ((r : Int)))), (3, .long (lZ (nn))), (5, .long (lZ (len)))] [] := by
    intro d
    induction d with
    | zero =>
      intro k W1 wL wS wN hd hk hZw w1 w1b w2
      exact absurd hd (by omega)
    | succ d ih2 =>
      intro k W1 wL wS wN hd hk hZw w1 w1b w2
      refine w_iload C dX5_move_17 0 rfl ?_
      refine w_iload C dX5_move_19 1 rfl ?_
      refine w_icmp_gt C 48 dX5_move_21 (by decide) ⟨⟨by omega, by omega⟩, by omega, by omega⟩ (fun c21 => ?_) (fun c21 => ?_)
      · refine w_aload_n C dX5_move_48 2 rfl ?_
        refine w_sipush C dX5_move_49 (by decide) ?_
        refine w_lload_n C dX5_move_52 5 rfl ?_
        refine m_callv [.int (iZ (135)), .long (lZ (nn))] hsz C (fun z => cm_setLong l D Q G wL wS wN (upd fD t (iZ ((N : Int) - 1))) X 135 nn (by omega) (by omega) (by omega) z) (cwV 2 C.1.2.2.2.2 (wC_V kX5_64 nX5_setLong slX5_setLong iniX5 cdX5_setLong) rfl rfl rfl (by decide +kernel) ⟨Nat.le_of_ble_eq_true rfl, Nat.le_of_ble_eq_true rfl⟩) rfl ⟨Nat.zero_le _, Nat.zero_le _⟩ (Nat.le_of_ble_eq_true rfl) dX5_move_53 [.long (lZ (nn)), .int (iZ (135)), .ref (Q 0)] rfl (fun v102 hv102 => ?_)
        obtain ⟨gL102, gS102, gN102, hZ102, rfl⟩ := mSet_all hZw hv102
        refine w_iconst C dX5_move_56 ?_
        refine w_istore C [(8, .int (iZ (0))), (7, .int (iZ ((N : Int) - 1))), (0, .ref (Q 0)), (1, .int (iZ ((t : Int)))), (2, .int (iZ ((r : Int)))), (3, .long (lZ (nn))), (5, .long (lZ (len)))] dX5_move_57 (by decide) rfl ?_
        have p2 : ∀ (d : Nat) (i : Nat) (Y : Nat → Int) (kL : Nat → Int32) (kS : Nat → Int32) (kN : Nat → Int32), N < i + d → (i = 0 ∨ i + 1 ≤ N) → mAll kL kS kN Y → (∀ q : Nat, q < N → Y (9 * t + q) = sha (fun k => Z (9 * r + k) * 2 ^ (30 * (N - 1 - k))) N nn i q) → Y 135 = nn → (∀ c : Nat, c ≠ 135 → c ≠ 136 → (c < 9 * t ∨ 9 * t + N ≤ c) → Y c = Z c) → ZW p l e ({ frames := 3, cells := 0, slots := 0, locals := 80 }) s m ([.ref (Q 0), .int (iZ ((t : Int))), .int (iZ ((r : Int))), .long (lZ (nn)), .long (lZ (len))] : List Value).toArray below meth c D (mA Q sz) 10 0 0 (MQ below (va_Qv (fun u : mT => ∃ Y : Nat → Int, mPost (upd fD t (iZ ((N : Int) - 1))) X Y u ∧ (∀ i : Nat, i < N → Y (9 * t + i) = sha (fun k => Z (9 * r + k) * 2 ^ (30 * (N - 1 - k))) N nn (N - 1) i * len ^ i) ∧ ∀ c : Nat, c ≠ 135 → c ≠ 136 → (c < 9 * t ∨ 9 * t + N ≤ c) → Y c = Z c) (mAt D Q G (mA Q sz)) (mA Q sz)) ([.ref (Q 0), .int (iZ ((t : Int))), .int (iZ ((r : Int))), .long (lZ (nn)), .long (lZ (len))] : List Value).toArray s 0 0 (mA Q sz)) (mU Q G (kL, kS, kN, (upd fD t (iZ ((N : Int) - 1))), X)) 59 [(8, .int (iZ ((i : Int)))), (7, .int (iZ ((N : Int) - 1))), (0, .ref (Q 0)), (1, .int (iZ ((t : Int)))), (2, .int (iZ ((r : Int)))), (3, .long (lZ (nn))), (5, .long (lZ (len)))] [] := by
          intro d
          induction d with
          | zero =>
            intro i Y kL kS kN hd hi hZ h1 h0 h2
            exact absurd hd (by omega)
          | succ d ih3 =>
            intro i Y kL kS kN hd hi hZ h1 h0 h2
            refine w_iload C dX5_move_59 0 rfl ?_
            refine w_iload C dX5_move_61 1 rfl ?_
            refine w_icmp_ge C 129 dX5_move_63 (by decide) ⟨⟨by omega, by omega⟩, by omega, by omega⟩ (fun c63 => ?_) (fun c63 => ?_)
            · refine w_aload_n C dX5_move_129 2 rfl ?_
              refine w_sipush C dX5_move_130 (by decide) ?_
              refine w_lload C dX5_move_133 6 rfl ?_
              refine m_callv [.int (iZ (135)), .long (lZ (len))] hsz C (fun z => cm_setLong l D Q G kL kS kN (upd fD t (iZ ((N : Int) - 1))) X 135 len (by omega) (by omega) (by omega) z) (cwV 2 C.1.2.2.2.2 (wC_V kX5_64 nX5_setLong slX5_setLong iniX5 cdX5_setLong) rfl rfl rfl (by decide +kernel) ⟨Nat.le_of_ble_eq_true rfl, Nat.le_of_ble_eq_true rfl⟩) rfl ⟨Nat.zero_le _, Nat.zero_le _⟩ (Nat.le_of_ble_eq_true rfl) dX5_move_135 [.long (lZ (len)), .int (iZ (135)), .ref (Q 0)] rfl (fun v203 hv203 => ?_)
              obtain ⟨gL203, gS203, gN203, hZ203, rfl⟩ := mSet_all hZ hv203
              refine w_iconst C dX5_move_138 ?_
              refine w_istore C [(8, .int (iZ (1))), (7, .int (iZ ((N : Int) - 1))), (0, .ref (Q 0)), (1, .int (iZ ((t : Int)))), (2, .int (iZ ((r : Int)))), (3, .long (lZ (nn))), (5, .long (lZ (len)))] dX5_move_139 (by decide) rfl ?_
              have p3 : ∀ (d : Nat) (i : Nat) (F : Nat → Int) (f1L : Nat → Int32) (f1S : Nat → Int32) (f1N : Nat → Int32), N < i + d → (i = 0 ∨ i + 1 ≤ N) → mAll f1L f1S f1N F → (∀ q : Nat, q < N → F (9 * t + q) = sha (fun k => Z (9 * r + k) * 2 ^ (30 * (N - 1 - k))) N nn (N - 1) q * len ^ (min q i)) → F 135 = len → (∀ c : Nat, c ≠ 135 → c ≠ 136 → (c < 9 * t ∨ 9 * t + N ≤ c) → F c = Z c) → ZW p l e ({ frames := 3, cells := 0, slots := 0, locals := 80 }) s m ([.ref (Q 0), .int (iZ ((t : Int))), .int (iZ ((r : Int))), .long (lZ (nn)), .long (lZ (len))] : List Value).toArray below meth c D (mA Q sz) 10 0 0 (MQ below (va_Qv (fun u : mT => ∃ Y : Nat → Int, mPost (upd fD t (iZ ((N : Int) - 1))) X Y u ∧ (∀ i : Nat, i < N → Y (9 * t + i) = sha (fun k => Z (9 * r + k) * 2 ^ (30 * (N - 1 - k))) N nn (N - 1) i * len ^ i) ∧ ∀ c : Nat, c ≠ 135 → c ≠ 136 → (c < 9 * t ∨ 9 * t + N ≤ c) → Y c = Z c) (mAt D Q G (mA Q sz)) (mA Q sz)) ([.ref (Q 0), .int (iZ ((t : Int))), .int (iZ ((r : Int))), .long (lZ (nn)), .long (lZ (len))] : List Value).toArray s 0 0 (mA Q sz)) (mU Q G (f1L, f1S, f1N, (upd fD t (iZ ((N : Int) - 1))), X)) 141 [(8, .int (iZ (((i + 1 : Nat) : Int)))), (7, .int (iZ ((N : Int) - 1))), (0, .ref (Q 0)), (1, .int (iZ ((t : Int)))), (2, .int (iZ ((r : Int)))), (3, .long (lZ (nn))), (5, .long (lZ (len)))] [] := by
                intro d
                induction d with
                | zero =>
                  intro i F f1L f1S f1N hd hi hZf y1 y0 y2
                  exact absurd hd (by omega)
                | succ d ih5 =>
                  intro i F f1L f1S f1N hd hi hZf y1 y0 y2
                  refine w_iload C dX5_move_141 0 rfl ?_
                  refine w_iload C dX5_move_143 1 rfl ?_
                  refine w_icmp_gt C 200 dX5_move_145 (by decide) ⟨⟨by omega, by omega⟩, by omega, by omega⟩ (fun c145 => ?_) (fun c145 => ?_)
                  · exact m_vret hsz C hr hlk (⟨F, ⟨_, _, _, hZf, rfl⟩, fun q g => by rw [y1 q g, show min q i = q by omega], y2⟩) dX5_move_200
                  · refine w_iload C dX5_move_148 0 rfl ?_
                    refine w_istore C [(9, .int (iZ (((i + 1 : Nat) : Int)))), (8, .int (iZ (((i + 1 : Nat) : Int)))), (7, .int (iZ ((N : Int) - 1))), (0, .ref (Q 0)), (1, .int (iZ ((t : Int)))), (2, .int (iZ ((r : Int)))), (3, .long (lZ (nn))), (5, .long (lZ (len)))] dX5_move_150 (by decide) rfl ?_
                    have p3in : ∀ (d : Nat) (k : Nat) (E : Nat → Int) (eL : Nat → Int32) (eS : Nat → Int32) (eN : Nat → Int32), N < k + d → i + 1 ≤ k ∧ k ≤ N → mAll eL eS eN E → (∀ q : Nat, q < k → q < N → E (9 * t + q) = sha (fun k => Z (9 * r + k) * 2 ^ (30 * (N - 1 - k))) N nn (N - 1) q * len ^ (min q (i + 1))) → (∀ q : Nat, k ≤ q → q < N → E (9 * t + q) = sha (fun k => Z (9 * r + k) * 2 ^ (30 * (N - 1 - k))) N nn (N - 1) q * len ^ (min q i)) → E 135 = len → (∀ c : Nat, c ≠ 135 → c ≠ 136 → (c < 9 * t ∨ 9 * t + N ≤ c) → E c = Z c) → ZW p l e ({ frames := 3, cells := 0, slots := 0, locals := 80 }) s m ([.ref (Q 0), .int (iZ ((t : Int))), .int (iZ ((r : Int))), .long (lZ (nn)), .long (lZ (len))] : List Value).toArray below meth c D (mA Q sz) 10 0 0 (MQ below (va_Qv (fun u : mT => ∃ Y : Nat → Int, mPost (upd fD t (iZ ((N : Int) - 1))) X Y u ∧ (∀ i : Nat, i < N → Y (9 * t + i) = sha (fun k => Z (9 * r + k) * 2 ^ (30 * (N - 1 - k))) N nn (N - 1) i * len ^ i) ∧ ∀ c : Nat, c ≠ 135 → c ≠ 136 → (c < 9 * t ∨ 9 * t + N ≤ c) → Y c = Z c) (mAt D Q G (mA Q sz)) (mA Q sz)) ([.ref (Q 0), .int (iZ ((t : Int))), .int (iZ ((r : Int))), .long (lZ (nn)), .long (lZ (len))] : List Value).toArray s 0 0 (mA Q sz)) (mU Q G (eL, eS, eN, (upd fD t (iZ ((N : Int) - 1))), X)) 152 [(9, .int (iZ ((k : Int)))), (8, .int (iZ (((i + 1 : Nat) : Int)))), (7, .int (iZ ((N : Int) - 1))), (0, .ref (Q 0)), (1, .int (iZ ((t : Int)))), (2, .int (iZ ((r : Int)))), (3, .long (lZ (nn))), (5, .long (lZ (len)))] [] := by
                      intro d
                      induction d with
                      | zero =>
                        intro k E eL eS eN hd hk hZe x1 x1b x0 x2
                        exact absurd hd (by omega)
                      | succ d ih6 =>
                        intro k E eL eS eN hd hk hZe x1 x1b x0 x2
                        refine w_iload C dX5_move_152 0 rfl ?_
                        refine w_iload C dX5_move_154 2 rfl ?_
                        refine w_icmp_gt C 194 dX5_move_156 (by decide) ⟨⟨by omega, by omega⟩, by omega, by omega⟩ (fun c156 => ?_) (fun c156 => ?_)
                        · refine w_iinc C (((i + 1 + 1 : Nat) : Int)) (by omega) [(8, .int (iZ (((i + 1 + 1 : Nat) : Int)))), (9, .int (iZ ((k : Int)))), (7, .int (iZ ((N : Int) - 1))), (0, .ref (Q 0)), (1, .int (iZ ((t : Int)))), (2, .int (iZ ((r : Int)))), (3, .long (lZ (nn))), (5, .long (lZ (len)))] dX5_move_194 1 rfl (by decide) rfl ?_
                          refine w_goto C 141 dX5_move_197 (by decide) ?_
                          refine w_sub [(8, .int (iZ (((i + 1 + 1 : Nat) : Int)))), (7, .int (iZ ((N : Int) - 1))), (0, .ref (Q 0)), (1, .int (iZ ((t : Int)))), (2, .int (iZ ((r : Int)))), (3, .long (lZ (nn))), (5, .long (lZ (len)))] [0, 2, 3, 4, 5, 6, 7] rfl ?_
                          exact ih5 (i + 1) E _ _ _ (by omega) (by omega) hZe (fun q g => x1 q (by omega) g) x0 x2
                        · refine w_aload_n C dX5_move_159 3 rfl ?_
                          refine w_sipush C dX5_move_160 (by decide) ?_
                          refine w_iload_n C dX5_move_163 4 rfl ?_
                          refine w_iload C dX5_move_164 0 rfl ?_
                          refine m_callSi [.int (iZ ((t : Int))), .int (iZ ((k : Int)))] hsz C (fun z => cm_at l D Q G eL eS eN (upd fD t (iZ ((N : Int) - 1))) X (t) (k) z) (cwS 2 C.1.2.2.2.2 (wC_S kX5_79 stX5_at iniX5 cdX5_at) rfl rfl rfl (by decide +kernel) ⟨Nat.le_of_ble_eq_true rfl, Nat.le_of_ble_eq_true rfl⟩) rfl ⟨Nat.zero_le _, Nat.zero_le _⟩ (Nat.le_of_ble_eq_true rfl) dX5_move_166 [.int (iZ ((k : Int))), .int (iZ ((t : Int))), .int (iZ (136)), .ref (Q 0)] rfl (fun r v404 hv404 => ?_)
                          obtain ⟨rfl, rfl⟩ := hv404
                          refine w_sipush C dX5_move_169 (by decide) ?_
                          refine m_callv [.int (iZ (136)), .int (iZ (((9 * t + k : Nat) : Int))), .int (iZ (135))] hsz C (fun z => cm_multiply l D Q G eL eS eN (upd fD t (iZ ((N : Int) - 1))) X 136 (9 * t + k) 135 630 3 (E (9 * t + k)) (E 135) (by omega) (by omega) (by omega) (by omega) (by omega) (hZe _ (by omega)) (hZe _ (by omega)) (by rw [x1b k (by omega) (by omega)]; exact hlenb k i (by omega) (by omega)) (by rw [x0]; exact hlong _ hl1) (by omega) z) (cwV 3 C.1.2.2.2.2 (wC_V kX5_88 nX5_multiply slX5_multiply iniX5 cdX5_multiply) rfl rfl rfl (by decide +kernel) ⟨Nat.le_of_ble_eq_true rfl, Nat.le_of_ble_eq_true rfl⟩) rfl ⟨Nat.zero_le _, Nat.zero_le _⟩ (Nat.le_of_ble_eq_true rfl) dX5_move_172 [.int (iZ (135)), .int (iZ (((9 * t + k : Nat) : Int))), .int (iZ (136)), .ref (Q 0)] rfl (fun v405 hv405 => ?_)
                          obtain ⟨gL405, gS405, gN405, hZ405, rfl⟩ := mSet_all hZe hv405
                          refine w_aload_n C dX5_move_175 3 rfl ?_
                          refine w_iload_n C dX5_move_176 4 rfl ?_
                          refine w_iload C dX5_move_177 0 rfl ?_
                          refine m_callSi [.int (iZ ((t : Int))), .int (iZ ((k : Int)))] hsz C (fun z => cm_at l D Q G gL405 gS405 gN405 (upd fD t (iZ ((N : Int) - 1))) X (t) (k) z) (cwS 2 C.1.2.2.2.2 (wC_S kX5_79 stX5_at iniX5 cdX5_at) rfl rfl rfl (by decide +kernel) ⟨Nat.le_of_ble_eq_true rfl, Nat.le_of_ble_eq_true rfl⟩) rfl ⟨Nat.zero_le _, Nat.zero_le _⟩ (Nat.le_of_ble_eq_true rfl) dX5_move_179 [.int (iZ ((k : Int))), .int (iZ ((t : Int))), .ref (Q 0)] rfl (fun r v406 hv406 => ?_)
                          obtain ⟨rfl, rfl⟩ := hv406
                          refine w_sipush C dX5_move_182 (by decide) ?_
                          refine m_callv [.int (iZ (((9 * t + k : Nat) : Int))), .int (iZ (136))] hsz C (fun z => cm_copy l D Q G gL405 gS405 gN405 (upd fD t (iZ ((N : Int) - 1))) X (9 * t + k) 136 ((uZ E 136 (E (9 * t + k) * E 135)) 136) (by omega) (by omega) (hZ405 _ (by omega)) z) (cwV 2 C.1.2.2.2.2 (wC_V kX5_49 nX5_copy slX5_copy iniX5 cdX5_copy) rfl rfl rfl (by decide +kernel) ⟨Nat.le_of_ble_eq_true rfl, Nat.le_of_ble_eq_true rfl⟩) rfl ⟨Nat.zero_le _, Nat.zero_le _⟩ (Nat.le_of_ble_eq_true rfl) dX5_move_185 [.int (iZ (136)), .int (iZ (((9 * t + k : Nat) : Int))), .ref (Q 0)] rfl (fun v407 hv407 => ?_)
                          obtain ⟨gL407, gS407, gN407, hZ407, rfl⟩ := mSet_all hZ405 hv407
                          refine w_iinc C (((k + 1 : Nat) : Int)) (by omega) [(9, .int (iZ (((k + 1 : Nat) : Int)))), (8, .int (iZ (((i + 1 : Nat) : Int)))), (7, .int (iZ ((N : Int) - 1))), (0, .ref (Q 0)), (1, .int (iZ ((t : Int)))), (2, .int (iZ ((r : Int)))), (3, .long (lZ (nn))), (5, .long (lZ (len)))] dX5_move_188 0 rfl (by decide) rfl ?_
                          refine w_goto C 152 dX5_move_191 (by decide) ?_
                          exact ih6 (k + 1) (uZ (uZ E 136 (E (9 * t + k) * E 135)) (9 * t + k) ((uZ E 136 (E (9 * t + k) * E 135)) 136)) _ _ _ (by omega) (by omega) hZ407 (fun q g1 g2 => by
                            by_cases e : q = k
                            · subst e; rw [uZ_eq, uZ_eq, x1b q (by omega) (by omega), x0, show min q (i + 1) = i + 1 by omega, show min q i = i by omega, Int.pow_succ, Int.mul_assoc]
                            · rw [uZ_ne (by omega), uZ_ne (by omega)]; exact x1 q (by omega) g2) (fun q g1 g2 => by rw [uZ_ne (by omega), uZ_ne (by omega)]; exact x1b q (by omega) g2) (by rw [uZ_ne (by omega), uZ_ne (by omega)]; exact x0) (fun c g1 g2 g3 => by rw [uZ_ne (by omega), uZ_ne g2]; exact x2 c g1 g2 g3)
                    exact p3in (N + 1) (i + 1) F _ _ _ (by omega) (by omega) hZf (fun q g1 g2 => by rw [y1 q g2, show min q (i + 1) = min q i by omega]) (fun q g1 g2 => y1 q g2) y0 y2
              exact p3 (N + 1) 0 (uZ Y 135 len) _ _ _ (by omega) (Or.inl rfl) hZ203 (fun q g => by rw [uZ_ne (by omega), show min q 0 = 0 by omega, Int.pow_zero, Int.mul_one]; (have e : i = N - 1 := by omega); subst e; exact h1 q g) uZ_eq (fun c g1 g2 g3 => by rw [uZ_ne g1]; exact h2 c g1 g2 g3)
            · refine w_iload C dX5_move_66 1 rfl ?_
              refine w_iconst C dX5_move_68 ?_
              refine w_isub C dX5_move_69 ?_
              refine w_top C (((N - 1 : Nat) : Int) - 1) (by omega) ?_
              refine w_istore C [(9, .int (iZ (((N - 1 : Nat) : Int) - 1))), (8, .int (iZ ((i : Int)))), (7, .int (iZ ((N : Int) - 1))), (0, .ref (Q 0)), (1, .int (iZ ((t : Int)))), (2, .int (iZ ((r : Int)))), (3, .long (lZ (nn))), (5, .long (lZ (len)))] dX5_move_70 (by decide) rfl ?_
              have p2in : ∀ (d : Nat) (j : Nat) (V : Nat → Int) (vL : Nat → Int32) (vS : Nat → Int32) (vN : Nat → Int32), j < i + d → i ≤ j ∧ j + 1 ≤ N → mAll vL vS vN V → (∀ q : Nat, j ≤ q → q < N → V (9 * t + q) = sfa (sha (fun k => Z (9 * r + k) * 2 ^ (30 * (N - 1 - k))) N nn i) N nn (N - q)) → (∀ q : Nat, q < j → V (9 * t + q) = sha (fun k => Z (9 * r + k) * 2 ^ (30 * (N - 1 - k))) N nn i q) → V 135 = nn → (∀ c : Nat, c ≠ 135 → c ≠ 136 → (c < 9 * t ∨ 9 * t + N ≤ c) → V c = Z c) → ZW p l e ({ frames := 3, cells := 0, slots := 0, locals := 80 }) s m ([.ref (Q 0), .int (iZ ((t : Int))), .int (iZ ((r : Int))), .long (lZ (nn)), .long (lZ (len))] : List Value).toArray below meth c D (mA Q sz) 10 0 0 (MQ below (va_Qv (fun u : mT => ∃ Y : Nat → Int, mPost (upd fD t (iZ ((N : Int) - 1))) X Y u ∧ (∀ i : Nat, i < N → Y (9 * t + i) = sha (fun k => Z (9 * r + k) * 2 ^ (30 * (N - 1 - k))) N nn (N - 1) i * len ^ i) ∧ ∀ c : Nat, c ≠ 135 → c ≠ 136 → (c < 9 * t ∨ 9 * t + N ≤ c) → Y c = Z c) (mAt D Q G (mA Q sz)) (mA Q sz)) ([.ref (Q 0), .int (iZ ((t : Int))), .int (iZ ((r : Int))), .long (lZ (nn)), .long (lZ (len))] : List Value).toArray s 0 0 (mA Q sz)) (mU Q G (vL, vS, vN, (upd fD t (iZ ((N : Int) - 1))), X)) 72 [(9, .int (iZ ((j : Int) - 1))), (8, .int (iZ ((i : Int)))), (7, .int (iZ ((N : Int) - 1))), (0, .ref (Q 0)), (1, .int (iZ ((t : Int)))), (2, .int (iZ ((r : Int)))), (3, .long (lZ (nn))), (5, .long (lZ (len)))] [] := by
                intro d
                induction d with
                | zero =>
                  intro j V vL vS vN hd hj hZv g1 g2 g0 g3
                  exact absurd hd (by omega)
                | succ d ih4 =>
                  intro j V vL vS vN hd hj hZv g1 g2 g0 g3
                  refine w_iload C dX5_move_72 0 rfl ?_
                  refine w_iload C dX5_move_74 1 rfl ?_
                  refine w_icmp_lt C 123 dX5_move_76 (by decide) ⟨⟨by omega, by omega⟩, by omega, by omega⟩ (fun c76 => ?_) (fun c76 => ?_)
                  · have hji : j = i := by omega
                    subst hji
                    refine w_iinc C (((j + 1 : Nat) : Int)) (by omega) [(8, .int (iZ (((j + 1 : Nat) : Int)))), (9, .int (iZ ((j : Int) - 1))), (7, .int (iZ ((N : Int) - 1))), (0, .ref (Q 0)), (1, .int (iZ ((t : Int)))), (2, .int (iZ ((r : Int)))), (3, .long (lZ (nn))), (5, .long (lZ (len)))] dX5_move_123 1 rfl (by decide) rfl ?_
                    refine w_goto C 59 dX5_move_126 (by decide) ?_
                    refine w_sub [(8, .int (iZ (((j + 1 : Nat) : Int)))), (7, .int (iZ ((N : Int) - 1))), (0, .ref (Q 0)), (1, .int (iZ ((t : Int)))), (2, .int (iZ ((r : Int)))), (3, .long (lZ (nn))), (5, .long (lZ (len)))] [0, 2, 3, 4, 5, 6, 7] rfl ?_
                    exact ih3 (j + 1) V _ _ _ (by omega) (by omega) hZv (fun q hq => by
                      simp only [sha, passa]
                      by_cases e : j ≤ q
                      · rw [if_pos ⟨e, hq⟩]; exact g1 q e hq
                      · rw [if_neg (by omega)]; exact g2 q (by omega)) g0 g3
                  · obtain ⟨k, rfl⟩ : ∃ k, j = k + 1 := ⟨j - 1, by omega⟩
                    have hsb := sfa_abs (N := N) (a := nn) (M := (1 + A) ^ (9 * i) * (2 ^ 240 * M)) (Int.mul_nonneg (Int.le_of_lt (Int.pow_pos (by omega))) hMB) (show (0 : Int) ≤ A by omega) hna (m := N - (k + 1)) (hsh i) (by omega)
                    have hsb2 : (1 + A) ^ (N - (k + 1)) * ((1 + A) ^ (9 * i) * (2 ^ 240 * M)) < 2 ^ (31 * 630) := by rw [← Int.mul_assoc, ← Int.pow_add]; exact hpm _ (by omega)
                    refine w_aload_n C dX5_move_79 3 rfl ?_
                    refine w_sipush C dX5_move_80 (by decide) ?_
                    refine w_iload_n C dX5_move_83 4 rfl ?_
                    refine w_iload C dX5_move_84 0 rfl ?_
                    refine w_iconst C dX5_move_86 ?_
                    refine w_iadd C dX5_move_87 ?_
                    refine w_top C (((k + 1 : Nat) : Int)) (by omega) ?_
                    refine m_callSi [.int (iZ ((t : Int))), .int (iZ (((k + 1 : Nat) : Int)))] hsz C (fun z => cm_at l D Q G vL vS vN (upd fD t (iZ ((N : Int) - 1))) X (t) (k + 1) z) (cwS 2 C.1.2.2.2.2 (wC_S kX5_79 stX5_at iniX5 cdX5_at) rfl rfl rfl (by decide +kernel) ⟨Nat.le_of_ble_eq_true rfl, Nat.le_of_ble_eq_true rfl⟩) rfl ⟨Nat.zero_le _, Nat.zero_le _⟩ (Nat.le_of_ble_eq_true rfl) dX5_move_88 [.int (iZ (((k + 1 : Nat) : Int))), .int (iZ ((t : Int))), .int (iZ (136)), .ref (Q 0)] rfl (fun r v708 hv708 => ?_)
                    obtain ⟨rfl, rfl⟩ := hv708
                    refine w_sipush C dX5_move_91 (by decide) ?_
                    refine m_callv [.int (iZ (136)), .int (iZ (((9 * t + (k + 1) : Nat) : Int))), .int (iZ (135))] hsz C (fun z => cm_multiply l D Q G vL vS vN (upd fD t (iZ ((N : Int) - 1))) X 136 (9 * t + (k + 1)) 135 630 3 (V (9 * t + (k + 1))) (V 135) (by omega) (by omega) (by omega) (by omega) (by omega) (hZv _ (by omega)) (hZv _ (by omega)) (by rw [g1 (k + 1) (by omega) (by omega)]; omega) (by rw [g0]; exact hlong _ hn1) (by omega) z) (cwV 3 C.1.2.2.2.2 (wC_V kX5_88 nX5_multiply slX5_multiply iniX5 cdX5_multiply) rfl rfl rfl (by decide +kernel) ⟨Nat.le_of_ble_eq_true rfl, Nat.le_of_ble_eq_true rfl⟩) rfl ⟨Nat.zero_le _, Nat.zero_le _⟩ (Nat.le_of_ble_eq_true rfl) dX5_move_94 [.int (iZ (135)), .int (iZ (((9 * t + (k + 1) : Nat) : Int))), .int (iZ (136)), .ref (Q 0)] rfl (fun v709 hv709 => ?_)
                    obtain ⟨gL709, gS709, gN709, hZ709, rfl⟩ := mSet_all hZv hv709
                    refine w_aload_n C dX5_move_97 3 rfl ?_
                    refine w_iload_n C dX5_move_98 4 rfl ?_
                    refine w_iload C dX5_move_99 0 rfl ?_
                    refine w_top C ((k : Int)) (by omega) ?_
                    refine m_callSi [.int (iZ ((t : Int))), .int (iZ ((k : Int)))] hsz C (fun z => cm_at l D Q G gL709 gS709 gN709 (upd fD t (iZ ((N : Int) - 1))) X (t) (k) z) (cwS 2 C.1.2.2.2.2 (wC_S kX5_79 stX5_at iniX5 cdX5_at) rfl rfl rfl (by decide +kernel) ⟨Nat.le_of_ble_eq_true rfl, Nat.le_of_ble_eq_true rfl⟩) rfl ⟨Nat.zero_le _, Nat.zero_le _⟩ (Nat.le_of_ble_eq_true rfl) dX5_move_101 [.int (iZ ((k : Int))), .int (iZ ((t : Int))), .ref (Q 0)] rfl (fun r v710 hv710 => ?_)
                    obtain ⟨rfl, rfl⟩ := hv710
                    refine w_iload_n C dX5_move_104 4 rfl ?_
                    refine w_iload C dX5_move_105 0 rfl ?_
                    refine w_top C ((k : Int)) (by omega) ?_
                    refine m_callSi [.int (iZ ((t : Int))), .int (iZ ((k : Int)))] hsz C (fun z => cm_at l D Q G gL709 gS709 gN709 (upd fD t (iZ ((N : Int) - 1))) X (t) (k) z) (cwS 2 C.1.2.2.2.2 (wC_S kX5_79 stX5_at iniX5 cdX5_at) rfl rfl rfl (by decide +kernel) ⟨Nat.le_of_ble_eq_true rfl, Nat.le_of_ble_eq_true rfl⟩) rfl ⟨Nat.zero_le _, Nat.zero_le _⟩ (Nat.le_of_ble_eq_true rfl) dX5_move_107 [.int (iZ ((k : Int))), .int (iZ ((t : Int))), .int (iZ (((9 * t + k : Nat) : Int))), .ref (Q 0)] rfl (fun r v711 hv711 => ?_)
                    obtain ⟨rfl, rfl⟩ := hv711
                    refine w_sipush C dX5_move_110 (by decide) ?_
                    refine w_iconst C dX5_move_113 ?_
                    refine m_callv [.int (iZ (((9 * t + k : Nat) : Int))), .int (iZ (((9 * t + k : Nat) : Int))), .int (iZ (136)), .int (iZ (1))] hsz C (fun z => cm_add l D Q G gL709 gS709 gN709 (upd fD t (iZ ((N : Int) - 1))) X (9 * t + k) (9 * t + k) 136 1 ((uZ V 136 (V (9 * t + (k + 1)) * V 135)) (9 * t + k)) ((uZ V 136 (V (9 * t + (k + 1)) * V 135)) 136) (by omega) (by omega) (by omega) (Or.inl rfl) (hZ709 _ (by omega)) (hZ709 _ (by omega)) (by rw [uZ_ne (by omega), g2 k (by omega)]; have e1 := hsh i k (by omega); have e2 := hpm (9 * i) (by omega); have e3 := h630 639 (by omega); omega) (by rw [uZ_eq, g1 (k + 1) (by omega) (by omega), g0, Int.natAbs_mul, Int.natCast_mul]; have e1 := Int.mul_le_mul hsb hna (by omega) (Int.mul_nonneg (Int.le_of_lt (Int.pow_pos (by omega))) (Int.mul_nonneg (Int.le_of_lt (Int.pow_pos (by omega))) hMB)); have e2 : (1 + A) ^ (N - (k + 1)) * ((1 + A) ^ (9 * i) * (2 ^ 240 * M)) * A ≤ (1 + A) ^ (N - (k + 1)) * ((1 + A) ^ (9 * i) * (2 ^ 240 * M)) * (1 + A) := Int.mul_le_mul_of_nonneg_left (by omega) (Int.mul_nonneg (Int.le_of_lt (Int.pow_pos (by omega))) (Int.mul_nonneg (Int.le_of_lt (Int.pow_pos (by omega))) hMB)); have e4 : (1 + A) ^ (N - (k + 1)) * ((1 + A) ^ (9 * i) * (2 ^ 240 * M)) * (1 + A) = (1 + A) ^ (N - (k + 1) + 9 * i + 1) * (2 ^ 240 * M) := (by rw [Int.pow_succ (1 + A), Int.pow_add (1 + A)]; ac_rfl); have e3 := hpm (N - (k + 1) + 9 * i + 1) (by omega); have e5 := h630 639 (by omega); rw [e4] at e2; omega) z) (cwV 4 C.1.2.2.2.2 (wC_V kX5_91 nX5_add slX5_add iniX5 cdX5_add) rfl rfl rfl (by decide +kernel) ⟨Nat.le_of_ble_eq_true rfl, Nat.le_of_ble_eq_true rfl⟩) rfl ⟨Nat.zero_le _, Nat.zero_le _⟩ (Nat.le_of_ble_eq_true rfl) dX5_move_114 [.int (iZ (1)), .int (iZ (136)), .int (iZ (((9 * t + k : Nat) : Int))), .int (iZ (((9 * t + k : Nat) : Int))), .ref (Q 0)] rfl (fun v712 hv712 => ?_)
                    obtain ⟨gL712, gS712, gN712, hZ712, rfl⟩ := mSet_all hZ709 hv712
                    refine w_iinc C ((k : Int) - 1) (by omega) [(9, .int (iZ ((k : Int) - 1))), (8, .int (iZ ((i : Int)))), (7, .int (iZ ((N : Int) - 1))), (0, .ref (Q 0)), (1, .int (iZ ((t : Int)))), (2, .int (iZ ((r : Int)))), (3, .long (lZ (nn))), (5, .long (lZ (len)))] dX5_move_117 0 rfl (by decide) rfl ?_
                    refine w_goto C 72 dX5_move_120 (by decide) ?_
                    exact ih4 k (uZ (uZ V 136 (V (9 * t + (k + 1)) * V 135)) (9 * t + k) ((uZ V 136 (V (9 * t + (k + 1)) * V 135)) (9 * t + k) + 1 * (uZ V 136 (V (9 * t + (k + 1)) * V 135)) 136)) _ _ _ (by omega) (by omega) hZ712 (fun q e1 e2 => by
                      by_cases e : q = k
                      · subst e; rw [uZ_eq, uZ_ne (by omega), uZ_eq, g2 q (by omega), g1 (q + 1) (by omega) (by omega), g0, show N - q = (N - (q + 1)) + 1 by omega]
                        simp only [sfa]; rw [show N - (N - (q + 1) + 1) = q by omega, Int.one_mul]
                      · rw [uZ_ne (by omega), uZ_ne (by omega)]; exact g1 q (by omega) e2) (fun q e1 => by rw [uZ_ne (by omega), uZ_ne (by omega)]; exact g2 q (by omega)) (by rw [uZ_ne (by omega), uZ_ne (by omega)]; exact g0) (fun c e1 e2 e3 => by rw [uZ_ne (by omega), uZ_ne e2]; exact g3 c e1 e2 e3)
              exact p2in N (N - 1) Y _ _ _ (by omega) (by omega) hZ (fun q e1 e2 => by
                have : q = N - 1 := by omega
                subst this; rw [h1 _ (by omega), show N - (N - 1) = 0 + 1 by omega]; simp only [sfa]; rw [Int.zero_mul, Int.add_zero]) (fun q e1 => h1 q (by omega)) h0 h2
        exact p2 (N + 1) 0 (uZ W1 135 nn) _ _ _ (by omega) (Or.inl rfl) hZ102 (fun q g => by rw [uZ_ne (by omega)]; exact w1 q (by omega)) uZ_eq (fun c g1 g2 g3 => by rw [uZ_ne g1]; exact w2 c g3)
      · refine w_aload_n C dX5_move_24 2 rfl ?_
        refine w_iload_n C dX5_move_25 3 rfl ?_
        refine w_iload C dX5_move_26 0 rfl ?_
        refine m_callSi [.int (iZ ((t : Int))), .int (iZ ((k : Int)))] hsz C (fun z => cm_at l D Q G wL wS wN (upd fD t (iZ ((N : Int) - 1))) X (t) (k) z) (cwS 2 C.1.2.2.2.2 (wC_S kX5_79 stX5_at iniX5 cdX5_at) rfl rfl rfl (by decide +kernel) ⟨Nat.le_of_ble_eq_true rfl, Nat.le_of_ble_eq_true rfl⟩) rfl ⟨Nat.zero_le _, Nat.zero_le _⟩ (Nat.le_of_ble_eq_true rfl) dX5_move_28 [.int (iZ ((k : Int))), .int (iZ ((t : Int))), .ref (Q 0)] rfl (fun r v913 hv913 => ?_)
        obtain ⟨rfl, rfl⟩ := hv913
        refine w_bipush C dX5_move_31 (by decide) ?_
        refine w_iload C dX5_move_33 1 rfl ?_
        refine w_iload C dX5_move_35 0 rfl ?_
        refine w_isub C dX5_move_37 ?_
        refine w_imul C dX5_move_38 ?_
        refine w_top C (((30 * (N - 1 - k) : Nat) : Int)) (by omega) ?_
        refine m_callv [.int (iZ (((9 * t + k : Nat) : Int))), .int (iZ (((30 * (N - 1 - k) : Nat) : Int)))] hsz C (fun z => cm_up l D Q G wL wS wN (upd fD t (iZ ((N : Int) - 1))) X (9 * t + k) (30 * (N - 1 - k)) 630 (W1 (9 * t + k)) (by omega) (hZw _ (by omega)) (by rw [w1b k (by omega) (by omega)]; have e1 := hB k (by omega); have e2 := hpm 0 (by omega); rw [Int.pow_zero, Int.one_mul] at e2; have e3 := Int.mul_le_mul_of_nonneg_right (show (1 : Int) ≤ 2 ^ 240 by decide) hM; omega) (by omega) z) (cwV 2 C.1.2.2.2.2 (wC_V kX5_68 nX5_up slX5_up iniX5 cdX5_up) rfl rfl rfl (by decide +kernel) ⟨Nat.le_of_ble_eq_true rfl, Nat.le_of_ble_eq_true rfl⟩) rfl ⟨Nat.zero_le _, Nat.zero_le _⟩ (Nat.le_of_ble_eq_true rfl) dX5_move_39 [.int (iZ (((30 * (N - 1 - k) : Nat) : Int))), .int (iZ (((9 * t + k : Nat) : Int))), .ref (Q 0)] rfl (fun v914 hv914 => ?_)
        obtain ⟨gL914, gS914, gN914, hZ914, rfl⟩ := mSet_all hZw hv914
        refine w_iinc C (((k + 1 : Nat) : Int)) (by omega) [(8, .int (iZ (((k + 1 : Nat) : Int)))), (7, .int (iZ ((N : Int) - 1))), (0, .ref (Q 0)), (1, .int (iZ ((t : Int)))), (2, .int (iZ ((r : Int)))), (3, .long (lZ (nn))), (5, .long (lZ (len)))] dX5_move_42 0 rfl (by decide) rfl ?_
        refine w_goto C 17 dX5_move_45 (by decide) ?_
        exact ih2 (k + 1) (uZ W1 (9 * t + k) (W1 (9 * t + k) * 2 ^ (30 * (N - 1 - k)))) _ _ _ (by omega) (by omega) hZ914 (fun q g => by
          rcases Nat.lt_or_ge q k with e | e
          · rw [uZ_ne (by omega)]; exact w1 q e
          · have : q = k := by omega
            subst this; rw [uZ_eq, w1b q (by omega) (by omega)]) (fun q g1 g2 => by rw [uZ_ne (by omega)]; exact w1b q (by omega) g2) (fun c hc => by rw [uZ_ne (by omega)]; exact w2 c hc)
  exact p1 (N + 1) 0 V0 _ _ _ (by omega) (by omega) hZ0 (fun q g => absurd g (by omega)) (fun q _ g => u1 q g) u2
