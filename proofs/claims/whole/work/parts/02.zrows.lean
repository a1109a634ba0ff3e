/-! numbers of the machine as whole numbers: iZ, lZ -/
def iZ (z : Int) : Int32 := Int32.ofInt z
def lZ (z : Int) : Int64 := Int64.ofInt z
theorem iZ_add (a b : Int) : iZ a + iZ b = iZ (a + b) := (Int32.ofInt_add a b).symm
theorem iZ_sub (a b : Int) : iZ a - iZ b = iZ (a - b) := (Int32.ofInt_sub a b).symm
theorem iZ_mul (a b : Int) : iZ a * iZ b = iZ (a * b) := (Int32.ofInt_mul a b).symm
theorem iZ_neg (a : Int) : -iZ a = iZ (-a) := (Int32.ofInt_neg a).symm
theorem lZ_add (a b : Int) : lZ a + lZ b = lZ (a + b) := (Int64.ofInt_add a b).symm
theorem lZ_sub (a b : Int) : lZ a - lZ b = lZ (a - b) := (Int64.ofInt_sub a b).symm
theorem lZ_mul (a b : Int) : lZ a * lZ b = lZ (a * b) := (Int64.ofInt_mul a b).symm
theorem lZ_neg (a : Int) : -lZ a = lZ (-a) := (Int64.ofInt_neg a).symm
theorem iZ_toInt {z : Int} (h1 : -2147483648 ≤ z) (h2 : z < 2147483648) : (iZ z).toInt = z := Int32.toInt_ofInt_of_le (by omega) (by omega)
theorem lZ_toInt {z : Int} (h1 : -9223372036854775808 ≤ z) (h2 : z < 9223372036854775808) : (lZ z).toInt = z := Int64.toInt_ofInt_of_le (by omega) (by omega)
theorem iZ_self (x : Int32) : iZ x.toInt = x := Int32.ofInt_toInt x
theorem lZ_self (x : Int64) : lZ x.toInt = x := Int64.ofInt_toInt x
theorem iZ_of (x : Int32) : ∃ z : Int, x = iZ z ∧ -2147483648 ≤ z ∧ z < 2147483648 := ⟨x.toInt, (iZ_self x).symm, by have := x.le_toInt; omega, by have := x.toInt_lt; omega⟩
theorem lZ_of (x : Int64) : ∃ z : Int, x = lZ z ∧ -9223372036854775808 ≤ z ∧ z < 9223372036854775808 := ⟨x.toInt, (lZ_self x).symm, by have := x.le_toInt; omega, by have := x.toInt_lt; omega⟩
def iR (a : Int) : Prop := -2147483648 ≤ a ∧ a < 2147483648
def lR (a : Int) : Prop := -9223372036854775808 ≤ a ∧ a < 9223372036854775808
theorem iZ_lt {a b : Int} (h : (-2147483648 ≤ a ∧ a < 2147483648) ∧ -2147483648 ≤ b ∧ b < 2147483648) : iZ a < iZ b ↔ a < b := by
  rw [Int32.lt_iff_toInt_lt, iZ_toInt h.1.1 h.1.2, iZ_toInt h.2.1 h.2.2]
theorem iZ_le {a b : Int} (h : (-2147483648 ≤ a ∧ a < 2147483648) ∧ -2147483648 ≤ b ∧ b < 2147483648) : iZ a ≤ iZ b ↔ a ≤ b := by
  rw [Int32.le_iff_toInt_le, iZ_toInt h.1.1 h.1.2, iZ_toInt h.2.1 h.2.2]
theorem iZ_eq {a b : Int} (h : (-2147483648 ≤ a ∧ a < 2147483648) ∧ -2147483648 ≤ b ∧ b < 2147483648) : iZ a = iZ b ↔ a = b := by
  rw [← Int32.toInt_inj, iZ_toInt h.1.1 h.1.2, iZ_toInt h.2.1 h.2.2]
theorem lZ_lt {a b : Int} (h : (-9223372036854775808 ≤ a ∧ a < 9223372036854775808) ∧ -9223372036854775808 ≤ b ∧ b < 9223372036854775808) : lZ a < lZ b ↔ a < b := by
  rw [Int64.lt_iff_toInt_lt, lZ_toInt h.1.1 h.1.2, lZ_toInt h.2.1 h.2.2]
theorem lZ_eq {a b : Int} (h : (-9223372036854775808 ≤ a ∧ a < 9223372036854775808) ∧ -9223372036854775808 ≤ b ∧ b < 9223372036854775808) : lZ a = lZ b ↔ a = b := by
  rw [← Int64.toInt_inj, lZ_toInt h.1.1 h.1.2, lZ_toInt h.2.1 h.2.2]
theorem iZ_nI (n : Nat) : nI n = iZ n := Int32.ofInt_eq_ofNat.symm
theorem iZ_0 : iZ 0 = 0 := rfl
theorem lZ_0 : lZ 0 = 0 := rfl
theorem iZ_in {e : Int} {N : Nat} (h0 : 0 ≤ e) (h1 : e < N) (hN : N < 2147483648) : vp_in (iZ e) N := by
  rw [vp_in_iff, iZ_toInt (by omega) (by omega)]
  exact ⟨h0, h1⟩
theorem iZ_ix {e : Int} (n : Nat) (h : e = n) (hn : n < 2147483648) : (iZ e).toNatClampNeg = n := by
  show (iZ e).toInt.toNat = n
  rw [iZ_toInt (by omega) (by omega)]
  omega
theorem iZ_i2l {z : Int} (h1 : -2147483648 ≤ z) (h2 : z < 2147483648) : (iZ z).toInt64 = lZ z := by
  apply Int64.toInt_inj.1
  rw [Int32.toInt_toInt64, iZ_toInt h1 h2, lZ_toInt (by omega) (by omega)]
theorem lZ_l2i (z : Int) : (lZ z).toInt32 = iZ z := Int64.toInt32_ofInt
theorem lZ_and {z : Int} (k : Nat) (hk : k < 64) {m : Int} (hm : m = 2 ^ k - 1) : lZ z &&& lZ m = lZ (z % 2 ^ k) := by
  subst hm
  apply Int64.toBitVec_inj.1
  apply BitVec.eq_of_toNat_eq
  show ((BitVec.ofInt 64 z) &&& (BitVec.ofInt 64 (2 ^ k - 1))).toNat = (BitVec.ofInt 64 (z % 2 ^ k)).toNat
  have hp : (2 : Int) ^ k = ((2 ^ k : Nat) : Int) := by simp
  have hlt : (2 : Nat) ^ k < 2 ^ 64 := Nat.pow_lt_pow_right (by omega) hk
  have hpos : 0 < (2 : Nat) ^ k := Nat.pow_pos (by omega)
  rw [BitVec.toNat_and, BitVec.toNat_ofInt, BitVec.toNat_ofInt, BitVec.toNat_ofInt, hp]
  have e1 : ((((2 ^ k : Nat) : Int) - 1) % ((2 ^ 64 : Nat) : Int)).toNat = 2 ^ k - 1 := by
    rw [Int.emod_eq_of_lt (by omega) (by omega)]; omega
  rw [e1, Nat.and_two_pow_sub_one_eq_mod]
  have h2 : 0 ≤ z % ((2 ^ k : Nat) : Int) := Int.emod_nonneg _ (by omega)
  have h3 : z % ((2 ^ k : Nat) : Int) < ((2 ^ k : Nat) : Int) := Int.emod_lt_of_pos _ (by omega)
  rw [Int.emod_eq_of_lt (a := z % ((2 ^ k : Nat) : Int)) h2 (by omega)]
  have h4 : 0 ≤ z % ((2 ^ 64 : Nat) : Int) := Int.emod_nonneg _ (by omega)
  have hd : (((2 ^ k : Nat) : Int)) ∣ (((2 ^ 64 : Nat)) : Int) := by
    have : (2 : Nat) ^ k ∣ 2 ^ 64 := Nat.pow_dvd_pow 2 (by omega)
    exact Int.natCast_dvd_natCast.2 this
  have h5 : z % ((2 ^ 64 : Nat) : Int) % ((2 ^ k : Nat) : Int) = z % ((2 ^ k : Nat) : Int) := Int.emod_emod_of_dvd z hd
  rw [← h5]
  have h6 : ((z % ((2 ^ 64 : Nat) : Int)).toNat : Int) = z % ((2 ^ 64 : Nat) : Int) := Int.toNat_of_nonneg h4
  apply Int.ofNat.inj
  show (((z % ((2 ^ 64 : Nat) : Int)).toNat % 2 ^ k : Nat) : Int) = _
  rw [Int.natCast_emod, h6]
  exact (Int.toNat_of_nonneg (by rw [h5]; exact h2)).symm
theorem lZ_and31 (z : Int) : lZ z &&& lZ 2147483647 = lZ (z % 2147483648) := lZ_and 31 (by omega) (by decide)
theorem lZ_and30 (z : Int) : lZ z &&& lZ 1073741823 = lZ (z % 1073741824) := lZ_and 30 (by omega) (by decide)
theorem lZ_sh (n : Nat) (h : n < 64) {z : Int} (hz : z = n) : (((iZ z).toInt64 &&& 63).toBitVec.smod 64).toNat = n := by
  subst hz
  have : ∀ n : Fin 64, (((iZ (n.val : Int)).toInt64 &&& 63).toBitVec.smod 64).toNat = n.val := by decide +kernel
  exact this ⟨n, h⟩
theorem lZ_shr {z : Int} (k : Nat) {s : Int64} (hs : (s.toBitVec.smod 64).toNat = k) (h1 : -9223372036854775808 ≤ z) (h2 : z < 9223372036854775808) : lZ z >>> s = lZ (z / 2 ^ k) := by
  apply Int64.toInt_inj.1
  have e : (lZ z >>> s).toInt = (lZ z).toInt >>> k := by
    show ((lZ z).toBitVec.sshiftRight (s.toBitVec.smod 64).toNat).toInt = _
    rw [hs, BitVec.toInt_sshiftRight]
    rfl
  have hpos : (0 : Int) < 2 ^ k := Int.pow_pos (by omega)
  have h5 : z / 2 ^ k < 9223372036854775808 := by
    rcases Int.le_total 0 z with h | h
    · exact Int.lt_of_le_of_lt (Int.ediv_le_self _ h) h2
    · exact Int.lt_of_le_of_lt (Int.ediv_nonpos_of_nonpos_of_neg h hpos) (by omega)
  have h6 : -9223372036854775808 ≤ z / 2 ^ k := by
    rw [Int.le_ediv_iff_mul_le hpos]
    have : (1 : Int) ≤ 2 ^ k := by omega
    have h7 := Int.mul_le_mul_of_nonpos_left (show (-9223372036854775808 : Int) ≤ 0 by omega) this
    omega
  rw [e, lZ_toInt h1 h2, lZ_toInt h6 h5, Int.shiftRight_eq_div_pow]
  simp
theorem lZ_shl {z : Int} (k : Nat) (hk : k < 64) {s : Int64} (hs : (s.toBitVec.smod 64).toNat = k) : lZ z <<< s = lZ (z * 2 ^ k) := by
  apply Int64.toBitVec_inj.1
  show (BitVec.ofInt 64 z) <<< (s.toBitVec.smod 64).toNat = BitVec.ofInt 64 (z * 2 ^ k)
  rw [hs]
  apply BitVec.eq_of_toNat_eq
  rw [BitVec.toNat_shiftLeft, BitVec.toNat_ofInt, BitVec.toNat_ofInt, Nat.shiftLeft_eq]
  have h4 : 0 ≤ z % ((2 ^ 64 : Nat) : Int) := Int.emod_nonneg _ (by omega)
  have h6 : ((z % ((2 ^ 64 : Nat) : Int)).toNat : Int) = z % ((2 ^ 64 : Nat) : Int) := Int.toNat_of_nonneg h4
  apply Int.ofNat.inj
  show (((z % ((2 ^ 64 : Nat) : Int)).toNat * 2 ^ k % 2 ^ 64 : Nat) : Int) = _
  rw [Int.natCast_emod, Int.natCast_mul, h6]
  have h8 : 0 ≤ (z * 2 ^ k) % ((2 ^ 64 : Nat) : Int) := Int.emod_nonneg _ (by omega)
  rw [show Int.ofNat ((z * 2 ^ k % ((2 ^ 64 : Nat) : Int)).toNat) = z * 2 ^ k % ((2 ^ 64 : Nat) : Int) from Int.toNat_of_nonneg h8]
  rw [show (((2 : Nat) ^ k : Nat) : Int) = 2 ^ k by simp]
  rw [Int.mul_emod, Int.emod_emod, ← Int.mul_emod]
