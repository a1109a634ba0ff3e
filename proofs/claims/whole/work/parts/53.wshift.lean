theorem emod_mr (x c : Int) {b : Int} (h : 0 < b) : x * b % (c * b) = x % c * b := by
  rw [Int.mul_comm x b, Int.mul_comm c b, Int.mul_emod_mul_of_pos _ _ h, Int.mul_comm b]
theorem iZ_sh5 (k : Nat) (h : k < 32) : ((iZ (k : Int) &&& 31).toBitVec.smod 32).toNat = k := by
  have : ∀ n : Fin 32, ((iZ (n.val : Int) &&& 31).toBitVec.smod 32).toNat = n.val := by decide +kernel
  exact this ⟨k, h⟩
theorem iZ_shl {z : Int} (k : Nat) (hk : k < 32) : iZ z <<< (iZ (k : Int) &&& 31) = iZ (z * 2 ^ k) := by
  apply Int32.toBitVec_inj.1
  show (BitVec.ofInt 32 z) <<< ((iZ (k : Int) &&& 31).toBitVec.smod 32) = BitVec.ofInt 32 (z * 2 ^ k)
  rw [show (BitVec.ofInt 32 z) <<< ((iZ (k : Int) &&& 31).toBitVec.smod 32) = (BitVec.ofInt 32 z) <<< ((iZ (k : Int) &&& 31).toBitVec.smod 32).toNat from rfl, iZ_sh5 k hk, BitVec.shiftLeft_eq_mul_twoPow, BitVec.ofInt_mul]
  congr 1
  apply BitVec.eq_of_toNat_eq
  have e1 : (2 : Int) ^ k = ((2 ^ k : Nat) : Int) := by simp
  rw [BitVec.toNat_twoPow, e1, BitVec.toNat_ofInt]
  omega
theorem iZ_ush5 (k : Nat) (h : k < 32) : ((iZ (k : Int)).toUInt32 &&& Int32.toUInt32 31).toNat % 32 = k := by
  have : ∀ n : Fin 32, ((iZ (n.val : Int)).toUInt32 &&& Int32.toUInt32 31).toNat % 32 = n.val := by decide +kernel
  exact this ⟨k, h⟩
theorem iZ_ushr {z : Int} (k : Nat) (hk : k < 32) (h : 0 ≤ z ∧ z < 2147483648) : ((iZ z).toUInt32 >>> ((iZ (k : Int)).toUInt32 &&& Int32.toUInt32 31)).toInt32 = iZ (z / 2 ^ k) := by
  apply Int32.toBitVec_inj.1
  apply BitVec.eq_of_toNat_eq
  show ((iZ z).toUInt32 >>> ((iZ (k : Int)).toUInt32 &&& Int32.toUInt32 31)).toNat = (BitVec.ofInt 32 (z / 2 ^ k)).toNat
  rw [UInt32.toNat_shiftRight, iZ_ush5 k hk, Nat.shiftRight_eq_div_pow]
  show (BitVec.ofInt 32 z).toNat / 2 ^ k = _
  rw [BitVec.toNat_ofInt, BitVec.toNat_ofInt]
  have e : (((2 ^ 32 : Nat)) : Int) = 4294967296 := by decide
  have e1 : (2 : Int) ^ k = ((2 ^ k : Nat) : Int) := by simp
  have hp : 0 < 2 ^ k := Nat.pow_pos (by omega)
  rw [e, e1]
  have h1 : z % 4294967296 = z := Int.emod_eq_of_lt h.1 (by omega)
  have h2 : 0 ≤ z / ((2 ^ k : Nat) : Int) := Int.ediv_nonneg h.1 (by omega)
  have h3 : z / ((2 ^ k : Nat) : Int) ≤ z := Int.ediv_le_self _ h.1
  rw [h1, Int.emod_eq_of_lt h2 (by omega)]
  obtain ⟨y, rfl⟩ : ∃ y : Nat, z = y := ⟨z.toNat, by omega⟩
  rw [← Int.natCast_ediv, Int.toNat_natCast, Int.toNat_natCast]
theorem iZ_or {u r : Int} (p : Nat) (hp : p < 32) (hr : 0 ≤ r ∧ r < 2 ^ p) : iZ (u * 2 ^ p) ||| iZ r = iZ (u * 2 ^ p + r) := by
  apply Int32.toBitVec_inj.1
  apply BitVec.eq_of_toNat_eq
  show (BitVec.ofInt 32 (u * 2 ^ p) ||| BitVec.ofInt 32 r).toNat = (BitVec.ofInt 32 (u * 2 ^ p + r)).toNat
  rw [BitVec.toNat_or, BitVec.toNat_ofInt, BitVec.toNat_ofInt, BitVec.toNat_ofInt]
  have e : (((2 ^ 32 : Nat)) : Int) = 4294967296 := by decide
  have e1 : (2 : Int) ^ p = ((2 ^ p : Nat) : Int) := by simp
  have hpp : 0 < 2 ^ p := Nat.pow_pos (by omega)
  have hlt : 2 ^ p ≤ 2 ^ 31 := Nat.pow_le_pow_right (by omega) (by omega)
  have e31 : 2 ^ 31 = 2147483648 := by decide
  rw [e1] at hr ⊢
  rw [e]
  have hq : (4294967296 : Int) = ((2 ^ (32 - p) : Nat) : Int) * ((2 ^ p : Nat) : Int) := by
    rw [← Int.natCast_mul, ← Nat.pow_add, show 32 - p + p = 32 by omega]; rfl
  have h1 : (u * ((2 ^ p : Nat) : Int)) % 4294967296 = (u % ((2 ^ (32 - p) : Nat) : Int)) * ((2 ^ p : Nat) : Int) := by
    rw [hq, emod_mr _ _ (by omega)]
  have hwp : 0 < 2 ^ (32 - p) := Nat.pow_pos (by omega)
  have h2 : 0 ≤ u % ((2 ^ (32 - p) : Nat) : Int) := Int.emod_nonneg _ (by omega)
  have h3 : u % ((2 ^ (32 - p) : Nat) : Int) < ((2 ^ (32 - p) : Nat) : Int) := Int.emod_lt_of_pos _ (by omega)
  obtain ⟨v, hv⟩ : ∃ v : Nat, u % ((2 ^ (32 - p) : Nat) : Int) = v := ⟨(u % ((2 ^ (32 - p) : Nat) : Int)).toNat, by omega⟩
  obtain ⟨w, hw⟩ : ∃ w : Nat, r = w := ⟨r.toNat, by omega⟩
  have h4 : (v + 1) * 2 ^ p ≤ 2 ^ (32 - p) * 2 ^ p := Nat.mul_le_mul_right _ (by omega)
  have h5 : ((v : Int) + 1) * ((2 ^ p : Nat) : Int) ≤ 4294967296 := by
    rw [hq, ← Int.natCast_mul]
    exact_mod_cast h4
  rw [Int.add_mul, Int.one_mul] at h5
  have h6 : (u * ((2 ^ p : Nat) : Int) + r) % 4294967296 = (v : Int) * ((2 ^ p : Nat) : Int) + r := by
    have h7 := Int.emod_add_mul_ediv (u * ((2 ^ p : Nat) : Int)) 4294967296
    rw [h1, hv] at h7
    have h8 : 0 ≤ (v : Int) * ((2 ^ p : Nat) : Int) := Int.mul_nonneg (by omega) (by omega)
    rw [← h7, show (v : Int) * ((2 ^ p : Nat) : Int) + 4294967296 * (u * ((2 ^ p : Nat) : Int) / 4294967296) + r = (v : Int) * ((2 ^ p : Nat) : Int) + r + 4294967296 * (u * ((2 ^ p : Nat) : Int) / 4294967296) by omega, Int.add_mul_emod_self_left, Int.emod_eq_of_lt (by omega) (by omega)]
  rw [h1, hv, h6, hw, Int.emod_eq_of_lt (a := (w : Int)) (by omega) (by omega)]
  rw [show ((v : Int) * ((2 ^ p : Nat) : Int)).toNat = 2 ^ p * v by rw [← Int.natCast_mul, Int.toNat_natCast, Nat.mul_comm], Int.toNat_natCast, show ((v : Int) * ((2 ^ p : Nat) : Int) + (w : Int)).toNat = 2 ^ p * v + w by rw [← Int.natCast_mul, ← Int.natCast_add, Int.toNat_natCast, Nat.mul_comm]]
  exact (Nat.two_pow_add_eq_or_of_lt (by omega) v).symm
/-- digits of a number shifted up by w limbs and p bits -/
def sU (d : Nat → Int) (w p t : Nat) : Int := if t < w then 0 else (d (t - w) * 2 ^ p + (if t = w then 0 else d (t - w - 1) / 2 ^ (30 - p))) % 1073741824
theorem dig_up {x : Int} {p : Nat} (hp : p < 30) (hx : 0 ≤ x ∧ x < 1073741824) : 0 ≤ x / 2 ^ (30 - p) ∧ x / 2 ^ (30 - p) < 2 ^ p ∧ x * 2 ^ p = x * 2 ^ p % 1073741824 + x / 2 ^ (30 - p) * 1073741824 ∧ 0 ≤ x * 2 ^ p % 1073741824 ∧ x * 2 ^ p % 1073741824 + 2 ^ p ≤ 1073741824 := by
  have hA : (0 : Int) < 2 ^ (30 - p) := Int.pow_pos (by omega)
  have hB : (0 : Int) < 2 ^ p := Int.pow_pos (by omega)
  have hAB : (2 : Int) ^ (30 - p) * 2 ^ p = 1073741824 := by rw [← Int.pow_add, show 30 - p + p = 30 by omega]; rfl
  have h1 : x * 2 ^ p % 1073741824 = x % 2 ^ (30 - p) * 2 ^ p := by
    rw [← hAB, emod_mr _ _ hB]
  have h2 := Int.emod_add_mul_ediv x (2 ^ (30 - p))
  have h3 : 0 ≤ x % 2 ^ (30 - p) := Int.emod_nonneg _ (by omega)
  have h4 : x % 2 ^ (30 - p) < 2 ^ (30 - p) := Int.emod_lt_of_pos _ hA
  have h5 : 0 ≤ x / 2 ^ (30 - p) := Int.ediv_nonneg hx.1 (by omega)
  refine ⟨h5, ?_, ?_, ?_, ?_⟩
  · exact Int.ediv_lt_of_lt_mul hA (by rw [Int.mul_comm, hAB]; exact hx.2)
  · rw [h1, ← hAB]
    calc x * 2 ^ p = (x % 2 ^ (30 - p) + 2 ^ (30 - p) * (x / 2 ^ (30 - p))) * 2 ^ p := by rw [h2]
      _ = _ := by rw [Int.add_mul]; congr 1; simp only [Int.mul_assoc, Int.mul_comm, Int.mul_left_comm]
  · rw [h1]; exact Int.mul_nonneg h3 (by omega)
  · rw [h1]
    have h6 := Int.mul_le_mul_of_nonneg_right (show x % 2 ^ (30 - p) + 1 ≤ 2 ^ (30 - p) by omega) (Int.le_of_lt hB)
    rw [Int.add_mul, hAB, Int.one_mul] at h6
    exact h6
theorem dig_add {x y : Int} {p : Nat} (hp : p < 30) (hx : 0 ≤ x ∧ x < 1073741824) (hy : 0 ≤ y ∧ y < 2 ^ p) : (x * 2 ^ p + y) % 1073741824 = x * 2 ^ p % 1073741824 + y := by
  obtain ⟨h1, h2, h3, h4, h5⟩ := dig_up hp hx
  rw [h3, show x * 2 ^ p % 1073741824 + x / 2 ^ (30 - p) * 1073741824 + y = x * 2 ^ p % 1073741824 + y + 1073741824 * (x / 2 ^ (30 - p)) by omega, Int.add_mul_emod_self_left, Int.emod_eq_of_lt (by omega) (by omega)]
  omega
theorem sU_r {d : Nat → Int} {w p t : Nat} : 0 ≤ sU d w p t ∧ sU d w p t < 1073741824 := by
  unfold sU
  split
  · omega
  · exact ⟨Int.emod_nonneg _ (by omega), Int.emod_lt_of_pos _ (by omega)⟩
theorem sU_0 {d : Nat → Int} {p : Nat} (hp : p < 30) (hd : ∀ t : Nat, 0 ≤ d t ∧ d t < 1073741824) : ∀ j : Nat, zq (sU d 0 p) j + (if j = 0 then 0 else d (j - 1) / 2 ^ (30 - p)) * 2 ^ (30 * j) = zq d j * 2 ^ p := by
  intro j
  induction j with
  | zero => simp [zq]
  | succ j ih =>
    have hB : (0 : Int) < 2 ^ p := Int.pow_pos (by omega)
    obtain ⟨h1, h2, h3, h4, h5⟩ := dig_up hp (hd j)
    have e : sU d 0 p j = d j * 2 ^ p % 1073741824 + (if j = 0 then 0 else d (j - 1) / 2 ^ (30 - p)) := by
      unfold sU
      rw [if_neg (by omega)]
      by_cases hj : j = 0
      · rw [if_pos hj, if_pos hj, Int.add_zero, Int.add_zero]; rfl
      · rw [if_neg hj, if_neg hj]
        obtain ⟨g1, g2, _⟩ := dig_up hp (hd (j - 1))
        exact dig_add hp (hd j) ⟨g1, g2⟩
    rw [if_neg (by omega), p30, Nat.add_sub_cancel]
    simp only [zq]
    rw [e, Int.add_mul, Int.add_mul, ← ih]
    have e2 : d j * 2 ^ (30 * j) * 2 ^ p = d j * 2 ^ p % 1073741824 * 2 ^ (30 * j) + d j / 2 ^ (30 - p) * (2 ^ (30 * j) * 1073741824) := by
      calc d j * 2 ^ (30 * j) * 2 ^ p = d j * 2 ^ p * 2 ^ (30 * j) := by simp only [Int.mul_assoc, Int.mul_comm, Int.mul_left_comm]
        _ = (d j * 2 ^ p % 1073741824 + d j / 2 ^ (30 - p) * 1073741824) * 2 ^ (30 * j) := by rw [← h3]
        _ = _ := by rw [Int.add_mul]; congr 1; simp only [Int.mul_assoc, Int.mul_comm, Int.mul_left_comm]
    omega
theorem sU_w {d : Nat → Int} {p w : Nat} : ∀ j : Nat, zq (sU d w p) (w + j) = 2 ^ (30 * w) * zq (sU d 0 p) j := by
  intro j
  induction j with
  | zero =>
    have h : ∀ i : Nat, i ≤ w → zq (sU d w p) i = 0 := by
      intro i
      induction i with
      | zero => intro _; rfl
      | succ i ih =>
        intro hi
        simp only [zq]
        rw [ih (by omega), show sU d w p i = 0 from if_pos (by omega), Int.zero_mul]; rfl
    rw [Nat.add_zero, h w (Nat.le_refl w)]; simp [zq]
  | succ j ih =>
    rw [← Nat.add_assoc]
    simp only [zq]
    rw [ih, Int.mul_add]
    congr 1
    have e : sU d w p (w + j) = sU d 0 p j := by
      show (if w + j < w then 0 else (d (w + j - w) * 2 ^ p + (if w + j = w then 0 else d (w + j - w - 1) / 2 ^ (30 - p))) % 1073741824) = (if j < 0 then 0 else (d (j - 0) * 2 ^ p + (if j = 0 then 0 else d (j - 0 - 1) / 2 ^ (30 - p))) % 1073741824)
      have e1 : w + j - w = j := by omega
      rw [if_neg (show ¬ w + j < w by omega), if_neg (show ¬ j < 0 by omega), e1, Nat.sub_zero]
      by_cases hj : j = 0
      · rw [if_pos (show w + j = w by omega), if_pos hj]
      · rw [if_neg (show ¬ w + j = w by omega), if_neg hj]
    rw [e, Nat.mul_add, Int.pow_add]
    simp only [Int.mul_assoc, Int.mul_comm, Int.mul_left_comm]
theorem sU_all {f : Nat → Int32} {k w p : Nat} (hp : p < 30) (hf : lim f k) : zq (sU (wd f k) w p) (k + w + 1) = zw f k * 2 ^ (30 * w + p) := by
  have h1 := sU_0 hp (wd_r hf) (k + 1)
  rw [if_neg (by omega), Nat.add_sub_cancel, wd_out (by omega), Int.zero_ediv, Int.zero_mul, Int.add_zero, zq_wd (by omega)] at h1
  rw [show k + w + 1 = w + (k + 1) by omega, sU_w, h1, Int.pow_add]
  simp only [Int.mul_assoc, Int.mul_comm, Int.mul_left_comm]
/-- digits of a number shifted down -/
def sD (d : Nat → Int) (w p t : Nat) : Int := (d (t + w + 1) * 2 ^ (30 - p) + d (t + w) / 2 ^ p) % 1073741824
theorem sD_r {d : Nat → Int} {w p t : Nat} : 0 ≤ sD d w p t ∧ sD d w p t < 1073741824 := ⟨Int.emod_nonneg _ (by omega), Int.emod_lt_of_pos _ (by omega)⟩
theorem sD_dig {x y : Int} {p : Nat} (hp : p < 30) (hx : 0 ≤ x ∧ x < 1073741824) : ((y * 2 ^ (30 - p) + x / 2 ^ p) % 1073741824) * 2 ^ p + x % 2 ^ p = x + (y % 2 ^ p) * 1073741824 := by
  have hA : (0 : Int) < 2 ^ (30 - p) := Int.pow_pos (by omega)
  have hB : (0 : Int) < 2 ^ p := Int.pow_pos (by omega)
  have hAB : (2 : Int) ^ p * 2 ^ (30 - p) = 1073741824 := by rw [← Int.pow_add, show p + (30 - p) = 30 by omega]; rfl
  have h1 : y * 2 ^ (30 - p) % 1073741824 = y % 2 ^ p * 2 ^ (30 - p) := by
    rw [← hAB, emod_mr _ _ hA]
  have h2 := Int.emod_add_mul_ediv x (2 ^ p)
  have h3 : 0 ≤ y % 2 ^ p := Int.emod_nonneg _ (by omega)
  have h4 : y % 2 ^ p < 2 ^ p := Int.emod_lt_of_pos _ hB
  have h5 : 0 ≤ x / 2 ^ p := Int.ediv_nonneg hx.1 (by omega)
  have h6 : x / 2 ^ p < 2 ^ (30 - p) := Int.ediv_lt_of_lt_mul hB (by rw [Int.mul_comm, hAB]; exact hx.2)
  have h7 := Int.mul_le_mul_of_nonneg_right (show y % 2 ^ p + 1 ≤ 2 ^ p by omega) (Int.le_of_lt hA)
  rw [Int.add_mul, hAB, Int.one_mul] at h7
  have h8 : 0 ≤ y % 2 ^ p * 2 ^ (30 - p) := Int.mul_nonneg h3 (by omega)
  have h9 : (y * 2 ^ (30 - p) + x / 2 ^ p) % 1073741824 = y % 2 ^ p * 2 ^ (30 - p) + x / 2 ^ p := by
    have g := Int.emod_add_mul_ediv (y * 2 ^ (30 - p)) 1073741824
    rw [h1] at g
    rw [← g, show y % 2 ^ p * 2 ^ (30 - p) + 1073741824 * (y * 2 ^ (30 - p) / 1073741824) + x / 2 ^ p = y % 2 ^ p * 2 ^ (30 - p) + x / 2 ^ p + 1073741824 * (y * 2 ^ (30 - p) / 1073741824) by omega, Int.add_mul_emod_self_left, Int.emod_eq_of_lt (by omega) (by omega)]
  rw [h9, Int.add_mul, Int.mul_assoc, Int.mul_comm (2 ^ (30 - p)), hAB, Int.mul_comm (x / 2 ^ p)]
  omega
theorem sD_0 {d : Nat → Int} {w p : Nat} (hp : p < 30) (hd : ∀ t : Nat, 0 ≤ d t ∧ d t < 1073741824) : ∀ j : Nat, zq (sD d w p) j * 2 ^ p + d w % 2 ^ p = zq (fun t => d (t + w)) j + (d (j + w) % 2 ^ p) * 2 ^ (30 * j) := by
  intro j
  induction j with
  | zero => simp [zq]
  | succ j ih =>
    have e := sD_dig (y := d (j + w + 1)) hp (hd (j + w))
    have e0 : sD d w p j = (d (j + w + 1) * 2 ^ (30 - p) + d (j + w) / 2 ^ p) % 1073741824 := rfl
    rw [← e0] at e
    simp only [zq]
    rw [p30, Int.add_mul, show j + 1 + w = j + w + 1 by omega]
    have e2 : (sD d w p j * 2 ^ p + d (j + w) % 2 ^ p) * 2 ^ (30 * j) = (d (j + w) + d (j + w + 1) % 2 ^ p * 1073741824) * 2 ^ (30 * j) := by rw [e]
    rw [Int.add_mul, Int.add_mul] at e2
    have e3 : sD d w p j * 2 ^ (30 * j) * 2 ^ p = sD d w p j * 2 ^ p * 2 ^ (30 * j) := by simp only [Int.mul_assoc, Int.mul_comm, Int.mul_left_comm]
    have e4 : d (j + w + 1) % 2 ^ p * (2 ^ (30 * j) * 1073741824) = d (j + w + 1) % 2 ^ p * 1073741824 * 2 ^ (30 * j) := by simp only [Int.mul_assoc, Int.mul_comm, Int.mul_left_comm]
    omega
theorem zq_split {d : Nat → Int} {w : Nat} : ∀ j : Nat, zq d (w + j) = zq d w + 2 ^ (30 * w) * zq (fun t => d (t + w)) j := by
  intro j
  induction j with
  | zero => simp [zq]
  | succ j ih =>
    rw [← Nat.add_assoc]
    simp only [zq]
    rw [ih, Int.mul_add, Nat.mul_add, Int.pow_add, Nat.add_comm j w]
    have : d (w + j) * (2 ^ (30 * w) * 2 ^ (30 * j)) = 2 ^ (30 * w) * (d (w + j) * 2 ^ (30 * j)) := by simp only [Int.mul_assoc, Int.mul_comm, Int.mul_left_comm]
    omega
theorem zq_r {d : Nat → Int} (hd : ∀ t : Nat, 0 ≤ d t ∧ d t < 1073741824) : ∀ j : Nat, 0 ≤ zq d j ∧ zq d j < 2 ^ (30 * j) := by
  intro j
  induction j with
  | zero => simp [zq]
  | succ j ih =>
    rw [p30]
    simp only [zq]
    have h2 : d j ≤ 1073741823 := by have := hd j; omega
    have h3 := Int.mul_le_mul_of_nonneg_right h2 (Int.le_of_lt (p30_pos j))
    have h4 := Int.mul_nonneg (hd j).1 (Int.le_of_lt (p30_pos j))
    omega
theorem sD_all {f : Nat → Int32} {k w p : Nat} (hp : p < 30) (hf : lim f k) : zq (sD (wd f k) w p) k = zw f k / 2 ^ (30 * w + p) := by
  have hd := wd_r hf
  have h1 := sD_0 (w := w) hp hd k
  rw [wd_out (k := k + w) (by omega), Int.zero_emod, Int.zero_mul, Int.add_zero] at h1
  have h2 := zq_split (d := wd f k) (w := w) k
  rw [zq_wd (by omega)] at h2
  have hB : (0 : Int) < 2 ^ p := Int.pow_pos (by omega)
  have h3 := zq_r hd w
  have h4 : 0 ≤ wd f k w % 2 ^ p := Int.emod_nonneg _ (by omega)
  have h5 : wd f k w % 2 ^ p < 2 ^ p := Int.emod_lt_of_pos _ hB
  have hW := p30_pos w
  have h6 := Int.mul_le_mul_of_nonneg_left (show wd f k w % 2 ^ p + 1 ≤ 2 ^ p by omega) (Int.le_of_lt hW)
  have h7 := Int.mul_nonneg (Int.le_of_lt hW) h4
  rw [← h1, Int.mul_add] at h2
  rw [Int.mul_add, Int.mul_one, ← Int.pow_add] at h6
  have h8 : zw f k = (zq (wd f k) w + 2 ^ (30 * w) * (wd f k w % 2 ^ p)) + 2 ^ (30 * w + p) * zq (sD (wd f k) w p) k := by
    rw [h2, Int.pow_add]
    have : 2 ^ (30 * w) * (zq (sD (wd f k) w p) k * 2 ^ p) = 2 ^ (30 * w) * 2 ^ p * zq (sD (wd f k) w p) k := by simp only [Int.mul_assoc, Int.mul_comm, Int.mul_left_comm]
    omega
  have hT : (0 : Int) < 2 ^ (30 * w + p) := Int.pow_pos (by omega)
  rw [h8, Int.add_mul_ediv_left _ _ (by omega), Int.ediv_eq_zero_of_lt (by omega) (by omega), Int.zero_add]
theorem zw_zq {h : Nat → Int32} {d : Nat → Int} : ∀ {n : Nat}, (∀ t : Nat, t < n → (h t).toInt = d t) → zw h n = zq d n
  | 0, _ => rfl
  | n + 1, hh => by
    have h1 := zw_zq (n := n) (fun t ht => hh t (by omega))
    simp only [zw, zq, h1, hh n (by omega)]
theorem zw_bit {f : Nat → Int32} {k i r : Nat} (hf : lim f k) (hi : i < k) (hr : r < 30) : zw f k / 2 ^ (30 * i + r) % 2 = (f i).toInt / 2 ^ r % 2 := by
  have h1 := zw_split (f := f) (i := i) (k := k - i)
  rw [show i + (k - i) = k by omega] at h1
  have h2 := zw_split (f := fun j => f (i + j)) (i := 1) (k := k - i - 1)
  rw [show 1 + (k - i - 1) = k - i by omega] at h2
  have h3 := zw_nonneg (lim_le hf (show i ≤ k by omega))
  have h4 := zw_lt (lim_le hf (show i ≤ k by omega))
  have e1 : zw (fun j => f (i + j)) 1 = (f i).toInt := by simp [zw]
  rw [e1] at h2
  have hP := p30_pos i
  have hR : (0 : Int) < 2 ^ r := Int.pow_pos (by omega)
  rw [h1, Int.pow_add, ← Int.ediv_ediv_of_nonneg (by omega), Int.add_mul_ediv_left _ _ (by omega), Int.ediv_eq_zero_of_lt h3 h4, Int.zero_add, h2]
  have e2 : (2 : Int) ^ (30 * 1) = 2 ^ r * (2 * 2 ^ (29 - r)) := by
    rw [show (2 : Int) * 2 ^ (29 - r) = 2 ^ (29 - r + 1) by rw [Int.pow_succ]; omega, ← Int.pow_add, show r + (29 - r + 1) = 30 * 1 by omega]
  rw [e2, Int.mul_assoc, Int.add_mul_ediv_left _ _ (by omega), Int.mul_assoc, Int.add_mul_emod_self_left]
theorem sU_eq {d : Nat → Int} {w p t : Nat} : sU d w p t = ((if t < w then 0 else d (t - w)) * 2 ^ p + (if t ≤ w then 0 else d (t - w - 1)) / 2 ^ (30 - p)) % 1073741824 := by
  unfold sU
  by_cases h1 : t < w
  · rw [if_pos h1, if_pos h1, if_pos (by omega), Int.zero_mul, Int.zero_ediv]; rfl
  · rw [if_neg h1, if_neg h1]
    by_cases h2 : t = w
    · rw [if_pos h2, if_pos (by omega), Int.zero_ediv]
    · rw [if_neg h2, if_neg (by omega)]
set_option maxHeartbeats 4000000 in
set_option maxRecDepth 100000 in
/-- shiftUp -/
theorem cw_shiftUp (l : Launch) (D : va_G) (G : Nat → ClassId) (X : va_W) (a b n k bits : Nat) (f : Nat → Int32) (x : Int) (hn1 : 1 ≤ n) (hn : n ≤ 2048) (hx : wN n f k x) (hk : k + bits / 30 + 1 ≤ 1024) (sz hs : Nat) : Met l yX3_shiftUp (wC yX3_shiftUp cX3_shiftUp 9 none) ({ frames := 2, cells := 11, slots := 4096, locals := 62 }) (va_Pc [.ref a, .int (iZ ((bits : Int)))] (cPre nT D G ((a, .inr (3, [.ref b, .int (iZ ((k : Int))), .int (iZ (x.sign))])) :: (b, .inl (G 0, n, .inl f)) :: X : va_W) sz hs)) (va_Qv (fun u : cS => ∃ (b1 n1 k1 : Nat) (f1 : Nat → Int32) (dc ds : Nat), n ≤ n1 ∧ n1 ≤ 2048 ∧ wN n1 f1 k1 (x * 2 ^ bits) ∧ dc + gc n ≤ gc n1 ∧ ds + 2 * n ≤ 2 * n1 ∧ u = (((a, .inr (3, [.ref b1, .int (iZ ((k1 : Int))), .int (iZ ((x * 2 ^ bits).sign))])) :: (b1, .inl (G 0, n1, .inl f1)) :: X : va_W), dc, ds)) (cAt D G (va_A ((a, .inr (3, [.ref b, .int (iZ ((k : Int))), .int (iZ (x.sign))])) :: (b, .inl (G 0, n, .inl f)) :: X : va_W) sz) sz hs) (va_A ((a, .inr (3, [.ref b, .int (iZ ((k : Int))), .int (iZ (x.sign))])) :: (b, .inl (G 0, n, .inl f)) :: X : va_W) sz)) 11 4096 (va_A ((a, .inr (3, [.ref b, .int (iZ ((k : Int))), .int (iZ (x.sign))])) :: (b, .inl (G 0, n, .inl f)) :: X : va_W) sz) := by
  refine g_met (cc := cX3_shiftUp) (maxL := 9) (ret := none) (own := RX3) (by decide) rfl rfl (Nat.le_of_ble_eq_true rfl) ?_
  intro p e s m below meth c hsz hhs hNs hA C hr hlk
  refine w_sub [(0, .ref a), (1, .int (iZ ((bits : Int))))] [0, 1] rfl ?_
  obtain ⟨hx1, hx2, hx3, hx4⟩ := id hx
  have hs1 := sgn_r x
  obtain ⟨w, hw⟩ : ∃ w : Nat, w = bits / 30 := ⟨_, rfl⟩
  obtain ⟨pp, hpp⟩ : ∃ q : Nat, q = bits % 30 := ⟨_, rfl⟩
  have hp30 : pp < 30 := by omega
  have hbits : bits = 30 * w + pp := by omega
  refine w_aload_n C dX3_shiftUp_0 0 rfl ?_
  refine w_get (ci := 3) (ref := "RootIsolator$Whole") (T := TX3) (Cn := RX3) (N := 3) C (fun w h => wC_in (inX3 w h)) 0 rfl rfl 2 (by decide) (wC_in fX3_17) rfl rfl dX3_shiftUp_1 ?_
  refine w_if_eq C 11 dX3_shiftUp_4 (by decide) ⟨by omega, by omega⟩ (fun c4 => ?_) (fun c4 => ?_)
  · have hz : x * 2 ^ bits = x := by rw [sgn_zero c4, Int.zero_mul]
    exact g_vret hsz hhs C hr hlk ⟨Nat.zero_le _, Nat.zero_le _⟩ (⟨b, n, k, f, 0, 0, by omega, by omega, by rw [hz]; exact hx, by omega, by omega, by rw [hz]⟩) dX3_shiftUp_11
  · refine w_iload_n C dX3_shiftUp_7 1 rfl ?_
    refine w_if_gt C 12 dX3_shiftUp_8 (by decide) ⟨by omega, by omega⟩ (fun c8 => ?_) (fun c8 => ?_)
    · refine w_iload_n C dX3_shiftUp_12 1 rfl ?_
      refine w_bipush C dX3_shiftUp_13 (by decide) ?_
      refine w_idiv C dX3_shiftUp_15 (by decide) (v := (iZ ((w : Int)))) (by rw [hw]; exact iZ_divN bits 30 (by omega) (by omega) (by omega)) ?_
      refine w_istore_n C [(2, .int (iZ ((w : Int)))), (0, .ref a), (1, .int (iZ ((bits : Int))))] dX3_shiftUp_16 rfl (by decide) rfl ?_
      refine w_iload_n C dX3_shiftUp_17 2 rfl ?_
      refine w_bipush C dX3_shiftUp_18 (by decide) ?_
      refine w_irem C dX3_shiftUp_20 (by decide) (v := (iZ ((pp : Int)))) (by rw [hpp]; exact iZ_remN bits 30 (by omega) (by omega) (by omega)) ?_
      refine w_istore_n C [(3, .int (iZ ((pp : Int)))), (2, .int (iZ ((w : Int)))), (0, .ref a), (1, .int (iZ ((bits : Int))))] dX3_shiftUp_21 rfl (by decide) rfl ?_
      refine w_aload_n C dX3_shiftUp_22 2 rfl ?_
      refine w_get (ci := 3) (ref := "RootIsolator$Whole") (T := TX3) (Cn := RX3) (N := 3) C (fun w h => wC_in (inX3 w h)) 0 rfl rfl 1 (by decide) (wC_in fX3_13) rfl rfl dX3_shiftUp_23 ?_
      refine w_iload_n C dX3_shiftUp_26 1 rfl ?_
      refine w_iadd C dX3_shiftUp_27 ?_
      refine w_iconst C dX3_shiftUp_28 ?_
      refine w_iadd C dX3_shiftUp_29 ?_
      refine w_top C (((k + w + 1 : Nat) : Int)) (by omega) ?_
      refine w_istore C [(4, .int (iZ (((k + w + 1 : Nat) : Int)))), (3, .int (iZ ((pp : Int)))), (2, .int (iZ ((w : Int)))), (0, .ref a), (1, .int (iZ ((bits : Int))))] dX3_shiftUp_30 (by decide) rfl ?_
      refine w_aload_n C dX3_shiftUp_32 3 rfl ?_
      refine w_iload C dX3_shiftUp_33 0 rfl ?_
      refine g_callv [.int (iZ (((k + w + 1 : Nat) : Int)))] hA C hNs nT_ok (cw_makeRoom l D G X a b n (k + w + 1) f (iZ (k : Int)) (iZ x.sign) hn1 hn (by omega)) (cwV 1 C.1.2.2.2.2 (wC_V kX3_22 nX3_makeRoom slX3_makeRoom iniX3 cdX3_makeRoom) rfl rfl rfl (by decide +kernel) ⟨Nat.le_of_ble_eq_true rfl, Nat.le_of_ble_eq_true rfl⟩) (q0 := 0) rfl rfl rfl rfl ⟨Nat.le_of_ble_eq_true rfl, Nat.le_of_ble_eq_true rfl⟩ (Nat.le_of_ble_eq_true rfl) dX3_shiftUp_35 [.int (iZ (((k + w + 1 : Nat) : Int))), .ref a] rfl (fun v1 hv1 => ?_)
      obtain ⟨b1, n1, f1, dc, ds, r1, r2, r3, r4, r5, r6, rfl⟩ := hv1
      refine w_cs dc ds (Nat.zero_add dc) (Nat.zero_add ds) ?_
      have r7 := gc_le r2
      have hf1 : ∀ i : Nat, i < k → f1 i = f i := fun i hi => r4 i (by omega)
      refine w_iload C dX3_shiftUp_38 0 rfl ?_
      refine w_iconst C dX3_shiftUp_40 ?_
      refine w_isub C dX3_shiftUp_41 ?_
      refine w_top C (((k + w + 1 : Nat) : Int) - 1) (rfl) ?_
      refine w_istore C [(5, .int (iZ (((k + w + 1 : Nat) : Int) - 1))), (4, .int (iZ (((k + w + 1 : Nat) : Int)))), (3, .int (iZ ((pp : Int)))), (2, .int (iZ ((w : Int)))), (0, .ref a), (1, .int (iZ ((bits : Int))))] dX3_shiftUp_42 (by decide) rfl ?_
      have lp : ∀ (d : Nat) (i : Nat) (h : Nat → Int32), i < d → i ≤ k + w + 1 → (∀ j : Nat, j < i → h j = f1 j) → (∀ j : Nat, i ≤ j → j < k + w + 1 → (h j).toInt = sU (wd f k) w pp j) → ZW p l e ({ frames := 2, cells := 11, slots := 4096, locals := 62 }) s m ([.ref a, .int (iZ ((bits : Int)))] : List Value).toArray below meth c D (va_A ((a, .inr (3, [.ref b, .int (iZ ((k : Int))), .int (iZ (x.sign))])) :: (b, .inl (G 0, n, .inl f)) :: X : va_W) sz) 9 dc ds (MQ below (va_Qv (fun u : cS => ∃ (b1 n1 k1 : Nat) (f1 : Nat → Int32) (dc ds : Nat), n ≤ n1 ∧ n1 ≤ 2048 ∧ wN n1 f1 k1 (x * 2 ^ bits) ∧ dc + gc n ≤ gc n1 ∧ ds + 2 * n ≤ 2 * n1 ∧ u = (((a, .inr (3, [.ref b1, .int (iZ ((k1 : Int))), .int (iZ ((x * 2 ^ bits).sign))])) :: (b1, .inl (G 0, n1, .inl f1)) :: X : va_W), dc, ds)) (cAt D G (va_A ((a, .inr (3, [.ref b, .int (iZ ((k : Int))), .int (iZ (x.sign))])) :: (b, .inl (G 0, n, .inl f)) :: X : va_W) sz) sz hs) (va_A ((a, .inr (3, [.ref b, .int (iZ ((k : Int))), .int (iZ (x.sign))])) :: (b, .inl (G 0, n, .inl f)) :: X : va_W) sz)) ([.ref a, .int (iZ ((bits : Int)))] : List Value).toArray s 11 4096 (va_A ((a, .inr (3, [.ref b, .int (iZ ((k : Int))), .int (iZ (x.sign))])) :: (b, .inl (G 0, n, .inl f)) :: X : va_W) sz)) ((a, .inr (3, [.ref b1, .int (iZ ((k : Int))), .int (iZ (x.sign))])) :: (b1, .inl (G 0, n1, .inl h)) :: X : va_W) 44 [(5, .int (iZ ((i : Int) - 1))), (4, .int (iZ (((k + w + 1 : Nat) : Int)))), (3, .int (iZ ((pp : Int)))), (2, .int (iZ ((w : Int)))), (0, .ref a), (1, .int (iZ ((bits : Int))))] [] := by
        intro d
        induction d with
        | zero =>
          intro i h hd hi hlo hdone
          exact absurd hd (by omega)
        | succ d ih2 =>
          intro i h hd hi hlo hdone
          refine w_iload C dX3_shiftUp_44 0 rfl ?_
          refine w_if_lt C 140 dX3_shiftUp_46 (by decide) ⟨by omega, by omega⟩ (fun c46 => ?_) (fun c46 => ?_)
          · have hi0 : i = 0 := by omega
            subst hi0
            have hlim : lim h (k + w + 1) := fun j hj => by rw [hdone j (by omega) hj]; exact sU_r
            have hval : zw h (k + w + 1) = (x.natAbs : Int) * 2 ^ bits := by rw [zw_zq (fun j hj => hdone j (by omega) hj), sU_all hp30 hx2, hx4, hbits]
            have hx2v : x.sign * ((x.natAbs : Int) * 2 ^ bits) = x * 2 ^ bits := by rw [← Int.mul_assoc, Int.sign_mul_natAbs]
            refine w_aload_n C dX3_shiftUp_140 4 rfl ?_
            refine w_iload C dX3_shiftUp_141 1 rfl ?_
            refine g_callv [.int (iZ (((k + w + 1 : Nat) : Int)))] hA C hNs nT_ok (cw_trim l D G X a b1 n1 (k + w + 1) h (iZ (k : Int)) (x.sign) (by omega) (by omega) (sgn_r _)) (cwV 1 C.1.2.2.2.2 (wC_V kX3_36 nX3_trim slX3_trim iniX3 cdX3_trim) rfl rfl rfl (by decide +kernel) ⟨Nat.le_of_ble_eq_true rfl, Nat.le_of_ble_eq_true rfl⟩) (q0 := 0) rfl rfl rfl rfl ⟨by show dc + 0 ≤ 11; omega, by show ds + 0 ≤ 4096; omega⟩ (Nat.le_of_ble_eq_true rfl) dX3_shiftUp_143 [.int (iZ (((k + w + 1 : Nat) : Int))), .ref a] rfl (fun v102 hv102 => ?_)
            obtain ⟨j, j1, j2, j3, rfl⟩ := hv102
            refine w_cs dc ds rfl rfl ?_
            obtain ⟨t1, t2⟩ := wN_trim (n := n1) (N := k + w + 1) (sg := x.sign) (by omega) hlim j1 j2 j3 ((sgn_one c4).imp id Or.inl)
            rw [hval, hx2v] at t1 t2
            exact g_vret hsz hhs C hr hlk ⟨by omega, by omega⟩ (⟨b1, n1, j, h, dc, ds, by omega, by omega, t1, by omega, by omega, by rw [t2]⟩) dX3_shiftUp_146
          · obtain ⟨t, rfl⟩ : ∃ t : Nat, i = t + 1 := ⟨i - 1, by omega⟩
            refine w_sub [(5, .int (iZ (t : Int))), (4, .int (iZ ((k + w + 1 : Nat) : Int))), (3, .int (iZ (pp : Int))), (2, .int (iZ (w : Int))), (0, .ref a), (1, .int (iZ (bits : Int)))] [0, 1, 2, 3, 4, 5] (by rw [show ((t + 1 : Nat) : Int) - 1 = (t : Int) by omega]; rfl) ?_
            obtain ⟨U, hU⟩ : ∃ U : Int, U = (if t < w then 0 else wd f k (t - w)) := ⟨_, rfl⟩
            obtain ⟨V, hV⟩ : ∃ V : Int, V = (if t ≤ w then 0 else wd f k (t - w - 1)) := ⟨_, rfl⟩
            have hUr : 0 ≤ U ∧ U < 1073741824 := by
              rw [hU]; split
              · omega
              · exact wd_r hx2 _
            have hVr : 0 ≤ V ∧ V < 1073741824 := by
              rw [hV]; split
              · omega
              · exact wd_r hx2 _
            have hdg := dig_up hp30 hVr
            refine w_iload C dX3_shiftUp_49 0 rfl ?_
            refine w_iload_n C dX3_shiftUp_51 3 rfl ?_
            refine w_isub C dX3_shiftUp_52 ?_
            refine w_istore C [(6, .int (iZ ((t : Int) - (w : Int)))), (5, .int (iZ ((t : Int)))), (4, .int (iZ (((k + w + 1 : Nat) : Int)))), (3, .int (iZ ((pp : Int)))), (2, .int (iZ ((w : Int)))), (0, .ref a), (1, .int (iZ ((bits : Int))))] dX3_shiftUp_53 (by decide) rfl ?_
            refine w_iload C dX3_shiftUp_55 0 rfl ?_
            have J103 : ZW p l e ({ frames := 2, cells := 11, slots := 4096, locals := 62 }) s m ([.ref a, .int (iZ ((bits : Int)))] : List Value).toArray below meth c D (va_A ((a, .inr (3, [.ref b, .int (iZ ((k : Int))), .int (iZ (x.sign))])) :: (b, .inl (G 0, n, .inl f)) :: X : va_W) sz) 9 dc ds (MQ below (va_Qv (fun u : cS => ∃ (b1 n1 k1 : Nat) (f1 : Nat → Int32) (dc ds : Nat), n ≤ n1 ∧ n1 ≤ 2048 ∧ wN n1 f1 k1 (x * 2 ^ bits) ∧ dc + gc n ≤ gc n1 ∧ ds + 2 * n ≤ 2 * n1 ∧ u = (((a, .inr (3, [.ref b1, .int (iZ ((k1 : Int))), .int (iZ ((x * 2 ^ bits).sign))])) :: (b1, .inl (G 0, n1, .inl f1)) :: X : va_W), dc, ds)) (cAt D G (va_A ((a, .inr (3, [.ref b, .int (iZ ((k : Int))), .int (iZ (x.sign))])) :: (b, .inl (G 0, n, .inl f)) :: X : va_W) sz) sz hs) (va_A ((a, .inr (3, [.ref b, .int (iZ ((k : Int))), .int (iZ (x.sign))])) :: (b, .inl (G 0, n, .inl f)) :: X : va_W) sz)) ([.ref a, .int (iZ ((bits : Int)))] : List Value).toArray s 11 4096 (va_A ((a, .inr (3, [.ref b, .int (iZ ((k : Int))), .int (iZ (x.sign))])) :: (b, .inl (G 0, n, .inl f)) :: X : va_W) sz)) ((a, .inr (3, [.ref b1, .int (iZ ((k : Int))), .int (iZ (x.sign))])) :: (b1, .inl (G 0, n1, .inl h)) :: X : va_W) 80 [(6, .int (iZ ((t : Int) - (w : Int)))), (5, .int (iZ ((t : Int)))), (4, .int (iZ (((k + w + 1 : Nat) : Int)))), (3, .int (iZ ((pp : Int)))), (2, .int (iZ ((w : Int)))), (0, .ref a), (1, .int (iZ ((bits : Int))))] [.int (iZ (U))] := by
              refine w_istore C [(7, .int (iZ (U))), (6, .int (iZ ((t : Int) - (w : Int)))), (5, .int (iZ ((t : Int)))), (4, .int (iZ (((k + w + 1 : Nat) : Int)))), (3, .int (iZ ((pp : Int)))), (2, .int (iZ ((w : Int)))), (0, .ref a), (1, .int (iZ ((bits : Int))))] dX3_shiftUp_80 (by decide) rfl ?_
              refine w_iload C dX3_shiftUp_82 1 rfl ?_
              refine w_iconst C dX3_shiftUp_84 ?_
              have J104 : ZW p l e ({ frames := 2, cells := 11, slots := 4096, locals := 62 }) s m ([.ref a, .int (iZ ((bits : Int)))] : List Value).toArray below meth c D (va_A ((a, .inr (3, [.ref b, .int (iZ ((k : Int))), .int (iZ (x.sign))])) :: (b, .inl (G 0, n, .inl f)) :: X : va_W) sz) 9 dc ds (MQ below (va_Qv (fun u : cS => ∃ (b1 n1 k1 : Nat) (f1 : Nat → Int32) (dc ds : Nat), n ≤ n1 ∧ n1 ≤ 2048 ∧ wN n1 f1 k1 (x * 2 ^ bits) ∧ dc + gc n ≤ gc n1 ∧ ds + 2 * n ≤ 2 * n1 ∧ u = (((a, .inr (3, [.ref b1, .int (iZ ((k1 : Int))), .int (iZ ((x * 2 ^ bits).sign))])) :: (b1, .inl (G 0, n1, .inl f1)) :: X : va_W), dc, ds)) (cAt D G (va_A ((a, .inr (3, [.ref b, .int (iZ ((k : Int))), .int (iZ (x.sign))])) :: (b, .inl (G 0, n, .inl f)) :: X : va_W) sz) sz hs) (va_A ((a, .inr (3, [.ref b, .int (iZ ((k : Int))), .int (iZ (x.sign))])) :: (b, .inl (G 0, n, .inl f)) :: X : va_W) sz)) ([.ref a, .int (iZ ((bits : Int)))] : List Value).toArray s 11 4096 (va_A ((a, .inr (3, [.ref b, .int (iZ ((k : Int))), .int (iZ (x.sign))])) :: (b, .inl (G 0, n, .inl f)) :: X : va_W) sz)) ((a, .inr (3, [.ref b1, .int (iZ ((k : Int))), .int (iZ (x.sign))])) :: (b1, .inl (G 0, n1, .inl h)) :: X : va_W) 110 [(7, .int (iZ (U))), (6, .int (iZ ((t : Int) - (w : Int)))), (5, .int (iZ ((t : Int)))), (4, .int (iZ (((k + w + 1 : Nat) : Int)))), (3, .int (iZ ((pp : Int)))), (2, .int (iZ ((w : Int)))), (0, .ref a), (1, .int (iZ ((bits : Int))))] [.int (iZ (V))] := by
                refine w_istore C [(8, .int (iZ (V))), (7, .int (iZ (U))), (6, .int (iZ ((t : Int) - (w : Int)))), (5, .int (iZ ((t : Int)))), (4, .int (iZ (((k + w + 1 : Nat) : Int)))), (3, .int (iZ ((pp : Int)))), (2, .int (iZ ((w : Int)))), (0, .ref a), (1, .int (iZ ((bits : Int))))] dX3_shiftUp_110 (by decide) rfl ?_
                refine w_aload_n C dX3_shiftUp_112 7 rfl ?_
                refine w_get (ci := 3) (ref := "RootIsolator$Whole") (T := TX3) (Cn := RX3) (N := 3) C (fun w h => wC_in (inX3 w h)) 0 rfl rfl 0 (by decide) (wC_in fX3_9) rfl rfl dX3_shiftUp_113 ?_
                refine w_iload C dX3_shiftUp_116 3 rfl ?_
                refine w_iload C dX3_shiftUp_118 1 rfl ?_
                refine w_iload_n C dX3_shiftUp_120 5 rfl ?_
                refine w_ishl C dX3_shiftUp_121 (v := (iZ (U * 2 ^ pp))) (iZ_shl pp (by omega)) ?_
                refine w_iload C dX3_shiftUp_122 0 rfl ?_
                refine w_bipush C dX3_shiftUp_124 (by decide) ?_
                refine w_iload_n C dX3_shiftUp_126 5 rfl ?_
                refine w_isub C dX3_shiftUp_127 ?_
                refine w_top C (((30 - pp : Nat) : Int)) (by omega) ?_
                refine w_iushr C dX3_shiftUp_128 (v := (iZ (V / 2 ^ (30 - pp)))) (iZ_ushr (30 - pp) (by omega) (by omega)) ?_
                refine w_ior C dX3_shiftUp_129 (v := (iZ (U * 2 ^ pp + V / 2 ^ (30 - pp)))) (iZ_or pp (by omega) ⟨hdg.1, hdg.2.1⟩) ?_
                refine w_ldc C (1073741823) dX3_shiftUp_130 (wC_in kcX3_47) ?_
                refine w_iand C dX3_shiftUp_132 (v := (iZ (sU (wd f k) w pp t))) ((iZ_and30 _).trans (congrArg iZ (by rw [sU_eq, ← hU, ← hV]))) ?_
                refine w_iast C ((a, .inr (3, [.ref b1, .int (iZ ((k : Int))), .int (iZ (x.sign))])) :: (b1, .inl (G 0, n1, .inl (upd h (t) (iZ (sU (wd f k) w pp t))))) :: X : va_W) 1 0 rfl rfl (t) ⟨by omega, by omega, by omega⟩ rfl dX3_shiftUp_133 ?_
                refine w_iinc C ((t : Int) - 1) (by omega) [(5, .int (iZ ((t : Int) - 1))), (8, .int (iZ (V))), (7, .int (iZ (U))), (6, .int (iZ ((t : Int) - (w : Int)))), (4, .int (iZ (((k + w + 1 : Nat) : Int)))), (3, .int (iZ ((pp : Int)))), (2, .int (iZ ((w : Int)))), (0, .ref a), (1, .int (iZ ((bits : Int))))] dX3_shiftUp_134 3 rfl (by decide) rfl ?_
                refine w_goto C 44 dX3_shiftUp_137 (by decide) ?_
                refine w_sub [(5, .int (iZ ((t : Int) - 1))), (4, .int (iZ (((k + w + 1 : Nat) : Int)))), (3, .int (iZ ((pp : Int)))), (2, .int (iZ ((w : Int)))), (0, .ref a), (1, .int (iZ ((bits : Int))))] [0, 4, 5, 6, 7, 8] rfl ?_
                exact ih2 t _ (by omega) (by omega) (fun j hj => by rw [upd_ne (by omega)]; exact hlo j (by omega)) (fun j h1 h2 => by
                  rcases Nat.lt_or_ge t j with q | q
                  · rw [upd_ne (by omega)]; exact hdone j (by omega) h2
                  · have : j = t := by omega
                    subst this
                    have hr9 := sU_r (d := wd f k) (w := w) (p := pp) (t := j)
                    rw [upd_eq, iZ_toInt (by omega) (by omega)])
              refine w_icmp_lt C 109 dX3_shiftUp_85 (by decide) ⟨⟨by omega, by omega⟩, by omega, by omega⟩ (fun c85 => ?_) (fun c85 => ?_)
              · refine w_iconst C dX3_shiftUp_109 ?_
                refine w_top C (V) (by rw [hV, if_pos (by omega)]) ?_
                exact J104
              · refine w_iload C dX3_shiftUp_88 1 rfl ?_
                refine w_aload_n C dX3_shiftUp_90 6 rfl ?_
                refine w_get (ci := 3) (ref := "RootIsolator$Whole") (T := TX3) (Cn := RX3) (N := 3) C (fun w h => wC_in (inX3 w h)) 0 rfl rfl 1 (by decide) (wC_in fX3_13) rfl rfl dX3_shiftUp_91 ?_
                refine w_icmp_gt C 109 dX3_shiftUp_94 (by decide) ⟨⟨by omega, by omega⟩, by omega, by omega⟩ (fun c105 => ?_) (fun c105 => ?_)
                · refine w_iconst C dX3_shiftUp_109 ?_
                  refine w_top C (V) (by first | (rw [hV, if_neg (by omega), wd_out (by omega)]) | (rw [hV, if_neg (by omega), wd_in (by omega)])) ?_
                  exact J104
                · refine w_aload_n C dX3_shiftUp_97 6 rfl ?_
                  refine w_get (ci := 3) (ref := "RootIsolator$Whole") (T := TX3) (Cn := RX3) (N := 3) C (fun w h => wC_in (inX3 w h)) 0 rfl rfl 0 (by decide) (wC_in fX3_9) rfl rfl dX3_shiftUp_98 ?_
                  refine w_iload C dX3_shiftUp_101 1 rfl ?_
                  refine w_iconst C dX3_shiftUp_103 ?_
                  refine w_isub C dX3_shiftUp_104 ?_
                  refine w_iald C 1 0 rfl rfl (t - w - 1) ((f (t - w - 1)).toInt) ⟨by omega, by omega, by omega⟩ (((hlo (t - w - 1) (by omega)).trans (hf1 _ (by omega))).trans (iZ_self _).symm) dX3_shiftUp_105 ?_
                  refine w_goto C 110 dX3_shiftUp_106 (by decide) ?_
                  refine w_top C (V) (by first | (rw [hV, if_neg (by omega), wd_out (by omega)]) | (rw [hV, if_neg (by omega), wd_in (by omega)])) ?_
                  exact J104
            refine w_if_lt C 79 dX3_shiftUp_57 (by decide) ⟨by omega, by omega⟩ (fun c57 => ?_) (fun c57 => ?_)
            · refine w_iconst C dX3_shiftUp_79 ?_
              refine w_top C (U) (by rw [hU, if_pos (by omega)]) ?_
              exact J103
            · refine w_iload C dX3_shiftUp_60 0 rfl ?_
              refine w_aload_n C dX3_shiftUp_62 5 rfl ?_
              refine w_get (ci := 3) (ref := "RootIsolator$Whole") (T := TX3) (Cn := RX3) (N := 3) C (fun w h => wC_in (inX3 w h)) 0 rfl rfl 1 (by decide) (wC_in fX3_13) rfl rfl dX3_shiftUp_63 ?_
              refine w_icmp_ge C 79 dX3_shiftUp_66 (by decide) ⟨⟨by omega, by omega⟩, by omega, by omega⟩ (fun c106 => ?_) (fun c106 => ?_)
              · refine w_iconst C dX3_shiftUp_79 ?_
                refine w_top C (U) (by first | (rw [hU, if_neg (by omega), wd_out (by omega)]) | (rw [hU, if_neg (by omega), wd_in (by omega)])) ?_
                exact J103
              · refine w_aload_n C dX3_shiftUp_69 5 rfl ?_
                refine w_get (ci := 3) (ref := "RootIsolator$Whole") (T := TX3) (Cn := RX3) (N := 3) C (fun w h => wC_in (inX3 w h)) 0 rfl rfl 0 (by decide) (wC_in fX3_9) rfl rfl dX3_shiftUp_70 ?_
                refine w_iload C dX3_shiftUp_73 0 rfl ?_
                refine w_iald C 1 0 rfl rfl (t - w) ((f (t - w)).toInt) ⟨by omega, by omega, by omega⟩ (((hlo (t - w) (by omega)).trans (hf1 _ (by omega))).trans (iZ_self _).symm) dX3_shiftUp_75 ?_
                refine w_goto C 80 dX3_shiftUp_76 (by decide) ?_
                refine w_top C (U) (by first | (rw [hU, if_neg (by omega), wd_out (by omega)]) | (rw [hU, if_neg (by omega), wd_in (by omega)])) ?_
                exact J103
      exact lp (k + w + 2) (k + w + 1) f1 (by omega) (Nat.le_refl _) (fun _ _ => rfl) (fun j h1 h2 => absurd h1 (by omega))
    · have hz : x * 2 ^ bits = x := by rw [show bits = 0 by omega, Int.pow_zero, Int.mul_one]
      exact g_vret hsz hhs C hr hlk ⟨Nat.zero_le _, Nat.zero_le _⟩ (⟨b, n, k, f, 0, 0, by omega, by omega, by rw [hz]; exact hx, by omega, by omega, by rw [hz]⟩) dX3_shiftUp_11
set_option maxHeartbeats 4000000 in
set_option maxRecDepth 100000 in
/-- shiftDown -/
theorem cw_shiftDown (l : Launch) (D : va_G) (G : Nat → ClassId) (X : va_W) (a b n k bits : Nat) (f : Nat → Int32) (x : Int) (hn1 : 1 ≤ n) (hn : n ≤ 2048) (hx : wN n f k x) (hb : bits ≤ 100000) (sz hs : Nat) : Met l yX3_shiftDown (wC yX3_shiftDown cX3_shiftDown 8 none) ({ frames := 1, cells := 0, slots := 0, locals := 21 }) (va_Pc [.ref a, .int (iZ ((bits : Int)))] (cPre nT D G ((a, .inr (3, [.ref b, .int (iZ ((k : Int))), .int (iZ (x.sign))])) :: (b, .inl (G 0, n, .inl f)) :: X : va_W) sz hs)) (va_Qv (fun u : cS => ∃ (k1 : Nat) (f1 : Nat → Int32), wN n f1 k1 (x.sign * ((x.natAbs : Int) / 2 ^ bits)) ∧ u = (((a, .inr (3, [.ref b, .int (iZ ((k1 : Int))), .int (iZ ((x.sign * ((x.natAbs : Int) / 2 ^ bits)).sign))])) :: (b, .inl (G 0, n, .inl f1)) :: X : va_W), 0, 0)) (cAt D G (va_A ((a, .inr (3, [.ref b, .int (iZ ((k : Int))), .int (iZ (x.sign))])) :: (b, .inl (G 0, n, .inl f)) :: X : va_W) sz) sz hs) (va_A ((a, .inr (3, [.ref b, .int (iZ ((k : Int))), .int (iZ (x.sign))])) :: (b, .inl (G 0, n, .inl f)) :: X : va_W) sz)) 0 0 (va_A ((a, .inr (3, [.ref b, .int (iZ ((k : Int))), .int (iZ (x.sign))])) :: (b, .inl (G 0, n, .inl f)) :: X : va_W) sz) := by
  refine g_met (cc := cX3_shiftDown) (maxL := 8) (ret := none) (own := RX3) (by decide) rfl rfl (Nat.le_of_ble_eq_true rfl) ?_
  intro p e s m below meth c hsz hhs hNs hA C hr hlk
  refine w_sub [(0, .ref a), (1, .int (iZ ((bits : Int))))] [0, 1] rfl ?_
  obtain ⟨hx1, hx2, hx3, hx4⟩ := id hx
  have hs1 := sgn_r x
  obtain ⟨w, hw⟩ : ∃ w : Nat, w = bits / 30 := ⟨_, rfl⟩
  obtain ⟨pp, hpp⟩ : ∃ q : Nat, q = bits % 30 := ⟨_, rfl⟩
  have hp30 : pp < 30 := by omega
  have hbits : bits = 30 * w + pp := by omega
  have lp : ∀ (d : Nat) (i : Nat) (h : Nat → Int32), k < i + d → x.sign ≠ 0 → i ≤ k → (∀ j : Nat, i ≤ j → h j = f j) → (∀ j : Nat, j < i → (h j).toInt = sD (wd f k) w pp j) → ZW p l e ({ frames := 1, cells := 0, slots := 0, locals := 21 }) s m ([.ref a, .int (iZ ((bits : Int)))] : List Value).toArray below meth c D (va_A ((a, .inr (3, [.ref b, .int (iZ ((k : Int))), .int (iZ (x.sign))])) :: (b, .inl (G 0, n, .inl f)) :: X : va_W) sz) 8 0 0 (MQ below (va_Qv (fun u : cS => ∃ (k1 : Nat) (f1 : Nat → Int32), wN n f1 k1 (x.sign * ((x.natAbs : Int) / 2 ^ bits)) ∧ u = (((a, .inr (3, [.ref b, .int (iZ ((k1 : Int))), .int (iZ ((x.sign * ((x.natAbs : Int) / 2 ^ bits)).sign))])) :: (b, .inl (G 0, n, .inl f1)) :: X : va_W), 0, 0)) (cAt D G (va_A ((a, .inr (3, [.ref b, .int (iZ ((k : Int))), .int (iZ (x.sign))])) :: (b, .inl (G 0, n, .inl f)) :: X : va_W) sz) sz hs) (va_A ((a, .inr (3, [.ref b, .int (iZ ((k : Int))), .int (iZ (x.sign))])) :: (b, .inl (G 0, n, .inl f)) :: X : va_W) sz)) ([.ref a, .int (iZ ((bits : Int)))] : List Value).toArray s 0 0 (va_A ((a, .inr (3, [.ref b, .int (iZ ((k : Int))), .int (iZ (x.sign))])) :: (b, .inl (G 0, n, .inl f)) :: X : va_W) sz)) ((a, .inr (3, [.ref b, .int (iZ ((k : Int))), .int (iZ (x.sign))])) :: (b, .inl (G 0, n, .inl h)) :: X : va_W) 25 [(4, .int (iZ ((i : Int)))), (3, .int (iZ ((pp : Int)))), (2, .int (iZ ((w : Int)))), (0, .ref a), (1, .int (iZ ((bits : Int))))] [] := by
    intro d
    induction d with
    | zero =>
      intro i h hd c4 hi hhi hdone
      exact absurd hd (by omega)
    | succ d ih =>
      intro i h hd c4 hi hhi hdone
      refine w_iload C dX3_shiftDown_25 0 rfl ?_
      refine w_aload_n C dX3_shiftDown_27 3 rfl ?_
      refine w_get (ci := 3) (ref := "RootIsolator$Whole") (T := TX3) (Cn := RX3) (N := 3) C (fun w h => wC_in (inX3 w h)) 0 rfl rfl 1 (by decide) (wC_in fX3_13) rfl rfl dX3_shiftDown_28 ?_
      refine w_icmp_ge C 116 dX3_shiftDown_31 (by decide) ⟨⟨by omega, by omega⟩, by omega, by omega⟩ (fun c31 => ?_) (fun c31 => ?_)
      · have hik : i = k := by omega
        have hlim : lim h k := fun j hj => by rw [hdone j (by omega)]; exact sD_r
        have hval : zw h k = (x.natAbs : Int) / 2 ^ bits := by rw [zw_zq (fun j hj => hdone j (by omega)), sD_all hp30 hx2, hx4, hbits]
        refine w_aload_n C dX3_shiftDown_116 3 rfl ?_
        refine w_aload_n C dX3_shiftDown_117 3 rfl ?_
        refine w_get (ci := 3) (ref := "RootIsolator$Whole") (T := TX3) (Cn := RX3) (N := 3) C (fun w h => wC_in (inX3 w h)) 0 rfl rfl 1 (by decide) (wC_in fX3_13) rfl rfl dX3_shiftDown_118 ?_
        refine g_callv [.int (iZ ((k : Int)))] hA C hNs nT_ok (cw_trim l D G X a b n k h (iZ (k : Int)) (x.sign) (by omega) (by omega) (sgn_r _)) (cwV 1 C.1.2.2.2.2 (wC_V kX3_36 nX3_trim slX3_trim iniX3 cdX3_trim) rfl rfl rfl (by decide +kernel) ⟨Nat.le_of_ble_eq_true rfl, Nat.le_of_ble_eq_true rfl⟩) (q0 := 0) rfl rfl rfl rfl ⟨Nat.le_of_ble_eq_true rfl, Nat.le_of_ble_eq_true rfl⟩ (Nat.le_of_ble_eq_true rfl) dX3_shiftDown_121 [.int (iZ ((k : Int))), .ref a] rfl (fun v1 hv1 => ?_)
        obtain ⟨j, j1, j2, j3, rfl⟩ := hv1
        refine w_cs 0 0 rfl rfl ?_
        obtain ⟨t1, t2⟩ := wN_trim (n := n) (N := k) (sg := x.sign) (by omega) hlim j1 j2 j3 ((sgn_one c4).imp id Or.inl)
        rw [hval] at t1 t2
        exact g_vret hsz hhs C hr hlk ⟨by omega, by omega⟩ (⟨j, h, t1, by rw [t2]⟩) dX3_shiftDown_124
      · have hLr := wd_r hx2 (i + w)
        have hUr := wd_r hx2 (i + w + 1)
        obtain ⟨L, hL⟩ : ∃ L : Int, L = wd f k (i + w) := ⟨_, rfl⟩
        obtain ⟨U, hU⟩ : ∃ U : Int, U = wd f k (i + w + 1) := ⟨_, rfl⟩
        rw [← hL] at hLr
        rw [← hU] at hUr
        have hr3 : 0 ≤ L / 2 ^ pp ∧ L / 2 ^ pp < 2 ^ (30 - pp) := by
          have hB : (0 : Int) < 2 ^ pp := Int.pow_pos (by omega)
          have hAB : (2 : Int) ^ (30 - pp) * 2 ^ pp = 1073741824 := by rw [← Int.pow_add, show 30 - pp + pp = 30 by omega]; rfl
          exact ⟨Int.ediv_nonneg hLr.1 (by omega), Int.ediv_lt_of_lt_mul hB (by rw [hAB]; exact hLr.2)⟩
        refine w_iload C dX3_shiftDown_34 0 rfl ?_
        refine w_iload_n C dX3_shiftDown_36 2 rfl ?_
        refine w_iadd C dX3_shiftDown_37 ?_
        refine w_istore C [(5, .int (iZ ((i : Int) + (w : Int)))), (4, .int (iZ ((i : Int)))), (3, .int (iZ ((pp : Int)))), (2, .int (iZ ((w : Int)))), (0, .ref a), (1, .int (iZ ((bits : Int))))] dX3_shiftDown_38 (by decide) rfl ?_
        refine w_iload C dX3_shiftDown_40 0 rfl ?_
        refine w_aload_n C dX3_shiftDown_42 4 rfl ?_
        refine w_get (ci := 3) (ref := "RootIsolator$Whole") (T := TX3) (Cn := RX3) (N := 3) C (fun w h => wC_in (inX3 w h)) 0 rfl rfl 1 (by decide) (wC_in fX3_13) rfl rfl dX3_shiftDown_43 ?_
        have J2 : ZW p l e ({ frames := 1, cells := 0, slots := 0, locals := 21 }) s m ([.ref a, .int (iZ ((bits : Int)))] : List Value).toArray below meth c D (va_A ((a, .inr (3, [.ref b, .int (iZ ((k : Int))), .int (iZ (x.sign))])) :: (b, .inl (G 0, n, .inl f)) :: X : va_W) sz) 8 0 0 (MQ below (va_Qv (fun u : cS => ∃ (k1 : Nat) (f1 : Nat → Int32), wN n f1 k1 (x.sign * ((x.natAbs : Int) / 2 ^ bits)) ∧ u = (((a, .inr (3, [.ref b, .int (iZ ((k1 : Int))), .int (iZ ((x.sign * ((x.natAbs : Int) / 2 ^ bits)).sign))])) :: (b, .inl (G 0, n, .inl f1)) :: X : va_W), 0, 0)) (cAt D G (va_A ((a, .inr (3, [.ref b, .int (iZ ((k : Int))), .int (iZ (x.sign))])) :: (b, .inl (G 0, n, .inl f)) :: X : va_W) sz) sz hs) (va_A ((a, .inr (3, [.ref b, .int (iZ ((k : Int))), .int (iZ (x.sign))])) :: (b, .inl (G 0, n, .inl f)) :: X : va_W) sz)) ([.ref a, .int (iZ ((bits : Int)))] : List Value).toArray s 0 0 (va_A ((a, .inr (3, [.ref b, .int (iZ ((k : Int))), .int (iZ (x.sign))])) :: (b, .inl (G 0, n, .inl f)) :: X : va_W) sz)) ((a, .inr (3, [.ref b, .int (iZ ((k : Int))), .int (iZ (x.sign))])) :: (b, .inl (G 0, n, .inl h)) :: X : va_W) 60 [(5, .int (iZ ((i : Int) + (w : Int)))), (4, .int (iZ ((i : Int)))), (3, .int (iZ ((pp : Int)))), (2, .int (iZ ((w : Int)))), (0, .ref a), (1, .int (iZ ((bits : Int))))] [.int (iZ (L))] := by
          refine w_istore C [(6, .int (iZ (L))), (5, .int (iZ ((i : Int) + (w : Int)))), (4, .int (iZ ((i : Int)))), (3, .int (iZ ((pp : Int)))), (2, .int (iZ ((w : Int)))), (0, .ref a), (1, .int (iZ ((bits : Int))))] dX3_shiftDown_60 (by decide) rfl ?_
          refine w_iload C dX3_shiftDown_62 1 rfl ?_
          refine w_iconst C dX3_shiftDown_64 ?_
          refine w_iadd C dX3_shiftDown_65 ?_
          refine w_aload_n C dX3_shiftDown_66 5 rfl ?_
          refine w_get (ci := 3) (ref := "RootIsolator$Whole") (T := TX3) (Cn := RX3) (N := 3) C (fun w h => wC_in (inX3 w h)) 0 rfl rfl 1 (by decide) (wC_in fX3_13) rfl rfl dX3_shiftDown_67 ?_
          have J3 : ZW p l e ({ frames := 1, cells := 0, slots := 0, locals := 21 }) s m ([.ref a, .int (iZ ((bits : Int)))] : List Value).toArray below meth c D (va_A ((a, .inr (3, [.ref b, .int (iZ ((k : Int))), .int (iZ (x.sign))])) :: (b, .inl (G 0, n, .inl f)) :: X : va_W) sz) 8 0 0 (MQ below (va_Qv (fun u : cS => ∃ (k1 : Nat) (f1 : Nat → Int32), wN n f1 k1 (x.sign * ((x.natAbs : Int) / 2 ^ bits)) ∧ u = (((a, .inr (3, [.ref b, .int (iZ ((k1 : Int))), .int (iZ ((x.sign * ((x.natAbs : Int) / 2 ^ bits)).sign))])) :: (b, .inl (G 0, n, .inl f1)) :: X : va_W), 0, 0)) (cAt D G (va_A ((a, .inr (3, [.ref b, .int (iZ ((k : Int))), .int (iZ (x.sign))])) :: (b, .inl (G 0, n, .inl f)) :: X : va_W) sz) sz hs) (va_A ((a, .inr (3, [.ref b, .int (iZ ((k : Int))), .int (iZ (x.sign))])) :: (b, .inl (G 0, n, .inl f)) :: X : va_W) sz)) ([.ref a, .int (iZ ((bits : Int)))] : List Value).toArray s 0 0 (va_A ((a, .inr (3, [.ref b, .int (iZ ((k : Int))), .int (iZ (x.sign))])) :: (b, .inl (G 0, n, .inl f)) :: X : va_W) sz)) ((a, .inr (3, [.ref b, .int (iZ ((k : Int))), .int (iZ (x.sign))])) :: (b, .inl (G 0, n, .inl h)) :: X : va_W) 86 [(6, .int (iZ (L))), (5, .int (iZ ((i : Int) + (w : Int)))), (4, .int (iZ ((i : Int)))), (3, .int (iZ ((pp : Int)))), (2, .int (iZ ((w : Int)))), (0, .ref a), (1, .int (iZ ((bits : Int))))] [.int (iZ (U))] := by
            refine w_istore C [(7, .int (iZ (U))), (6, .int (iZ (L))), (5, .int (iZ ((i : Int) + (w : Int)))), (4, .int (iZ ((i : Int)))), (3, .int (iZ ((pp : Int)))), (2, .int (iZ ((w : Int)))), (0, .ref a), (1, .int (iZ ((bits : Int))))] dX3_shiftDown_86 (by decide) rfl ?_
            refine w_aload_n C dX3_shiftDown_88 6 rfl ?_
            refine w_get (ci := 3) (ref := "RootIsolator$Whole") (T := TX3) (Cn := RX3) (N := 3) C (fun w h => wC_in (inX3 w h)) 0 rfl rfl 0 (by decide) (wC_in fX3_9) rfl rfl dX3_shiftDown_89 ?_
            refine w_iload C dX3_shiftDown_92 3 rfl ?_
            refine w_iload C dX3_shiftDown_94 1 rfl ?_
            refine w_iload_n C dX3_shiftDown_96 4 rfl ?_
            refine w_iushr C dX3_shiftDown_97 (v := (iZ (L / 2 ^ pp))) (iZ_ushr pp (by omega) (by omega)) ?_
            refine w_iload C dX3_shiftDown_98 0 rfl ?_
            refine w_bipush C dX3_shiftDown_100 (by decide) ?_
            refine w_iload_n C dX3_shiftDown_102 4 rfl ?_
            refine w_isub C dX3_shiftDown_103 ?_
            refine w_top C (((30 - pp : Nat) : Int)) (by omega) ?_
            refine w_ishl C dX3_shiftDown_104 (v := (iZ (U * 2 ^ (30 - pp)))) (iZ_shl (30 - pp) (by omega)) ?_
            refine w_ior C dX3_shiftDown_105 (v := (iZ (U * 2 ^ (30 - pp) + L / 2 ^ pp))) ((Int32.or_comm _ _).trans (iZ_or (30 - pp) (by omega) hr3)) ?_
            refine w_ldc C (1073741823) dX3_shiftDown_106 (wC_in kcX3_47) ?_
            refine w_iand C dX3_shiftDown_108 (v := (iZ (sD (wd f k) w pp i))) ((iZ_and30 _).trans (congrArg iZ (by rw [hL, hU]; rfl))) ?_
            refine w_iast C ((a, .inr (3, [.ref b, .int (iZ ((k : Int))), .int (iZ (x.sign))])) :: (b, .inl (G 0, n, .inl (upd h (i) (iZ (sD (wd f k) w pp i))))) :: X : va_W) 1 0 rfl rfl (i) ⟨by omega, by omega, by omega⟩ rfl dX3_shiftDown_109 ?_
            refine w_iinc C (((i + 1 : Nat) : Int)) (by omega) [(4, .int (iZ (((i + 1 : Nat) : Int)))), (7, .int (iZ (U))), (6, .int (iZ (L))), (5, .int (iZ ((i : Int) + (w : Int)))), (3, .int (iZ ((pp : Int)))), (2, .int (iZ ((w : Int)))), (0, .ref a), (1, .int (iZ ((bits : Int))))] dX3_shiftDown_110 3 rfl (by decide) rfl ?_
            refine w_goto C 25 dX3_shiftDown_113 (by decide) ?_
            refine w_sub [(4, .int (iZ (((i + 1 : Nat) : Int)))), (3, .int (iZ ((pp : Int)))), (2, .int (iZ ((w : Int)))), (0, .ref a), (1, .int (iZ ((bits : Int))))] [0, 4, 5, 6, 7] rfl ?_
            exact ih (i + 1) _ (by omega) c4 (by omega) (fun j hj => by rw [upd_ne (by omega)]; exact hhi j (by omega)) (fun j hj => by
              rcases Nat.lt_or_ge j i with q | q
              · rw [upd_ne (by omega)]; exact hdone j q
              · have : j = i := by omega
                subst this
                have hr9 := sD_r (d := wd f k) (w := w) (p := pp) (t := j)
                rw [upd_eq, iZ_toInt (by omega) (by omega)])
          refine w_icmp_ge C 85 dX3_shiftDown_70 (by decide) ⟨⟨by omega, by omega⟩, by omega, by omega⟩ (fun c70 => ?_) (fun c70 => ?_)
          · refine w_iconst C dX3_shiftDown_85 ?_
            refine w_top C (U) (by rw [hU, wd_out (by omega)]) ?_
            exact J3
          · refine w_aload_n C dX3_shiftDown_73 5 rfl ?_
            refine w_get (ci := 3) (ref := "RootIsolator$Whole") (T := TX3) (Cn := RX3) (N := 3) C (fun w h => wC_in (inX3 w h)) 0 rfl rfl 0 (by decide) (wC_in fX3_9) rfl rfl dX3_shiftDown_74 ?_
            refine w_iload C dX3_shiftDown_77 1 rfl ?_
            refine w_iconst C dX3_shiftDown_79 ?_
            refine w_iadd C dX3_shiftDown_80 ?_
            refine w_iald C 1 0 rfl rfl (i + w + 1) ((f (i + w + 1)).toInt) ⟨by omega, by omega, by omega⟩ ((hhi (i + w + 1) (by omega)).trans (iZ_self _).symm) dX3_shiftDown_81 ?_
            refine w_goto C 86 dX3_shiftDown_82 (by decide) ?_
            refine w_top C (U) (by rw [hU, wd_in (by omega)]) ?_
            exact J3
        refine w_icmp_ge C 59 dX3_shiftDown_46 (by decide) ⟨⟨by omega, by omega⟩, by omega, by omega⟩ (fun c46 => ?_) (fun c46 => ?_)
        · refine w_iconst C dX3_shiftDown_59 ?_
          refine w_top C (L) (by rw [hL, wd_out (by omega)]) ?_
          exact J2
        · refine w_aload_n C dX3_shiftDown_49 4 rfl ?_
          refine w_get (ci := 3) (ref := "RootIsolator$Whole") (T := TX3) (Cn := RX3) (N := 3) C (fun w h => wC_in (inX3 w h)) 0 rfl rfl 0 (by decide) (wC_in fX3_9) rfl rfl dX3_shiftDown_50 ?_
          refine w_iload C dX3_shiftDown_53 0 rfl ?_
          refine w_iald C 1 0 rfl rfl (i + w) ((f (i + w)).toInt) ⟨by omega, by omega, by omega⟩ ((hhi (i + w) (by omega)).trans (iZ_self _).symm) dX3_shiftDown_55 ?_
          refine w_goto C 60 dX3_shiftDown_56 (by decide) ?_
          refine w_top C (L) (by rw [hL, wd_in (by omega)]) ?_
          exact J2
  refine w_aload_n C dX3_shiftDown_0 0 rfl ?_
  refine w_get (ci := 3) (ref := "RootIsolator$Whole") (T := TX3) (Cn := RX3) (N := 3) C (fun w h => wC_in (inX3 w h)) 0 rfl rfl 2 (by decide) (wC_in fX3_17) rfl rfl dX3_shiftDown_1 ?_
  refine w_if_eq C 11 dX3_shiftDown_4 (by decide) ⟨by omega, by omega⟩ (fun c4 => ?_) (fun c4 => ?_)
  · have hz : x.sign * ((x.natAbs : Int) / 2 ^ bits) = x := by rw [sgn_zero c4, Int.sign_zero, Int.zero_mul]
    exact g_vret hsz hhs C hr hlk ⟨by omega, by omega⟩ (⟨k, f, by rw [hz]; exact hx, by rw [hz]⟩) dX3_shiftDown_11
  · refine w_iload_n C dX3_shiftDown_7 1 rfl ?_
    refine w_if_gt C 12 dX3_shiftDown_8 (by decide) ⟨by omega, by omega⟩ (fun c8 => ?_) (fun c8 => ?_)
    · refine w_iload_n C dX3_shiftDown_12 1 rfl ?_
      refine w_bipush C dX3_shiftDown_13 (by decide) ?_
      refine w_idiv C dX3_shiftDown_15 (by decide) (v := (iZ ((w : Int)))) (by rw [hw]; exact iZ_divN bits 30 (by omega) (by omega) (by omega)) ?_
      refine w_istore_n C [(2, .int (iZ ((w : Int)))), (0, .ref a), (1, .int (iZ ((bits : Int))))] dX3_shiftDown_16 rfl (by decide) rfl ?_
      refine w_iload_n C dX3_shiftDown_17 2 rfl ?_
      refine w_bipush C dX3_shiftDown_18 (by decide) ?_
      refine w_irem C dX3_shiftDown_20 (by decide) (v := (iZ ((pp : Int)))) (by rw [hpp]; exact iZ_remN bits 30 (by omega) (by omega) (by omega)) ?_
      refine w_istore_n C [(3, .int (iZ ((pp : Int)))), (2, .int (iZ ((w : Int)))), (0, .ref a), (1, .int (iZ ((bits : Int))))] dX3_shiftDown_21 rfl (by decide) rfl ?_
      refine w_iconst C dX3_shiftDown_22 ?_
      refine w_istore C [(4, .int (iZ (0))), (3, .int (iZ ((pp : Int)))), (2, .int (iZ ((w : Int)))), (0, .ref a), (1, .int (iZ ((bits : Int))))] dX3_shiftDown_23 (by decide) rfl ?_
      exact lp (k + 1) 0 f (by omega) c4 (by omega) (fun _ _ => rfl) (fun j hj => absurd hj (by omega))
    · have hz : x.sign * ((x.natAbs : Int) / 2 ^ bits) = x := by rw [show bits = 0 by omega, Int.pow_zero, Int.ediv_one, Int.sign_mul_natAbs]
      exact g_vret hsz hhs C hr hlk ⟨by omega, by omega⟩ (⟨k, f, by rw [hz]; exact hx, by rw [hz]⟩) dX3_shiftDown_11
