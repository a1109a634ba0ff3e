section MDN
theorem pow31s {near : Nat} (hn : near ≤ 31) : (2147483648 : Int) = 2 ^ near * 2 ^ (31 - near) := by
  rw [← Int.pow_add, Nat.add_sub_cancel' hn]; rfl
theorem down_step {l T1 E R : Int} {near : Nat} (hn : near ≤ 31) (h0 : 0 ≤ l) (h1 : l < 2147483648) (hT : T1 = E + 2147483648 * R) : (l + 2147483648 * T1) / 2 ^ near = (E * 2147483648 + l) / 2 ^ near % 2147483648 + 2147483648 * (T1 / 2 ^ near) := by
  have hp := i2pos near
  have e0 := Int.emod_add_mul_ediv ((l + 2147483648 * T1) / 2 ^ near) 2147483648
  have e1 : (l + 2147483648 * T1) / 2 ^ near / 2147483648 = T1 / 2 ^ near := by
    rw [Int.ediv_ediv_of_nonneg (Int.le_of_lt hp), Int.mul_comm (2 ^ near) 2147483648, ← Int.ediv_ediv_of_nonneg (by omega)]
    rw [show (l + 2147483648 * T1) / 2147483648 = T1 by omega]
  have e2 : (l + 2147483648 * T1) / 2 ^ near % 2147483648 = (E * 2147483648 + l) / 2 ^ near % 2147483648 := by
    have e3 : l + 2147483648 * T1 = (E * 2147483648 + l) + 2 ^ near * (2 ^ (31 - near) * R * 2147483648) := by
      rw [hT, Int.mul_add, ← Int.mul_assoc (2 ^ near), ← Int.mul_assoc (2 ^ near), ← pow31s hn, Int.mul_comm (2147483648 * R)]; omega
    rw [e3, Int.add_mul_ediv_left _ _ (by omega), Int.add_mul_emod_self_right]
  rw [← e0, e1, e2]
theorem bit_zv {f : Nat → Int32} {o n k : Nat} (hl : limb f o n) (hk : k < 31 * n) : zv f o n / 2 ^ k % 2 = (f (o + k / 31)).toInt / 2 ^ (k % 31) % 2 := by
  obtain ⟨q, hq⟩ : ∃ q : Nat, q = k / 31 := ⟨_, rfl⟩
  obtain ⟨r, hr⟩ : ∃ r : Nat, r = k % 31 := ⟨_, rfl⟩
  rw [← hq, ← hr]
  have hk2 : k = 31 * q + r := by omega
  have e : n = q + ((n - q - 1) + 1) := by omega
  rw [hk2, Int.pow_add, ← Int.ediv_ediv_of_nonneg (Int.le_of_lt (i2pos _)), e, zv_split, Int.add_mul_ediv_left _ _ (by have := i2pos (31 * q); omega)]
  have h1 := zv_lt (n := q) (fun i hi => hl i (by omega) : limb f o q)
  have h2 := zv_nonneg (n := q) (fun i hi => hl i (by omega) : limb f o q)
  rw [Int.ediv_eq_zero_of_lt h2 h1, Int.zero_add, zv_cons]
  have e3 : (f (o + q)).toInt + 2147483648 * zv f (o + q + 1) (n - q - 1) = (f (o + q)).toInt + 2 ^ r * (2 ^ (30 - r) * zv f (o + q + 1) (n - q - 1) * 2) := by
    rw [pow31s (near := r) (by omega), show 31 - r = (30 - r) + 1 by omega, Int.pow_add, Int.mul_assoc, Int.mul_assoc, Int.mul_assoc, Int.mul_comm (zv f (o + q + 1) (n - q - 1)) 2]; rfl
  rw [e3, Int.add_mul_ediv_left _ _ (by have := i2pos r; omega), Int.add_mul_emod_self_right]
end MDN
