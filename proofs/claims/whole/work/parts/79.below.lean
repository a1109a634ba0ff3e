theorem bl_le {n m : Int} {e f : Nat} (h : e ≤ f) : (n < m / 2 ^ (f - e) ∨ (n = m / 2 ^ (f - e) ∧ n * 2 ^ (f - e) ≠ m)) ↔ n * 2 ^ f < m * 2 ^ e := by
  have hp : (0 : Int) < 2 ^ (f - e) := Int.pow_pos (by omega)
  have he : (0 : Int) < 2 ^ e := Int.pow_pos (by omega)
  have e1 : (2 : Int) ^ f = 2 ^ (f - e) * 2 ^ e := by rw [← Int.pow_add]; congr 1; omega
  have e2 : n * 2 ^ f < m * 2 ^ e ↔ n * 2 ^ (f - e) < m := by
    rw [e1, ← Int.mul_assoc]
    exact ⟨fun h => Int.lt_of_mul_lt_mul_right h (Int.le_of_lt he), fun h => Int.mul_lt_mul_of_pos_right h he⟩
  rw [e2]
  generalize (2 : Int) ^ (f - e) = P at *
  have h1 := Int.emod_add_mul_ediv m P
  have h2 := Int.emod_nonneg m (Int.ne_of_gt hp)
  have h3 := Int.emod_lt_of_pos m hp
  constructor
  · rintro (q | ⟨q, q2⟩)
    · have := Int.mul_le_mul_of_nonneg_right (show n + 1 ≤ m / P by omega) (Int.le_of_lt hp)
      rw [Int.add_mul, Int.one_mul, Int.mul_comm (m / P)] at this
      omega
    · rw [q, Int.mul_comm] at q2 ⊢
      omega
  · intro q
    rcases Int.lt_trichotomy n (m / P) with r | r | r
    · exact Or.inl r
    · exact Or.inr ⟨r, Int.ne_of_lt q⟩
    · exfalso
      have := Int.mul_le_mul_of_nonneg_right (show m / P + 1 ≤ n by omega) (Int.le_of_lt hp)
      rw [Int.add_mul, Int.one_mul, Int.mul_comm (m / P)] at this
      omega
theorem bl_gt {n m : Int} {e f : Nat} (h : f < e) : n / 2 ^ (e - f) < m ↔ n * 2 ^ f < m * 2 ^ e := by
  have hp : (0 : Int) < 2 ^ (e - f) := Int.pow_pos (by omega)
  have he : (0 : Int) < 2 ^ f := Int.pow_pos (by omega)
  have e1 : (2 : Int) ^ e = 2 ^ (e - f) * 2 ^ f := by rw [← Int.pow_add]; congr 1; omega
  have e2 : n * 2 ^ f < m * 2 ^ e ↔ n < m * 2 ^ (e - f) := by
    rw [e1, ← Int.mul_assoc]
    exact ⟨fun h => Int.lt_of_mul_lt_mul_right h (Int.le_of_lt he), fun h => Int.mul_lt_mul_of_pos_right h he⟩
  rw [e2]
  exact Int.ediv_lt_iff_lt_mul hp
theorem sh_r {m : Int} {d : Nat} (hd : d ≤ 30) (hm : -9223372036854775808 ≤ m ∧ m < 9223372036854775808) : (-9223372036854775808 ≤ m / 2 ^ d ∧ m / 2 ^ d < 9223372036854775808) ∧ -9223372036854775808 ≤ m / 2 ^ d * 2 ^ d ∧ m / 2 ^ d * 2 ^ d < 9223372036854775808 := by
  have hp : (0 : Int) < 2 ^ d := Int.pow_pos (by omega)
  have h1 := Int.emod_add_mul_ediv m (2 ^ d)
  have h2 := Int.emod_nonneg m (Int.ne_of_gt hp)
  have h3 := Int.emod_lt_of_pos m hp
  have e : (2 : Int) ^ (63 - d) * 2 ^ d = 9223372036854775808 := by rw [← Int.pow_add, show 63 - d + d = 63 by omega]; rfl
  have h5 : -(2 ^ (63 - d)) ≤ m / 2 ^ d := Int.le_ediv_of_mul_le hp (by rw [Int.neg_mul, e]; omega)
  have h6 := Int.mul_le_mul_of_nonneg_right h5 (Int.le_of_lt hp)
  rw [Int.neg_mul, e] at h6
  have h7 : (1 : Int) ≤ 2 ^ d := hp
  have h8 : m / 2 ^ d < 9223372036854775808 := Int.ediv_lt_of_lt_mul hp (by
    have := Int.mul_le_mul_of_nonneg_left h7 (show (0 : Int) ≤ 9223372036854775808 by omega)
    omega)
  have h9 : -9223372036854775808 ≤ m / 2 ^ d := Int.le_ediv_of_mul_le hp (by
    have := Int.mul_le_mul_of_nonneg_left h7 (show (0 : Int) ≤ 9223372036854775808 by omega)
    rw [Int.neg_mul]; omega)
  refine ⟨⟨h9, h8⟩, h6, ?_⟩
  rw [Int.mul_comm]
  omega
set_option maxHeartbeats 4000000 in
set_option maxRecDepth 100000 in
theorem cw_isBelow (l : Launch) (D : va_G) (G : Nat → ClassId) (X : va_W) (n mm : Int) (e9 f9 : Nat) (hn : -9223372036854775808 ≤ n ∧ n < 9223372036854775808) (hmm : -9223372036854775808 ≤ mm ∧ mm < 9223372036854775808) (he : e9 ≤ 30 ∧ f9 ≤ 30) (sz hs : Nat) : Met l yX4_isBelow (wC yX4_isBelow cX4_isBelow 6 (some .boolean)) ({ frames := 0, cells := 0, slots := 0, locals := 0 }) (va_Pc [.long (lZ (n)), .int (iZ ((e9 : Int))), .long (lZ (mm)), .int (iZ ((f9 : Int)))] (cPre nT D G (X : va_W) sz hs)) (va_Qi (fun (r : Int32) (u : cS) => r = iZ (if n * 2 ^ f9 < mm * 2 ^ e9 then 1 else 0) ∧ u = ((X : va_W), 0, 0)) (cAt D G (va_A (X : va_W) sz) sz hs) (va_A (X : va_W) sz)) 0 0 (va_A (X : va_W) sz) := by
  refine g_met (cc := cX4_isBelow) (maxL := 6) (ret := (some .boolean)) (own := RX4) (by decide) rfl rfl (Nat.le_of_ble_eq_true rfl) ?_
  intro p e s m below meth c hsz hhs hNs hA C hr hlk
  refine w_sub [(0, .long (lZ (n))), (2, .int (iZ ((e9 : Int)))), (3, .long (lZ (mm))), (5, .int (iZ ((f9 : Int))))] [0, 1, 2, 3] rfl ?_
  refine w_iload_n C dX4_isBelow_0 1 rfl ?_
  refine w_iload C dX4_isBelow_1 3 rfl ?_
  refine w_icmp_gt C 45 dX4_isBelow_3 (by decide) ⟨⟨by omega, by omega⟩, by omega, by omega⟩ (fun c3i => ?_) (fun c3i => ?_)
  · have c3 : f9 < e9 := by omega
    have hsr := sh_r (m := n) (d := e9 - f9) (by omega) hn
    refine w_lload_n C dX4_isBelow_45 0 rfl ?_
    refine w_iload_n C dX4_isBelow_46 1 rfl ?_
    refine w_iload C dX4_isBelow_47 3 rfl ?_
    refine w_isub C dX4_isBelow_49 ?_
    refine w_lshr C (e9 - f9) dX4_isBelow_50 ⟨by omega, by omega⟩ hn ?_
    refine w_lload_n C dX4_isBelow_51 2 rfl ?_
    refine w_lif_ge C 60 dX4_isBelow_52 dX4_isBelow_53 (by decide) ⟨hsr.1, hmm⟩ (fun c52 => ?_) (fun c52 => ?_)
    · refine w_iconst C dX4_isBelow_60 ?_
      exact g_zret hsz hhs C hr (by decide) hlk ⟨by omega, by omega⟩ ⟨congrArg iZ (if_neg (by first | exact fun h => absurd ((bl_le c3).2 h) (by omega) | exact fun h => absurd ((bl_gt c3).2 h) (by omega))).symm, rfl⟩ dX4_isBelow_61
    · refine w_iconst C dX4_isBelow_56 ?_
      refine w_goto C 61 dX4_isBelow_57 (by decide) ?_
      exact g_zret hsz hhs C hr (by decide) hlk ⟨by omega, by omega⟩ ⟨congrArg iZ (if_pos (by first | exact (bl_le c3).1 (Or.inl c13) | exact (bl_le c3).1 (Or.inr ⟨c24, c35⟩) | exact (bl_gt c3).1 (Int.not_le.1 c52))).symm, rfl⟩ dX4_isBelow_61
  · have c3 : e9 ≤ f9 := by omega
    have hsr := sh_r (m := mm) (d := f9 - e9) (by omega) hmm
    refine w_lload_n C dX4_isBelow_6 0 rfl ?_
    refine w_lload_n C dX4_isBelow_7 2 rfl ?_
    refine w_iload C dX4_isBelow_8 3 rfl ?_
    refine w_iload_n C dX4_isBelow_10 1 rfl ?_
    refine w_isub C dX4_isBelow_11 ?_
    refine w_lshr C (f9 - e9) dX4_isBelow_12 ⟨by omega, by omega⟩ hmm ?_
    refine w_lif_lt C 39 dX4_isBelow_13 dX4_isBelow_14 (by decide) ⟨hn, hsr.1⟩ (fun c13 => ?_) (fun c13 => ?_)
    · refine w_iconst C dX4_isBelow_39 ?_
      refine w_goto C 44 dX4_isBelow_40 (by decide) ?_
      exact g_zret hsz hhs C hr (by decide) hlk ⟨by omega, by omega⟩ ⟨congrArg iZ (if_pos (by first | exact (bl_le c3).1 (Or.inl c13) | exact (bl_le c3).1 (Or.inr ⟨c24, c35⟩) | exact (bl_gt c3).1 (Int.not_le.1 c52))).symm, rfl⟩ dX4_isBelow_44
    · refine w_lload_n C dX4_isBelow_17 0 rfl ?_
      refine w_lload_n C dX4_isBelow_18 2 rfl ?_
      refine w_iload C dX4_isBelow_19 3 rfl ?_
      refine w_iload_n C dX4_isBelow_21 1 rfl ?_
      refine w_isub C dX4_isBelow_22 ?_
      refine w_lshr C (f9 - e9) dX4_isBelow_23 ⟨by omega, by omega⟩ hmm ?_
      refine w_lif_ne C 43 dX4_isBelow_24 dX4_isBelow_25 (by decide) ⟨hn, hsr.1⟩ (fun c24 => ?_) (fun c24 => ?_)
      · refine w_iconst C dX4_isBelow_43 ?_
        exact g_zret hsz hhs C hr (by decide) hlk ⟨by omega, by omega⟩ ⟨congrArg iZ (if_neg (by first | exact fun h => absurd ((bl_le c3).2 h) (by omega) | exact fun h => absurd ((bl_gt c3).2 h) (by omega))).symm, rfl⟩ dX4_isBelow_44
      · have c24 : n = mm / 2 ^ (f9 - e9) := by omega
        have hsr2 : -9223372036854775808 ≤ n * 2 ^ (f9 - e9) ∧ n * 2 ^ (f9 - e9) < 9223372036854775808 := by rw [c24]; exact hsr.2
        refine w_lload_n C dX4_isBelow_28 0 rfl ?_
        refine w_iload C dX4_isBelow_29 3 rfl ?_
        refine w_iload_n C dX4_isBelow_31 1 rfl ?_
        refine w_isub C dX4_isBelow_32 ?_
        refine w_lshl C (f9 - e9) dX4_isBelow_33 ⟨by omega, by omega⟩ ?_
        refine w_lload_n C dX4_isBelow_34 2 rfl ?_
        refine w_lif_eq C 43 dX4_isBelow_35 dX4_isBelow_36 (by decide) ⟨hsr2, hmm⟩ (fun c35 => ?_) (fun c35 => ?_)
        · refine w_iconst C dX4_isBelow_43 ?_
          exact g_zret hsz hhs C hr (by decide) hlk ⟨by omega, by omega⟩ ⟨congrArg iZ (if_neg (by first | exact fun h => absurd ((bl_le c3).2 h) (by omega) | exact fun h => absurd ((bl_gt c3).2 h) (by omega))).symm, rfl⟩ dX4_isBelow_44
        · refine w_iconst C dX4_isBelow_39 ?_
          refine w_goto C 44 dX4_isBelow_40 (by decide) ?_
          exact g_zret hsz hhs C hr (by decide) hlk ⟨by omega, by omega⟩ ⟨congrArg iZ (if_pos (by first | exact (bl_le c3).1 (Or.inl c13) | exact (bl_le c3).1 (Or.inr ⟨c24, c35⟩) | exact (bl_gt c3).1 (Int.not_le.1 c52))).symm, rfl⟩ dX4_isBelow_44
