section WNUM
/-- the value of n limbs of 30 bits -/
def zw (f : Nat → Int32) : Nat → Int
  | 0 => 0
  | n + 1 => zw f n + (f n).toInt * 2 ^ (30 * n)
def lim (f : Nat → Int32) (n : Nat) : Prop := ∀ k, k < n → 0 ≤ (f k).toInt ∧ (f k).toInt < 1073741824
theorem p30 (n : Nat) : (2 : Int) ^ (30 * (n + 1)) = 2 ^ (30 * n) * 1073741824 := by
  rw [Nat.mul_succ, Int.pow_add]; rfl
theorem p30_pos (n : Nat) : (0 : Int) < 2 ^ (30 * n) := Int.pow_pos (by omega)
theorem zw_congr {f g : Nat → Int32} : ∀ {n : Nat}, (∀ k, k < n → f k = g k) → zw f n = zw g n
  | 0, _ => rfl
  | n + 1, h => by
    have h1 := zw_congr (n := n) (fun k hk => h k (by omega))
    have h2 := h n (by omega)
    simp only [zw, h1, h2]
theorem lim_congr {f g : Nat → Int32} {n : Nat} (h : lim g n) (he : ∀ k, k < n → f k = g k) : lim f n := fun k hk => by rw [he k hk]; exact h k hk
theorem lim_le {f : Nat → Int32} {n j : Nat} (h : lim f n) (hj : j ≤ n) : lim f j := fun k hk => h k (by omega)
theorem zw_nonneg {f : Nat → Int32} : ∀ {n : Nat}, lim f n → 0 ≤ zw f n
  | 0, _ => Int.le_refl 0
  | n + 1, h => by
    have h1 := zw_nonneg (n := n) (fun k hk => h k (by omega))
    have h2 := Int.mul_nonneg (h n (by omega)).1 (Int.le_of_lt (p30_pos n))
    simp only [zw]; omega
theorem zw_lt {f : Nat → Int32} : ∀ {n : Nat}, lim f n → zw f n < 2 ^ (30 * n)
  | 0, _ => by simp [zw]
  | n + 1, h => by
    have h1 := zw_lt (n := n) (fun k hk => h k (by omega))
    have h2 : (f n).toInt ≤ 1073741823 := by have := h n (by omega); omega
    have h3 := Int.mul_le_mul_of_nonneg_right h2 (Int.le_of_lt (p30_pos n))
    rw [p30]; simp only [zw]; omega
theorem i32_pos {x : Int32} (h : 0 ≤ x.toInt) (hx : x ≠ 0) : 1 ≤ x.toInt := by
  rcases Int.lt_or_eq_of_le h with q | q
  · omega
  · exact absurd (by rw [← iZ_self x, ← q]; rfl) hx
theorem zw_top {f : Nat → Int32} {n : Nat} (h : lim f (n + 1)) (ht : f n ≠ 0) : 2 ^ (30 * n) ≤ zw f (n + 1) := by
  have h1 := zw_nonneg (lim_le h (Nat.le_succ n))
  have h2 := i32_pos (h n (by omega)).1 ht
  have h3 := Int.mul_le_mul_of_nonneg_right h2 (Int.le_of_lt (p30_pos n))
  simp only [zw]; omega
theorem zw_zero {f : Nat → Int32} {j : Nat} : ∀ {n : Nat}, j ≤ n → (∀ k, j ≤ k → k < n → f k = 0) → zw f n = zw f j
  | 0, h, _ => by have : j = 0 := by omega
                  subst this; rfl
  | n + 1, h, hz => by
    rcases Nat.lt_or_ge n j with q | q
    · have : j = n + 1 := by omega
      subst this; rfl
    · have h1 := zw_zero (n := n) q (fun k h1 h2 => hz k h1 (by omega))
      have h2 := hz n q (by omega)
      simp only [zw, h1, h2]
      have : (0 : Int32).toInt = 0 := rfl
      rw [this]; omega
theorem dig30 (t b : Int) : t % 1073741824 * b + t / 1073741824 * (b * 1073741824) = t * b := by
  have h := Int.emod_add_mul_ediv t 1073741824
  have h2 : t / 1073741824 * (b * 1073741824) = 1073741824 * (t / 1073741824) * b := by
    rw [Int.mul_comm b, ← Int.mul_assoc, Int.mul_comm (t / 1073741824)]
  rw [h2, ← Int.add_mul, h]
theorem zw_split {f : Nat → Int32} {i : Nat} : ∀ {k : Nat}, zw f (i + k) = zw f i + 2 ^ (30 * i) * zw (fun j => f (i + j)) k
  | 0 => by simp [zw]
  | k + 1 => by
    have h := zw_split (f := f) (i := i) (k := k)
    rw [← Nat.add_assoc]
    simp only [zw]
    rw [h, Int.mul_add, Nat.mul_add, Int.pow_add, Int.mul_left_comm (2 ^ (30 * i))]
    omega
theorem zw_upd_lo {f : Nat → Int32} {j : Nat} {x : Int32} {n : Nat} (h : n ≤ j) : zw (upd f j x) n = zw f n := zw_congr (fun k hk => upd_ne (by omega))
theorem zw_upd_top {f : Nat → Int32} {n : Nat} {x : Int32} : zw (upd f n x) (n + 1) = zw f n + x.toInt * 2 ^ (30 * n) := by
  simp only [zw]
  rw [zw_upd_lo (Nat.le_refl _), upd_eq]
theorem zw_set {f : Nat → Int32} {q : Nat} {v : Int32} : ∀ {n : Nat}, q < n → zw (upd f q v) n = zw f n + (v.toInt - (f q).toInt) * 2 ^ (30 * q)
  | 0, h => absurd h (by omega)
  | n + 1, h => by
    rcases Nat.lt_or_ge q n with g | g
    · have h1 := zw_set (f := f) (q := q) (v := v) (n := n) g
      simp only [zw]
      rw [h1, upd_ne (by omega)]; omega
    · have : q = n := by omega
      subst this
      rw [zw_upd_top, Int.sub_mul]
      simp only [zw]; omega
theorem lim_upd {f : Nat → Int32} {n : Nat} {x : Int32} (h : lim f n) (hx : 0 ≤ x.toInt ∧ x.toInt < 1073741824) : lim (upd f n x) (n + 1) := fun k hk => by
  rcases Nat.lt_or_ge k n with q | q
  · rw [upd_ne (by omega)]; exact h k q
  · have : k = n := by omega
    subst this; rw [upd_eq]; exact hx
theorem lim_set {f : Nat → Int32} {n j : Nat} {x : Int32} (h : lim f n) (hx : 0 ≤ x.toInt ∧ x.toInt < 1073741824) : lim (upd f j x) n := fun k hk => by
  by_cases q : k = j
  · subst q; rw [upd_eq]; exact hx
  · rw [upd_ne q]; exact h k hk
theorem zw_lt_of {f g : Nat → Int32} {k : Nat} : ∀ {n : Nat}, k < n → lim f n → lim g n → (∀ i, k < i → i < n → f i = g i) → (f k).toInt < (g k).toInt → zw f n < zw g n
  | 0, h, _, _, _, _ => absurd h (by omega)
  | n + 1, h, hf, hg, he, hlt => by
    rcases Nat.lt_or_ge k n with q | q
    · have h1 := zw_lt_of (n := n) q (lim_le hf (Nat.le_succ n)) (lim_le hg (Nat.le_succ n)) (fun i h1 h2 => he i h1 (by omega)) hlt
      have h2 := he n q (by omega)
      simp only [zw, h2]; omega
    · have : k = n := by omega
      subst this
      have h1 := zw_lt (lim_le hf (Nat.le_succ k))
      have h2 := zw_nonneg (lim_le hg (Nat.le_succ k))
      have h3 := Int.mul_le_mul_of_nonneg_right (show (f k).toInt + 1 ≤ (g k).toInt by omega) (Int.le_of_lt (p30_pos k))
      rw [Int.add_mul] at h3
      simp only [zw]; omega
/-- a row of n limbs, of which k are used, holds the magnitude of z -/
def wN (n : Nat) (f : Nat → Int32) (k : Nat) (z : Int) : Prop := k ≤ n ∧ lim f k ∧ (∀ i, k = i + 1 → f i ≠ 0) ∧ (z.natAbs : Int) = zw f k
theorem pow30_le {N i : Nat} (h : N ≤ i) : (2 : Int) ^ (30 * N) ≤ 2 ^ (30 * i) := by
  have h9 : (2 : Nat) ^ (30 * N) ≤ 2 ^ (30 * i) := Nat.pow_le_pow_right (by omega) (by omega)
  have e1 : ((2 ^ (30 * N) : Nat) : Int) = 2 ^ (30 * N) := by simp
  have e2 : ((2 ^ (30 * i) : Nat) : Int) = 2 ^ (30 * i) := by simp
  rw [← e1, ← e2]
  exact Int.ofNat_le.2 h9
theorem wN_size {n k N : Nat} {f : Nat → Int32} {z : Int} (h : wN n f k z) (hz : (z.natAbs : Int) < 2 ^ (30 * N)) : k ≤ N := by
  obtain ⟨h1, h3, h4, h6⟩ := h
  rcases Nat.lt_or_ge N k with q | q
  · obtain ⟨i, rfl⟩ : ∃ i, k = i + 1 := ⟨k - 1, by omega⟩
    have h7 := zw_top h3 (h4 i rfl)
    have h8 := pow30_le (show N ≤ i by omega)
    omega
  · exact q
theorem wN_lt {n k : Nat} {f : Nat → Int32} {z : Int} (h : wN n f k z) : (z.natAbs : Int) < 2 ^ (30 * k) := by rw [h.2.2.2]; exact zw_lt h.2.1
theorem wN_0 {n : Nat} {f : Nat → Int32} {z : Int} (h : wN n f 0 z) : z = 0 := by
  have := h.2.2.2
  simp only [zw] at this
  omega
theorem wN_k0 {n k : Nat} {f : Nat → Int32} (h : wN n f k 0) : k = 0 := by
  have := wN_size (N := 0) h (by simp)
  omega
theorem wN_congr {n n' k : Nat} {f g : Nat → Int32} {z : Int} (h : wN n f k z) (hn : k ≤ n') (he : ∀ i, i < k → g i = f i) : wN n' g k z := by
  obtain ⟨h1, h3, h4, h6⟩ := h
  exact ⟨hn, lim_congr h3 he, fun i hi => by rw [he i (by omega)]; exact h4 i hi, by rw [h6]; exact zw_congr (fun i hi => (he i hi).symm)⟩
/-- behind trim -/
theorem wN_trim {n N j : Nat} {g : Nat → Int32} {sg : Int} (hn : N ≤ n) (hl : lim g N) (hj : j ≤ N) (hz : ∀ k, j ≤ k → k < N → g k = 0) (htop : ∀ i, j = i + 1 → g i ≠ 0) (hsg : sg = 1 ∨ sg = -1 ∨ (sg = 0 ∧ zw g N = 0)) : wN n g j (sg * zw g N) ∧ (if j = 0 then 0 else sg) = (sg * zw g N).sign := by
  have e := zw_zero hj hz
  have hlj : lim g j := lim_le hl hj
  have h0 := zw_nonneg hl
  refine ⟨⟨by omega, hlj, htop, ?_⟩, ?_⟩
  · rw [← e]
    rcases hsg with rfl | rfl | ⟨rfl, h0⟩ <;> omega
  · by_cases q : j = 0
    · subst q
      have h3 : zw g N = 0 := e
      rw [if_pos rfl, h3, Int.mul_zero]; rfl
    · rw [if_neg q]
      obtain ⟨i, rfl⟩ : ∃ i, j = i + 1 := ⟨j - 1, by omega⟩
      have h1 := zw_top hlj (htop i rfl)
      have h2 := p30_pos i
      have hpos : 0 < zw g N := by omega
      rcases hsg with rfl | rfl | ⟨rfl, h0⟩
      · rw [Int.one_mul, Int.sign_eq_one_of_pos hpos]
      · rw [Int.sign_eq_neg_one_of_neg (by omega)]
      · omega
/-- digit k of n limbs, 0 beyond them -/
def wd (f : Nat → Int32) (n k : Nat) : Int := if k < n then (f k).toInt else 0
def zq (d : Nat → Int) : Nat → Int
  | 0 => 0
  | n + 1 => zq d n + d n * 2 ^ (30 * n)
theorem wd_in {f : Nat → Int32} {n k : Nat} (h : k < n) : wd f n k = (f k).toInt := if_pos h
theorem wd_out {f : Nat → Int32} {n k : Nat} (h : ¬ k < n) : wd f n k = 0 := if_neg h
theorem wd_r {f : Nat → Int32} {n : Nat} (h : lim f n) (k : Nat) : 0 ≤ wd f n k ∧ wd f n k < 1073741824 := by
  unfold wd
  by_cases q : k < n
  · rw [if_pos q]; exact h k q
  · rw [if_neg q]; omega
theorem zq_lo {f : Nat → Int32} {n : Nat} : ∀ {N : Nat}, N ≤ n → zq (wd f n) N = zw f N
  | 0, _ => rfl
  | N + 1, h => by
    have h1 := zq_lo (f := f) (n := n) (N := N) (by omega)
    simp only [zq, zw, h1, wd_in (show N < n by omega)]
theorem zq_wd {f : Nat → Int32} {n : Nat} : ∀ {N : Nat}, n ≤ N → zq (wd f n) N = zw f n
  | 0, h => by have : n = 0 := by omega
               subst this; rfl
  | N + 1, h => by
    rcases Nat.lt_or_ge N n with q | q
    · have : n = N + 1 := by omega
      subst this; exact zq_lo (Nat.le_refl _)
    · have h1 := zq_wd (f := f) (n := n) (N := N) q
      simp only [zq, h1, wd_out (show ¬ N < n by omega)]; omega
/-- what a row may have cost so far: cells, slots -/
def gc (n : Nat) : Nat := Nat.log2 n
theorem gc_up {n n' : Nat} (h : 0 < n) (h2 : 2 * n ≤ n') : gc n + 1 ≤ gc n' := by
  unfold gc
  have e : Nat.log2 (2 * n) = Nat.log2 n + 1 := Nat.log2_two_mul (by omega)
  rw [← e]
  have h3 : 2 ^ (2 * n).log2 ≤ n' := Nat.le_trans (Nat.log2_self_le (by omega)) h2
  exact (Nat.le_log2 (by omega)).2 h3
end WNUM
