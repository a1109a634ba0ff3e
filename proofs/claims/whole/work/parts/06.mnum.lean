section MNUM
theorem i32r (x : Int32) : -2147483648 ≤ x.toInt ∧ x.toInt < 2147483648 := ⟨by have := x.le_toInt; omega, by have := x.toInt_lt; omega⟩
theorem i64r (x : Int64) : -9223372036854775808 ≤ x.toInt ∧ x.toInt < 9223372036854775808 := ⟨by have := x.le_toInt; omega, by have := x.toInt_lt; omega⟩
theorem upd_eq {f : Nat → Int32} {k : Nat} {x : Int32} : upd f k x k = x := pk_us
theorem upd_ne {f : Nat → Int32} {k j : Nat} {x : Int32} (h : j ≠ k) : upd f k x j = f j := pk_un h
/-- the value of n limbs of 31 bits from the place o on -/
def zv (f : Nat → Int32) (o : Nat) : Nat → Int
  | 0 => 0
  | n + 1 => zv f o n + (f (o + n)).toInt * 2 ^ (31 * n)
def limb (f : Nat → Int32) (o n : Nat) : Prop := ∀ k, k < n → 0 ≤ (f (o + k)).toInt
theorem p31 (n : Nat) : (2 : Int) ^ (31 * (n + 1)) = 2 ^ (31 * n) * 2147483648 := by
  rw [Nat.mul_succ, Int.pow_add]; rfl
theorem p31_pos (n : Nat) : (0 : Int) < 2 ^ (31 * n) := Int.pow_pos (by omega)
theorem zv_congr {f g : Nat → Int32} {o o' : Nat} : ∀ {n : Nat}, (∀ k, k < n → f (o + k) = g (o' + k)) → zv f o n = zv g o' n
  | 0, _ => rfl
  | n + 1, h => by
    have h1 := zv_congr (n := n) (fun k hk => h k (by omega))
    have h2 := h n (by omega)
    simp only [zv, h1, h2]
theorem zv_nonneg {f : Nat → Int32} {o : Nat} : ∀ {n : Nat}, limb f o n → 0 ≤ zv f o n
  | 0, _ => Int.le_refl 0
  | n + 1, h => by
    have h1 := zv_nonneg (n := n) (fun k hk => h k (by omega))
    have h2 := Int.mul_nonneg (h n (by omega)) (Int.le_of_lt (p31_pos n))
    simp only [zv]; omega
theorem zv_lt {f : Nat → Int32} {o : Nat} : ∀ {n : Nat}, limb f o n → zv f o n < 2 ^ (31 * n)
  | 0, _ => by simp [zv]
  | n + 1, h => by
    have h1 := zv_lt (n := n) (fun k hk => h k (by omega))
    have h2 : (f (o + n)).toInt ≤ 2147483647 := by have := i32r (f (o + n)); omega
    have h3 := Int.mul_le_mul_of_nonneg_right h2 (Int.le_of_lt (p31_pos n))
    rw [p31]; simp only [zv]; omega
theorem zv_top {f : Nat → Int32} {o n : Nat} (h : limb f o (n + 1)) (ht : f (o + n) ≠ 0) : 2 ^ (31 * n) ≤ zv f o (n + 1) := by
  have h1 := zv_nonneg (n := n) (fun k hk => h k (by omega) : limb f o n)
  have h2 : 1 ≤ (f (o + n)).toInt := by
    have h3 := h n (by omega)
    rcases Int.lt_or_eq_of_le h3 with q | q
    · omega
    · exact absurd (by rw [← iZ_self (f (o + n)), ← q]; rfl) ht
  have h3 := Int.mul_le_mul_of_nonneg_right h2 (Int.le_of_lt (p31_pos n))
  simp only [zv]; omega
theorem zv_zero {f : Nat → Int32} {o j : Nat} : ∀ {n : Nat}, j ≤ n → (∀ k, j ≤ k → k < n → f (o + k) = 0) → zv f o n = zv f o j
  | 0, h, _ => by have : j = 0 := by omega
                  subst this; rfl
  | n + 1, h, hz => by
    rcases Nat.lt_or_ge n j with q | q
    · have : j = n + 1 := by omega
      subst this; rfl
    · have h1 := zv_zero (n := n) q (fun k h1 h2 => hz k h1 (by omega))
      have h2 := hz n q (by omega)
      simp only [zv, h1, h2]
      have : (0 : Int32).toInt = 0 := rfl
      rw [this]; omega
theorem dig31 (t b : Int) : t % 2147483648 * b + t / 2147483648 * (b * 2147483648) = t * b := by
  have h := Int.emod_add_mul_ediv t 2147483648
  have h2 : t / 2147483648 * (b * 2147483648) = 2147483648 * (t / 2147483648) * b := by
    rw [Int.mul_comm b, ← Int.mul_assoc, Int.mul_comm (t / 2147483648)]
  rw [h2, ← Int.add_mul, h]
/-- the number a of the reference has the value z -/
def mNum (fL fS fN : Nat → Int32) (a : Nat) (z : Int) : Prop := ∃ n : Nat, n ≤ 640 ∧ fS a = iZ n ∧ limb fL (640 * a) n ∧ (∀ i, n = i + 1 → fL (640 * a + i) ≠ 0) ∧ fN a = iZ z.sign ∧ (z.natAbs : Int) = zv fL (640 * a) n
def mAll (fL fS fN : Nat → Int32) (Z : Nat → Int) : Prop := ∀ a : Nat, a < 141 → mNum fL fS fN a (Z a)
def uZ (Z : Nat → Int) (a : Nat) (z : Int) : Nat → Int := fun j => if j = a then z else Z j
theorem uZ_eq {Z : Nat → Int} {a : Nat} {z : Int} : uZ Z a z a = z := if_pos rfl
theorem uZ_ne {Z : Nat → Int} {a j : Nat} {z : Int} (h : j ≠ a) : uZ Z a z j = Z j := if_neg h
def mPost (fD : Nat → Int32) (X : mX) (Z : Nat → Int) (u : mT) : Prop := ∃ fL fS fN : Nat → Int32, mAll fL fS fN Z ∧ u = (fL, fS, fN, fD, X)
def mFr (t : Nat) (fL fS fN gL gS gN : Nat → Int32) : Prop := (∀ c k, c ≠ t → k < 640 → gL (640 * c + k) = fL (640 * c + k)) ∧ (∀ c, c ≠ t → gS c = fS c) ∧ (∀ c, c ≠ t → gN c = fN c)
/-- the number t becomes z, all others stay -/
def mSet (fL fS fN fD : Nat → Int32) (X : mX) (t : Nat) (z : Int) (u : mT) : Prop := ∃ gL gS gN : Nat → Int32, u = (gL, gS, gN, fD, X) ∧ mFr t fL fS fN gL gS gN ∧ mNum gL gS gN t z
theorem mNum_congr {fL fS fN gL gS gN : Nat → Int32} {a : Nat} {z : Int} (h : mNum fL fS fN a z) (hL : ∀ k, k < 640 → gL (640 * a + k) = fL (640 * a + k)) (hS : gS a = fS a) (hN : gN a = fN a) : mNum gL gS gN a z := by
  obtain ⟨n, h1, h2, h3, h4, h5, h6⟩ := h
  refine ⟨n, h1, by rw [hS, h2], fun k hk => ?_, fun i hi => ?_, by rw [hN, h5], ?_⟩
  · rw [hL k (by omega)]; exact h3 k hk
  · rw [hL i (by omega)]; exact h4 i hi
  · rw [h6]; exact zv_congr (fun k hk => (hL k (by omega)).symm)
theorem mAll_up {fL fS fN gL gS gN : Nat → Int32} {Z : Nat → Int} {t : Nat} {z : Int} (h : mAll fL fS fN Z) (hL : ∀ c k, c ≠ t → k < 640 → gL (640 * c + k) = fL (640 * c + k)) (hS : ∀ c, c ≠ t → gS c = fS c) (hN : ∀ c, c ≠ t → gN c = fN c) (ht : mNum gL gS gN t z) : mAll gL gS gN (uZ Z t z) := by
  intro a ha
  by_cases q : a = t
  · subst q; rw [uZ_eq]; exact ht
  · rw [uZ_ne q]; exact mNum_congr (h a ha) (fun k hk => hL a k q hk) (hS a q) (hN a q)
/-- the size of a number is told by its value -/
theorem mNum_size {fL : Nat → Int32} {o n N : Nat} {z : Int} (h3 : limb fL o n) (h4 : ∀ i, n = i + 1 → fL (o + i) ≠ 0) (h6 : (z.natAbs : Int) = zv fL o n) (hz : (z.natAbs : Int) < 2 ^ (31 * N)) : n ≤ N := by
  rcases Nat.lt_or_ge N n with q | q
  · obtain ⟨i, rfl⟩ : ∃ i, n = i + 1 := ⟨n - 1, by omega⟩
    have h7 := zv_top h3 (h4 i rfl)
    have h8 : (2 : Int) ^ (31 * N) ≤ 2 ^ (31 * i) := by
      have h9 : (2 : Nat) ^ (31 * N) ≤ 2 ^ (31 * i) := Nat.pow_le_pow_right (by omega) (by omega)
      have e1 : ((2 ^ (31 * N) : Nat) : Int) = 2 ^ (31 * N) := by simp
      have e2 : ((2 ^ (31 * i) : Nat) : Int) = 2 ^ (31 * i) := by simp
      rw [← e1, ← e2]
      exact Int.ofNat_le.2 h9
    omega
  · exact q
theorem sgn_zero {z : Int} (h : z.sign = 0) : z = 0 := Int.sign_eq_zero_iff_zero.1 h
theorem sgn_r (z : Int) : -1 ≤ z.sign ∧ z.sign ≤ 1 := by
  rcases Int.lt_trichotomy z 0 with h | h | h
  · rw [Int.sign_eq_neg_one_of_neg h]; omega
  · subst h; decide
  · rw [Int.sign_eq_one_of_pos h]; omega
theorem trim_num {gL gS gN : Nat → Int32} {t n j : Nat} {sg : Int} (hn : n ≤ 640) (hl : limb gL (640 * t) n) (hj : j ≤ n) (hz : ∀ k, j ≤ k → k < n → gL (640 * t + k) = 0) (htop : ∀ i, j = i + 1 → gL (640 * t + i) ≠ 0) (hS : gS t = iZ j) (hN : gN t = iZ (if j = 0 then 0 else sg)) (hsg : sg = 1 ∨ sg = -1 ∨ (sg = 0 ∧ zv gL (640 * t) n = 0)) : mNum gL gS gN t (sg * zv gL (640 * t) n) := by
  have e := zv_zero hj hz
  have hlj : limb gL (640 * t) j := fun k hk => hl k (by omega)
  have h0 := zv_nonneg hl
  refine ⟨j, by omega, hS, hlj, htop, ?_, ?_⟩
  · rw [hN]
    by_cases q : j = 0
    · subst q
      have h3 : zv gL (640 * t) n = 0 := e
      rw [if_pos rfl, h3, Int.mul_zero]; rfl
    · rw [if_neg q]
      obtain ⟨i, rfl⟩ : ∃ i, j = i + 1 := ⟨j - 1, by omega⟩
      have h1 := zv_top hlj (htop i rfl)
      have h2 := p31_pos i
      have hpos : 0 < zv gL (640 * t) n := by omega
      rcases hsg with rfl | rfl | ⟨rfl, h0⟩
      · rw [Int.one_mul, Int.sign_eq_one_of_pos hpos]
      · rw [Int.sign_eq_neg_one_of_neg (by omega)]
      · omega
  · rw [← e]
    rcases hsg with rfl | rfl | ⟨rfl, h0⟩ <;> omega
/-- digit k of n limbs, 0 beyond them -/
def dv (f : Nat → Int32) (o n k : Nat) : Int := if k < n then (f (o + k)).toInt else 0
def zd (d : Nat → Int) : Nat → Int
  | 0 => 0
  | n + 1 => zd d n + d n * 2 ^ (31 * n)
theorem dv_in {f : Nat → Int32} {o n k : Nat} (h : k < n) : dv f o n k = (f (o + k)).toInt := if_pos h
theorem dv_out {f : Nat → Int32} {o n k : Nat} (h : ¬ k < n) : dv f o n k = 0 := if_neg h
theorem dv_r {f : Nat → Int32} {o n : Nat} (h : limb f o n) (k : Nat) : 0 ≤ dv f o n k ∧ dv f o n k < 2147483648 := by
  unfold dv
  by_cases q : k < n
  · rw [if_pos q]; exact ⟨h k q, (i32r _).2⟩
  · rw [if_neg q]; omega
theorem zd_lo {f : Nat → Int32} {o n : Nat} : ∀ {N : Nat}, N ≤ n → zd (dv f o n) N = zv f o N
  | 0, _ => rfl
  | N + 1, h => by
    have h1 := zd_lo (f := f) (o := o) (n := n) (N := N) (by omega)
    simp only [zd, zv, h1, dv_in (show N < n by omega)]
theorem zd_dv {f : Nat → Int32} {o n : Nat} : ∀ {N : Nat}, n ≤ N → zd (dv f o n) N = zv f o n
  | 0, h => by have : n = 0 := by omega
               subst this; rfl
  | N + 1, h => by
    rcases Nat.lt_or_ge N n with q | q
    · have : n = N + 1 := by omega
      subst this; exact zd_lo (Nat.le_refl _)
    · have h1 := zd_dv (f := f) (o := o) (n := n) (N := N) q
      simp only [zd, h1, dv_out (show ¬ N < n by omega)]; omega
theorem zv_lt_of {f g : Nat → Int32} {o o' k : Nat} : ∀ {n : Nat}, k < n → limb f o n → limb g o' n → (∀ i, k < i → i < n → f (o + i) = g (o' + i)) → (f (o + k)).toInt < (g (o' + k)).toInt → zv f o n < zv g o' n
  | 0, h, _, _, _, _ => absurd h (by omega)
  | n + 1, h, hf, hg, he, hlt => by
    rcases Nat.lt_or_ge k n with q | q
    · have h1 := zv_lt_of (n := n) q (fun i hi => hf i (by omega)) (fun i hi => hg i (by omega)) (fun i h1 h2 => he i h1 (by omega)) hlt
      have h2 := he n q (by omega)
      simp only [zv, h2]; omega
    · have : k = n := by omega
      subst this
      have h1 := zv_lt (n := k) (fun i hi => hf i (by omega) : limb f o k)
      have h2 := zv_nonneg (n := k) (fun i hi => hg i (by omega) : limb g o' k)
      have h3 := Int.mul_le_mul_of_nonneg_right (show (f (o + k)).toInt + 1 ≤ (g (o' + k)).toInt by omega) (Int.le_of_lt (p31_pos k))
      rw [Int.add_mul] at h3
      simp only [zv]; omega
theorem zv_upd_lo {f : Nat → Int32} {o j : Nat} {x : Int32} : ∀ {n : Nat}, o + n ≤ j → zv (upd f j x) o n = zv f o n := fun {n} h => zv_congr (fun k hk => upd_ne (by omega))
theorem zv_upd_top {f : Nat → Int32} {o n : Nat} {x : Int32} : zv (upd f (o + n) x) o (n + 1) = zv f o n + x.toInt * 2 ^ (31 * n) := by
  simp only [zv]
  rw [zv_upd_lo (Nat.le_refl _), upd_eq]
theorem limb_upd {f : Nat → Int32} {o n : Nat} {x : Int32} (h : limb f o n) (hx : 0 ≤ x.toInt) : limb (upd f (o + n) x) o (n + 1) := fun k hk => by
  rcases Nat.lt_or_ge k n with q | q
  · rw [upd_ne (by omega)]; exact h k q
  · have : k = n := by omega
    subst this; rw [upd_eq]; exact hx
end MNUM
