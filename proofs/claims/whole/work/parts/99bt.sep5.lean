theorem two_pow_nat (k : Nat) : (((2 ^ k : Nat) : Int) : Rat) = (2 : Rat) ^ k := by
  rw [nat_pow_cast]; exact cast_pow2 k
theorem two_add (a b : Nat) : (2 : Rat) ^ a * (2 : Rat) ^ b = (2 : Rat) ^ (a + b) := (rat_pow_add 2 a b).symm
theorem two_pow_pow (a b : Nat) : ((2 : Rat) ^ a) ^ b = (2 : Rat) ^ (a * b) := (pow_mul' 2 a b).symm
/-- a polynomial of the search: short numbers, nothing shared with its derivative -/
def good (f : Nat → Int) (N : Nat) : Prop := 2 ≤ N ∧ N ≤ 9 ∧ f (N - 1) ≠ 0 ∧ (∀ t : Nat, N ≤ t → f t = 0) ∧ (∀ t : Nat, ((f t).natAbs : Int) ≤ 2 ^ 84) ∧ (N = 9 → ∀ t : Nat, ((f t).natAbs : Int) ≤ 2 ^ 30) ∧ ∃ U V : Rat → Rat, pol U ∧ pol V ∧ ∀ x : Rat, 1 = U x * rv f N x + V x * rv (der f) (N - 1) x
theorem der_bd {f : Nat → Int} {N B : Nat} (hN : N ≤ 9) (ho : ∀ t : Nat, N ≤ t → f t = 0) (h : ∀ t : Nat, ((f t).natAbs : Int) ≤ 2 ^ B) (t : Nat) : ((der f t).natAbs : Int) ≤ 2 ^ (B + 3) := by
  unfold der
  rw [Int.natAbs_mul, Int.natCast_mul]
  have hp : (0 : Int) ≤ 2 ^ B := Int.le_of_lt (Int.pow_pos (by decide))
  rw [Int.pow_add]
  rcases Nat.lt_or_ge (t + 1) N with c | c
  · have h1 := h (t + 1)
    have h2 : ((((t + 1 : Nat) : Int)).natAbs : Int) ≤ 2 ^ 3 := by
      have e : (2 : Int) ^ 3 = 8 := rfl
      rw [e]; omega
    exact Int.mul_le_mul h1 h2 (by omega) hp
  · rw [ho (t + 1) c]
    simp
    exact Int.mul_nonneg hp (by decide)
/-- at no point within 2 to the power 31 are both small -/
theorem good_sep {f : Nat → Int} {N : Nat} (h : good f N) {x : Rat} (hx : ab ((2 : Rat) ^ 31) x) : ¬ (ab (1 / (2 : Rat) ^ 1300) (rv f N x) ∧ ab (1 / (2 : Rat) ^ 1300) (rv (der f) (N - 1) x)) := by
  obtain ⟨h1, h2, h3, h4, h5, h6, h7⟩ := h
  obtain ⟨d, rfl⟩ : ∃ d : Nat, N = d + 1 := ⟨N - 1, by omega⟩
  rw [Nat.add_sub_cancel] at *
  have hX : (1 : Rat) ≤ (2 : Rat) ^ 31 := by have := two_pow_mono (show 0 ≤ 31 by omega); grind
  have e1 : d - 1 + 1 = d := by omega
  have p1300 := p2pos 1300
  -- the bound, in powers of two
  have fin : ∀ (B q : Nat), (∀ t : Nat, ((f t).natAbs : Int) ≤ 2 ^ B) → qF (2 * d - 1) ≤ 2 ^ q → q + (B + 3) * (2 * d - 2) + 31 * d < 1300 → ¬ (ab (1 / (2 : Rat) ^ 1300) (rv f (d + 1) x) ∧ ab (1 / (2 : Rat) ^ 1300) (rv (der f) d x)) := fun B q hB hq hs => by
    have hM : (1 : Int) ≤ 2 ^ (B + 3) := by
      have : (0 : Int) < 2 ^ (B + 3) := Int.pow_pos (by decide)
      omega
    have := sep_low (f := f) (d := d) (by omega) h3 (fun t ht => h4 t (by omega)) hM (fun t => by
      have a1 := hB t
      have a2 : (2 : Int) ^ B ≤ 2 ^ (B + 3) := by
        rw [Int.pow_add]
        have : (0 : Int) < 2 ^ B := Int.pow_pos (by decide)
        have e : (2 : Int) ^ 3 = 8 := rfl
        rw [e]; omega
      omega) (der_bd h2 h4 hB) (by rw [e1]; exact h7) hX hx (e := 1 / (2 : Rat) ^ 1300) (Rat.le_of_lt (div_pos' (by grind) p1300)) (by
      have q1 : ((qF (2 * d - 1) : Int) : Rat) ≤ (2 : Rat) ^ q := by
        rw [← cast_pow2]; exact Rat.intCast_le_intCast.2 hq
      have e2 : (((2 : Int) ^ (B + 3) : Int) : Rat) ^ (2 * d - 2) = (2 : Rat) ^ ((B + 3) * (2 * d - 2)) := by rw [cast_pow2, two_pow_pow]
      rw [e2, two_pow_pow]
      have q2 := Rat.mul_le_mul_of_nonneg_left q1 (c := (2 : Rat) ^ ((B + 3) * (2 * d - 2)) * ((2 : Rat) ^ (31 * d) * (1 / (2 : Rat) ^ 1300))) (Rat.mul_nonneg (Rat.le_of_lt (p2pos _)) (Rat.mul_nonneg (Rat.le_of_lt (p2pos _)) (Rat.le_of_lt (div_pos' (by grind) p1300))))
      have e3 : (2 : Rat) ^ ((B + 3) * (2 * d - 2)) * ((2 : Rat) ^ (31 * d) * (1 / (2 : Rat) ^ 1300)) * (2 : Rat) ^ q = (2 : Rat) ^ (q + (B + 3) * (2 * d - 2) + 31 * d) * (1 / (2 : Rat) ^ 1300) := by
        rw [rat_pow_add, rat_pow_add]; grind
      rw [e3] at q2
      have q3 := two_pow_mono (show q + (B + 3) * (2 * d - 2) + 31 * d + 1 ≤ 1300 by omega)
      rw [rat_pow_add] at q3
      have q4 : (2 : Rat) ^ (q + (B + 3) * (2 * d - 2) + 31 * d) * (1 / (2 : Rat) ^ 1300) < 1 := by
        have e4 : (2 : Rat) ^ 1300 * (1 / (2 : Rat) ^ 1300) = 1 := by grind
        have q5 := p2pos (q + (B + 3) * (2 * d - 2) + 31 * d)
        have q6 : (2 : Rat) ^ (q + (B + 3) * (2 * d - 2) + 31 * d) < (2 : Rat) ^ 1300 := by grind
        have q7 := Rat.mul_pos (show 0 < (2 : Rat) ^ 1300 - (2 : Rat) ^ (q + (B + 3) * (2 * d - 2) + 31 * d) by grind) (div_pos' (show (0 : Rat) < 1 by grind) p1300)
        grind
      grind)
    rw [e1] at this
    exact this
  rcases Nat.lt_or_ge d 8 with c | c
  · refine fin 84 33 h5 ?_ ?_
    · have : d = 1 ∨ d = 2 ∨ d = 3 ∨ d = 4 ∨ d = 5 ∨ d = 6 ∨ d = 7 := by omega
      rcases this with h | h | h | h | h | h | h <;> subst h <;> decide
    · have : d = 1 ∨ d = 2 ∨ d = 3 ∨ d = 4 ∨ d = 5 ∨ d = 6 ∨ d = 7 := by omega
      rcases this with h | h | h | h | h | h | h <;> subst h <;> decide
  · have e8 : d = 8 := by omega
    subst e8
    exact fin 30 41 (h6 rfl) (by decide) (by decide)
theorem csum_bd {c : Nat → Int} {B : Nat} : ∀ n : Nat, n ≤ 9 → (∀ i : Nat, i < n → ((c i).natAbs : Int) ≤ 2 ^ B) → csum c n ≤ (n : Rat) * (2 : Rat) ^ B
  | 0, _, _ => by show (0 : Rat) ≤ ((0 : Nat) : Rat) * _; have : ((0 : Nat) : Rat) = 0 := rfl; rw [this]; grind
  | n + 1, hn, h => by
    have ih := csum_bd n (by omega) (fun i hi => h i (by omega))
    have h1 : (((c n).natAbs : Int) : Rat) ≤ (((2 : Int) ^ B : Int) : Rat) := Rat.intCast_le_intCast.2 (h n (by omega))
    rw [cast_pow2] at h1
    have e : (((c n).natAbs : Int) : Rat) = ((c n).natAbs : Rat) := rfl
    rw [e] at h1
    show csum c n + ((c n).natAbs : Rat) ≤ _
    rw [nat_succ]; grind
/-- the coefficients about a point -/
theorem good_tay {f : Nat → Int} {N : Nat} (h : good f N) {a : Rat} (ha : ab ((2 : Rat) ^ 31) a) (i : Nat) (hi : i < N) : ab ((2 : Rat) ^ 374) (rv (dcf f i) (N - i) a) := by
  obtain ⟨h1, h2, h3, h4, h5, h6, h7⟩ := h
  have hX : (1 : Rat) ≤ (2 : Rat) ^ 31 := by have := two_pow_mono (show 0 ≤ 31 by omega); grind
  have hb : ∀ j : Nat, j < N - i → ((dcf f i j).natAbs : Int) ≤ 2 ^ 91 := fun j hj => by
    unfold dcf
    rw [Int.natAbs_mul, Int.natCast_mul, show (2 : Int) ^ 91 = 2 ^ 84 * 2 ^ 7 from rfl]
    have hh : ∀ a : Fin 9, ∀ b : Fin 9, ((bch a.val b.val).natAbs : Int) ≤ 2 ^ 7 := by decide +kernel
    exact Int.mul_le_mul (h5 _) (hh ⟨j + i, by omega⟩ ⟨i, by omega⟩) (by omega) (by decide)
  have h8 := rv_far (dcf f i) hX ha (N - i)
  have h9 := csum_bd (c := dcf f i) (B := 91) (N - i) (by omega) hb
  have hn : ((N - i : Nat) : Rat) ≤ 9 := by
    have := nat_le (show N - i ≤ 9 by omega)
    exact this
  have p31 := p2pos 31
  have hpw : ((2 : Rat) ^ 31) ^ (N - i) ≤ ((2 : Rat) ^ 31) ^ 9 := by
    rw [two_pow_pow, two_pow_pow]
    exact two_pow_mono (Nat.mul_le_mul_left 31 (show N - i ≤ 9 by omega))
  have h10 : csum (dcf f i) (N - i) ≤ 9 * (2 : Rat) ^ 91 := by
    have := Rat.mul_le_mul_of_nonneg_left hn (c := (2 : Rat) ^ 91) (Rat.le_of_lt (p2pos 91))
    grind
  have h11 : csum (dcf f i) (N - i) * ((2 : Rat) ^ 31) ^ (N - i) ≤ (2 : Rat) ^ 95 * ((2 : Rat) ^ 31) ^ 9 := by
    have t0 := csum_nn (dcf f i) (N - i)
    have t1 := Rat.mul_nonneg t0 (show 0 ≤ ((2 : Rat) ^ 31) ^ 9 - ((2 : Rat) ^ 31) ^ (N - i) by grind)
    have e95 : (2 : Rat) ^ 95 = 16 * (2 : Rat) ^ 91 := by
      rw [show (2 : Rat) ^ 95 = (2 : Rat) ^ 91 * (2 : Rat) ^ 4 from rat_pow_add 2 91 4, show (2 : Rat) ^ 4 = 16 by grind]; grind
    have t2 := Rat.mul_nonneg (show 0 ≤ (2 : Rat) ^ 95 - csum (dcf f i) (N - i) by have := p2pos 91; grind) (show 0 ≤ ((2 : Rat) ^ 31) ^ 9 from Rat.le_of_lt (rat_pow_pos p31 9))
    grind
  have h12 := ab_le h8 h11
  rw [two_pow_pow, two_add, show 95 + 31 * 9 = 31 + 343 by omega, rat_pow_add] at h12
  have h13 : ab ((2 : Rat) ^ 343) (rv (dcf f i) (N - i) a) := by
    unfold ab at *
    constructor
    · exact Rat.le_of_mul_le_mul_left (c := (2 : Rat) ^ 31) (by grind) p31
    · exact Rat.le_of_mul_le_mul_left (c := (2 : Rat) ^ 31) (by grind) p31
  exact ab_le h13 (two_pow_mono (by omega))
