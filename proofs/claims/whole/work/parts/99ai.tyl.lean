theorem p2pos (ex : Nat) : (0 : Rat) < (2 : Rat) ^ ex := by
  induction ex with
  | zero => grind
  | succ n ih =>
    rw [show (2 : Rat) ^ (n + 1) = 2 ^ n * 2 by grind]
    grind
theorem cast_pow2 (k : Nat) : (((2 : Int) ^ k : Int) : Rat) = (2 : Rat) ^ k := by
  induction k with
  | zero => rfl
  | succ n ih =>
    rw [Int.pow_succ, Rat.intCast_mul, ih]
    have : ((2 : Int) : Rat) = 2 := rfl
    rw [this]
    grind
theorem rat_pow_add (a : Rat) (m : Nat) : ∀ n : Nat, a ^ (m + n) = a ^ m * a ^ n
  | 0 => by rw [Nat.add_zero]; grind
  | n + 1 => by
    rw [← Nat.add_assoc, show a ^ (m + n + 1) = a ^ (m + n) * a by grind, rat_pow_add a m n]
    grind
theorem pow_mul' (a : Rat) (m n : Nat) : a ^ (m * n) = (a ^ m) ^ n := by
  induction n with
  | zero => rw [Nat.mul_zero]; grind
  | succ n ih =>
    rw [Nat.mul_succ, rat_pow_add, ih]
    grind
theorem rat_pow_pos {a : Rat} (h : 0 < a) : ∀ n : Nat, 0 < a ^ n
  | 0 => by grind
  | n + 1 => by
    rw [show a ^ (n + 1) = a ^ n * a by grind]
    exact Rat.mul_pos (rat_pow_pos h n) h
/-- the point nu / 2 ^ ex -/
def dy (nu : Int) (ex : Nat) : Rat := (nu : Rat) / (2 : Rat) ^ ex
theorem dy_mul (nu : Int) (ex : Nat) : dy nu ex * (2 : Rat) ^ ex = (nu : Rat) := by
  have := p2pos ex
  unfold dy
  grind
theorem tyl_rv (c : Nat → Int) (N od : Nat) (nu : Int) (ex : Nat) (ho : od ≤ N) : (2 : Rat) ^ ex * ((tyl c N od nu ex (N - od) : Int) : Rat) = ((2 : Rat) ^ ex) ^ (N - od) * rv (dcf c od) (N - od) (dy nu ex) := by
  obtain ⟨p, hp⟩ : ∃ p : Rat, p = (2 : Rat) ^ ex := ⟨_, rfl⟩
  have hp0 : 0 < p := by rw [hp]; exact p2pos ex
  obtain ⟨x, hx⟩ : ∃ x : Rat, x = dy nu ex := ⟨_, rfl⟩
  have hxp : x * p = (nu : Rat) := by rw [hx, hp]; exact dy_mul nu ex
  rw [← hp, ← hx]
  -- Horner's steps without the powers of two
  let t : Nat → Rat := fun j => Nat.rec (motive := fun _ => Rat) 0 (fun j r => r * x + (dcf c od (N - od - 1 - j) : Rat)) j
  have t0 : t 0 = 0 := rfl
  have ts : ∀ j : Nat, t (j + 1) = t j * x + (dcf c od (N - od - 1 - j) : Rat) := fun _ => rfl
  have key : ∀ j : Nat, j ≤ N - od → p * ((tyl c N od nu ex j : Int) : Rat) = p ^ j * t j := by
    intro j
    induction j with
    | zero =>
      intro _
      show p * ((0 : Int) : Rat) = p ^ 0 * t 0
      rw [t0]
      have : ((0 : Int) : Rat) = 0 := rfl
      rw [this]
      grind
    | succ j ih =>
      intro hj
      show p * ((tyl c N od nu ex j * nu + c (N - 1 - j) * (if od = 0 then 1 else chq (N - 1 - j) od) * 2 ^ (ex * j) : Int) : Rat) = p ^ (j + 1) * t (j + 1)
      rw [ts, Rat.intCast_add, Rat.intCast_mul, Rat.intCast_mul, cast_pow2, pow_mul', ← hp]
      have e : ((c (N - 1 - j) * (if od = 0 then 1 else chq (N - 1 - j) od) : Int) : Rat) = (dcf c od (N - od - 1 - j) : Rat) := by
        unfold dcf bch
        rw [show N - od - 1 - j + od = N - 1 - j by omega]
      rw [e, ← hxp]
      have := ih (by omega)
      grind
  have h1 := key (N - od) (Nat.le_refl _)
  have h2 := rv_horner (c := dcf c od) (N := N - od) x t t0 (fun j _ => ts j) (N - od) (Nat.le_refl _)
  rw [Nat.sub_self] at h2
  have e3 : rv (dcf c od) 0 x = 0 := rfl
  rw [e3] at h2
  have e4 : t (N - od) = rv (dcf c od) (N - od) x := by
    rw [← h2]
    grind
  rw [h1, e4]
theorem rsg_int (z : Int) : rsg (z : Rat) = z.sign := by
  rcases Int.lt_trichotomy z 0 with h | h | h
  · have : ((z : Int) : Rat) < ((0 : Int) : Rat) := Rat.intCast_lt_intCast.2 h
    rw [rsg_neg this, Int.sign_eq_neg_one_of_neg h]
  · rw [h]; exact rsg_zero
  · have : ((0 : Int) : Rat) < ((z : Int) : Rat) := Rat.intCast_lt_intCast.2 h
    rw [rsg_pos this, Int.sign_eq_one_of_pos h]
theorem rsg_scale {a b x y : Rat} (ha : 0 < a) (hb : 0 < b) (h : a * x = b * y) : rsg x = rsg y := by
  rcases rsg_cases x with ⟨g, e⟩ | ⟨g, e⟩ | ⟨g, e⟩ <;> rw [e]
  · have := Rat.mul_pos ha g
    rw [h] at this
    rcases rsg_cases y with ⟨k, f⟩ | ⟨k, f⟩ | ⟨k, f⟩
    · rw [f]
    · rw [k] at this; grind
    · have := Rat.mul_pos hb (show 0 < -y by grind); grind
  · rw [g] at h
    rcases rsg_cases y with ⟨k, f⟩ | ⟨k, f⟩ | ⟨k, f⟩
    · have := Rat.mul_pos hb k; grind
    · rw [f]
    · have := Rat.mul_pos hb (show 0 < -y by grind); grind
  · have := Rat.mul_pos ha (show 0 < -x by grind)
    rcases rsg_cases y with ⟨k, f⟩ | ⟨k, f⟩ | ⟨k, f⟩
    · have := Rat.mul_pos hb k; grind
    · rw [k] at h; grind
    · rw [f]
theorem tyl_sign (c : Nat → Int) (N od : Nat) (nu : Int) (ex : Nat) (ho : od ≤ N) : (tyl c N od nu ex (N - od)).sign = rsg (rv (dcf c od) (N - od) (dy nu ex)) := by
  rw [← rsg_int]
  exact rsg_scale (p2pos ex) (rat_pow_pos (p2pos ex) _) (tyl_rv c N od nu ex ho)
theorem dcf_zero (c : Nat → Int) : dcf c 0 = c := by
  funext i
  unfold dcf bch
  rw [if_pos rfl, Nat.add_zero, Int.mul_one]
theorem tyl_sign0 (c : Nat → Int) (N : Nat) (nu : Int) (ex : Nat) : (tyl c N 0 nu ex N).sign = rsg (rv c N (dy nu ex)) := by
  have h := tyl_sign c N 0 nu ex (Nat.zero_le _)
  rw [Nat.sub_zero, dcf_zero] at h
  exact h
/-- at odd multiples of a small enough power of two no value is 0 -/
theorem odd_nz {c : Nat → Int} {N ex : Nat} {nu : Int} (hN : 1 ≤ N) (hodd : nu % 2 = 1) (hc : c (N - 1) ≠ 0) (hb : (c (N - 1)).natAbs < 2 ^ ex) : tyl c N 0 nu ex N ≠ 0 := by
  intro h
  have hcop : Nat.Coprime (2 ^ ex) nu.natAbs := by
    apply Nat.Coprime.pow_left
    have h1 : nu.natAbs % 2 = 1 := by omega
    unfold Nat.Coprime
    rw [Nat.gcd_rec, h1]
    rfl
  have key : ∀ j : Nat, ∃ k : Int, tyl c N 0 nu ex (j + 1) = c (N - 1) * nu ^ j + 2 ^ ex * k := by
    intro j
    induction j with
    | zero =>
      refine ⟨0, ?_⟩
      show 0 * nu + c (N - 1 - 0) * 1 * 2 ^ (ex * 0) = _
      rw [Nat.sub_zero, Nat.mul_zero]
      simp
    | succ j ih =>
      obtain ⟨k, hk⟩ := ih
      refine ⟨k * nu + c (N - 1 - (j + 1)) * 2 ^ (ex * j), ?_⟩
      show tyl c N 0 nu ex (j + 1) * nu + c (N - 1 - (j + 1)) * 1 * 2 ^ (ex * (j + 1)) = _
      rw [hk, Nat.mul_succ, Int.pow_add, Int.pow_succ]
      grind
  obtain ⟨k, hk⟩ := key (N - 1)
  rw [show N - 1 + 1 = N by omega, h] at hk
  have hdv : ∀ j : Nat, (2 ^ ex : Nat) ∣ (c (N - 1)).natAbs * nu.natAbs ^ j → (2 ^ ex : Nat) ∣ (c (N - 1)).natAbs := by
    intro j
    induction j with
    | zero => intro g; rw [Nat.pow_zero, Nat.mul_one] at g; exact g
    | succ j ih =>
      intro g
      rw [Nat.pow_succ, ← Nat.mul_assoc] at g
      exact ih (hcop.dvd_of_dvd_mul_right g)
  have hd : (2 ^ ex : Nat) ∣ (c (N - 1)).natAbs * nu.natAbs ^ (N - 1) := by
    have h1 : c (N - 1) * nu ^ (N - 1) = 2 ^ ex * (-k) := by grind
    have h2 := congrArg Int.natAbs h1
    rw [Int.natAbs_mul, Int.natAbs_pow, Int.natAbs_mul, Int.natAbs_pow] at h2
    exact ⟨(-k).natAbs, h2⟩
  have h3 := hdv (N - 1) hd
  have h4 : 0 < (c (N - 1)).natAbs := by omega
  have h5 := Nat.le_of_dvd h4 h3
  omega
theorem int_lt_pow (n : Nat) : n < 2 ^ n := Nat.lt_two_pow_self
theorem two_pow_big (q : Rat) : ∃ k : Nat, q ≤ (2 : Rat) ^ k ∧ 1 ≤ k := by
  obtain ⟨n, h1, h2⟩ := arch q
  refine ⟨n, ?_, h1⟩
  have h3 : ((n : Int) : Rat) ≤ (((2 : Int) ^ n : Int) : Rat) := Rat.intCast_le_intCast.2 (by
    have := int_lt_pow n
    have e : (((2 ^ n : Nat)) : Int) = 2 ^ n := by simp
    omega)
  rw [cast_pow2] at h3
  have e : ((n : Int) : Rat) = (n : Rat) := rfl
  rw [e] at h3
  grind
theorem two_pow_mono {a b : Nat} (h : a ≤ b) : (2 : Rat) ^ a ≤ (2 : Rat) ^ b := by
  have h3 : (((2 : Int) ^ a : Int) : Rat) ≤ (((2 : Int) ^ b : Int) : Rat) := Rat.intCast_le_intCast.2 (by
    have h1 : 2 ^ a ≤ 2 ^ b := Nat.pow_le_pow_right (by decide) h
    have e1 : (((2 ^ a : Nat)) : Int) = 2 ^ a := by simp
    have e2 : (((2 ^ b : Nat)) : Int) = 2 ^ b := by simp
    omega)
  rw [cast_pow2, cast_pow2] at h3
  exact h3
/-- no interval is full of zeros -/
theorem dense {c : Nat → Int} {N : Nat} (hN : 1 ≤ N) (hc : c (N - 1) ≠ 0) (x y : Rat) (hxy : x < y) : ∃ z : Rat, x < z ∧ z < y ∧ rv c N z ≠ 0 := by
  obtain ⟨k1, h1, _⟩ := two_pow_big (3 / (y - x))
  obtain ⟨ex, hex⟩ : ∃ e : Nat, e = k1 + (c (N - 1)).natAbs := ⟨_, rfl⟩
  have hb : (c (N - 1)).natAbs < 2 ^ ex := Nat.lt_of_lt_of_le (int_lt_pow _) (Nat.pow_le_pow_right (by decide) (by omega))
  have hp := p2pos ex
  have hw : 3 ≤ (2 : Rat) ^ ex * (y - x) := by
    have h2 := two_pow_mono (show k1 ≤ ex by omega)
    have h3 : 3 / (y - x) ≤ (2 : Rat) ^ ex := by grind
    have h4 := Rat.mul_le_mul_of_nonneg_left h3 (c := y - x) (by grind)
    have e : (y - x) * (3 / (y - x)) = 3 := by grind
    rw [e] at h4
    grind
  -- an odd number between
  obtain ⟨f, hf⟩ : ∃ f : Int, f = (x * (2 : Rat) ^ ex).floor := ⟨_, rfl⟩
  have f1 := Rat.floor_le (x * (2 : Rat) ^ ex)
  have f2 := Rat.lt_floor_add_one (x * (2 : Rat) ^ ex)
  rw [← hf] at f1 f2
  obtain ⟨nu, hnu, hn1, hn2⟩ : ∃ nu : Int, nu % 2 = 1 ∧ f + 1 ≤ nu ∧ nu ≤ f + 2 := by
    by_cases q : f % 2 = 0
    · exact ⟨f + 1, by omega, by omega, by omega⟩
    · exact ⟨f + 2, by omega, by omega, by omega⟩
  have r1 : ((f + 1 : Int) : Rat) ≤ (nu : Rat) := Rat.intCast_le_intCast.2 hn1
  have r2 : (nu : Rat) ≤ ((f + 2 : Int) : Rat) := Rat.intCast_le_intCast.2 hn2
  rw [Rat.intCast_add] at r1 r2 f2
  have e1 : ((1 : Int) : Rat) = 1 := rfl
  have e2 : ((2 : Int) : Rat) = 2 := rfl
  rw [e1] at r1 f2
  rw [e2] at r2
  have hz := dy_mul nu ex
  refine ⟨dy nu ex, ?_, ?_, ?_⟩
  · exact Rat.lt_of_mul_lt_mul_left (c := (2 : Rat) ^ ex) (by grind) (by grind)
  · exact Rat.lt_of_mul_lt_mul_left (c := (2 : Rat) ^ ex) (by grind) (by grind)
  · intro h
    have h2 := tyl_sign0 c N nu ex
    rw [h, rsg_zero] at h2
    exact odd_nz hN hnu hc hb (Int.sign_eq_zero_iff_zero.1 h2)
