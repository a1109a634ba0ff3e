/-- two polynomials without a common factor are not small together -/
theorem sep_pair {f g : Nat → Int} {d n1 : Nat} (hd : 1 ≤ d) (hdn : n1 ≤ d) (hf : f d ≠ 0) (ho : ∀ t : Nat, d < t → f t = 0) (hdl : g n1 ≠ 0) (hdo : ∀ t : Nat, n1 < t → g t = 0) {M : Int} (hM : 1 ≤ M) (h0 : ∀ t : Nat, ((f t).natAbs : Int) ≤ M) (h1 : ∀ t : Nat, ((g t).natAbs : Int) ≤ M)
    (hbz : ∃ U V : Rat → Rat, pol U ∧ pol V ∧ ∀ x : Rat, 1 = U x * rv f (d + 1) x + V x * rv g (n1 + 1) x) {x X e : Rat} (hX : 1 ≤ X) (hx : ab X x) (he : 0 ≤ e) (hs : ((qF (d + n1) : Int) : Rat) * (M : Rat) ^ (d + n1 - 1) * (X ^ d * e) < 1) : ¬ (ab e (rv f (d + 1) x) ∧ ab e (rv g (n1 + 1) x)) := by
  rintro ⟨g0, g1⟩
  obtain ⟨r1, r2⟩ := res_ne (f0 := f) (f1 := g) (n0 := d) (n1 := n1) n1 f g d hd (qPr_self hdo hdl hdn) hf ho hbz
  obtain ⟨K, hK⟩ : ∃ K : Nat, K = 2 * d + 2 := ⟨_, rfl⟩
  have hpow : ∀ i : Nat, i ≤ d → ∀ z : Rat, ab e z → ab (X ^ d * e) (x ^ i * z) := fun i hi z hz => by
    have a1 := ab_mul (ab_pow hx i) hz
    refine ab_le a1 ?_
    have a2 : X ^ i ≤ X ^ d := by
      obtain ⟨k, rfl⟩ : ∃ k : Nat, d = i + k := ⟨d - i, by omega⟩
      rw [rat_pow_add]
      have b1 := pow_ge_one hX k
      have b2 := pow_ge_one hX i
      have := Rat.mul_nonneg (show 0 ≤ X ^ i by grind) (show 0 ≤ X ^ k - 1 by grind)
      grind
    have := Rat.mul_nonneg (show 0 ≤ X ^ d - X ^ i by grind) he
    grind
  have hXd : 0 ≤ X ^ d := by have := pow_ge_one hX d; grind
  have hrow : ∀ (c : Nat → Int) (n i : Nat), (∀ t : Nat, n ≤ t → c t = 0) → n + i ≤ K → rv (qx i c) K x = x ^ i * rv c n x := fun c n i hc hni => by
    have b1 := rv_qx c i x (K - i)
    rw [show K - i + i = K by omega] at b1
    rw [b1, rv_le hc (by omega)]
  have hdet := qD_at (M := M) (by omega) (F := X ^ d * e) (x := x) (Rat.mul_nonneg hXd he) K (d + n1 - 2 * 0 - 1) (d + n1 - 0 - 1) (qR f g (n1 - 0) (d - 0)) (fun i hi => by
    unfold qR
    by_cases c : i < n1 - 0
    · simp only [if_pos c]
      refine ⟨fun t => ?_, ?_⟩
      · unfold qx
        split
        · exact h0 _
        · show (((0 : Int).natAbs : Nat) : Int) ≤ M
          have e9 : (((0 : Int).natAbs : Nat) : Int) = 0 := rfl
          omega
      · rw [hrow f (d + 1) _ (fun t ht => ho t (by omega)) (by omega)]
        exact hpow _ (by omega) _ g0
    · simp only [if_neg c]
      refine ⟨fun t => ?_, ?_⟩
      · unfold qx
        split
        · exact h1 _
        · show (((0 : Int).natAbs : Nat) : Int) ≤ M
          have e9 : (((0 : Int).natAbs : Nat) : Int) = 0 := rfl
          omega
      · rw [hrow g (n1 + 1) _ (fun t ht => hdo t (by omega)) (by omega)]
        exact hpow _ (by omega) _ g1)
  have hval : rv (qD (d + n1 - 2 * 0 - 1) (d + n1 - 0 - 1) (qR f g (n1 - 0) (d - 0))) K x = ((qSb f g d n1 0 0 : Int) : Rat) := by
    have b1 : rv (qSb f g d n1 0) K x = rv (qSb f g d n1 0) (0 + 1) x := rv_trim (by omega) (fun i hi _ => r2 i (by omega)) x
    have b2 : rv (qSb f g d n1 0) (0 + 1) x = ((qSb f g d n1 0 0 : Int) : Rat) := by
      show 0 + ((qSb f g d n1 0 0 : Int) : Rat) * x ^ 0 = _
      grind
    exact b1.trans b2
  rw [hval, show d + n1 - 2 * 0 - 1 + 1 = d + n1 by omega, show d + n1 - 2 * 0 - 1 = d + n1 - 1 by omega] at hdet
  have hbig : (1 : Rat) ≤ ((qSb f g d n1 0 0 : Int) : Rat) ∨ ((qSb f g d n1 0 0 : Int) : Rat) ≤ -1 := by
    rcases Int.lt_or_le (qSb f g d n1 0 0) 0 with c | c
    · right
      have : ((qSb f g d n1 0 0 : Int) : Rat) ≤ ((-1 : Int) : Rat) := Rat.intCast_le_intCast.2 (by omega)
      exact this
    · left
      have : ((1 : Int) : Rat) ≤ ((qSb f g d n1 0 0 : Int) : Rat) := Rat.intCast_le_intCast.2 (by omega)
      exact this
  unfold ab at hdet
  rcases hbig with u | u <;> grind
/-- a short polynomial -/
def bd (f : Nat → Int) (N : Nat) : Prop := N ≤ 9 ∧ ∀ t : Nat, ((f t).natAbs : Int) ≤ 2 ^ 84
theorem bd_tay {f : Nat → Int} {N : Nat} (h : bd f N) {a : Rat} (ha : ab ((2 : Rat) ^ 31) a) (i : Nat) (hi : i < N) : ab ((2 : Rat) ^ 374) (rv (dcf f i) (N - i) a) := by
  obtain ⟨h2, h5⟩ := h
  have hX : (1 : Rat) ≤ (2 : Rat) ^ 31 := by have := two_pow_mono (show 0 ≤ 31 by omega); grind
  have hb : ∀ j : Nat, j < N - i → ((dcf f i j).natAbs : Int) ≤ 2 ^ 91 := fun j hj => by
    unfold dcf
    rw [Int.natAbs_mul, Int.natCast_mul, show (2 : Int) ^ 91 = 2 ^ 84 * 2 ^ 7 from rfl]
    have hh : ∀ a : Fin 9, ∀ b : Fin 9, ((bch a.val b.val).natAbs : Int) ≤ 2 ^ 7 := by decide +kernel
    exact Int.mul_le_mul (h5 _) (hh ⟨j + i, by omega⟩ ⟨i, by omega⟩) (by omega) (by decide)
  have h8 := rv_far (dcf f i) hX ha (N - i)
  have h9 := csum_bd (c := dcf f i) (B := 91) (N - i) (by omega) hb
  have hn : ((N - i : Nat) : Rat) ≤ 9 := by
    have := nat_le (show N - i ≤ 9 by omega)
    exact this
  have p31 := p2pos 31
  have hpw : ((2 : Rat) ^ 31) ^ (N - i) ≤ ((2 : Rat) ^ 31) ^ 9 := by
    rw [two_pow_pow, two_pow_pow]
    exact two_pow_mono (Nat.mul_le_mul_left 31 (show N - i ≤ 9 by omega))
  have h10 : csum (dcf f i) (N - i) ≤ 9 * (2 : Rat) ^ 91 := by
    have := Rat.mul_le_mul_of_nonneg_left hn (c := (2 : Rat) ^ 91) (Rat.le_of_lt (p2pos 91))
    grind
  have h11 : csum (dcf f i) (N - i) * ((2 : Rat) ^ 31) ^ (N - i) ≤ (2 : Rat) ^ 95 * ((2 : Rat) ^ 31) ^ 9 := by
    have t0 := csum_nn (dcf f i) (N - i)
    have t1 := Rat.mul_nonneg t0 (show 0 ≤ ((2 : Rat) ^ 31) ^ 9 - ((2 : Rat) ^ 31) ^ (N - i) by grind)
    have e95 : (2 : Rat) ^ 95 = 16 * (2 : Rat) ^ 91 := by
      rw [show (2 : Rat) ^ 95 = (2 : Rat) ^ 91 * (2 : Rat) ^ 4 from rat_pow_add 2 91 4, show (2 : Rat) ^ 4 = 16 by grind]; grind
    have t2 := Rat.mul_nonneg (show 0 ≤ (2 : Rat) ^ 95 - csum (dcf f i) (N - i) by have := p2pos 91; grind) (show 0 ≤ ((2 : Rat) ^ 31) ^ 9 from Rat.le_of_lt (rat_pow_pos p31 9))
    grind
  have h12 := ab_le h8 h11
  rw [two_pow_pow, two_add, show 95 + 31 * 9 = 31 + 343 by omega, rat_pow_add] at h12
  have h13 : ab ((2 : Rat) ^ 343) (rv (dcf f i) (N - i) a) := by
    unfold ab at *
    constructor
    · exact Rat.le_of_mul_le_mul_left (c := (2 : Rat) ^ 31) (by grind) p31
    · exact Rat.le_of_mul_le_mul_left (c := (2 : Rat) ^ 31) (by grind) p31
  exact ab_le h13 (two_pow_mono (by omega))
theorem bd_coef {f c : Nat → Int} {N D : Nat} {a w : Rat} (hg : bd f N) (h : nd f N D c a w) : ∃ k : Rat, 0 < k ∧ k ≤ (2 : Rat) ^ (240 + 8 * D) ∧ (∀ i : Nat, i < N → (c i : Rat) = k * (rv (dcf f i) (N - i) a * w ^ i)) ∧ ∀ i : Nat, i < N → ab (k * (2 : Rat) ^ 374 * w ^ i) (c i : Rat) := by
  obtain ⟨k, k0, k1, k2, w0, w1, a1, a2⟩ := h
  have hN9 := hg.1
  have hc := node_coef (by omega) k2
  refine ⟨k, k0, k1, hc, fun i hi => ?_⟩
  rw [hc i hi]
  have h1 := bd_tay hg a1 i hi
  have h2 : ab (w ^ i) (w ^ i) := by have := rat_pow_pos w0 i; unfold ab; constructor <;> grind
  have h3 := ab_mul (show ab k k by unfold ab; constructor <;> grind) (ab_mul h1 h2)
  rw [show k * (2 : Rat) ^ 374 * w ^ i = k * ((2 : Rat) ^ 374 * w ^ i) by grind]
  exact h3
theorem bd_ok {f c : Nat → Int} {N D : Nat} {a w : Rat} (hg : bd f N) (h : nd f N D c a w) (hD : D ≤ 2100) : okB c N := by
  obtain ⟨k, k0, k1, k2, k3⟩ := bd_coef hg h
  obtain ⟨w0, w1, _⟩ := nd_w h
  have hN9 := hg.1
  refine ⟨2 ^ 17700, Int.le_of_lt (Int.pow_pos (by decide)), fun i hi => ?_, ?_⟩
  · have h1 := k3 i hi
    have hw : w ^ i ≤ (2 : Rat) ^ 248 := by
      have hwi : w ^ i ≤ ((2 : Rat) ^ 31) ^ i := by
        have key : ∀ n : Nat, w ^ n ≤ ((2 : Rat) ^ 31) ^ n := by
          intro n
          induction n with
          | zero => grind
          | succ n ih =>
            rw [show w ^ (n + 1) = w ^ n * w by grind, show ((2 : Rat) ^ 31) ^ (n + 1) = ((2 : Rat) ^ 31) ^ n * (2 : Rat) ^ 31 by grind]
            have t1 := Rat.mul_nonneg (Rat.le_of_lt (rat_pow_pos w0 n)) (show 0 ≤ (2 : Rat) ^ 31 - w by grind)
            have t2 := Rat.mul_nonneg (show 0 ≤ ((2 : Rat) ^ 31) ^ n - w ^ n by grind) (Rat.le_of_lt (p2pos 31))
            grind
        exact key i
      rw [two_pow_pow] at hwi
      have := two_pow_mono (show 31 * i ≤ 248 by omega)
      grind
    have h2 : k * (2 : Rat) ^ 374 * w ^ i ≤ (2 : Rat) ^ 17700 := by
      have t1 := Rat.mul_nonneg (Rat.mul_nonneg (Rat.le_of_lt k0) (Rat.le_of_lt (p2pos 374))) (show 0 ≤ (2 : Rat) ^ 248 - w ^ i by grind)
      have t2 := Rat.mul_nonneg (show 0 ≤ (2 : Rat) ^ (240 + 8 * D) - k by grind) (Rat.mul_nonneg (Rat.le_of_lt (p2pos 374)) (Rat.le_of_lt (p2pos 248)))
      have e1 : (2 : Rat) ^ (240 + 8 * D) * ((2 : Rat) ^ 374 * (2 : Rat) ^ 248) = (2 : Rat) ^ (240 + 8 * D + (374 + 248)) := by rw [two_add, two_add]
      have t3 := two_pow_mono (show 240 + 8 * D + (374 + 248) ≤ 17700 by omega)
      grind
    have h3 := ab_le h1 h2
    have h4 : ((c i : Int) : Rat) ≤ (((2 : Int) ^ 17700 : Int) : Rat) := by rw [cast_pow2]; exact h3.2
    have h5 : ((-(2 : Int) ^ 17700 : Int) : Rat) ≤ ((c i : Int) : Rat) := by rw [Rat.intCast_neg, cast_pow2]; exact h3.1
    have h6 := Rat.intCast_le_intCast.1 h4
    have h7 := Rat.intCast_le_intCast.1 h5
    omega
  · have e1 : (16 : Int) ^ 9 = 2 ^ 36 := by decide
    rw [e1, ← Int.pow_add]
    have h4 : (2 : Nat) ^ (36 + 17700) < 2 ^ (31 * 638) := Nat.pow_lt_pow_right (by decide) (by decide)
    have h5 := Int.ofNat_lt.2 h4
    rw [nat_pow_cast, nat_pow_cast] at h5
    exact h5
