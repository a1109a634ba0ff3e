/-- a polynomial without repeated factors and its derivative are not small together: a bound by the resultant -/
theorem sep_low {f : Nat → Int} {d : Nat} (hd : 1 ≤ d) (hf : f d ≠ 0) (ho : ∀ t : Nat, d < t → f t = 0) {M : Int} (hM : 1 ≤ M) (h0 : ∀ t : Nat, ((f t).natAbs : Int) ≤ M) (h1 : ∀ t : Nat, ((der f t).natAbs : Int) ≤ M)
    (hbz : ∃ U V : Rat → Rat, pol U ∧ pol V ∧ ∀ x : Rat, 1 = U x * rv f (d + 1) x + V x * rv (der f) (d - 1 + 1) x) {x X e : Rat} (hX : 1 ≤ X) (hx : ab X x) (he : 0 ≤ e) (hs : ((qF (2 * d - 1) : Int) : Rat) * (M : Rat) ^ (2 * d - 2) * (X ^ d * e) < 1) : ¬ (ab e (rv f (d + 1) x) ∧ ab e (rv (der f) (d - 1 + 1) x)) := by
  rintro ⟨g0, g1⟩
  have hdo : ∀ t : Nat, d - 1 < t → der f t = 0 := fun t ht => by
    unfold der
    rw [ho (t + 1) (by omega)]; omega
  have hdl : der f (d - 1) ≠ 0 := by
    unfold der
    rw [show d - 1 + 1 = d by omega]
    exact Int.mul_ne_zero hf (by omega)
  obtain ⟨r1, r2⟩ := res_ne (f0 := f) (f1 := der f) (n0 := d) (n1 := d - 1) (d - 1) f (der f) d hd (qPr_self hdo hdl (by omega)) hf ho hbz
  obtain ⟨K, hK⟩ : ∃ K : Nat, K = 2 * d + 2 := ⟨_, rfl⟩
  have hpow : ∀ i : Nat, i ≤ d → ∀ z : Rat, ab e z → ab (X ^ d * e) (x ^ i * z) := fun i hi z hz => by
    have a1 := ab_mul (ab_pow hx i) hz
    refine ab_le a1 ?_
    have a2 : X ^ i ≤ X ^ d := by
      obtain ⟨k, rfl⟩ : ∃ k : Nat, d = i + k := ⟨d - i, by omega⟩
      rw [rat_pow_add]
      have b1 := pow_ge_one hX k
      have b2 := pow_ge_one hX i
      have := Rat.mul_nonneg (show 0 ≤ X ^ i by grind) (show 0 ≤ X ^ k - 1 by grind)
      grind
    have := Rat.mul_nonneg (show 0 ≤ X ^ d - X ^ i by grind) he
    grind
  have hXd : 0 ≤ X ^ d := by have := pow_ge_one hX d; grind
  have hrow : ∀ (c : Nat → Int) (n i : Nat), (∀ t : Nat, n ≤ t → c t = 0) → n + i ≤ K → rv (qx i c) K x = x ^ i * rv c n x := fun c n i hc hni => by
    have b1 := rv_qx c i x (K - i)
    rw [show K - i + i = K by omega] at b1
    rw [b1, rv_le hc (by omega)]
  have hdet := qD_at (M := M) (by omega) (F := X ^ d * e) (x := x) (Rat.mul_nonneg hXd he) K (d + (d - 1) - 2 * 0 - 1) (d + (d - 1) - 0 - 1) (qR f (der f) (d - 1 - 0) (d - 0)) (fun i hi => by
    unfold qR
    by_cases c : i < d - 1 - 0
    · simp only [if_pos c]
      refine ⟨fun t => ?_, ?_⟩
      · unfold qx
        split
        · exact h0 _
        · show (((0 : Int).natAbs : Nat) : Int) ≤ M
          have e9 : (((0 : Int).natAbs : Nat) : Int) = 0 := rfl
          omega
      · rw [hrow f (d + 1) _ (fun t ht => ho t (by omega)) (by omega)]
        exact hpow _ (by omega) _ g0
    · simp only [if_neg c]
      refine ⟨fun t => ?_, ?_⟩
      · unfold qx
        split
        · exact h1 _
        · show (((0 : Int).natAbs : Nat) : Int) ≤ M
          have e9 : (((0 : Int).natAbs : Nat) : Int) = 0 := rfl
          omega
      · rw [hrow (der f) (d - 1 + 1) _ (fun t ht => hdo t (by omega)) (by omega)]
        exact hpow _ (by omega) _ g1)
  have hval : rv (qD (d + (d - 1) - 2 * 0 - 1) (d + (d - 1) - 0 - 1) (qR f (der f) (d - 1 - 0) (d - 0))) K x = ((qSb f (der f) d (d - 1) 0 0 : Int) : Rat) := by
    have b1 : rv (qSb f (der f) d (d - 1) 0) K x = rv (qSb f (der f) d (d - 1) 0) (0 + 1) x := rv_trim (by omega) (fun i hi _ => r2 i (by omega)) x
    have b2 : rv (qSb f (der f) d (d - 1) 0) (0 + 1) x = ((qSb f (der f) d (d - 1) 0 0 : Int) : Rat) := by
      show 0 + ((qSb f (der f) d (d - 1) 0 0 : Int) : Rat) * x ^ 0 = _
      grind
    exact b1.trans b2
  rw [hval, show d + (d - 1) - 2 * 0 - 1 + 1 = 2 * d - 1 by omega, show d + (d - 1) - 2 * 0 - 1 = 2 * d - 2 by omega] at hdet
  have hbig : (1 : Rat) ≤ ((qSb f (der f) d (d - 1) 0 0 : Int) : Rat) ∨ ((qSb f (der f) d (d - 1) 0 0 : Int) : Rat) ≤ -1 := by
    rcases Int.lt_or_le (qSb f (der f) d (d - 1) 0 0) 0 with c | c
    · right
      have : ((qSb f (der f) d (d - 1) 0 0 : Int) : Rat) ≤ ((-1 : Int) : Rat) := Rat.intCast_le_intCast.2 (by omega)
      exact this
    · left
      have : ((1 : Int) : Rat) ≤ ((qSb f (der f) d (d - 1) 0 0 : Int) : Rat) := Rat.intCast_le_intCast.2 (by omega)
      exact this
  unfold ab at hdet
  rcases hbig with u | u <;> grind
/-- fractions for coefficients: known by the values -/
theorem rq_inj : ∀ (n : Nat) (p : Nat → Rat), (∀ h : Rat, ab 1 h → rq p n h = 0) → ∀ i : Nat, i < n → p i = 0
  | 0, p, _, i, hi => absurd hi (by omega)
  | n + 1, p, h, i, hi => by
    have h0 := h 0 (ab_zero (by grind))
    rw [rq_front] at h0
    have p0 : p 0 = 0 := by grind
    have hnz : ∀ x : Rat, x ≠ 0 → ab 1 x → rq (fun i => p (i + 1)) n x = 0 := fun x x0 x1 => by
      have h1 := h x x1
      rw [rq_front, p0] at h1
      have h2 : x * rq (fun i => p (i + 1)) n x = 0 := by grind
      rcases Rat.mul_eq_zero.1 h2 with u | u
      · exact absurd u x0
      · exact u
    have h00 := agree0 (rq_nice (by grind) (fun i => p (i + 1)) n) (nice_const 1 0) hnz
    have ih := rq_inj n (fun i => p (i + 1)) (fun x hx => by
      by_cases c : x = 0
      · rw [c]; exact h00
      · exact hnz x c hx)
    cases i with
    | zero => exact p0
    | succ i => exact ih i (by omega)
theorem rv_rq (c : Nat → Int) (x : Rat) : ∀ n : Nat, rv c n x = rq (fun i => (c i : Rat)) n x
  | 0 => rfl
  | n + 1 => by show rv c n x + _ = rq _ n x + _; rw [rv_rq c x n]
theorem rq_stretch (p : Nat → Rat) (w t : Rat) : ∀ n : Nat, rq p n (w * t) = rq (fun i => p i * w ^ i) n t
  | 0 => rfl
  | n + 1 => by
    have mp : ∀ (a b : Rat) (n : Nat), (a * b) ^ n = a ^ n * b ^ n := by
      intro a b n
      induction n with
      | zero => grind
      | succ n ih => rw [show (a * b) ^ (n + 1) = (a * b) ^ n * (a * b) by grind, ih]; grind
    show rq p n (w * t) + p n * (w * t) ^ n = rq _ n t + p n * w ^ n * t ^ n
    rw [rq_stretch p w t n, mp]; grind
/-- the coefficients of a moved and stretched polynomial -/
theorem node_coef {c f : Nat → Int} {N : Nat} (hN : N ≤ 16) {k a w : Rat} (h : ∀ t : Rat, rv c N t = k * rv f N (a + t * w)) (i : Nat) (hi : i < N) : (c i : Rat) = k * (rv (dcf f i) (N - i) a * w ^ i) := by
  have key := rq_inj N (fun i => (c i : Rat) + (-1) * (k * (rv (dcf f i) (N - i) a * w ^ i))) (fun t _ => by
    rw [rq_add, rq_smul, rq_smul, ← rv_rq, ← rq_stretch (fun i => rv (dcf f i) (N - i) a), ← taylor _ _ _ _ hN, h, show a + w * t = a + t * w by grind]
    grind) i hi
  grind
