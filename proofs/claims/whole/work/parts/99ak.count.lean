theorem sgn_mul_r {a b : Rat} : rsg (a * b) = rsg a * rsg b := by
  rcases rsg_cases a with ⟨h, e⟩ | ⟨h, e⟩ | ⟨h, e⟩ <;> rcases rsg_cases b with ⟨g, f⟩ | ⟨g, f⟩ | ⟨g, f⟩ <;> rw [e, f]
  · rw [rsg_pos (Rat.mul_pos h g)]; rfl
  · rw [g, show a * 0 = 0 by grind, rsg_zero]; rfl
  · rw [rsg_neg (by have := Rat.mul_pos h (show 0 < -b by grind); grind)]; rfl
  · rw [h, show 0 * b = 0 by grind, rsg_zero]; rfl
  · rw [h, show 0 * b = 0 by grind, rsg_zero]; rfl
  · rw [h, show 0 * b = 0 by grind, rsg_zero]; rfl
  · rw [rsg_neg (by have := Rat.mul_pos (show 0 < -a by grind) g; grind)]; rfl
  · rw [g, show a * 0 = 0 by grind, rsg_zero]; rfl
  · rw [rsg_pos (by have := Rat.mul_pos (show 0 < -a by grind) (show 0 < -b by grind); grind)]; rfl
theorem rsg_nz {a : Rat} (h : a ≠ 0) : rsg a = 1 ∨ rsg a = -1 := by
  rcases rsg_cases a with ⟨g, e⟩ | ⟨g, e⟩ | ⟨g, e⟩
  · exact Or.inl e
  · exact absurd g h
  · exact Or.inr e
/-- the count of changes looks at signs only, and not at a common turn of them -/
theorem vc_turn {e s : Nat → Int} {r : Int} (hr : r = 1 ∨ r = -1) : ∀ n : Nat, (∀ k : Nat, k < n → (e k).sign = r * s k ∧ (s k = -1 ∨ s k = 0 ∨ s k = 1)) → vl e n = r * vl s n ∧ vc e n = vc s n
  | 0, _ => by show (0 : Int) = r * 0 ∧ (0 : Nat) = 0; omega
  | n + 1, h => by
    obtain ⟨h1, h2⟩ := vc_turn hr n (fun k hk => h k (by omega))
    obtain ⟨h3, h4⟩ := h n (by omega)
    have h5 : (s n).sign = s n := by rcases h4 with g | g | g <;> rw [g] <;> rfl
    simp only [vl, vc]
    rw [h3, h5, h1, h2]
    rcases hr with rfl | rfl <;> rcases h4 with g | g | g <;> rw [g] <;> first | (simp; done) | (simp; split <;> split <;> omega)
theorem nice_shift {x B : Rat} {f : Rat → Rat} (h : nice B f) (hx : ab (B - 1) x) : nice 1 (fun t => f (x + t)) := by
  obtain ⟨M, m0, m1, m2⟩ := h
  have hb : ∀ t : Rat, ab 1 t → ab B (x + t) := fun t ht => by
    have := ab_add hx ht
    rw [show B - 1 + 1 = B by grind] at this
    exact this
  refine ⟨M, m0, fun t ht => m1 _ (hb t ht), fun s t hs ht hst => ?_⟩
  have := m2 (x + s) (x + t) (hb s hs) (hb t ht) (by grind)
  rw [show x + t - (x + s) = t - s by grind] at this
  exact this
theorem tyl_congr' {c c' : Nat → Int} {N od ex : Nat} {nu : Int} (h : ∀ i : Nat, i < N → c i = c' i) : ∀ j : Nat, j ≤ N → tyl c N od nu ex j = tyl c' N od nu ex j := by
  intro j
  induction j with
  | zero => intro _; rfl
  | succ j ih =>
    intro hj
    show tyl c N od nu ex j * nu + c (N - 1 - j) * _ * _ = tyl c' N od nu ex j * nu + c' (N - 1 - j) * _ * _
    rw [ih (by omega), h (N - 1 - j) (by omega)]
theorem chn_dec {Z : Nat → Int} {T : Nat → Nat} {us : Nat} (h : chn Z T us) : (∀ k : Nat, k < us → T (us - 1) ≤ T k) ∧ 1 ≤ T (us - 1) ∧ (∀ k : Nat, k < us → zr Z T k (T k - 1) ≠ 0) := by
  obtain ⟨a1, a2, a3, a4, a5, a6, a7, a8, a9, a10⟩ := h
  have hd : ∀ k : Nat, 1 ≤ k → k < us → T k ≤ T (k - 1) ∧ 1 ≤ T k := fun k h1 h2 => by
    by_cases c : k = 1
    · rw [c]
      refine ⟨a8, ?_⟩
      by_cases c2 : T 1 = 0
      · have := a5 c2; omega
      · omega
    · have := a2 k (by omega) h2
      exact ⟨by have := this.1; omega, this.2.1⟩
  have hall : ∀ j k : Nat, k + j = us - 1 → T (us - 1) ≤ T k := by
    intro j
    induction j with
    | zero => intro k hk; rw [show k = us - 1 by omega]; exact Nat.le_refl _
    | succ j ih =>
      intro k hk
      have h1 := ih (k + 1) (by omega)
      have h2 := (hd (k + 1) (by omega) (by omega)).1
      rw [show k + 1 - 1 = k by omega] at h2
      omega
  refine ⟨fun k hk => hall (us - 1 - k) k (by omega), ?_, fun k hk => ?_⟩
  · by_cases c : us = 1
    · rw [c]; exact a7
    · exact (hd (us - 1) (by omega) (by omega)).2
  · by_cases c : k = 0
    · rw [c]; exact a9
    · by_cases c1 : k = 1
      · rw [c1]; exact a10 (by have := (hd 1 (by omega) (by omega)).2; exact this)
      · exact (a2 k (by omega) hk).2.2.1
/-- the signs of the rows at a point, by the order at which the last row is not 0 -/
theorem rows_sign {Z Za : Nat → Int} {T : Nat → Nat} {us ex od fr : Nat} {nv : Int} (h : chn Z T us) (he : ∀ q : Nat, q < 84 → Za q = Z q) (ho : oD (qu Za 84 nv) T ex (us - 1) od)
    {Q : Nat → Rat → Rat} (hQ : ∀ k : Nat, k ≤ us - 1 → ∀ x : Rat, rowv Z T k x = Q k x * rowv Z T (us - 1) x) (hl : ∀ B : Rat, 0 ≤ B → lkd B (us - 1) Q) (hfr : fr ≤ us) :
    vc (fun k => yV (qu Za 84 nv) T ex od (fr + k)) (us - fr) = vc (fun k => rsg (Q (fr + k) (dy nv ex))) (us - fr) := by
  obtain ⟨d1, d2, d3⟩ := chn_dec h
  have hu := h.2.2.2.1
  have hT := h.1
  have hodL : od < T (us - 1) := by
    by_cases c : od = 0
    · omega
    · have := (ho.1 (od - 1) (by omega)).1; omega
  have ey : ∀ k : Nat, k < us → ∀ j : Nat, j ≤ od → (yV (qu Za 84 nv) T ex j k).sign = rsg (rv (dcf (zr Z T k) j) (T k - j) (dy nv ex)) := fun k hk j hj => by
    have g1 := d1 k hk
    have g2 := hT k (by omega)
    have g3 := pB_61 (k := k) (by omega)
    unfold yV
    rw [qu_same]
    have e1 : tyl (fun i => qu Za 84 nv (pB k + i)) (T k) j nv ex (T k - j) = tyl (zr Z T k) (T k) j nv ex (T k - j) := tyl_congr' (fun i hi => by
      rw [qu_other _ _ (by omega), he _ (by omega), zr_in hi]) _ (by omega)
    rw [e1]
    exact tyl_sign _ _ _ _ _ (by omega)
  -- the last row's coefficient
  obtain ⟨x, hx⟩ : ∃ x : Rat, x = dy nv ex := ⟨_, rfl⟩
  rw [← hx] at ey ⊢
  obtain ⟨g, hg⟩ : ∃ g : Nat → Rat, g = fun j => rv (dcf (zr Z T (us - 1)) j) (T (us - 1) - j) x := ⟨_, rfl⟩
  have hg0 : ∀ j : Nat, j < od → g j = 0 := fun j hj => by
    have h1 := (ho.1 j hj).2
    have h2 := ey (us - 1) (by omega) j (by omega)
    rw [h1] at h2
    rcases rsg_cases (rv (dcf (zr Z T (us - 1)) j) (T (us - 1) - j) x) with ⟨_, e⟩ | ⟨u, _⟩ | ⟨_, e⟩
    · rw [e] at h2; exact absurd h2 (by decide)
    · rw [hg]; exact u
    · rw [e] at h2; exact absurd h2 (by decide)
  have hgn : g od ≠ 0 := by
    rcases ho.2 with c | c
    · have e1 : T (us - 1) = od + 1 := by omega
      rw [hg]
      show rv (dcf (zr Z T (us - 1)) od) (T (us - 1) - od) x ≠ 0
      rw [show T (us - 1) - od = 0 + 1 by omega]
      show 0 + ((zr Z T (us - 1) (0 + od) * bch (0 + od) od : Int) : Rat) * x ^ 0 ≠ 0
      have h5 := hT (us - 1) (by omega)
      have h6 := (pB_r (j := us - 1) (by omega)).2.1
      rw [show 0 + od = od by omega, bch_self (by omega), Int.mul_one]
      have h3 := d3 (us - 1) (by omega)
      rw [show T (us - 1) - 1 = od by omega] at h3
      intro h4
      have h7 : ((zr Z T (us - 1) od : Int) : Rat) = ((0 : Int) : Rat) := by
        have : ((0 : Int) : Rat) = 0 := rfl
        grind
      exact h3 (Rat.intCast_inj.1 h7)
    · intro h2
      have h3 := ey (us - 1) (by omega) od (Nat.le_refl _)
      rw [hg] at h2
      have h4 : rv (dcf (zr Z T (us - 1)) od) (T (us - 1) - od) x = 0 := h2
      rw [h4, rsg_zero] at h3
      exact c (Int.sign_eq_zero_iff_zero.1 h3)
  obtain ⟨b, hb0, hb⟩ := ab_self (x := x)
  have hbx : ab (b + 1 - 1) x := by rw [show b + 1 - 1 = b by grind]; exact hb
  have hsg : ∀ k : Nat, k < us → (yV (qu Za 84 nv) T ex od k).sign = rsg (g od) * rsg (Q k x) := fun k hk => by
    have g1 := d1 k hk
    have g2 := hT k (by omega)
    have g4 := (pB_r (j := k) (by omega)).2.1
    have g5 := hT (us - 1) (by omega)
    have g6 := (pB_r (j := us - 1) (by omega)).2.1
    rw [ey k hk od (Nat.le_refl _), ← sgn_mul_r]
    have hk1 := order_mul od (fun j => rv (dcf (zr Z T k) j) (T k - j) x) g (T k) (T (us - 1)) (fun t => Q k (x + t)) (nice_shift ((hl (b + 1) (by grind)).1 k (by omega)) hbx) hodL (by omega) (fun t _ => by
      rw [← taylor _ _ _ _ (by omega), hg, ← taylor _ _ _ _ (by omega)]
      have := hQ k (by omega) (x + t)
      unfold rowv at this
      rw [this]
      grind) hg0
    have e0 : x + 0 = x := by grind
    simp only [e0] at hk1
    rw [hk1]
  exact (vc_turn (rsg_nz hgn) (us - fr) (fun k hk => ⟨hsg (fr + k) (by omega), rsg_three _⟩)).2

/-- far out the top coefficient rules -/
def csum (c : Nat → Int) : Nat → Rat
  | 0 => 0
  | n + 1 => csum c n + ((c n).natAbs : Rat)
theorem csum_nn (c : Nat → Int) : ∀ n : Nat, 0 ≤ csum c n
  | 0 => by show (0 : Rat) ≤ 0; grind
  | n + 1 => by
    show 0 ≤ csum c n + ((c n).natAbs : Rat)
    have h1 := csum_nn c n
    have h2 := natr (c n).natAbs
    grind
theorem ab_cast (z : Int) : ab ((z.natAbs : Nat) : Rat) (z : Rat) := by
  have h1 : ((z : Int) : Rat) ≤ ((z.natAbs : Int) : Rat) := Rat.intCast_le_intCast.2 (by omega)
  have h2 : ((-(z.natAbs : Int) : Int) : Rat) ≤ ((z : Int) : Rat) := Rat.intCast_le_intCast.2 (by omega)
  rw [Rat.intCast_neg] at h2
  exact ⟨h2, h1⟩
theorem ab_pow {X x : Rat} (h : ab X x) : ∀ n : Nat, ab (X ^ n) (x ^ n)
  | 0 => by rw [show X ^ 0 = 1 by grind, show x ^ 0 = 1 by grind]; unfold ab; constructor <;> grind
  | n + 1 => by
    rw [show X ^ (n + 1) = X ^ n * X by grind, show x ^ (n + 1) = x ^ n * x by grind]
    exact ab_mul (ab_pow h n) h
theorem rv_far (c : Nat → Int) {X x : Rat} (hX : 1 ≤ X) (hx : ab X x) : ∀ n : Nat, ab (csum c n * X ^ n) (X * rv c n x)
  | 0 => by
    show ab (0 * X ^ 0) (X * 0)
    unfold ab; constructor <;> grind
  | n + 1 => by
    have h1 := rv_far c hX hx n
    have h2 := ab_mul (ab_cast (c n)) (ab_pow hx n)
    have h3 := ab_add h1 (ab_mul (show ab X X by unfold ab; constructor <;> grind) h2)
    have e : X * rv c (n + 1) x = X * rv c n x + X * ((c n : Rat) * x ^ n) := by
      show X * (rv c n x + (c n : Rat) * x ^ n) = _
      grind
    rw [e]
    refine ab_le h3 ?_
    show csum c n * X ^ n + X * (((c n).natAbs : Rat) * X ^ n) ≤ (csum c n + ((c n).natAbs : Rat)) * X ^ (n + 1)
    have h4 : 0 ≤ csum c n * X ^ n * (X - 1) := Rat.mul_nonneg (Rat.mul_nonneg (csum_nn c n) (Rat.le_of_lt (rat_pow_pos (by grind) n))) (by grind)
    rw [show X ^ (n + 1) = X ^ n * X by grind]
    grind
theorem rv_top {c : Nat → Int} {n : Nat} (hc : c n ≠ 0) {X x : Rat} (hX : csum c n + 1 ≤ X) (hx : x = X ∨ x = -X) : rsg (rv c (n + 1) x) = (c n).sign * rsg (x ^ n) := by
  have h0 := csum_nn c n
  have hX1 : 1 ≤ X := by grind
  have hab : ab X x := by unfold ab; rcases hx with g | g <;> rw [g] <;> constructor <;> grind
  have h1 := rv_far c hX1 hab n
  have hp : 0 < X ^ n := rat_pow_pos (by grind) n
  have hxn : x ^ n = X ^ n ∨ x ^ n = - X ^ n := by
    rcases hx with g | g
    · rw [g]; exact Or.inl rfl
    · rw [g]
      have key : ∀ n : Nat, (-X) ^ n = X ^ n ∨ (-X) ^ n = - X ^ n := by
        intro n
        induction n with
        | zero => left; grind
        | succ n ih =>
          rw [show (-X) ^ (n + 1) = (-X) ^ n * (-X) by grind, show X ^ (n + 1) = X ^ n * X by grind]
          rcases ih with u | u <;> rw [u]
          · right; grind
          · left; grind
      exact key n
  have hcn : (1 : Rat) ≤ (((c n).natAbs : Nat) : Rat) := by
    have : ((1 : Int) : Rat) ≤ (((c n).natAbs : Int) : Rat) := Rat.intCast_le_intCast.2 (by omega)
    exact this
  have hdom : csum c n * X ^ n < X * X ^ n := by
    have : 0 < (X - csum c n) * X ^ n := Rat.mul_pos (by grind) hp
    grind
  have e : X * rv c (n + 1) x = X * rv c n x + X * ((c n : Rat) * x ^ n) := by
    show X * (rv c n x + (c n : Rat) * x ^ n) = _
    grind
  unfold ab at h1
  have hXp : 0 < X := by grind
  have hsg : rsg (X * rv c (n + 1) x) = rsg (rv c (n + 1) x) := rsg_scale (a := 1) (b := X) (by grind) hXp (by grind)
  rw [← hsg, e]
  have big : ∀ z w : Rat, ab (csum c n * X ^ n) z → X * X ^ n ≤ w → rsg (z + w) = 1 := fun z w hz hw => rsg_pos (by unfold ab at hz; grind)
  have big2 : ∀ z w : Rat, ab (csum c n * X ^ n) z → w ≤ -(X * X ^ n) → rsg (z + w) = -1 := fun z w hz hw => rsg_neg (by unfold ab at hz; grind)
  have hXX : 0 < X * X ^ n := Rat.mul_pos hXp hp
  rcases Int.lt_trichotomy (c n) 0 with g | g | g
  · have h3 : ((c n : Int) : Rat) ≤ ((-1 : Int) : Rat) := Rat.intCast_le_intCast.2 (by omega)
    have h4 : ((-1 : Int) : Rat) = -1 := rfl
    rw [h4] at h3
    have h5 : 0 ≤ (-1 - (c n : Rat)) * (X * X ^ n) := Rat.mul_nonneg (by grind) (by grind)
    rw [Int.sign_eq_neg_one_of_neg g]
    rcases hxn with u | u <;> rw [u]
    · rw [big2 _ _ h1 (by grind), rsg_pos hp]; rfl
    · rw [big _ _ h1 (by grind), rsg_neg (by grind)]; rfl
  · exact absurd g hc
  · have h3 : ((1 : Int) : Rat) ≤ ((c n : Int) : Rat) := Rat.intCast_le_intCast.2 (by omega)
    have h4 : ((1 : Int) : Rat) = 1 := rfl
    rw [h4] at h3
    have h5 : 0 ≤ ((c n : Rat) - 1) * (X * X ^ n) := Rat.mul_nonneg (by grind) (by grind)
    rw [Int.sign_eq_one_of_pos g]
    rcases hxn with u | u <;> rw [u]
    · rw [big _ _ h1 (by grind), rsg_pos hp]; rfl
    · rw [big2 _ _ h1 (by grind), rsg_neg (by grind)]; rfl
