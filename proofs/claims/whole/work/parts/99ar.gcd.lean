theorem gN_up {c : Nat → Int} {n : Nat} (h : gN c (n + 1) = 0) : gN c n = 0 ∧ c n = 0 := by
  have h1 : Int.gcd (c n) (gN c n) = 0 := h
  have h2 := Int.gcd_eq_zero_iff.1 h1
  omega
theorem gN_ne {c : Nat → Int} {k : Nat} (hc : c k ≠ 0) : ∀ n : Nat, k < n → gN c n ≠ 0
  | 0, hk => absurd hk (by omega)
  | n + 1, hk => fun g => by
    obtain ⟨g1, g2⟩ := gN_up g
    by_cases e : k = n
    · rw [e] at hc; exact hc g2
    · exact gN_ne hc n (by omega) g1
/-- a primitive row is its row up to a factor -/
theorem prim_rv {y r : Nat → Int} {N : Nat} (h : primR y N r) (hN : 1 ≤ N) (hy : y (N - 1) ≠ 0) : ∃ u v : Int, u ≠ 0 ∧ v ≠ 0 ∧ 0 < u ∧ (∀ i : Nat, i < N → u * r i = v * y i) ∧ (∀ x : Rat, (u : Rat) * rv r N x = (v : Rat) * rv y N x) ∧ r (N - 1) ≠ 0 := by
  have h1 := gN_ne hy N (by omega)
  have h2 : (y (N - 1)).sign ≠ 0 := fun g => hy (Int.sign_eq_zero_iff_zero.1 g)
  refine ⟨((gN y N : Nat) : Int), (y (N - 1)).sign, by omega, h2, by omega, h, fun x => ?_, fun g => ?_⟩
  · rw [← rv_smul, ← rv_smul]
    exact rv_congr x h
  · have h3 := h (N - 1) (by omega)
    rw [g] at h3
    rcases Int.mul_eq_zero.1 (show (y (N - 1)).sign * y (N - 1) = 0 by omega) with u | u
    · exact h2 u
    · exact hy u
theorem dv_prim {g y r : Nat → Int} {m N : Nat} (h : primR y N r) (hl : ldn y N) : (pdv g m y N ↔ pdv g m r N) := by
  by_cases hN : 1 ≤ N
  · obtain ⟨u, v, hu, hv, _, _, e, _⟩ := prim_rv h hN (hl (N - 1) (by omega))
    exact ⟨fun k => dv_scale hu k e, fun k => dv_scale hv k (fun x => (e x).symm)⟩
  · have e : N = 0 := by omega
    subst e
    exact ⟨fun _ => dv_zero _ _ _ _ (fun i hi => absurd hi (by omega)), fun _ => dv_zero _ _ _ _ (fun i hi => absurd hi (by omega))⟩
theorem one_rv (x : Rat) : rv (fun _ => (1 : Int)) 1 x = 1 := by
  show 0 + ((1 : Int) : Rat) * x ^ 0 = 1
  have : ((1 : Int) : Rat) = 1 := rfl
  rw [this]; grind
/-- the chain of remainders ends with what the two share -/
theorem FC_dv : ∀ {h : Nat} {a : Nat → Int} {Na : Nat} {b : Nat → Int} {Nb : Nat} {G : Nat → Int} {NG : Nat}, FC h a Na b Nb G NG → Nb ≤ h → ldn b Nb → (pdv G NG a Na ∧ pdv G NG b Nb) ∧ ∀ (g : Nat → Int) (m : Nat), pdv g m a Na → pdv g m b Nb → pdv g m G NG
  | 0, a, Na, b, Nb, G, NG, h, hb, hl => by
    have e : Nb = 0 := by omega
    subst e
    obtain ⟨h1, h2⟩ := h
    subst h1
    have hx : ∀ x : Rat, rv G NG x = rv a NG x := fun x => rv_congr x h2
    have hs : ∀ (g : Nat → Int) (m : Nat), pdv g m a NG ↔ pdv g m G NG := fun g m => ⟨fun k => dv_scale (a := 1) (b := 1) (by decide) k (fun x => by rw [hx]), fun k => dv_scale (a := 1) (b := 1) (by decide) k (fun x => by rw [hx])⟩
    exact ⟨⟨(hs G NG).2 (dv_refl _ _), dv_zero _ _ _ _ (fun i hi => absurd hi (by omega))⟩, fun g m k _ => (hs g m).1 k⟩
  | h + 1, a, Na, b, Nb, G, NG, hF, hb, hl => by
    rcases hF with ⟨h0, h1, h2⟩ | ⟨h0, r, Nr, ⟨y, y1, y2, y3, y4⟩, hr, hF⟩
    · subst h1
      subst h0
      have hx : ∀ x : Rat, rv G NG x = rv a NG x := fun x => rv_congr x h2
      have hs : ∀ (g : Nat → Int) (m : Nat), pdv g m a NG ↔ pdv g m G NG := fun g m => ⟨fun k => dv_scale (a := 1) (b := 1) (by decide) k (fun x => by rw [hx]), fun k => dv_scale (a := 1) (b := 1) (by decide) k (fun x => by rw [hx])⟩
      exact ⟨⟨(hs G NG).2 (dv_refl _ _), dv_zero _ _ _ _ (fun i hi => absurd hi (by omega))⟩, fun g m k _ => (hs g m).1 k⟩
    · obtain ⟨⟨i1, i2⟩, i3⟩ := FC_dv hF (by omega) hr
      have hlead : b (Nb - 1) ≠ 0 := hl (Nb - 1) (by omega)
      rcases y4 with ⟨c1, c2, c3⟩ | ⟨c1, q, k, k1, k2, k3, k4⟩
      · subst c2
        have hx : ∀ x : Rat, rv y Nr x = rv a Nr x := fun x => rv_congr x c3
        have hs : ∀ (g : Nat → Int) (m : Nat), pdv g m a Nr ↔ pdv g m y Nr := fun g m => ⟨fun k => dv_scale (a := 1) (b := 1) (by decide) k (fun x => by rw [hx]), fun k => dv_scale (a := 1) (b := 1) (by decide) k (fun x => by rw [hx])⟩
        exact ⟨⟨(hs _ _).2 ((dv_prim y3 y2).2 i2), i1⟩, fun g m g1 g2 => i3 g m g2 ((dv_prim y3 y2).1 ((hs g m).1 g1))⟩
      · have hu : (b (Nb - 1)) ^ k ≠ 0 := Int.pow_ne_zero hlead
        have hx := ev_all k4
        refine ⟨⟨dv_comb (u1 := q) (l1 := Na - Nb + 1) (u2 := fun _ => 1) (l2 := 1) hu i1 ((dv_prim y3 y2).2 i2) (fun x => by rw [hx, one_rv]; grind), i1⟩, fun g m g1 g2 => i3 g m g2 ((dv_prim y3 y2).1 ?_)⟩
        refine dv_comb (a := 1) (u1 := fun _ => (b (Nb - 1)) ^ k) (l1 := 1) (u2 := fun i => (-1) * q i) (l2 := Na - Nb + 1) (by decide) g1 g2 (fun x => ?_)
        have := hx x
        have e1 : rv (fun _ => (b (Nb - 1)) ^ k) 1 x = (((b (Nb - 1)) ^ k : Int) : Rat) := by
          show 0 + (((b (Nb - 1)) ^ k : Int) : Rat) * x ^ 0 = _
          grind
        have m1 : ((-1 : Int) : Rat) = -1 := rfl
        have o1 : ((1 : Int) : Rat) = 1 := rfl
        rw [e1, rv_smul, m1, o1]
        grind
/-- the last row of the class's chain is what the first two share -/
theorem cls_dv {Z : Nat → Int} {T : Nat → Nat} {us : Nat} (h : chn Z T us) : (∀ k : Nat, k < us → pdv (zr Z T (us - 1)) (T (us - 1)) (zr Z T k) (T k)) ∧ ∀ (g : Nat → Int) (m : Nat), pdv g m (zr Z T 0) (T 0) → pdv g m (zr Z T 1) (T 1) → pdv g m (zr Z T (us - 1)) (T (us - 1)) := by
  obtain ⟨d1, d2, d3⟩ := chn_dec h
  obtain ⟨a1, a2, a3, a4, a5, a6, a7, a8, a9, a10⟩ := h
  have hdec : ∀ k : Nat, 1 ≤ k → k < us → T k ≤ T (k - 1) := fun k h1 h2 => by
    by_cases c : k = 1
    · rw [c]; exact a8
    · have := (a2 k (by omega) h2).1; omega
  -- the links
  have link : ∀ i : Nat, i + 2 < us → ∃ (A w : Int) (q : Nat → Int) (d : Nat), A ≠ 0 ∧ w ≠ 0 ∧ ∀ x : Rat, (A : Rat) * rowv Z T i x + rv q d x * rowv Z T (i + 1) x = - ((w : Rat) * rowv Z T (i + 2) x) := fun i hi => by
    obtain ⟨l1, l2, l3, w, q, w0, hr⟩ := a2 (i + 2) (by omega) hi
    rw [show i + 2 - 1 = i + 1 by omega, show i + 2 - 2 = i by omega] at hr
    have e1 := hdec (i + 1) (by omega) (by omega)
    rw [show i + 1 - 1 = i by omega] at e1
    have e2 := hdec (i + 2) (by omega) (by omega)
    rw [show i + 2 - 1 = i + 1 by omega] at e2
    have hL := d3 (i + 1) (by omega)
    exact ⟨_, w, q, _, Int.pow_ne_zero (by omega), by omega, link_rv (by omega) (by omega) (by omega) hr⟩
  have m1 : ((-1 : Int) : Rat) = -1 := rfl
  have cst : ∀ (u : Int) (x : Rat), rv (fun _ => u) 1 x = (u : Rat) := fun u x => by show 0 + (u : Rat) * x ^ 0 = _; grind
  constructor
  · -- downwards
    have key : ∀ j : Nat, j < us → (∀ k : Nat, us - 1 - j ≤ k → k < us → pdv (zr Z T (us - 1)) (T (us - 1)) (zr Z T k) (T k)) := by
      intro j
      induction j with
      | zero => intro _ k h1 h2; rw [show k = us - 1 by omega]; exact dv_refl _ _
      | succ j ih =>
        intro hj k h1 h2
        by_cases c : us - 1 - j ≤ k
        · exact ih (by omega) k c h2
        · have ek : k = us - 1 - (j + 1) := by omega
          by_cases c2 : j = 0
          · -- the last but one
            have ht1 : 1 ≤ T 1 := by
              by_cases c3 : T 1 = 0
              · have := a5 c3; omega
              · omega
            have e2 : k = us - 2 := by omega
            rcases (a6 ht1).2 with hc | ⟨q, hr⟩
            · -- a constant divides everything
              refine ⟨zr Z T (us - 1) 0, zr Z T k, T k, ?_, fun x => ?_⟩
              · have := d3 (us - 1) (by omega); rw [hc] at this; exact this
              · have e3 : rv (zr Z T (us - 1)) (T (us - 1)) x = (zr Z T (us - 1) 0 : Rat) := by
                  rw [hc]; show 0 + (zr Z T (us - 1) 0 : Rat) * x ^ 0 = _; grind
                rw [e3]; grind
            · have dd := hdec (us - 1) (by omega) (by omega)
              rw [show us - 1 - 1 = us - 2 by omega] at dd
              have hL := d3 (us - 1) (by omega)
              obtain ⟨A, hA⟩ : ∃ A : Int, A = ((zr Z T (us - 1) (T (us - 1) - 1)).natAbs : Int) ^ (T (us - 2) - T (us - 1) + 1) := ⟨_, rfl⟩
              refine ⟨A, fun i => (-1) * q i, T (us - 2) - T (us - 1) + 1, by rw [hA]; exact Int.pow_ne_zero (by omega), fun x => ?_⟩
              have e1 : rv (fun s => A * zr Z T (us - 2) s + qS (T (us - 2) - T (us - 1) + 1) (fun e => q e * qx e (zr Z T (us - 1)) s)) (T (us - 2) + T (us - 2) + 2) x = rv (fun _ => 0) (T (us - 2) + T (us - 2) + 2) x := rv_congr x (fun s _ => by rw [hA]; exact hr s)
              rw [rv_add, rv_smul, rv_zero, rv_conv q _ (T (us - 1)) (zr_zero Z T (us - 1)) x _ _ (by omega), rv_le (zr_zero Z T (us - 2)) (by omega)] at e1
              rw [rv_smul, m1, e2]
              grind
          · obtain ⟨A, w, q, d, A0, w0, hr⟩ := link k (by omega)
            refine dv_comb (a := A) (u1 := fun i => (-1) * q i) (l1 := d) (u2 := fun _ => -w) (l2 := 1) A0 (ih (by omega) (k + 1) (by omega) (by omega)) (ih (by omega) (k + 2) (by omega) (by omega)) (fun x => ?_)
            have := hr x
            unfold rowv at this
            rw [rv_smul, m1, cst, Rat.intCast_neg]
            grind
    exact fun k hk => key (us - 1) (by omega) k (by omega) hk
  · intro g m g0 g1
    have key : ∀ j k : Nat, k ≤ j → k < us → pdv g m (zr Z T k) (T k) := by
      intro j
      induction j with
      | zero => intro k h1 _; rw [show k = 0 by omega]; exact g0
      | succ j ih =>
        intro k h1 h2
        by_cases c : k ≤ j
        · exact ih k c h2
        · by_cases c2 : k = 1
          · rw [c2]; exact g1
          · obtain ⟨i, rfl⟩ : ∃ i : Nat, k = i + 2 := ⟨k - 2, by omega⟩
            obtain ⟨A, w, q, d, A0, w0, hr⟩ := link i h2
            refine dv_comb (a := w) (u1 := fun _ => -A) (l1 := 1) (u2 := fun i => (-1) * q i) (l2 := d) w0 (ih i (by omega) (by omega)) (ih (i + 1) (by omega) (by omega)) (fun x => ?_)
            have := hr x
            unfold rowv at this
            rw [rv_smul, m1, cst, Rat.intCast_neg]
            grind
    exact key (us - 1) (us - 1) (Nat.le_refl _) (by have := a4.1; omega)
