/-- what does not change over small steps does not change -/
theorem step_const {D : Rat → Int} (h : ∀ B : Rat, 0 ≤ B → ∃ d : Rat, 0 < d ∧ ∀ x y : Rat, ab B x → ab B y → x < y → y - x ≤ d → D y = D x) {x y : Rat} (hxy : x ≤ y) : D y = D x := by
  obtain ⟨B, hB, bx, bY⟩ := both_B x y
  obtain ⟨d, d0, d1⟩ := h B hB
  obtain ⟨n, n1, n2⟩ := arch ((y - x) / d)
  have hn0 : (0 : Rat) < (n : Rat) := by have := nat_le n1; grind
  have hnd : y - x ≤ (n : Rat) * d := by
    have h3 := Rat.mul_le_mul_of_nonneg_left n2 (c := d) (by grind)
    have e : d * ((y - x) / d) = y - x := by grind
    rw [e] at h3
    grind
  obtain ⟨k, hk⟩ : ∃ k : Rat, k = (y - x) / (n : Rat) := ⟨_, rfl⟩
  have hkn : k * (n : Rat) = y - x := by rw [hk]; grind
  have hk0 : 0 ≤ k := by
    have h5 : (n : Rat) * 0 ≤ (n : Rat) * k := by grind
    exact Rat.le_of_mul_le_mul_left h5 hn0
  have hkd : k ≤ d := by
    have h5 : (n : Rat) * k ≤ (n : Rat) * d := by grind
    exact Rat.le_of_mul_le_mul_left h5 hn0
  have hin : ∀ i : Nat, i ≤ n → x ≤ x + (i : Rat) * k ∧ x + (i : Rat) * k ≤ y := fun i hi => by
    have h1 := Rat.mul_nonneg (natr i) hk0
    have h2 := Rat.mul_le_mul_of_nonneg_left (nat_le hi) hk0
    grind
  have main : ∀ i : Nat, i ≤ n → D (x + (i : Rat) * k) = D x := by
    intro i
    induction i with
    | zero =>
      intro _
      rw [show x + ((0 : Nat) : Rat) * k = x by grind]
    | succ i ih =>
      intro hi
      rw [← ih (by omega)]
      have i1 := hin i (by omega)
      have i2 := hin (i + 1) hi
      by_cases c : x + (i : Rat) * k < x + ((i + 1 : Nat) : Rat) * k
      · exact d1 _ _ (in_B bx bY i1.1 i1.2) (in_B bx bY i2.1 i2.2) c (by grind)
      · rw [show x + ((i + 1 : Nat) : Rat) * k = x + (i : Rat) * k by grind]
  have h1 := main n (Nat.le_refl _)
  rw [show x + (n : Rat) * k = y by grind] at h1
  exact h1
theorem jmp_turn {a b r : Int} (hr : r = 1 ∨ r = -1) : jmp (r * a) (r * b) = jmp a b := by
  unfold jmp
  rcases hr with u | u <;> subst u
  · rw [Int.one_mul, Int.one_mul]
  · by_cases c : a ≠ 0 ∧ b ≠ a
    · rw [if_pos c, if_pos (by omega)]
    · rw [if_neg c, if_neg (by omega)]
/-- the count depends on the polynomial only up to a factor -/
theorem cnt_uniq {Q Q' : Rat → Rat} {W W' : Rat → Int} (h : cnt Q W) (h' : cnt Q' W') {k : Rat} (hk : k ≠ 0) (e : ∀ x : Rat, Q' x = k * Q x) (x : Rat) : W' x = W x := by
  obtain ⟨_, ⟨X0, x1, x2⟩, h3⟩ := h
  obtain ⟨_, ⟨X1, y1, y2⟩, h4⟩ := h'
  have hs := rsg_nz hk
  have hc : ∀ u v : Rat, u ≤ v → W' v - W v = W' u - W u := fun u v huv => step_const (D := fun z => W' z - W z) (fun B hB => by
    obtain ⟨d, d0, d1⟩ := h3 B hB
    obtain ⟨d', d0', d1'⟩ := h4 B hB
    obtain ⟨c, c0, c1, c2⟩ := pos_min d0 d0'
    refine ⟨c, c0, fun a b ha hb hab hd => ?_⟩
    have t1 := d1 a b ha hb hab (by grind)
    have t2 := d1' a b ha hb hab (by grind)
    rw [e, e, sgn_mul_r, sgn_mul_r, jmp_turn hs] at t2
    show W' b - W b = W' a - W a
    omega) huv
  obtain ⟨b, b0, b1⟩ := ab_self (x := x)
  obtain ⟨X, hX⟩ : ∃ X : Rat, X = X0 + X1 + b := ⟨_, rfl⟩
  have t1 := x2 X (by grind)
  have t2 := y2 X (by grind)
  have t3 := hc (-X) x (by unfold ab at b1; grind)
  omega
/-- F is Q times what F and its derivative share; W counts the roots of Q -/
def sq (F : Nat → Int) (N : Nat) (Q Q1 : Rat → Rat) (W : Rat → Int) (G : Nat → Int) (m : Nat) : Prop := cnt Q W ∧ (∀ B : Rat, 0 ≤ B → nice B Q1) ∧ (∀ x : Rat, rv F N x = Q x * rv G m x) ∧ (∀ x : Rat, rv (der F) (N - 1) x = Q1 x * rv G m x) ∧ (1 ≤ m ∧ G (m - 1) ≠ 0) ∧ (pdv G m F N ∧ pdv G m (der F) (N - 1)) ∧ ∀ (g : Nat → Int) (l : Nat), pdv g l F N → pdv g l (der F) (N - 1) → pdv g l G m
theorem pch_dv {P : Nat → Nat → Int} {T : Nat → Nat} {m : Nat} (h : pch P T m) : (∀ k : Nat, k ≤ m → pdv (P m) (T m) (P k) (T k)) ∧ ∀ (g : Nat → Int) (l : Nat), pdv g l (P 0) (T 0) → pdv g l (P 1) (T 1) → pdv g l (P m) (T m) := by
  obtain ⟨p1, p2, p3⟩ := h
  have m1 : ((-1 : Int) : Rat) = -1 := rfl
  have cst : ∀ (u : Int) (x : Rat), rv (fun _ => u) 1 x = (u : Rat) := fun u x => by show 0 + (u : Rat) * x ^ 0 = _; grind
  constructor
  · have key : ∀ j : Nat, j ≤ m → (∀ k : Nat, m - j ≤ k → k ≤ m → pdv (P m) (T m) (P k) (T k)) := by
      intro j
      induction j with
      | zero => intro _ k h1 h2; rw [show k = m by omega]; exact dv_refl _ _
      | succ j ih =>
        intro hj k h1 h2
        by_cases c : m - j ≤ k
        · exact ih (by omega) k c h2
        · by_cases c2 : j = 0
          · obtain ⟨A, q, d, a0, hr⟩ := p3 (by omega)
            rw [show k = m - 1 by omega]
            exact ⟨A, q, d, by omega, hr⟩
          · obtain ⟨A, w, q, d, A0, w0, hr⟩ := p2 (k + 1) (by omega) (by omega)
            rw [Nat.add_sub_cancel] at hr
            refine dv_comb (a := A) (u1 := fun i => (-1) * q i) (l1 := d) (u2 := fun _ => -w) (l2 := 1) (by omega) (ih (by omega) (k + 1) (by omega) (by omega)) (ih (by omega) (k + 1 + 1) (by omega) (by omega)) (fun x => ?_)
            have := hr x
            rw [rv_smul, m1, cst, Rat.intCast_neg]
            grind
    exact fun k hk => key m (Nat.le_refl _) k (by omega) hk
  · intro g l g0 g1
    have key : ∀ j k : Nat, k ≤ j → k ≤ m → pdv g l (P k) (T k) := by
      intro j
      induction j with
      | zero => intro k h1 _; rw [show k = 0 by omega]; exact g0
      | succ j ih =>
        intro k h1 h2
        by_cases c : k ≤ j
        · exact ih k c h2
        · by_cases c2 : k = 1
          · rw [c2]; exact g1
          · by_cases c3 : k = 0
            · rw [c3]; exact g0
            · obtain ⟨i, rfl⟩ : ∃ i : Nat, k = i + 2 := ⟨k - 2, by omega⟩
              obtain ⟨A, w, q, d, A0, w0, hr⟩ := p2 (i + 1) (by omega) (by omega)
              rw [Nat.add_sub_cancel] at hr
              refine dv_comb (a := w) (u1 := fun _ => -A) (l1 := 1) (u2 := fun i => (-1) * q i) (l2 := d) (by omega) (ih i (by omega) (by omega)) (ih (i + 1) (by omega) (by omega)) (fun x => ?_)
              have := hr x
              rw [rv_smul, m1, cst, Rat.intCast_neg]
              grind
    exact key m m (Nat.le_refl _) (Nat.le_refl _)
/-- it is so for every polynomial -/
theorem sq_ex {F : Nat → Int} {N : Nat} (hN : 1 ≤ N) (hF : F (N - 1) ≠ 0) : ∃ (Q Q1 : Rat → Rat) (W : Rat → Int) (G : Nat → Int) (m : Nat), sq F N Q Q1 W G m ∧ ∀ x : Rat, W x ≤ (N : Int) - 1 := by
  by_cases c : N = 1
  · subst c
    have hp : pch (fun _ => F) (fun _ => 1) 0 := ⟨fun k _ => ⟨by omega, hF⟩, fun k h1 h2 => absurd h2 (by omega), fun h => absurd h (by omega)⟩
    obtain ⟨Q, Q1, W, h1, h2, h3, h4, h5⟩ := pch_cnt hp (fun h => absurd h (by omega)) (fun _ => rfl)
    exact ⟨Q, Q1, W, F, 1, ⟨h1, h3, h2, h4, ⟨by omega, hF⟩, ⟨dv_refl _ _, dv_zero _ _ _ _ (fun i hi => absurd hi (by omega))⟩, fun g l g1 _ => g1⟩, fun x => by have := h5 x; omega⟩
  · obtain ⟨P, T, l, hp, ⟨l1, l2⟩, e1, e2, e3, e4⟩ := pch_ex (N - 1) F (der F) N hN hF (by omega) (der_lead hN hF (N - 1 - 1) (by omega))
    subst e1
    subst e2
    obtain ⟨Q, Q1, W, h1, h2, h3, h4, h5⟩ := pch_cnt hp (fun _ x => by rw [e3, e4]) (fun h => absurd h (by omega))
    obtain ⟨d1, d2⟩ := pch_dv hp
    have d3 := d1 1 l1
    rw [e3, e4] at d3
    exact ⟨Q, Q1, W, P l, T l, ⟨h1, h3, h2, h4, hp.1 l (Nat.le_refl _), ⟨d1 0 (by omega), d3⟩, fun g k g1 g2 => d2 g k g1 (by rw [e3, e4]; exact g2)⟩, fun x => by have := h5 x; omega⟩
/-- and the same for polynomials that differ by a factor -/
theorem sq_uniq {F F' : Nat → Int} {N : Nat} {Q Q1 Q' Q1' : Rat → Rat} {W W' : Rat → Int} {G G' : Nat → Int} {m m' : Nat} (h : sq F N Q Q1 W G m) (h' : sq F' N Q' Q1' W' G' m') {u v : Int} (hu : u ≠ 0) (hv : v ≠ 0) (e : ∀ i : Nat, i < N → u * F' i = v * F i) :
    (∀ x : Rat, W' x = W x) ∧ m = m' ∧ (∃ k : Rat, k ≠ 0 ∧ ∀ x : Rat, Q' x = k * Q x) ∧ ∃ k : Rat, k ≠ 0 ∧ ∀ x : Rat, rv G' m' x = k * rv G m x := by
  obtain ⟨a1, a2, a3, a4, a5, ⟨a6, a7⟩, a8⟩ := h
  obtain ⟨b1, b2, b3, b4, b5, ⟨b6, b7⟩, b8⟩ := h'
  have f1 : ∀ x : Rat, (u : Rat) * rv F' N x = (v : Rat) * rv F N x := fun x => by
    rw [← rv_smul, ← rv_smul]; exact rv_congr x e
  have f2 : ∀ x : Rat, (u : Rat) * rv (der F') (N - 1) x = (v : Rat) * rv (der F) (N - 1) x := fun x => by
    rw [← rv_smul, ← rv_smul]
    exact rv_congr x (fun i hi => by
      have := e (i + 1) (by omega)
      unfold der
      rw [← Int.mul_assoc, this, Int.mul_assoc])
  have g1 : pdv G m G' m' := b8 G m (dv_scale hu a6 f1) (dv_scale hu a7 f2)
  have g2 : pdv G' m' G m := a8 G' m' (dv_scale hv b6 (fun x => (f1 x).symm)) (dv_scale hv b7 (fun x => (f2 x).symm))
  obtain ⟨c1, k, c2, c3⟩ := dv_both a5 b5 g1 g2
  have hu' := ne_cast hu
  have hv' := ne_cast hv
  have hQ : ∃ k : Rat, k ≠ 0 ∧ ∀ x : Rat, Q' x = k * Q x := by
    refine ⟨(v : Rat) / ((u : Rat) * k), ?_, agree_dense b1.1 (fun B hB => nice_smul _ (a1.1 B hB)) (fun x y hxy => ?_)⟩
    · have c4 : (u : Rat) * k ≠ 0 := fun g => by rcases Rat.mul_eq_zero.1 g with w | w <;> contradiction
      intro g
      have : (v : Rat) = (v : Rat) / ((u : Rat) * k) * ((u : Rat) * k) := by grind
      rw [g] at this
      grind
    · obtain ⟨z, z1, z2, z3⟩ := dense a5.1 a5.2 x y hxy
      refine ⟨z, z1, z2, ?_⟩
      have t1 := f1 z
      rw [a3, b3, c3] at t1
      have c4 : (u : Rat) * k ≠ 0 := fun g => by rcases Rat.mul_eq_zero.1 g with w | w <;> contradiction
      have t2 : (u * k * Q' z - v * Q z) * rv G m z = 0 := by grind
      rcases Rat.mul_eq_zero.1 t2 with w | w
      · have : (u : Rat) * k * (Q' z - (v : Rat) / ((u : Rat) * k) * Q z) = 0 := by grind
        rcases Rat.mul_eq_zero.1 this with w2 | w2
        · exact absurd w2 c4
        · grind
      · exact absurd w z3
  obtain ⟨k2, hk2, hQ2⟩ := hQ
  exact ⟨cnt_uniq a1 b1 hk2 hQ2, c1, ⟨k2, hk2, hQ2⟩, k, c2, c3⟩
/-- the reference's polynomial -/
theorem sq_free {F : Nat → Int} {N : Nat} {Q Q1 : Rat → Rat} {W : Rat → Int} {G : Nat → Int} {m : Nat} (h : sq F N Q Q1 W G m) (hN : 1 ≤ N ∧ N ≤ 10) (hF : F (N - 1) ≠ 0) {f : Nat → Int} {Nf : Nat} {G' : Nat → Int} {NG : Nat} (hf : freeR F N f Nf G' NG) :
    (1 ≤ Nf ∧ f (Nf - 1) ≠ 0) ∧ (∃ k : Rat, k ≠ 0 ∧ ∀ x : Rat, rv f Nf x = k * Q x) ∧ NG = m ∧ (1 ≤ NG ∧ G' (NG - 1) ≠ 0) ∧ ∃ k : Rat, k ≠ 0 ∧ ∀ x : Rat, rv G' NG x = k * rv G m x := by
  obtain ⟨a1, a2, a3, a4, a5, ⟨a6, a7⟩, a8⟩ := h
  obtain ⟨g1, g2, ⟨g3, g4⟩, g5, k0, k1, k2⟩ := free_ok hN hF hf
  obtain ⟨c1, k, c2, c3⟩ := dv_both a5 g1 (g5 _ _ a6 a7) (a8 _ _ g3 g4)
  refine ⟨g2, ?_, c1.symm, g1, k, c2, c3⟩
  obtain ⟨c, hc⟩ : ∃ c : Rat, c = k0 * k := ⟨_, rfl⟩
  have hcn : c ≠ 0 := fun g => by rw [hc] at g; rcases Rat.mul_eq_zero.1 g with u | u <;> contradiction
  have hcn' : 1 / c ≠ 0 := fun g => by
    have : c * (1 / c) = 1 := by grind
    rw [g] at this; grind
  refine ⟨1 / c, hcn', agree_dense (fun B hB => rv_nice hB f Nf) (fun B hB => nice_smul _ (a1.1 B hB)) (fun x y hxy => ?_)⟩
  obtain ⟨z, z1, z2, z3⟩ := dense a5.1 a5.2 x y hxy
  refine ⟨z, z1, z2, ?_⟩
  have t1 := k2 z
  rw [a3, c3] at t1
  have t4 : (Q z - c * rv f Nf z) * rv G m z = 0 := by rw [hc]; grind
  rcases Rat.mul_eq_zero.1 t4 with u | u
  · have : Q z = c * rv f Nf z := by grind
    rw [this]; grind
  · exact absurd u z3
/-- the class's chain -/
theorem sq_cls {Z : Nat → Int} {T : Nat → Nat} {us : Nat} {F : Nat → Int} (h : chn Z T us) (h0 : zr Z T 0 = F) (h1 : zr Z T 1 = dp F) : ∃ (Q Q1 : Rat → Rat) (W : Rat → Int), sq F (T 0) Q Q1 W (zr Z T (us - 1)) (T (us - 1)) ∧ (∀ (n : Int) (ex : Nat) (v : Int), upR Z T us n ex v → v = W (dy n ex)) ∧ (∃ X0 : Rat, 1 ≤ X0 ∧ ∀ X : Rat, X0 ≤ X → W X = ((vc (lS Z T 1) us : Nat) : Int) - ((vc (lS Z T 0) us : Nat) : Int)) := by
  obtain ⟨Q, Q1, W, c1, c2, c3, c4, c5, ⟨X0, x1, x2⟩, c7⟩ := chn_count h h0 h1
  subst h0
  have hT0 := h.2.2.2.2.2.2.1
  have hu := h.2.2.2.1
  obtain ⟨d1, d2, d3⟩ := chn_dec h
  obtain ⟨e1, e2⟩ := cls_dv h
  have hder : ∀ x : Rat, rv (zr Z T 1) (T 1) x = rv (der (zr Z T 0)) (T 0 - 1) x := fun x => row1_rv h1 hT0 x
  have hL1 : pdv (zr Z T (us - 1)) (T (us - 1)) (zr Z T 1) (T 1) := by
    by_cases c : us = 1
    · have ht : T 1 = 0 := by
        by_cases c3 : T 1 = 0
        · exact c3
        · have := (h.2.2.2.2.2.1 (by omega)).1; omega
      rw [ht]
      exact dv_zero _ _ _ _ (fun i hi => absurd hi (by omega))
    · exact e1 1 (by omega)
  exact ⟨Q, Q1, W, ⟨⟨c1, ⟨X0, x1, fun X hX => (x2 X hX).1⟩, c7⟩, c2, c3, c4, ⟨d2, d3 (us - 1) (by omega)⟩, ⟨e1 0 (by omega), dv_same (fun x => (hder x).symm) hL1⟩, fun g l g1 g2 => e2 g l g1 (dv_same hder g2)⟩, c5, X0, x1, fun X hX => (x2 X hX).2⟩
