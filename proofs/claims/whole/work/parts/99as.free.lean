theorem FC_lead : ∀ {h : Nat} {a : Nat → Int} {Na : Nat} {b : Nat → Int} {Nb : Nat} {G : Nat → Int} {NG : Nat}, FC h a Na b Nb G NG → 0 < Na → ldn a Na → ldn b Nb → 1 ≤ NG ∧ G (NG - 1) ≠ 0
  | 0, a, Na, b, Nb, G, NG, h, h0, ha, hb => by
    obtain ⟨h1, h2⟩ := h
    rw [h1]
    exact ⟨by omega, by rw [h2 _ (by omega)]; exact ha _ (by omega)⟩
  | h + 1, a, Na, b, Nb, G, NG, hF, h0, ha, hb => by
    rcases hF with ⟨_, h1, h2⟩ | ⟨h3, r, Nr, _, hr, hF⟩
    · rw [h1]
      exact ⟨by omega, by rw [h2 _ (by omega)]; exact ha _ (by omega)⟩
    · exact FC_lead hF h3 hb hr
theorem dv_same {g p q : Nat → Int} {m n l : Nat} (h : ∀ x : Rat, rv q l x = rv p n x) : pdv g m p n → pdv g m q l := fun k => dv_scale (a := 1) (b := 1) (by decide) k (fun x => by rw [h])
theorem der_lead {F : Nat → Int} {N : Nat} (hN : 1 ≤ N) (hF : F (N - 1) ≠ 0) : ldn (der F) (N - 1) := fun i hi => by
  unfold der
  rw [show i + 1 = N - 1 by omega]
  exact Int.mul_ne_zero hF (by omega)
theorem prim_ldn2 {y r : Nat → Int} {N : Nat} (h : primR y N r) (hl : ldn y N) : ldn r N := fun i hi => by
  obtain ⟨_, _, _, _, _, _, _, h9⟩ := prim_rv h (by omega) (hl (N - 1) (by omega))
  rw [show N - 1 = i by omega] at h9
  exact h9
/-- the reference's polynomial without repeated factors: A is that times what A and its derivative share -/
theorem free_ok {F : Nat → Int} {N : Nat} (hN : 1 ≤ N ∧ N ≤ 10) (hF : F (N - 1) ≠ 0) {f : Nat → Int} {Nf : Nat} {G : Nat → Int} {NG : Nat} (h : freeR F N f Nf G NG) :
    (1 ≤ NG ∧ G (NG - 1) ≠ 0) ∧ (1 ≤ Nf ∧ f (Nf - 1) ≠ 0) ∧ (pdv G NG F N ∧ pdv G NG (der F) (N - 1)) ∧ (∀ (g : Nat → Int) (m : Nat), pdv g m F N → pdv g m (der F) (N - 1) → pdv g m G NG) ∧ ∃ k : Rat, k ≠ 0 ∧ ∀ x : Rat, rv F N x = k * (rv f Nf x * rv G NG x) := by
  obtain ⟨a1, b1, q, y, j, k, h1, h2, h3, h4, h5, h6, h7, h8, h9, h10⟩ := h
  have la : ldn F N := fun i hi => by rw [show i = N - 1 by omega]; exact hF
  have lb := der_lead hN.1 hF
  have hG := FC_lead h3 (by omega) (prim_ldn2 h1 la) (prim_ldn2 h2 lb)
  obtain ⟨⟨d1, d2⟩, d3⟩ := FC_dv h3 (by omega) (prim_ldn2 h2 lb)
  have e1 := (dv_prim (g := G) (m := NG) h1 la).2 d1
  have e2 := (dv_prim (g := G) (m := NG) h2 lb).2 d2
  have hx := ev_all h8
  have hu : (G (NG - 1)) ^ k ≠ 0 := Int.pow_ne_zero hG.2
  have m1 : ((-1 : Int) : Rat) = -1 := rfl
  have o1 : ((1 : Int) : Rat) = 1 := rfl
  have cst : ∀ (u : Int) (x : Rat), rv (fun _ => u) 1 x = (u : Rat) := fun u x => by show 0 + (u : Rat) * x ^ 0 = _; grind
  -- nothing is left
  have hj : j = 0 := by
    rcases Nat.eq_zero_or_pos j with c | c
    · exact c
    · exfalso
      have dy : pdv G NG y j := dv_comb (a := 1) (u1 := fun _ => (G (NG - 1)) ^ k) (l1 := 1) (u2 := fun i => (-1) * q i) (l2 := Nf) (by decide) e1 (dv_refl G NG) (fun x => by
        have := hx x
        rw [cst, rv_smul, m1, o1]
        grind)
      obtain ⟨a, u, l, ha, he⟩ := dy
      obtain ⟨i, _, _, hi, _⟩ := dv_deg ha hG ⟨c, h6 (j - 1) (by omega)⟩ he
      omega
  have hNf : 1 ≤ Nf := by omega
  have hq : q (Nf - 1) ≠ 0 := by rw [show Nf - 1 = N - NG by omega]; exact h9
  obtain ⟨u, v, u0, v0, _, _, huv, hf⟩ := prim_rv h10 hNf hq
  refine ⟨hG, ⟨hNf, hf⟩, ⟨e1, e2⟩, fun g m g1 g2 => d3 g m ((dv_prim h1 la).1 g1) ((dv_prim h2 lb).1 g2), (u : Rat) / ((v : Rat) * (((G (NG - 1)) ^ k : Int) : Rat)), ?_, fun x => ?_⟩
  · have c1 := ne_cast u0
    have c2 := ne_cast v0
    have c3 := ne_cast hu
    have c4 : (v : Rat) * (((G (NG - 1)) ^ k : Int) : Rat) ≠ 0 := fun g => by rcases Rat.mul_eq_zero.1 g with w | w <;> contradiction
    intro g
    have : (u : Rat) = (u : Rat) / ((v : Rat) * (((G (NG - 1)) ^ k : Int) : Rat)) * ((v : Rat) * (((G (NG - 1)) ^ k : Int) : Rat)) := by grind
    rw [g] at this
    grind
  · have c2 := ne_cast v0
    have c3 := ne_cast hu
    have t1 := hx x
    have t2 := huv x
    rw [hj] at t1
    have t3 : rv y 0 x = 0 := rfl
    rw [t3] at t1
    obtain ⟨w, hw⟩ : ∃ w : Rat, w = (((G (NG - 1)) ^ k : Int) : Rat) := ⟨_, rfl⟩
    rw [← hw] at t1 c3 ⊢
    have c4 : (v : Rat) * w ≠ 0 := fun g => by rcases Rat.mul_eq_zero.1 g with z | z <;> contradiction
    have t4 : (v : Rat) * w * rv F N x = (u : Rat) * (rv f Nf x * rv G NG x) := by
      have : (v : Rat) * w * rv F N x = (v : Rat) * rv q Nf x * rv G NG x := by grind
      rw [this, ← t2]; grind
    have t5 : (v : Rat) * w * ((u : Rat) / ((v : Rat) * w) * (rv f Nf x * rv G NG x)) = (u : Rat) * (rv f Nf x * rv G NG x) := by grind
    have t6 : (v : Rat) * w * (rv F N x - (u : Rat) / ((v : Rat) * w) * (rv f Nf x * rv G NG x)) = 0 := by grind
    rcases Rat.mul_eq_zero.1 t6 with z | z
    · exact absurd z c4
    · grind
/-- both programs have the same polynomials, up to factors -/
theorem free_Q {Z : Nat → Int} {T : Nat → Nat} {us N : Nat} {F : Nat → Int} (h : chn Z T us) (h0 : zr Z T 0 = F) (h1 : zr Z T 1 = dp F) (hN : N = T 0) (hN10 : N ≤ 10) {f : Nat → Int} {Nf : Nat} {G : Nat → Int} {NG : Nat} (hf : freeR F N f Nf G NG)
    {Q0 : Rat → Rat} (hq : ∀ B : Rat, 0 ≤ B → nice B Q0) (hQ : ∀ x : Rat, rowv Z T 0 x = Q0 x * rowv Z T (us - 1) x) :
    NG = T (us - 1) ∧ (∃ k : Rat, k ≠ 0 ∧ ∀ x : Rat, rv G NG x = k * rowv Z T (us - 1) x) ∧ (∃ k : Rat, k ≠ 0 ∧ ∀ x : Rat, rv f Nf x = k * Q0 x) ∧ 1 ≤ Nf ∧ f (Nf - 1) ≠ 0 := by
  subst h0
  have hT0 := h.2.2.2.2.2.2.1
  obtain ⟨d1, d2, d3⟩ := chn_dec h
  have hu := h.2.2.2.1
  have hl0 := d3 0 (by omega)
  rw [← hN] at hl0
  obtain ⟨g1, g2, ⟨g3, g4⟩, g5, k0, k1, k2⟩ := free_ok ⟨by omega, hN10⟩ hl0 hf
  obtain ⟨c1, c2⟩ := cls_dv h
  have hder : ∀ x : Rat, rv (zr Z T 1) (T 1) x = rv (der (zr Z T 0)) (N - 1) x := fun x => by rw [hN]; exact row1_rv h1 hT0 x
  have a1 : pdv G NG (zr Z T (us - 1)) (T (us - 1)) := c2 G NG (by rw [← hN]; exact g3) (dv_same hder g4)
  have hL1 : pdv (zr Z T (us - 1)) (T (us - 1)) (zr Z T 1) (T 1) := by
    by_cases c : us = 1
    · -- then the second row is empty
      have ht : T 1 = 0 := by
        by_cases c3 : T 1 = 0
        · exact c3
        · have := (h.2.2.2.2.2.1 (by omega)).1; omega
      rw [ht]
      exact dv_zero _ _ _ _ (fun i hi => absurd hi (by omega))
    · exact c1 1 (by omega)
  have a2 : pdv (zr Z T (us - 1)) (T (us - 1)) G NG := g5 _ _ (by rw [hN]; exact c1 0 (by omega)) (dv_same (fun x => (hder x).symm) hL1)
  obtain ⟨b1, kk, b2, b3⟩ := dv_both g1 ⟨d2, d3 (us - 1) (by omega)⟩ a1 a2
  have hk' : ∀ x : Rat, rv G NG x = 1 / kk * rowv Z T (us - 1) x := fun x => by
    have := b3 x
    unfold rowv
    rw [this]; grind
  have hkn : 1 / kk ≠ 0 := fun g => by
    have : kk * (1 / kk) = 1 := by grind
    rw [g] at this; grind
  refine ⟨b1, ⟨1 / kk, hkn, hk'⟩, ?_, g2⟩
  obtain ⟨c, hc⟩ : ∃ c : Rat, c = k0 * (1 / kk) := ⟨_, rfl⟩
  have hcn : c ≠ 0 := fun g => by rw [hc] at g; rcases Rat.mul_eq_zero.1 g with u | u <;> contradiction
  have hcn' : 1 / c ≠ 0 := fun g => by
    have : c * (1 / c) = 1 := by grind
    rw [g] at this; grind
  refine ⟨1 / c, hcn', agree_dense (fun B hB => rv_nice hB f Nf) (fun B hB => nice_smul _ (hq B hB)) (fun x y hxy => ?_)⟩
  obtain ⟨z, z1, z2, z3⟩ := dense d2 (d3 (us - 1) (by omega)) x y hxy
  refine ⟨z, z1, z2, ?_⟩
  have t1 := k2 z
  have t2 := hQ z
  have t3 := hk' z
  unfold rowv at t2 t3
  rw [hN] at t1
  rw [t2, t3] at t1
  have t4 : (Q0 z - c * rv f Nf z) * rv (zr Z T (us - 1)) (T (us - 1)) z = 0 := by rw [hc]; grind
  rcases Rat.mul_eq_zero.1 t4 with u | u
  · have : Q0 z = c * rv f Nf z := by grind
    rw [this]; grind
  · exact absurd u z3
