theorem slope_uniq {B : Rat} {f p q : Rat → Rat} (h : slope B f p) (k : slope B f q) {x : Rat} (hx : ab B x) (hx2 : x < B) : p x = q x := by
  obtain ⟨C, c0, c1⟩ := h
  obtain ⟨D, d0, d1⟩ := k
  refine Classical.byContradiction fun hn => ?_
  obtain ⟨e, e0, he⟩ : ∃ e : Rat, 0 < e ∧ (p x - q x = e ∨ p x - q x = -e) := by
    by_cases c : 0 < p x - q x
    · exact ⟨_, c, Or.inl rfl⟩
    · exact ⟨-(p x - q x), by grind, Or.inr (by grind)⟩
  obtain ⟨t, t0, t1, t2⟩ := pos_min (show 0 < B - x by grind) (div_pos' e0 (show 0 < C + D + 1 by grind))
  have t3 : (C + D) * t < e := by
    have h3 := Rat.mul_le_mul_of_nonneg_left t2 (c := C + D + 1) (by grind)
    have ee : (C + D + 1) * (e / (C + D + 1)) = e := by grind
    rw [ee] at h3
    grind
  have hy : ab B (x + t) := by unfold ab at *; constructor <;> grind
  have h1 := c1 x (x + t) hx hy
  have h2 := d1 x (x + t) hx hy
  rw [show x + t - x = t by grind] at h1 h2
  have h3 := ab_add h1 (ab_neg h2)
  rw [show f (x + t) - f x - p x * t + -(f (x + t) - f x - q x * t) = -(p x - q x) * t by grind] at h3
  have h4 : C * (t * t) + D * (t * t) < e * t := by
    have := Rat.mul_pos (show 0 < e - (C + D) * t by grind) t0
    grind
  unfold ab at h3
  rcases he with u | u <;> rw [u] at h3 <;> grind
theorem slope_B {B B' : Rat} {f p : Rat → Rat} (h : slope B f p) (hb : B' ≤ B) : slope B' f p := by
  obtain ⟨C, c0, c1⟩ := h
  exact ⟨C, c0, fun x y hx hy => c1 x y (ab_le hx hb) (ab_le hy hb)⟩
theorem rv_slope' {B : Rat} (hB : 0 ≤ B) (c : Nat → Int) (n : Nat) : slope B (fun x => rv c n x) (fun x => rv (der c) (n - 1) x) := by
  cases n with
  | zero => exact slope_const B 0
  | succ n => exact rv_slope hB c n
section
variable {F : Nat → Int} {N : Nat} {Q Q1 : Rat → Rat} {W : Rat → Int} {G : Nat → Int} {m : Nat}
/-- a quotient of polynomials that is smooth is a polynomial -/
theorem quot_poly {P G : Nat → Int} {n m : Nat} {Q : Rat → Rat} (hG : 1 ≤ m ∧ G (m - 1) ≠ 0) (hQ : ∀ B : Rat, 0 ≤ B → nice B Q) (e : ∀ x : Rat, rv P n x = Q x * rv G m x) (h : pdv G m P n) : ∃ (c : Rat) (q : Nat → Int) (l : Nat), c ≠ 0 ∧ ∀ x : Rat, Q x = c * rv q l x := by
  obtain ⟨a, q, l, ha, hx⟩ := h
  have ha' := ne_cast ha
  have hc : 1 / (a : Rat) ≠ 0 := fun g => by
    have : (a : Rat) * (1 / (a : Rat)) = 1 := by grind
    rw [g] at this; grind
  refine ⟨1 / (a : Rat), q, l, hc, agree_dense hQ (fun B hB => nice_smul _ (rv_nice hB q l)) (fun x y hxy => ?_)⟩
  obtain ⟨z, z1, z2, z3⟩ := dense hG.1 hG.2 x y hxy
  refine ⟨z, z1, z2, ?_⟩
  have t1 := hx z
  rw [e] at t1
  have t2 : ((a : Rat) * Q z - rv q l z) * rv G m z = 0 := by grind
  rcases Rat.mul_eq_zero.1 t2 with u | u
  · grind
  · exact absurd u z3
theorem sq_poly (h : sq F N Q Q1 W G m) : ∃ (c : Rat) (q : Nat → Int) (l : Nat), c ≠ 0 ∧ ∀ x : Rat, Q x = c * rv q l x := quot_poly h.2.2.2.2.1 h.1.1 h.2.2.1 h.2.2.2.2.2.1.1
theorem sq_poly1 (h : sq F N Q Q1 W G m) : ∃ (c : Rat) (q : Nat → Int) (l : Nat), c ≠ 0 ∧ ∀ x : Rat, Q1 x = c * rv q l x := quot_poly h.2.2.2.2.1 h.2.1 h.2.2.2.1 h.2.2.2.2.2.1.2
/-- each member of a chain is made of the first two -/
theorem pch_bez {P : Nat → Nat → Int} {T : Nat → Nat} {m : Nat} (h : pch P T m) : ∀ j k : Nat, k ≤ j → k ≤ m → ∃ (a : Int) (u v : Nat → Int) (l1 l2 : Nat), a ≠ 0 ∧ ∀ x : Rat, (a : Rat) * rv (P k) (T k) x = rv u l1 x * rv (P 0) (T 0) x + rv v l2 x * rv (P 1) (T 1) x := by
  have cst : ∀ (u : Int) (x : Rat), rv (fun _ => u) 1 x = (u : Rat) := fun u x => by show 0 + (u : Rat) * x ^ 0 = _; grind
  have o1 : ((1 : Int) : Rat) = 1 := rfl
  have z1 : ∀ (p : Nat → Int) (x : Rat), rv p 0 x = 0 := fun _ _ => rfl
  intro j
  induction j with
  | zero =>
    intro k h1 _
    rw [show k = 0 by omega]
    exact ⟨1, fun _ => 1, fun _ => 0, 1, 0, by decide, fun x => by rw [cst, z1, o1]; grind⟩
  | succ j ih =>
    intro k h1 h2
    by_cases c : k ≤ j
    · exact ih k c h2
    · by_cases c1 : k = 1
      · rw [c1]
        exact ⟨1, fun _ => 0, fun _ => 1, 0, 1, by decide, fun x => by rw [cst, z1, o1]; grind⟩
      · obtain ⟨i, rfl⟩ : ∃ i : Nat, k = i + 2 := ⟨k - 2, by omega⟩
        obtain ⟨A, w, q, d, A0, w0, hr⟩ := h.2.1 (i + 1) (by omega) (by omega)
        rw [Nat.add_sub_cancel] at hr
        obtain ⟨a1, u1, v1, k1, k2, a10, e1⟩ := ih i (by omega) (by omega)
        obtain ⟨a2, u2, v2, k3, k4, a20, e2⟩ := ih (i + 1) (by omega) (by omega)
        -- -w P(i+2) = A P(i) + q P(i+1)
        obtain ⟨q2, hq2⟩ := rv_prod u2 q d k3
        obtain ⟨q3, hq3⟩ := rv_prod v2 q d k4
        obtain ⟨r1, hr1⟩ := rv_sum q2 u1 k1 (k3 + d) (-(A * a2)) (-a1)
        obtain ⟨r2, hr2⟩ := rv_sum q3 v1 k2 (k4 + d) (-(A * a2)) (-a1)
        refine ⟨w * a1 * a2, r1, r2, k3 + d + k1, k4 + d + k2, Int.mul_ne_zero (Int.mul_ne_zero (by omega) a10) a20, fun x => ?_⟩
        rw [hr1, hr2, hq2, hq3]
        have t1 := hr x
        have t2 := e1 x
        have t3 := e2 x
        simp only [Rat.intCast_mul, Rat.intCast_neg]
        have t4 : (w : Rat) * a1 * a2 * rv (P (i + 2)) (T (i + 2)) x = -((A : Rat) * a2 * (a1 * rv (P i) (T i) x) + rv q d x * a1 * (a2 * rv (P (i + 1)) (T (i + 1)) x)) := by grind
        rw [t4, t2, t3]
        grind
theorem sq_bez (h : sq F N Q Q1 W G m) (hN : 1 ≤ N) (hF : F (N - 1) ≠ 0) : ∃ (a : Rat) (u v : Nat → Int) (l1 l2 : Nat), a ≠ 0 ∧ ∀ x : Rat, a = rv u l1 x * Q x + rv v l2 x * Q1 x := by
  obtain ⟨a1, a2, a3, a4, a5, ⟨a6, a7⟩, a8⟩ := h
  have key : ∃ (a : Rat) (u v : Nat → Int) (l1 l2 : Nat), a ≠ 0 ∧ ∀ x : Rat, a * rv G m x = rv u l1 x * rv F N x + rv v l2 x * rv (der F) (N - 1) x := by
    have cst : ∀ (u : Int) (x : Rat), rv (fun _ => u) 1 x = (u : Rat) := fun u x => by show 0 + (u : Rat) * x ^ 0 = _; grind
    have o1 : ((1 : Int) : Rat) = 1 := rfl
    have z1 : ∀ (p : Nat → Int) (x : Rat), rv p 0 x = 0 := fun _ _ => rfl
    by_cases c : N = 1
    · subst c
      obtain ⟨_, k, k0, k1⟩ := dv_both a5 ⟨by omega, hF⟩ a6 (a8 F 1 (dv_refl _ _) (dv_zero _ _ _ _ (fun i hi => absurd hi (by omega))))
      refine ⟨k, fun _ => 1, fun _ => 0, 1, 0, k0, fun x => ?_⟩
      rw [cst, z1, o1, k1]; grind
    · obtain ⟨P, T, l, hp, ⟨l1, l2⟩, e1, e2, e3, e4⟩ := pch_ex (N - 1) F (der F) N hN hF (by omega) (der_lead hN hF (N - 1 - 1) (by omega))
      obtain ⟨d1, d2⟩ := pch_dv hp
      have d3 := d1 0 (by omega)
      have d4 := d1 1 l1
      rw [e1, e2] at d3
      rw [e3, e4] at d4
      obtain ⟨_, k, k0, k1⟩ := dv_both (hp.1 l (Nat.le_refl _)) a5 (a8 _ _ d3 d4) (d2 G m (by rw [e1, e2]; exact a6) (by rw [e3, e4]; exact a7))
      obtain ⟨a, u, v, k2, k3, ha, he⟩ := pch_bez hp l l (Nat.le_refl _) (Nat.le_refl _)
      rw [e1, e2, e3, e4] at he
      have ha' := ne_cast ha
      refine ⟨(a : Rat) / k, u, v, k2, k3, fun g => ?_, fun x => ?_⟩
      · have : (a : Rat) = (a : Rat) / k * k := by grind
        rw [g] at this; grind
      · rw [← he, k1]; grind
  obtain ⟨a, u, v, l1, l2, ha, he⟩ := key
  refine ⟨a, u, v, l1, l2, ha, agree_dense (fun B hB => nice_const B a) (fun B hB => nice_add (nice_mul (rv_nice hB u l1) (a1.1 B hB)) (nice_mul (rv_nice hB v l2) (a2 B hB))) (fun x y hxy => ?_)⟩
  obtain ⟨z, z1, z2, z3⟩ := dense a5.1 a5.2 x y hxy
  refine ⟨z, z1, z2, ?_⟩
  have t := he z
  rw [a3, a4] at t
  have t2 : (a - (rv u l1 z * Q z + rv v l2 z * Q1 z)) * rv G m z = 0 := by grind
  rcases Rat.mul_eq_zero.1 t2 with w | w
  · grind
  · exact absurd w z3
end
/-- two smooth functions that make up 1 are not small together -/
theorem bez_gap {B a : Rat} {u v p q : Rat → Rat} (ha : a ≠ 0) (hu : nice B u) (hv : nice B v) (e : ∀ x : Rat, ab B x → a = u x * p x + v x * q x) : ∃ d : Rat, 0 < d ∧ ∀ x : Rat, ab B x → ¬ (ab d (p x) ∧ ab d (q x)) := by
  obtain ⟨M, m0, m1, _⟩ := hu
  obtain ⟨N, n0, n1, _⟩ := hv
  obtain ⟨b, b0, hb⟩ : ∃ b : Rat, 0 < b ∧ (a = b ∨ a = -b) := by
    by_cases c : 0 < a
    · exact ⟨a, c, Or.inl rfl⟩
    · exact ⟨-a, by grind, Or.inr (by grind)⟩
  refine ⟨b / (M + N + 1), div_pos' b0 (by grind), fun x hx ⟨g1, g2⟩ => ?_⟩
  have h1 := ab_add (ab_mul (m1 x hx) g1) (ab_mul (n1 x hx) g2)
  rw [← e x hx] at h1
  have h2 : (M + N + 1) * (b / (M + N + 1)) = b := by grind
  have h3 := div_pos' b0 (show 0 < M + N + 1 by grind)
  unfold ab at h1
  rcases hb with w | w <;> grind
/-- a factor's roots are roots, and count no more -/
theorem fac_mono {Q Q' H : Rat → Rat} {W W' : Rat → Int} (h : cnt Q W) (h' : cnt Q' W') (hH : ∀ B : Rat, 0 ≤ B → nice B H) (e : ∀ x : Rat, Q x = Q' x * H x) (gap : ∀ B : Rat, 0 ≤ B → ∃ d : Rat, 0 < d ∧ ∀ x : Rat, ab B x → ¬ (ab d (Q' x) ∧ ab d (H x))) {x y : Rat} (hxy : x ≤ y) : W' y - W' x ≤ W y - W x := by
  -- over a fine cell
  have cell : ∀ B : Rat, 0 ≤ B → ∃ d : Rat, 0 < d ∧ ∀ x y : Rat, ab B x → ab B y → x < y → y - x ≤ d → W' y - W' x ≤ W y - W x := fun B hB => by
    obtain ⟨d, d0, d1⟩ := h.2.2 B hB
    obtain ⟨d', d0', d1'⟩ := h'.2.2 B hB
    obtain ⟨s, s0, s1⟩ := gap B hB
    obtain ⟨k1, k10, k11⟩ := nice_small (h'.1 B hB) s0
    obtain ⟨k2, k20, k21⟩ := nice_small (hH B hB) s0
    obtain ⟨c1, r1, p1, p2⟩ := pos_min d0 d0'
    obtain ⟨c2, r2, p3, p4⟩ := pos_min k10 k20
    obtain ⟨c, r, p5, p6⟩ := pos_min r1 r2
    refine ⟨c, r, fun x y hx hy hxy hd => ?_⟩
    rw [d1 x y hx hy hxy (by grind), d1' x y hx hy hxy (by grind)]
    by_cases q : calm (Q' x) (Q' y)
    · have e1 : jmp (rsg (Q' x)) (rsg (Q' y)) = 0 := by unfold jmp; rw [if_neg (fun g => g.2 q.1.symm)]
      rw [e1]; exact (jmp_nn _ _).1
    · have g1 := not_calm q (k11 x y hx hy (by grind) (by grind))
      have g2 : calm (H x) (H y) := by
        refine Classical.byContradiction fun q2 => ?_
        exact s1 x hx ⟨g1.1, (not_calm q2 (k21 x y hx hy (by grind) (by grind))).1⟩
      rw [e, e, sgn_mul_r, sgn_mul_r, ← g2.1, Int.mul_comm, Int.mul_comm (rsg (Q' y)), jmp_turn (by
        rcases rsg_three (H x) with u | u | u
        · exact Or.inr u
        · exact absurd u g2.2
        · exact Or.inl u)]
      omega
  -- and so over all
  by_cases c : x < y
  · obtain ⟨B, hB, bx, bY⟩ := both_B x y
    obtain ⟨d, d0, d1⟩ := cell B hB
    obtain ⟨n, hn⟩ := arch_steps (a := y - x) d0
    have key : ∀ (n : Nat) (v : Rat), x ≤ v → v ≤ y → v - x ≤ (n : Rat) * d → W' v - W' x ≤ W v - W x := by
      intro n
      induction n with
      | zero =>
        intro v h1 h2 h3
        have e0 : ((0 : Nat) : Rat) = 0 := rfl
        rw [e0] at h3
        rw [show v = x by grind]; omega
      | succ n ih =>
        intro v h1 h2 h3
        rw [nat_succ] at h3
        by_cases c2 : v - x ≤ d
        · by_cases c3 : x < v
          · exact d1 x v bx (in_B bx bY h1 h2) c3 c2
          · rw [show v = x by grind]; omega
        · have i1 := ih (v - d) (by grind) (by grind) (by grind)
          have i2 := d1 (v - d) v (in_B bx bY (by grind) (by grind)) (in_B bx bY h1 h2) (by grind) (by grind)
          omega
    exact key n y (by grind) (by grind) hn
  · rw [show y = x by grind]; omega
