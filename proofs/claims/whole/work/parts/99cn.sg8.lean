/-- where the count grows it grows over a fine cell -/
theorem find_cell {Q : Rat → Rat} {W : Rat → Int} (h : cnt Q W) {p q : Rat} (hpq : p ≤ q) (hW : W p < W q) {d : Rat} (hd : 0 < d) : ∃ u v : Rat, p ≤ u ∧ u < v ∧ v ≤ q ∧ v - u ≤ d ∧ W u < W v := by
  refine Classical.byContradiction fun hno => ?_
  obtain ⟨n, hn⟩ := arch_steps (a := q - p) hd
  have key : ∀ (n : Nat) (v : Rat), p ≤ v → v ≤ q → v - p ≤ (n : Rat) * d → W v = W p := by
    intro n
    induction n with
    | zero =>
      intro v a1 a2 a3
      have e0 : ((0 : Nat) : Rat) = 0 := rfl
      rw [e0] at a3
      rw [show v = p by grind]
    | succ n ih =>
      intro v a1 a2 a3
      rw [nat_succ] at a3
      by_cases c0 : v = p
      · rw [c0]
      obtain ⟨u, hu1, hu2, hu3, hu4⟩ : ∃ u : Rat, p ≤ u ∧ u < v ∧ v - u ≤ d ∧ u - p ≤ (n : Rat) * d := by
        by_cases c2 : v - p ≤ d
        · exact ⟨p, by grind, by grind, c2, by have := Rat.mul_nonneg (natr n) (Rat.le_of_lt hd); grind⟩
        · exact ⟨v - d, by grind, by grind, by grind, by grind⟩
      have i1 := ih u hu1 (by grind) hu4
      have i2 := cnt_mono h (Rat.le_of_lt hu2)
      rcases Int.lt_or_le (W u) (W v) with c | c
      · exact absurd ⟨u, v, hu1, hu2, a2, hu3, c⟩ hno
      · omega
  have := key n q hpq (by grind) hn
  omega
/-- a part without a root: the other part gets small -/
theorem small_T {F : Nat → Int} {N : Nat} {Q Q1 Cf Tf : Rat → Rat} {W WC : Rat → Int} {G : Nat → Int} {m : Nat} (h : sq F N Q Q1 W G m) (hC : cnt Cf WC) (hT : pol Tf) (e : ∀ x : Rat, Q x = Cf x * Tf x) {p q : Rat} (hpq : p ≤ q) (hW : W p < W q) (hWC : WC q = WC p) {d : Rat} (hd : 0 < d) : ∃ u : Rat, p ≤ u ∧ u ≤ q ∧ ab d (Tf u) := by
  obtain ⟨b, hb, bp, bq⟩ := both_B p q
  obtain ⟨d1, d10, hd1⟩ := h.1.2.2 b hb
  obtain ⟨d2, d20, hd2⟩ := hC.2.2 b hb
  obtain ⟨d3, d30, hd3⟩ := nice_small (pol_nice hT b hb) hd
  obtain ⟨c1, c10, c11, c12⟩ := pos_min d10 d20
  obtain ⟨c2, c20, c21, c22⟩ := pos_min c10 d30
  obtain ⟨u, v, y1, y2, y3, y4, y5⟩ := find_cell h.1 hpq hW c20
  have bu := in_B bp bq y1 (show u ≤ q by grind)
  have bv := in_B bp bq (show p ≤ v by grind) y3
  have w1 := hd1 u v bu bv y2 (by grind)
  have w2 := hd2 u v bu bv y2 (by grind)
  have m1 := cnt_mono hC y1
  have m2 := cnt_mono hC (Rat.le_of_lt y2)
  have m3 := cnt_mono hC y3
  have hq : ¬ calm (Q u) (Q v) := fun c => by
    have e1 : jmp (rsg (Q u)) (rsg (Q v)) = 0 := by unfold jmp; rw [if_neg (fun g => g.2 c.1.symm)]
    omega
  rw [jmp_off hq] at w1
  have q0 : Q u ≠ 0 := fun g => by rw [if_pos g] at w1; omega
  have hcc : calm (Cf u) (Cf v) := Classical.byContradiction fun c => by
    rw [jmp_off c, if_neg (fun g => q0 (by rw [e, g]; grind))] at w2
    omega
  have ht : ¬ calm (Tf u) (Tf v) := fun c => hq (by rw [e, e]; exact calm_mul hcc c)
  exact ⟨u, y1, by grind, (not_calm ht (hd3 u v bu bv (by grind) (by grind))).1⟩
/-- what a polynomial that makes up 1 with its derivative shares with it -/
theorem sq_unit {F : Nat → Int} {N : Nat} {Q Q1 : Rat → Rat} {W : Rat → Int} {G : Nat → Int} {m : Nat} (h : sq F N Q Q1 W G m) {U V : Rat → Rat} (hU : pol U) (hV : pol V) (e : ∀ x : Rat, 1 = U x * rv F N x + V x * rv (der F) (N - 1) x) : m = 1 := by
  obtain ⟨d1, q1, l1, hd1, e1⟩ := hU
  obtain ⟨d2, q2, l2, hd2, e2⟩ := hV
  obtain ⟨r1, hr1⟩ := rv_sum q1 q1 l1 l1 d2 0
  obtain ⟨r2, hr2⟩ := rv_sum q2 q2 l2 l2 d1 0
  have z : ((0 : Int) : Rat) = 0 := rfl
  have hd : pdv G m (fun _ => (1 : Int)) 1 := dv_comb (a := d1 * d2) (u1 := r1) (u2 := r2) (l1 := l1 + l1) (l2 := l2 + l2) (Int.mul_ne_zero hd1 hd2) h.2.2.2.2.2.1.1 h.2.2.2.2.2.1.2 (fun x => by
    rw [hr1, hr2, one_rv, Rat.intCast_mul, z, ← e1, ← e2]
    have := e x
    have e9 : (d1 : Rat) * (d2 : Rat) * 1 = (d1 : Rat) * (d2 : Rat) * (U x * rv F N x + V x * rv (der F) (N - 1) x) := by rw [← this]
    rw [e9]; grind)
  obtain ⟨a, q, l, ha, hx⟩ := hd
  obtain ⟨j, _, _, hj, _⟩ := dv_deg ha h.2.2.2.2.1 ⟨by omega, by decide⟩ hx
  have := h.2.2.2.2.1.1
  omega
/-- two polynomials and their greatest common divisor -/
theorem gcd_bez {a b C : Nat → Int} {n m NC : Nat} (ha : 1 ≤ n ∧ a (n - 1) ≠ 0) (hb : 1 ≤ m ∧ b (m - 1) ≠ 0) (hC : 1 ≤ NC ∧ C (NC - 1) ≠ 0) (h1 : pdv C NC a n ∧ pdv C NC b m) (h2 : ∀ (g : Nat → Int) (l : Nat), pdv g l a n → pdv g l b m → pdv g l C NC) : ∃ (c : Rat) (u v : Nat → Int) (l1 l2 : Nat), c ≠ 0 ∧ ∀ x : Rat, c * rv C NC x = rv u l1 x * rv a n x + rv v l2 x * rv b m x := by
  obtain ⟨P, T, l, hp, ⟨l1, l2⟩, e1, e2, e3, e4⟩ := pch_ex m a b n ha.1 ha.2 hb.1 hb.2
  obtain ⟨d1, d2⟩ := pch_dv hp
  have d3 := d1 0 (by omega)
  have d4 := d1 1 l1
  rw [e1, e2] at d3
  rw [e3, e4] at d4
  obtain ⟨_, k, k0, k1⟩ := dv_both (hp.1 l (Nat.le_refl _)) hC (h2 _ _ d3 d4) (d2 C NC (by rw [e1, e2]; exact h1.1) (by rw [e3, e4]; exact h1.2))
  obtain ⟨a', u, v, k2, k3, ha', he⟩ := pch_bez hp l l (Nat.le_refl _) (Nat.le_refl _)
  rw [e1, e2, e3, e4] at he
  have ha2 := ne_cast ha'
  refine ⟨(a' : Rat) / k, u, v, k2, k3, fun g => ?_, fun x => ?_⟩
  · have : (a' : Rat) = (a' : Rat) / k * k := by grind
    rw [g] at this; grind
  · rw [← he, k1]; grind
section
variable {A B : Nat → Int} {N1 N2 : Nat} {QA Q1A QB Q1B : Rat → Rat} {WA WB : Rat → Int} {GA GB : Nat → Int} {mA mB : Nat}
/-- the quotient by a divisor of a part -/
theorem quot_T {f C : Nat → Int} {n NC : Nat} {Q : Rat → Rat} {k : Rat} (hC : 1 ≤ NC ∧ C (NC - 1) ≠ 0) (k0 : k ≠ 0) (hk : ∀ x : Rat, rv f n x = k * Q x) (h : pdv C NC f n) : ∃ t : Rat → Rat, pol t ∧ ∀ x : Rat, Q x = rv C NC x * t x := by
  obtain ⟨a, q, l, ha, e⟩ := h
  have ha' := ne_cast ha
  refine ⟨fun x => 1 / ((a : Rat) * k) * rv q l x, pol_mul (pol_const _) (pol_rv _ _), fun x => ?_⟩
  have h1 := e x
  rw [hk] at h1
  have h2 : (a : Rat) * k ≠ 0 := fun g => by
    rcases Rat.mul_eq_zero.1 g with u | u
    · exact ha' u
    · exact k0 u
  have h3 := rat_cancel h2 (b := Q x - rv C NC x * (1 / ((a : Rat) * k) * rv q l x)) (by
    have e9 : rv C NC x * (1 / ((a : Rat) * k) * rv q l x) * ((a : Rat) * k) = rv q l x * rv C NC x := by grind
    have e8 : (Q x - rv C NC x * (1 / ((a : Rat) * k) * rv q l x)) * ((a : Rat) * k) = (a : Rat) * (k * Q x) - rv C NC x * (1 / ((a : Rat) * k) * rv q l x) * ((a : Rat) * k) := by grind
    rw [e8, e9, h1]; grind)
  grind
theorem ref_two (hA : sq A N1 QA Q1A WA GA mA) (nA : 1 ≤ N1) (lA : A (N1 - 1) ≠ 0) (hB : sq B N2 QB Q1B WB GB mB) {fA fB C : Nat → Int} {NA NB NC : Nat} {kA kB : Rat} (a1 : 1 ≤ NA ∧ fA (NA - 1) ≠ 0) (b1 : 1 ≤ NB ∧ fB (NB - 1) ≠ 0) (hC : 1 ≤ NC ∧ C (NC - 1) ≠ 0)
    (kA0 : kA ≠ 0) (hkA : ∀ x : Rat, rv fA NA x = kA * QA x) (kB0 : kB ≠ 0) (hkB : ∀ x : Rat, rv fB NB x = kB * QB x) (h1 : pdv C NC fA NA ∧ pdv C NC fB NB) (h2 : ∀ (g : Nat → Int) (l : Nat), pdv g l fA NA → pdv g l fB NB → pdv g l C NC) :
    ∃ (QC Q1C TA TB : Rat → Rat) (WC : Rat → Int) (GC : Nat → Int) (k : Rat), two QA QB QC TA TB ∧ sq C NC QC Q1C WC GC 1 ∧ k ≠ 0 ∧ (∀ x : Rat, rv C NC x = k * QC x) ∧ ∃ U V : Rat → Rat, pol U ∧ pol V ∧ ∀ x : Rat, 1 = U x * rv C NC x + V x * rv (der C) (NC - 1) x := by
  obtain ⟨tA, ptA, etA⟩ := quot_T hC kA0 hkA h1.1
  obtain ⟨tB, ptB, etB⟩ := quot_T hC kB0 hkB h1.2
  obtain ⟨⟨U, V, Cd, pU, pV, sC, bz⟩, _⟩ := fac_bez hA nA lA (pol_rv C NC) ptA etA
  have bz' : ∀ x : Rat, 1 = U x * rv C NC x + V x * rv (der C) (NC - 1) x := fun x => by
    rw [← sm_uniq sC (sm_rv C NC) x]; exact bz x
  obtain ⟨QC, Q1C, WC, GC, m, hq, _⟩ := sq_ex hC.1 hC.2
  have em := sq_unit hq pU pV bz'
  subst em
  have hG0 : (GC 0 : Rat) ≠ 0 := ne_cast hq.2.2.2.2.1.2
  have eG : ∀ x : Rat, rv GC 1 x = (GC 0 : Rat) := fun x => by show 0 + (GC 0 : Rat) * x ^ 0 = _; grind
  have hk : ∀ x : Rat, rv C NC x = (GC 0 : Rat) * QC x := fun x => by rw [hq.2.2.1, eG]; grind
  obtain ⟨cc, qq, ll, _, hQCp⟩ := sq_poly hq
  obtain ⟨c2, q2, l2, _, hQAp⟩ := sq_poly hA
  obtain ⟨c3, q3, l3, _, hQBp⟩ := sq_poly hB
  obtain ⟨c, u, v, l1, l4, c0, hc⟩ := gcd_bez a1 b1 hC h1 h2
  have k1 : ∀ x : Rat, QA x = QC x * ((GC 0 : Rat) * tA x) := fun x => by rw [etA, hk]; grind
  have k2 : ∀ x : Rat, QB x = QC x * ((GC 0 : Rat) * tB x) := fun x => by rw [etB, hk]; grind
  refine ⟨QC, Q1C, fun x => (GC 0 : Rat) * tA x, fun x => (GC 0 : Rat) * tB x, WC, GC, (GC 0 : Rat), ⟨⟨pol_of hQAp, pol_of hQBp, pol_of hQCp, pol_mul (pol_const _) ptA, pol_mul (pol_const _) ptB⟩, k1, k2, fun x => 1 / c * (1 / (GC 0 : Rat)) * kA * rv u l1 x, fun x => 1 / c * (1 / (GC 0 : Rat)) * kB * rv v l4 x, pol_mul (pol_const _) (pol_rv _ _), pol_mul (pol_const _) (pol_rv _ _), ?_⟩, hq, hG0, hk, U, V, pU, pV, bz'⟩
  -- cancel C
  have dC := dense hC.1 hC.2
  refine agree_dense (fun b _ => nice_const b 1) (fun b hb => nice_add (nice_mul (nice_mul (nice_const b _) (rv_nice hb u l1)) (nice_mul (nice_const b _) (pol_nice ptA b hb))) (nice_mul (nice_mul (nice_const b _) (rv_nice hb v l4)) (nice_mul (nice_const b _) (pol_nice ptB b hb)))) (fun x y hxy => ?_)
  obtain ⟨z, z1, z2, z3⟩ := dC x y hxy
  refine ⟨z, z1, z2, ?_⟩
  have t1 := hc z
  rw [hkA, hkB, etA, etB] at t1
  have t2 : c = kA * rv u l1 z * tA z + kB * rv v l4 z * tB z := by
    have := rat_cancel z3 (b := c - (kA * rv u l1 z * tA z + kB * rv v l4 z * tB z)) (by grind)
    grind
  have t3 : 1 / c * (1 / (GC 0 : Rat)) * kA * rv u l1 z * ((GC 0 : Rat) * tA z) + 1 / c * (1 / (GC 0 : Rat)) * kB * rv v l4 z * ((GC 0 : Rat) * tB z) = 1 / c * (kA * rv u l1 z * tA z + kB * rv v l4 z * tB z) := by grind
  show (1 : Rat) = _
  rw [t3, ← t2]
  grind
end
