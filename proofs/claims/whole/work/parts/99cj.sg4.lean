/-- two polynomials without repeated factors, what they share, and the rest -/
def two (QA QB Cf TA TB : Rat → Rat) : Prop := (pol QA ∧ pol QB ∧ pol Cf ∧ pol TA ∧ pol TB) ∧ (∀ x : Rat, QA x = Cf x * TA x) ∧ (∀ x : Rat, QB x = Cf x * TB x) ∧ ∃ U V : Rat → Rat, pol U ∧ pol V ∧ ∀ x : Rat, 1 = U x * TA x + V x * TB x
section
variable {A B : Nat → Int} {N1 N2 : Nat} {QA Q1A QB Q1B Cf TA TB : Rat → Rat} {WA WB : Rat → Int} {GA GB : Nat → Int} {mA mB : Nat}
theorem sgn_keep {f : Rat → Rat} {e p q : Rat} (he : 0 < e) (hpq : p ≤ q) (h : ∀ z : Rat, p ≤ z → z ≤ q → ¬ ab e (f z) ∧ ab e (f z - f p)) : ∃ b : Int, (b = 1 ∨ b = -1) ∧ ∀ z : Rat, p ≤ z → z ≤ q → rsg (f z) = b ∧ ¬ ab e (f z) := by
  rcases not_ab (h p (by grind) hpq).1 with u | u
  · exact ⟨1, Or.inl rfl, fun z z1 z2 => ⟨rsg_pos (keep_pos u (h z z1 z2).2), (h z z1 z2).1⟩⟩
  · exact ⟨-1, Or.inr rfl, fun z z1 z2 => ⟨rsg_neg (keep_neg u (h z z1 z2).2), (h z z1 z2).1⟩⟩
/-- a fine cell around a root of A: either the shared part turns there, or B has one sign -/
theorem cell_C (hA : sq A N1 QA Q1A WA GA mA) (nA : 1 ≤ N1) (lA : A (N1 - 1) ≠ 0) (hB : sq B N2 QB Q1B WB GB mB) (nB : 1 ≤ N2) (lB : B (N2 - 1) ≠ 0) (hT : two QA QB Cf TA TB) (b : Rat) (hb : 0 ≤ b) :
    ∃ e : Rat, 0 < e ∧ ∃ d : Rat, 0 < d ∧ ∀ p q : Rat, ab b p → ab b q → p < q → q - p ≤ d → ¬ calm (QA p) (QA q) → (¬ calm (Cf p) (Cf q) ∧ calm (TA p) (TA q)) ∨ (calm (Cf p) (Cf q) ∧ ¬ calm (TA p) (TA q) ∧ ∃ s : Int, (s = 1 ∨ s = -1) ∧ ∀ z : Rat, p ≤ z → z ≤ q → rsg (rv B N2 z) = s ∧ ¬ ab e (rv B N2 z)) := by
  obtain ⟨⟨pQA, pQB, pC, pTA, pTB⟩, eA, eB, U, V, pU, pV, bz⟩ := hT
  obtain ⟨g1, g10, gap1⟩ := (fac_bez hA nA lA pC pTA eA).2 b hb
  obtain ⟨g2, g20, gap2⟩ := bez_gap (a := 1) (p := TA) (q := TB) (by grind) (pol_nice pU b hb) (pol_nice pV b hb) (fun x _ => bz x)
  obtain ⟨H, j, nH, hH⟩ := sq_pow N2 (Nat.le_refl _) hB nB lB
  obtain ⟨M, m0, m1, _⟩ := nH b hb
  obtain ⟨g, g0, h1, h2⟩ := pos_min g10 g20
  have hgg : 0 < g1 * g2 := Rat.mul_pos g10 g20
  have hpw : 0 < (g1 * g2) ^ j / 2 := by have := rat_pow_pos hgg j; grind
  obtain ⟨e, he⟩ : ∃ e : Rat, e = (g1 * g2) ^ j / 2 / (M + 1) := ⟨_, rfl⟩
  have e0 : 0 < e := by rw [he]; exact div_pos' hpw (by grind)
  obtain ⟨d1, d10, d11⟩ := nice_small (pol_nice pTA b hb) (d := g / 2) (by grind)
  obtain ⟨d2, d20, d21⟩ := nice_small (pol_nice pC b hb) g10
  obtain ⟨d3, d30, d31⟩ := nice_small (rv_nice hb B N2) e0
  obtain ⟨d4, d40, d41, d42⟩ := pos_min d10 d20
  obtain ⟨d, d00, d43, d44⟩ := pos_min d40 d30
  refine ⟨e, e0, d, d00, fun p q hp hq hpq hd hn => ?_⟩
  by_cases c : calm (Cf p) (Cf q)
  · right
    have cT : ¬ calm (TA p) (TA q) := fun t => hn (by rw [eA, eA]; exact calm_mul c t)
    refine ⟨c, cT, ?_⟩
    have s1 := not_calm cT (d11 p q hp hq (by grind) (by grind))
    refine sgn_keep e0 (by grind) (fun z z1 z2 => ?_)
    have bz' := in_B hp hq z1 z2
    have sm : ab g (TA z) := ab_half s1.1 (d11 p z hp bz' z1 (by grind))
    have n1 : ¬ ab g1 (Cf z) := fun t => gap1 z bz' ⟨t, ab_le sm h1⟩
    have n2 : ¬ ab g2 (TB z) := fun t => gap2 z bz' ⟨ab_le sm h2, t⟩
    have n3 := nab_mul (Rat.le_of_lt g10) (Rat.le_of_lt g20) n1 n2
    rw [← eB] at n3
    have n4 := nab_pow hgg n3 j
    rw [← hH] at n4
    have n5 := nab_div hpw m0 (m1 z bz') n4
    rw [← he] at n5
    exact ⟨n5, d31 p z hp bz' z1 (by grind)⟩
  · left
    refine ⟨c, Classical.byContradiction fun t => ?_⟩
    have s1 := not_calm c (d21 p q hp hq (by grind) (by grind))
    have s2 := not_calm t (d11 p q hp hq (by grind) (by grind))
    exact gap1 p hp ⟨s1.1, ab_le s2.1 (by grind)⟩
/-- how the changes go over a fine cell -/
theorem cell_V (hA : sq A N1 QA Q1A WA GA mA) (nA : 1 ≤ N1) (lA : A (N1 - 1) ≠ 0) (hB : sq B N2 QB Q1B WB GB mB) (hT : two QA QB Cf TA TB)
    {Qa R K S : Rat → Rat} {V : Rat → Int} (pQa : pol Qa) (pK : pol K) (nS : ∀ b : Rat, 0 ≤ b → nice b S) (nR : ∀ b : Rat, 0 ≤ b → nice b R) (e1 : ∀ x : Rat, QA x = Qa x * K x) (e2 : ∀ x : Rat, R x * K x = Q1A x * rv B N2 x) (e3 : ∀ x : Rat, rv B N2 x = K x * S x)
    {Gl : Rat → Rat} (nG : ∀ b : Rat, 0 ≤ b → nice b Gl) (e4 : ∀ x : Rat, rv A N1 x = Qa x * Gl x) (e5 : ∀ x : Rat, rv (der A) (N1 - 1) x * rv B N2 x = R x * Gl x)
    (hV : ∀ B : Rat, 0 ≤ B → ∃ d e : Rat, 0 < d ∧ 0 < e ∧ ∀ p q : Rat, ab B p → ab B q → p < q → q - p ≤ d → (calm (Qa p) (Qa q) → V p = V q) ∧ (¬ calm (Qa p) (Qa q) → ∃ s : Int, (s = 1 ∨ s = -1) ∧ (∀ z : Rat, p ≤ z → z ≤ q → rsg (R z) = s ∧ ¬ ab e (R z)) ∧ V p - V q = (if rsg (Qa p) = -s then 1 else 0) - (if rsg (Qa q) = -s then 1 else 0)))
    (b : Rat) (hb : 0 ≤ b) {e0 : Rat} (he0 : 0 < e0) :
    ∃ d : Rat, 0 < d ∧ ∀ p q : Rat, ab b p → ab b q → p < q → q - p ≤ d → (calm (QA p) (QA q) → V p = V q) ∧ (¬ calm (QA p) (QA q) → ¬ calm (Cf p) (Cf q) → V p = V q) ∧
      (¬ calm (QA p) (QA q) → ∀ s : Int, (s = 1 ∨ s = -1) → (∀ z : Rat, p ≤ z → z ≤ q → rsg (rv B N2 z) = s ∧ ¬ ab e0 (rv B N2 z)) → V p - V q = if s = 1 then (if QA p = 0 then 0 else 1) else (if QA q = 0 then 0 else -1)) := by
  obtain ⟨⟨pQA, pQB, pC, pTA, pTB⟩, eA, eB, _⟩ := hT
  obtain ⟨d1, et, d10, et0, hV⟩ := hV b hb
  obtain ⟨g, g0, gap⟩ := (fac_bez hA nA lA pQa pK e1).2 b hb
  obtain ⟨M1, m10, m11, _⟩ := hA.2.1 b hb
  obtain ⟨MS, ms0, ms1, _⟩ := nS b hb
  obtain ⟨MT, mt0, mt1, _⟩ := nice_mul (pol_nice pTB b hb) (rv_nice hb GB mB)
  have hk0 : 0 < e0 / (MS + 1) := div_pos' he0 (by grind)
  have heg : 0 < et * g := Rat.mul_pos et0 g0
  have hc1 : 0 < et * g / (M1 + 1) := div_pos' heg (by grind)
  have hc0 : 0 < et * g / (M1 + 1) / (MT + 1) := div_pos' hc1 (by grind)
  obtain ⟨d2, d20, d21⟩ := nice_small (pol_nice pQa b hb) g0
  obtain ⟨d3, d30, d31⟩ := nice_small (pol_nice pK b hb) g0
  obtain ⟨d4, d40, d41⟩ := nice_small (pol_nice pK b hb) hk0
  obtain ⟨d5, d50, d51⟩ := nice_small (pol_nice pC b hb) hc0
  obtain ⟨c1, c10, c11, c12⟩ := pos_min d10 d20
  obtain ⟨c2, c20, c21, c22⟩ := pos_min d30 d40
  obtain ⟨c3, c30, c31, c32⟩ := pos_min c10 c20
  obtain ⟨d, d00, c41, c42⟩ := pos_min c30 d50
  refine ⟨d, d00, fun p q hp hq hpq hd => ?_⟩
  obtain ⟨v1, v2⟩ := hV p q hp hq hpq (by grind)
  have small : ¬ calm (Qa p) (Qa q) → ¬ ab g (K p) ∧ calm (K p) (K q) := fun hn => by
    have s1 := not_calm hn (d21 p q hp hq (by grind) (by grind))
    refine ⟨fun t => gap p hp ⟨s1.1, t⟩, Classical.byContradiction fun t => ?_⟩
    exact gap p hp ⟨s1.1, (not_calm t (d31 p q hp hq (by grind) (by grind))).1⟩
  refine ⟨fun hc => ?_, fun hn hC => ?_, fun hn s hs hz => ?_⟩
  · refine v1 (Classical.byContradiction fun t => ?_)
    rw [e1, e1] at hc
    exact t (calm_div hc (small t).2)
  · refine v1 (Classical.byContradiction fun t => ?_)
    obtain ⟨s, _, r1, _⟩ := v2 t
    have r2 := (r1 p (by grind) (by grind)).2
    have r3 := nab_mul (Rat.le_of_lt et0) (Rat.le_of_lt g0) r2 (small t).1
    rw [e2, Rat.mul_comm (Q1A p)] at r3
    have r4 := nab_div heg m10 (m11 p hp) r3
    have r5 := (not_calm hC (d51 p q hp hq (by grind) (by grind))).1
    have r6 := ab_mul r5 (mt1 p hp)
    have e9 : rv B N2 p = Cf p * (TB p * rv GB mB p) := by rw [hB.2.2.1, eB]; grind
    rw [← e9] at r6
    refine r4 (ab_le r6 ?_)
    have e10 : et * g / (M1 + 1) / (MT + 1) * (MT + 1) = et * g / (M1 + 1) := by grind
    grind
  · have kp : calm (K p) (K q) := Classical.byContradiction fun t => by
      have r1 := (hz p (by grind) (by grind)).2
      rw [e3] at r1
      have r2 := nab_div he0 ms0 (ms1 p hp) r1
      exact r2 (not_calm t (d41 p q hp hq (by grind) (by grind))).1
    have qn : ¬ calm (Qa p) (Qa q) := fun t => hn (by rw [e1, e1]; exact calm_mul t kp)
    obtain ⟨r, hr, r1, r2⟩ := v2 qn
    have nz : ∀ x : Rat, rsg (K x) ≠ 0 → (QA x = 0 ↔ rsg (Qa x) = 0) := fun x hx => by
      rw [e1]
      constructor
      · intro t
        rcases Rat.mul_eq_zero.1 t with w | w
        · rw [w]; exact rsg_zero
        · rw [w] at hx; exact absurd rsg_zero hx
      · intro t
        rcases rsg_cases (Qa x) with ⟨_, w⟩ | ⟨w, _⟩ | ⟨_, w⟩
        · omega
        · rw [w]; grind
        · omega
    have n1 := nz p kp.2
    have n2 := nz q (by rw [← kp.1]; exact kp.2)
    have dd := dir_B (hd := by
      obtain ⟨z, z1, z2, z3⟩ := dense nA lA p q hpq
      exact ⟨z, z1, z2, z3⟩) (rv_slope' hb A N1) (pol_nice pQa b hb) (nG b hb) e4 e5 hp hq hr hs (fun w w1 w2 => (r1 w (by grind) (by grind)).1) (fun w w1 w2 => (hz w (by grind) (by grind)).1)
    rw [r2]
    have z1 : (QA p = 0) = (rsg (Qa p) = 0) := propext n1
    have z2 : (QA q = 0) = (rsg (Qa q) = 0) := propext n2
    simp only [z1, z2]
    unfold calm at qn
    rcases rsg_three (Qa p) with a | a | a <;> rcases rsg_three (Qa q) with a' | a' | a' <;> rcases hr with hr | hr <;> rcases hs with hs | hs <;> rw [a, a', hr, hs] at dd <;> rw [a, a'] at qn <;> rw [a, a', hr, hs] <;> first | rfl | (exfalso; revert dd; decide) | (exfalso; revert qn; decide)
end
