/-- the sign that B has at the root of A between p (left out) and q -/
def sga (Bf : Rat → Rat) (WA WC : Rat → Int) (p q : Rat) (s : Int) : Prop := ∃ u v : Rat, p ≤ u ∧ u < v ∧ v ≤ q ∧ WA u = WA p ∧ WA v = WA q ∧ (((s = 1 ∨ s = -1) ∧ ∃ e : Rat, 0 < e ∧ ∀ z : Rat, u ≤ z → z ≤ v → rsg (Bf z) = s ∧ ¬ ab e (Bf z)) ∨ (s = 0 ∧ WC u < WC v))
theorem sga_wide {Bf : Rat → Rat} {WA WC : Rat → Int} {p q p' q' : Rat} {s : Int} (h : sga Bf WA WC p q s) (hp : p' ≤ p) (hq : q ≤ q') (e1 : WA p = WA p') (e2 : WA q = WA q') : sga Bf WA WC p' q' s := by
  obtain ⟨u, v, h1, h2, h3, h4, h5, h6⟩ := h
  exact ⟨u, v, by grind, h2, by grind, by rw [h4, e1], by rw [h5, e2], h6⟩
section
variable {A B : Nat → Int} {N1 N2 : Nat} {QA Q1A QB Q1B Cf TA TB : Rat → Rat} {WA WB WC : Rat → Int} {GA GB : Nat → Int} {mA mB : Nat}
theorem sga_uniq (hA : sq A N1 QA Q1A WA GA mA) (nA : 1 ≤ N1) (lA : A (N1 - 1) ≠ 0) (hB : sq B N2 QB Q1B WB GB mB) (hT : two QA QB Cf TA TB) (hC : cnt Cf WC) {p q : Rat} (hpq : WA q - WA p = 1) {s t : Int} (hs : sga (fun x => rv B N2 x) WA WC p q s) (ht : sga (fun x => rv B N2 x) WA WC p q t) : s = t := by
  obtain ⟨⟨pQA, pQB, pC, pTA, pTB⟩, eA, eB, _⟩ := hT
  have key : ∀ {s t : Int}, sga (fun x => rv B N2 x) WA WC p q s → sga (fun x => rv B N2 x) WA WC p q t → (s = 1 ∨ s = -1) → s = t := by
    intro s t hs ht hs1
    obtain ⟨u, v, h1, h2, h3, h4, h5, h6⟩ := hs
    obtain ⟨u', v', g1, g2, g3, g4, g5, g6⟩ := ht
    rcases h6 with ⟨_, e, e0, h6⟩ | ⟨h6, _⟩
    · rcases g6 with ⟨_, e', e0', g6⟩ | ⟨g6, g7⟩
      · -- a common point
        have c1 : u < v' := by
          refine Classical.byContradiction fun w => ?_
          have := cnt_mono hA.1 (show v' ≤ u by grind)
          omega
        have c2 : u' < v := by
          refine Classical.byContradiction fun w => ?_
          have := cnt_mono hA.1 (show v ≤ u' by grind)
          omega
        by_cases c : u ≤ u'
        · have a1 := (h6 u' c (by grind)).1
          have a2 := (g6 u' (by grind) (by grind)).1
          omega
        · have a1 := (h6 u (by grind) (by grind)).1
          have a2 := (g6 u (by grind) (by grind)).1
          omega
      · -- the shared part would have a root there
        exfalso
        have m1 : ∀ x y : Rat, x ≤ y → WC y - WC x ≤ WA y - WA x := fun x y hxy => fac_mono hA.1 hC (pol_nice pTA) eA (fac_bez hA nA lA pC pTA eA).2 hxy
        have k1 := m1 p u h1
        have k2 := m1 v q h3
        have k3 := cnt_mono hC (show p ≤ u' from g1)
        have k4 := cnt_mono hC (show v' ≤ q from g3)
        have k5 := cnt_mono hC h1
        have k6 := cnt_mono hC h3
        have k7 : WC v = WC u := cnt_nz hC (fun b hb => nice_mul (pol_nice pTB b hb) (rv_nice hb GB mB)) (P := fun x => rv B N2 x) (fun x => by show rv B N2 x = _; rw [hB.2.2.1, eB]; grind) (Rat.le_of_lt h2) e0 (fun z z1 z2 => (h6 z z1 z2).2)
        omega
    · omega
  have hs' := hs
  have ht' := ht
  obtain ⟨_, _, _, _, _, _, _, h6⟩ := hs'
  obtain ⟨_, _, _, _, _, _, _, g6⟩ := ht'
  rcases h6 with ⟨h6, _⟩ | ⟨h6, _⟩
  · exact key hs ht h6
  · rcases g6 with ⟨g6, _⟩ | ⟨g6, _⟩
    · exact (key ht hs g6).symm
    · omega
theorem jmp_off {a b : Rat} (h : ¬ calm a b) : jmp (rsg a) (rsg b) = if a = 0 then 0 else 1 := by
  unfold jmp calm at *
  rcases rsg_cases a with ⟨x, e⟩ | ⟨x, e⟩ | ⟨x, e⟩ <;> rw [e] at h ⊢
  · rw [if_neg (show ¬ a = 0 by grind), if_pos ⟨by decide, fun g => h ⟨g.symm, by decide⟩⟩]
  · rw [if_pos x, if_neg (fun g => g.1 rfl)]
  · rw [if_neg (show ¬ a = 0 by grind), if_pos ⟨by decide, fun g => h ⟨g.symm, by decide⟩⟩]
theorem calm_nz {a b : Rat} (h : calm a b) : a ≠ 0 ∧ b ≠ 0 := by
  unfold calm at h
  refine ⟨fun g => h.2 (by rw [g]; exact rsg_zero), fun g => h.2 (by rw [h.1, g]; exact rsg_zero)⟩
/-- a cell with one root: the fall of U is the sign -/
theorem sga_tele (hA : cnt QA WA) {Bf : Rat → Rat} {U : Rat → Int} (hU : ∀ b : Rat, 0 ≤ b → ∃ d e : Rat, 0 < d ∧ 0 < e ∧ ∀ p q : Rat, ab b p → ab b q → p < q → q - p ≤ d → (WA q = WA p → U p = U q) ∧ (WA q ≠ WA p → ((U p - U q = 1 ∨ U p - U q = -1) ∧ ∀ z : Rat, p ≤ z → z ≤ q → rsg (Bf z) = U p - U q ∧ ¬ ab e (Bf z)) ∨ (U p - U q = 0 ∧ WC p < WC q)))
    {p q : Rat} (hpq : p < q) (h1 : WA q - WA p = 1) : sga Bf WA WC p q (U p - U q) := by
  obtain ⟨b, hb, bp, bq⟩ := both_B p q
  obtain ⟨d, e, d0, e0, hU⟩ := hU b hb
  obtain ⟨n, hn⟩ := arch_steps (a := q - p) d0
  have key : ∀ (n : Nat) (v : Rat), p ≤ v → v ≤ q → v - p ≤ (n : Rat) * d → (WA v = WA p ∧ U v = U p) ∨ (WA v = WA q ∧ sga Bf WA WC p v (U p - U v)) := by
    intro n
    induction n with
    | zero =>
      intro v a1 a2 a3
      have e0 : ((0 : Nat) : Rat) = 0 := rfl
      rw [e0] at a3
      rw [show v = p by grind]; exact Or.inl ⟨rfl, rfl⟩
    | succ n ih =>
      intro v a1 a2 a3
      rw [nat_succ] at a3
      by_cases c0 : v = p
      · rw [c0]; exact Or.inl ⟨rfl, rfl⟩
      obtain ⟨u, hu1, hu2, hu3, hu4⟩ : ∃ u : Rat, p ≤ u ∧ u < v ∧ v - u ≤ d ∧ u - p ≤ (n : Rat) * d := by
        by_cases c2 : v - p ≤ d
        · exact ⟨p, by grind, by grind, c2, by have := Rat.mul_nonneg (natr n) (Rat.le_of_lt d0); grind⟩
        · exact ⟨v - d, by grind, by grind, by grind, by grind⟩
      have bu := in_B bp bq hu1 (show u ≤ q by grind)
      have bv := in_B bp bq a1 a2
      obtain ⟨x1, x2⟩ := hU u v bu bv hu2 hu3
      have mo1 := cnt_mono hA (Rat.le_of_lt hu2)
      have mo2 := cnt_mono hA a2
      have mo3 := cnt_mono hA hu1
      rcases ih u hu1 (by grind) hu4 with ⟨i1, i2⟩ | ⟨i1, i2⟩
      · by_cases c : WA v = WA u
        · left; have := x1 c; omega
        · right
          have hv : WA v = WA q := by omega
          refine ⟨hv, ?_⟩
          rw [← i2]
          rcases x2 c with ⟨y1, y2⟩ | ⟨y1, y2⟩
          · exact ⟨u, v, hu1, hu2, by grind, i1, rfl, Or.inl ⟨y1, e, e0, y2⟩⟩
          · exact ⟨u, v, hu1, hu2, by grind, i1, rfl, Or.inr ⟨y1, y2⟩⟩
      · right
        have hv : WA v = WA u := by omega
        refine ⟨by omega, ?_⟩
        rw [← x1 hv]
        exact sga_wide i2 (by grind) (by grind) rfl hv.symm
  rcases key n q (by grind) (by grind) hn with ⟨i1, _⟩ | ⟨_, i2⟩
  · omega
  · exact i2
/-- the fall of the changes is the sign -/
theorem sga_V (hA : sq A N1 QA Q1A WA GA mA) (nA : 1 ≤ N1) (lA : A (N1 - 1) ≠ 0) (hB : sq B N2 QB Q1B WB GB mB) (nB : 1 ≤ N2) (lB : B (N2 - 1) ≠ 0) (hT : two QA QB Cf TA TB) (hC : cnt Cf WC) {V : Rat → Int}
    (hV : ∀ (b : Rat), 0 ≤ b → ∀ e0 : Rat, 0 < e0 → ∃ d : Rat, 0 < d ∧ ∀ p q : Rat, ab b p → ab b q → p < q → q - p ≤ d → (calm (QA p) (QA q) → V p = V q) ∧ (¬ calm (QA p) (QA q) → ¬ calm (Cf p) (Cf q) → V p = V q) ∧
      (¬ calm (QA p) (QA q) → ∀ s : Int, (s = 1 ∨ s = -1) → (∀ z : Rat, p ≤ z → z ≤ q → rsg (rv B N2 z) = s ∧ ¬ ab e0 (rv B N2 z)) → V p - V q = if s = 1 then (if QA p = 0 then 0 else 1) else (if QA q = 0 then 0 else -1)))
    {U : Rat → Int} (hU0 : ∀ x : Rat, ¬ (QA x = 0 ∧ rv B N2 x < 0) → U x = V x) (hU1 : ∀ x : Rat, QA x = 0 → rv B N2 x < 0 → U x = V x + 1) {p q : Rat} (hpq : p < q) (h1 : WA q - WA p = 1) : sga (fun x => rv B N2 x) WA WC p q (U p - U q) := by
  refine sga_tele hA.1 (fun b hb => ?_) hpq h1
  obtain ⟨e, e0, d1, d10, hd1⟩ := cell_C hA nA lA hB nB lB hT b hb
  obtain ⟨d2, d20, hd2⟩ := hV b hb e e0
  obtain ⟨d3, d30, hd3⟩ := hA.1.2.2 b hb
  obtain ⟨d4, d40, hd4⟩ := hC.2.2 b hb
  obtain ⟨c1, c10, c11, c12⟩ := pos_min d10 d20
  obtain ⟨c2, c20, c21, c22⟩ := pos_min d30 d40
  obtain ⟨d, d0, c31, c32⟩ := pos_min c10 c20
  refine ⟨d, e, d0, e0, fun p q hp hq hpq hd => ?_⟩
  have w1 := hd3 p q hp hq hpq (by grind)
  have w2 := hd4 p q hp hq hpq (by grind)
  obtain ⟨v1, v2, v3⟩ := hd2 p q hp hq hpq (by grind)
  by_cases c : calm (QA p) (QA q)
  · have e1 : jmp (rsg (QA p)) (rsg (QA q)) = 0 := by unfold jmp; rw [if_neg (fun g => g.2 c.1.symm)]
    have nz := calm_nz c
    have u1 := hU0 p (fun g => nz.1 g.1)
    have u2 := hU0 q (fun g => nz.2 g.1)
    have v := v1 c
    exact ⟨fun _ => by omega, fun g => by omega⟩
  · rw [jmp_off c] at w1
    rcases hd1 p q hp hq hpq (by grind) c with ⟨k1, k2⟩ | ⟨k1, _, s, hs, hz⟩
    · rw [jmp_off k1] at w2
      have nz := calm_nz k2
      have bz : ∀ x : Rat, TA x ≠ 0 → QA x = 0 → rv B N2 x = 0 ∧ Cf x = 0 := fun x hx h0 => by
        rw [hT.2.1] at h0
        rcases Rat.mul_eq_zero.1 h0 with w | w
        · rw [hB.2.2.1, hT.2.2.1, w]; exact ⟨by grind, rfl⟩
        · exact absurd w hx
      have u1 := hU0 p (fun g => by have := (bz p nz.1 g.1).1; rw [this] at g; exact absurd g.2 (by grind))
      have u2 := hU0 q (fun g => by have := (bz q nz.2 g.1).1; rw [this] at g; exact absurd g.2 (by grind))
      have v := v2 c k1
      refine ⟨fun _ => by omega, fun g => Or.inr ⟨by omega, ?_⟩⟩
      have n1 : QA p ≠ 0 := fun g2 => by rw [if_pos g2] at w1; omega
      have n2 : Cf p ≠ 0 := fun g2 => n1 (by rw [hT.2.1, g2]; grind)
      rw [if_neg n2] at w2
      omega
    · have v := v3 c s hs hz
      have sp := (hz p (by grind) (by grind)).1
      have sq' := (hz q (by grind) (by grind)).1
      have val : U p - U q = if QA p = 0 then 0 else s := by
        rcases hs with hs | hs
        · rw [hs] at sp sq' v ⊢
          rw [if_pos rfl] at v
          have np : ∀ x : Rat, rsg (rv B N2 x) = 1 → ¬ rv B N2 x < 0 := fun x g1 g2 => by rw [rsg_neg g2] at g1; omega
          rw [hU0 p (fun g => np p sp g.2), hU0 q (fun g => np q sq' g.2), v]
        · rw [hs] at sp sq' v ⊢
          rw [if_neg (show ¬ ((-1 : Int) = 1) by decide)] at v
          have np : ∀ x : Rat, rsg (rv B N2 x) = -1 → rv B N2 x < 0 := fun x g1 => by
            rcases rsg_cases (rv B N2 x) with ⟨_, g⟩ | ⟨_, g⟩ | ⟨g, _⟩
            · omega
            · omega
            · exact g
          by_cases a1 : QA p = 0 <;> by_cases a2 : QA q = 0
          · rw [hU1 p a1 (np p sp), hU1 q a2 (np q sq'), if_pos a1]
            rw [if_pos a2] at v; omega
          · rw [hU1 p a1 (np p sp), hU0 q (fun g => a2 g.1), if_pos a1]
            rw [if_neg a2] at v; omega
          · rw [hU0 p (fun g => a1 g.1), hU1 q a2 (np q sq'), if_neg a1]
            rw [if_pos a2] at v; omega
          · rw [hU0 p (fun g => a1 g.1), hU0 q (fun g => a2 g.1), if_neg a1]
            rw [if_neg a2] at v; omega
      refine ⟨fun g => ?_, fun g => Or.inl ?_⟩
      · have n1 : QA p = 0 := Classical.byContradiction fun g2 => by rw [if_neg g2] at w1; omega
        rw [if_pos n1] at val; omega
      · have n1 : QA p ≠ 0 := fun g2 => by rw [if_pos g2] at w1; omega
        rw [if_neg n1] at val
        rw [val]
        exact ⟨hs, hz⟩
end
