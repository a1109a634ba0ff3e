/-- the change of the count over a fine cell -/
theorem sturm_raw {B : Rat} {m : Nat} {Q : Nat → Rat → Rat} (h : lkd B m Q) : ∃ h0 : Rat, 0 < h0 ∧ ∀ x y : Rat, ab B x → ab B y → x < y → y - x ≤ h0 →
    (((vc (fun k => rsg (Q k x)) (m + 1) : Nat) : Int) - ((vc (fun k => rsg (Q k y)) (m + 1) : Nat) : Int) = if rsg (Q 0 x) = rsg (Q 0 y) ∧ rsg (Q 0 x) ≠ 0 then 0 else (if rsg (Q 0 x) = - rsg (Q 1 x) then (if rsg (Q 0 x) ≠ 0 then 1 else 0) else 0) - (if rsg (Q 0 y) = - rsg (Q 1 y) then (if rsg (Q 0 y) ≠ 0 then 1 else 0) else 0)) ∧
    (¬ calm (Q 0 x) (Q 0 y) → (∀ z : Rat, x ≤ z → z ≤ y → 0 < Q 1 z) ∨ (∀ z : Rat, x ≤ z → z ≤ y → Q 1 z < 0)) := by
  have hc1 : ∀ x y : Rat, calm (Q m x) (Q m y) := fun x y => by
    rw [h.2.1, h.2.1]
    unfold calm
    rw [rsg_pos (by grind)]
    exact ⟨rfl, by decide⟩
  by_cases hm : 1 ≤ m
  · obtain ⟨h0, p0, q0⟩ := lkd_cell h hm
    refine ⟨h0, p0, fun x y hx hy hxy hd => ?_⟩
    obtain ⟨g1, g2, g3⟩ := q0 x y hx hy hxy hd
    refine ⟨?_, g3⟩
    exact vc_cell (s := fun k => rsg (Q k x)) (t := fun k => rsg (Q k y)) (m := m) (fun k => rsg_three _) (fun k => rsg_three _) (fun k hk hn => by
      refine ⟨fun k1 => ?_, fun k1 => ?_, fun k1 k2 => g2 k k1 k2 hn⟩
      · rcases g1 (k - 1) (by omega) with u | u
        · exact u
        · rw [show k - 1 + 1 = k by omega] at u
          exact absurd u hn
      · rcases g1 k k1 with u | u
        · exact absurd u hn
        · exact u) (hc1 x y)
  · have e : m = 0 := by omega
    subst e
    refine ⟨1, by grind, fun x y hx hy hxy hd => ⟨?_, fun hn => absurd (hc1 x y) hn⟩⟩
    have h2 : rsg (Q 0 x) = rsg (Q 0 y) ∧ rsg (Q 0 x) ≠ 0 := hc1 x y
    rw [if_pos h2]
    have e2 : vc (fun k => rsg (Q k x)) (0 + 1) = vc (fun k => rsg (Q k y)) (0 + 1) := by
      simp only [vc, vl]
      simp
    rw [e2]; omega
theorem sgn_mul_le {a b : Rat} : (a ≠ 0 ∧ a * b ≤ 0) ↔ (rsg a ≠ 0 ∧ rsg b ≠ rsg a) := by
  rcases rsg_cases a with ⟨h, e⟩ | ⟨h, e⟩ | ⟨h, e⟩ <;> rcases rsg_cases b with ⟨g, f⟩ | ⟨g, f⟩ | ⟨g, f⟩ <;> rw [e, f]
  · have := Rat.mul_pos h g
    constructor
    · rintro ⟨_, k⟩; grind
    · rintro ⟨_, k⟩; exact absurd rfl k
  · rw [g]; constructor
    · intro _; exact ⟨by decide, by decide⟩
    · intro _; constructor <;> grind
  · have := Rat.mul_pos h (show 0 < -b by grind)
    constructor
    · intro _; exact ⟨by decide, by decide⟩
    · intro _; constructor <;> grind
  · constructor
    · rintro ⟨k, _⟩; exact absurd h k
    · rintro ⟨k, _⟩; exact absurd rfl k
  · constructor
    · rintro ⟨k, _⟩; exact absurd h k
    · rintro ⟨k, _⟩; exact absurd rfl k
  · constructor
    · rintro ⟨k, _⟩; exact absurd h k
    · rintro ⟨k, _⟩; exact absurd rfl k
  · have := Rat.mul_pos (show 0 < -a by grind) g
    constructor
    · intro _; exact ⟨by decide, by decide⟩
    · intro _; constructor <;> grind
  · rw [g]; constructor
    · intro _; exact ⟨by decide, by decide⟩
    · intro _; constructor <;> grind
  · have := Rat.mul_pos (show 0 < -a by grind) (show 0 < -b by grind)
    constructor
    · rintro ⟨_, k⟩; grind
    · rintro ⟨_, k⟩; exact absurd rfl k
/-- a root between x (left out) and y -/
def jmp (x y : Int) : Int := if x ≠ 0 ∧ y ≠ x then 1 else 0
/-- the direction, whichever the sign of R -/
theorem dir_any {B : Rat} {A A' Q R G : Rat → Rat} (hA : slope B A A') (hQ : nice B Q) (hG : nice B G) (e1 : ∀ x : Rat, A x = Q x * G x) (e2 : ∀ x : Rat, A' x = R x * G x)
    {x y : Rat} (hx : ab B x) (hy : ab B y) (hxy : x < y) (hd : ∃ z : Rat, x < z ∧ z < y ∧ A z ≠ 0) (hR : (∀ w : Rat, x ≤ w → w ≤ y → 0 < R w) ∨ (∀ w : Rat, x ≤ w → w ≤ y → R w < 0)) :
    (∃ s : Int, (s = 1 ∨ s = -1) ∧ rsg (R x) = s ∧ rsg (R y) = s ∧ ¬ (0 ≤ s * rsg (Q x) ∧ s * rsg (Q y) ≤ 0)) := by
  rcases hR with hR | hR
  · refine ⟨1, Or.inl rfl, rsg_pos (hR x (by grind) (by grind)), rsg_pos (hR y (by grind) (by grind)), fun ⟨h1, h2⟩ => ?_⟩
    refine dir_pos hA hQ hG e1 e2 hx hy hxy (fun w g1 g2 => Rat.le_of_lt (hR w g1 g2)) hd ⟨?_, ?_⟩
    · rcases rsg_cases (Q x) with ⟨g, e⟩ | ⟨g, e⟩ | ⟨g, e⟩
      · grind
      · grind
      · rw [e] at h1; omega
    · rcases rsg_cases (Q y) with ⟨g, e⟩ | ⟨g, e⟩ | ⟨g, e⟩
      · rw [e] at h2; omega
      · grind
      · grind
  · refine ⟨-1, Or.inr rfl, rsg_neg (hR x (by grind) (by grind)), rsg_neg (hR y (by grind) (by grind)), fun ⟨h1, h2⟩ => ?_⟩
    refine dir_pos (Q := fun w => - Q w) (R := fun w => - R w) (G := fun w => - G w) hA (nice_neg hQ) (nice_neg hG) (fun w => by rw [e1]; grind) (fun w => by rw [e2]; grind) hx hy hxy (fun w g1 g2 => by have := hR w g1 g2; grind) hd ⟨?_, ?_⟩
    · rcases rsg_cases (Q x) with ⟨g, e⟩ | ⟨g, e⟩ | ⟨g, e⟩
      · rw [e] at h1; omega
      · grind
      · grind
    · rcases rsg_cases (Q y) with ⟨g, e⟩ | ⟨g, e⟩ | ⟨g, e⟩
      · grind
      · grind
      · rw [e] at h2; omega
/-- Sturm: over a fine cell the count falls by the roots in it -/
theorem sturm_cell {B : Rat} {m : Nat} {Q : Nat → Rat → Rat} (h : lkd B m Q) {A A' G : Rat → Rat} (hA : slope B A A') (hG : nice B G) (e1 : ∀ x : Rat, A x = Q 0 x * G x) (e2 : 1 ≤ m → ∀ x : Rat, A' x = Q 1 x * G x)
    (hd : ∀ x y : Rat, x < y → ∃ z : Rat, x < z ∧ z < y ∧ A z ≠ 0) : ∃ h0 : Rat, 0 < h0 ∧ ∀ x y : Rat, ab B x → ab B y → x < y → y - x ≤ h0 →
    ((vc (fun k => rsg (Q k x)) (m + 1) : Nat) : Int) - ((vc (fun k => rsg (Q k y)) (m + 1) : Nat) : Int) = jmp (rsg (Q 0 x)) (rsg (Q 0 y)) := by
  obtain ⟨h0, p0, q0⟩ := sturm_raw h
  refine ⟨h0, p0, fun x y hx hy hxy hh => ?_⟩
  obtain ⟨g1, g2⟩ := q0 x y hx hy hxy hh
  rw [g1]
  by_cases c : calm (Q 0 x) (Q 0 y)
  · have c' : rsg (Q 0 x) = rsg (Q 0 y) ∧ rsg (Q 0 x) ≠ 0 := c
    rw [if_pos c']
    unfold jmp
    rw [if_neg (fun k => k.2 c.1.symm)]
  · have c' : ¬ (rsg (Q 0 x) = rsg (Q 0 y) ∧ rsg (Q 0 x) ≠ 0) := c
    rw [if_neg c']
    have hm : 1 ≤ m := by
      refine Classical.byContradiction fun hm => c ?_
      have e : m = 0 := by omega
      subst e
      rw [h.2.1, h.2.1]
      unfold calm
      rw [rsg_pos (by grind)]
      exact ⟨rfl, by decide⟩
    obtain ⟨s, s1, s2, s3, s4⟩ := dir_any hA (h.1 0 (by omega)) hG e1 (e2 hm) hx hy hxy (hd x y hxy) (g2 c)
    rw [s2, s3]
    unfold jmp
    unfold calm at c
    rcases rsg_three (Q 0 x) with a | a | a <;> rcases rsg_three (Q 0 y) with b | b | b <;> rcases s1 with r | r <;> rw [a, b, r] at s4 <;> rw [a, b] at c <;> rw [a, b, r] <;> first | rfl | (exfalso; revert s4; decide) | (exfalso; revert c; decide)
