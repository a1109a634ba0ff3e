/-- the sign of a fraction -/
def rsg (x : Rat) : Int := if 0 < x then 1 else if x < 0 then -1 else 0
theorem rsg_pos {x : Rat} (h : 0 < x) : rsg x = 1 := if_pos h
theorem rsg_neg {x : Rat} (h : x < 0) : rsg x = -1 := by unfold rsg; rw [if_neg (by grind), if_pos h]
theorem rsg_zero : rsg 0 = 0 := by unfold rsg; rw [if_neg (by grind), if_neg (by grind)]
theorem rsg_cases (x : Rat) : (0 < x ∧ rsg x = 1) ∨ (x = 0 ∧ rsg x = 0) ∨ (x < 0 ∧ rsg x = -1) := by
  by_cases h : 0 < x
  · exact Or.inl ⟨h, rsg_pos h⟩
  · by_cases g : x < 0
    · exact Or.inr (Or.inr ⟨g, rsg_neg g⟩)
    · have e : x = 0 := by grind
      exact Or.inr (Or.inl ⟨e, by rw [e]; exact rsg_zero⟩)
theorem rsg_three (x : Rat) : rsg x = -1 ∨ rsg x = 0 ∨ rsg x = 1 := by
  rcases rsg_cases x with ⟨_, h⟩ | ⟨_, h⟩ | ⟨_, h⟩
  · exact Or.inr (Or.inr h)
  · exact Or.inr (Or.inl h)
  · exact Or.inl h
/-- both values have one sign that is not 0 -/
def calm (x y : Rat) : Prop := rsg x = rsg y ∧ rsg x ≠ 0
theorem not_calm {x y d : Rat} (h : ¬ calm x y) (hd : ab d (y - x)) : ab d x ∧ ab d y := by
  unfold calm at h
  unfold ab at *
  rcases rsg_cases x with ⟨a, b⟩ | ⟨a, b⟩ | ⟨a, b⟩ <;> rcases rsg_cases y with ⟨a', b'⟩ | ⟨a', b'⟩ | ⟨a', b'⟩ <;> rw [b, b'] at h <;> first | exact absurd ⟨rfl, by decide⟩ h | (constructor <;> constructor <;> grind)
theorem not_ab {d x : Rat} (h : ¬ ab d x) : d < x ∨ x < -d := by
  unfold ab at h
  by_cases c : d < x
  · exact Or.inl c
  · exact Or.inr (by grind)
/-- for finitely many a common fineness -/
theorem fine_all {P : Nat → Rat → Rat → Prop} : ∀ n : Nat, (∀ k : Nat, k < n → ∃ h : Rat, 0 < h ∧ ∀ x y : Rat, x < y → y - x ≤ h → P k x y) → ∃ h : Rat, 0 < h ∧ ∀ k : Nat, k < n → ∀ x y : Rat, x < y → y - x ≤ h → P k x y
  | 0, _ => ⟨1, by grind, fun k hk => absurd hk (by omega)⟩
  | n + 1, h => by
    obtain ⟨h1, p1, q1⟩ := fine_all n (fun k hk => h k (by omega))
    obtain ⟨h2, p2, q2⟩ := h n (by omega)
    refine ⟨if h1 ≤ h2 then h1 else h2, by split <;> assumption, fun k hk x y hxy hd => ?_⟩
    have g1 : y - x ≤ h1 := by split at hd <;> grind
    have g2 : y - x ≤ h2 := by split at hd <;> grind
    by_cases c : k = n
    · rw [c]; exact q2 x y hxy g2
    · exact q1 k (by omega) x y hxy g1
theorem pos_min {a b : Rat} (h : 0 < a) (g : 0 < b) : ∃ c : Rat, 0 < c ∧ c ≤ a ∧ c ≤ b := by
  by_cases k : a ≤ b
  · exact ⟨a, h, by grind, k⟩
  · exact ⟨b, g, by grind, by grind⟩
theorem div_pos' {a b : Rat} (h : 0 < a) (g : 0 < b) : 0 < a / b := by
  have e : a / b = a * b⁻¹ := by grind
  have h1 : 0 < b⁻¹ := Rat.inv_pos.2 g
  rw [e]; exact Rat.mul_pos h h1
/-- a chain of functions: each three neighbours are linked, the last one is 1 -/
def lkd (B : Rat) (m : Nat) (Q : Nat → Rat → Rat) : Prop := (∀ k : Nat, k ≤ m → nice B (Q k)) ∧ (∀ x : Rat, Q m x = 1) ∧ ∀ k : Nat, 1 ≤ k → k < m → ∃ (a w : Rat) (q : Rat → Rat), 0 < a ∧ 0 < w ∧ nice B q ∧ ∀ x : Rat, a * Q (k - 1) x + q x * Q k x = - (w * Q (k + 1) x)
/-- neighbours are not small together -/
theorem lkd_gap {B : Rat} {m : Nat} {Q : Nat → Rat → Rat} (h : lkd B m Q) : ∀ i : Nat, i < m → ∃ d : Rat, 0 < d ∧ ∀ k : Nat, m - 1 - i ≤ k → k < m → ∀ x : Rat, ab B x → ¬ (ab d (Q k x) ∧ ab d (Q (k + 1) x))
  | 0, hi => by
    refine ⟨1 / 2, by grind, fun k h1 h2 x _ g => ?_⟩
    have e : k + 1 = m := by omega
    rw [e, h.2.1] at g
    have := g.2
    unfold ab at this
    grind
  | i + 1, hi => by
    obtain ⟨d, d0, d1⟩ := lkd_gap h i (by omega)
    obtain ⟨a, w, q, a0, w0, hq, hr⟩ := h.2.2 (m - 1 - i) (by omega) (by omega)
    obtain ⟨N, n0, n1, _⟩ := hq
    obtain ⟨d', p0, p1, p2⟩ := pos_min d0 (div_pos' (Rat.mul_pos d0 w0) (show 0 < a + N + 1 by grind))
    have p3 : (a + N) * d' ≤ d * w := by
      have h3 := Rat.mul_le_mul_of_nonneg_left p2 (c := a + N + 1) (by grind)
      have e : (a + N + 1) * (d * w / (a + N + 1)) = d * w := by grind
      rw [e] at h3
      grind
    refine ⟨d', p0, fun k h1 h2 x hx g => ?_⟩
    by_cases c : m - 1 - i ≤ k
    · exact d1 k c h2 x hx ⟨ab_le g.1 p1, ab_le g.2 p1⟩
    · have e : k + 1 = m - 1 - i := by omega
      have hrx := hr x
      have ek : m - 1 - i - 1 = k := by omega
      rw [ek, ← e] at hrx
      have g1 := ab_mul (show ab a a by unfold ab; constructor <;> grind) g.1
      have n2 := n1 x hx
      have g2 := ab_mul n2 g.2
      have g3 := ab_add g1 g2
      rw [hrx] at g3
      have g4 : ab (w * d) (w * Q (k + 1 + 1) x) := ab_le (by have := ab_neg g3; rw [show - -(w * Q (k + 1 + 1) x) = w * Q (k + 1 + 1) x by grind] at this; exact this) (by grind)
      have g5 : ab d (Q (k + 1 + 1) x) := by
        unfold ab at *
        constructor
        · exact Rat.le_of_mul_le_mul_left (a := -d) (b := Q (k + 1 + 1) x) (c := w) (by grind) w0
        · exact Rat.le_of_mul_le_mul_left (a := Q (k + 1 + 1) x) (b := d) (c := w) (by grind) w0
      exact d1 (k + 1) (by omega) (by omega) x hx ⟨ab_le g.2 p1, g5⟩
theorem nice_small {B : Rat} {f : Rat → Rat} (h : nice B f) {d : Rat} (hd : 0 < d) : ∃ h0 : Rat, 0 < h0 ∧ ∀ x y : Rat, ab B x → ab B y → x ≤ y → y - x ≤ h0 → ab d (f y - f x) := by
  obtain ⟨M, m0, _, m2⟩ := h
  refine ⟨d / (M + 1), div_pos' hd (by grind), fun x y hx hy hxy hh => ?_⟩
  refine ab_le (m2 x y hx hy hxy) ?_
  have h3 := Rat.mul_le_mul_of_nonneg_left hh (c := M + 1) (by grind)
  have e : (M + 1) * (d / (M + 1)) = d := by grind
  rw [e] at h3
  grind
theorem pos_of {d x : Rat} (h : 0 < d) (g : d < x) : 0 < x := by grind
theorem neg_of {d x : Rat} (h : 0 < d) (g : x < -d) : x < 0 := by grind
theorem in_B {B x y z : Rat} (hx : ab B x) (hy : ab B y) (h1 : x ≤ z) (h2 : z ≤ y) : ab B z := by
  unfold ab at *
  constructor <;> grind
theorem link_opp {a w d p r e : Rat} (a0 : 0 < a) (w0 : 0 < w) (d0 : 0 < d) (h : a * p + e = -(w * r)) (he : ab ((a + w) * d) e) (hp : ¬ ab d p) (hr : ¬ ab d r) : rsg p = - rsg r := by
  unfold ab at he
  rcases not_ab hp with u | u <;> rcases not_ab hr with v | v
  · exfalso
    have t1 : 0 < a * (p - d) := Rat.mul_pos a0 (by grind)
    have t2 : 0 < w * (r - d) := Rat.mul_pos w0 (by grind)
    grind
  · rw [rsg_pos (pos_of d0 u), rsg_neg (neg_of d0 v)]; rfl
  · rw [rsg_neg (neg_of d0 u), rsg_pos (pos_of d0 v)]
  · exfalso
    have t1 : 0 < a * (- d - p) := Rat.mul_pos a0 (by grind)
    have t2 : 0 < w * (- d - r) := Rat.mul_pos w0 (by grind)
    grind
theorem ab_half {d x y : Rat} (h : ab (d / 2) x) (g : ab (d / 2) (y - x)) : ab d y := by
  unfold ab at *
  constructor <;> grind
theorem keep_pos {d x z : Rat} (h : d < x) (g : ab d (z - x)) : 0 < z := by
  unfold ab at g
  grind
theorem keep_neg {d x z : Rat} (h : x < -d) (g : ab d (z - x)) : z < 0 := by
  unfold ab at g
  grind
theorem mul_div_le {N e X : Rat} (hN : 0 ≤ N) (he : 0 ≤ e) (h : e ≤ X / (N + 1)) : N * e ≤ X := by
  have h3 := Rat.mul_le_mul_of_nonneg_left h (c := N + 1) (by grind)
  have ee : (N + 1) * (X / (N + 1)) = X := by grind
  rw [ee] at h3
  grind
/-- what a fine cell looks like -/
theorem lkd_cell {B : Rat} {m : Nat} {Q : Nat → Rat → Rat} (h : lkd B m Q) (hm : 1 ≤ m) : ∃ h0 : Rat, 0 < h0 ∧ ∀ x y : Rat, ab B x → ab B y → x < y → y - x ≤ h0 →
    (∀ k : Nat, k < m → calm (Q k x) (Q k y) ∨ calm (Q (k + 1) x) (Q (k + 1) y)) ∧
    (∀ k : Nat, 1 ≤ k → k < m → ¬ calm (Q k x) (Q k y) → rsg (Q (k - 1) x) = - rsg (Q (k + 1) x)) ∧
    (¬ calm (Q 0 x) (Q 0 y) → (∀ z : Rat, x ≤ z → z ≤ y → 0 < Q 1 z) ∨ (∀ z : Rat, x ≤ z → z ≤ y → Q 1 z < 0)) := by
  obtain ⟨d, d0, d1⟩ := lkd_gap h (m - 1) (by omega)
  have gap : ∀ k : Nat, k < m → ∀ x : Rat, ab B x → ¬ (ab d (Q k x) ∧ ab d (Q (k + 1) x)) := fun k hk => d1 k (by omega) hk
  have A1 := fine_all (P := fun k x y => ab B x → ab B y → calm (Q k x) (Q k y) ∨ calm (Q (k + 1) x) (Q (k + 1) y)) m (fun k hk => by
    obtain ⟨h1, p1, q1⟩ := nice_small (h.1 k (by omega)) d0
    obtain ⟨h2, p2, q2⟩ := nice_small (h.1 (k + 1) (by omega)) d0
    obtain ⟨c, c0, c1, c2⟩ := pos_min p1 p2
    refine ⟨c, c0, fun x y hxy hd hx hy => Classical.byContradiction fun hn => ?_⟩
    have n1 : ¬ calm (Q k x) (Q k y) := fun g => hn (Or.inl g)
    have n2 : ¬ calm (Q (k + 1) x) (Q (k + 1) y) := fun g => hn (Or.inr g)
    exact gap k hk x hx ⟨(not_calm n1 (q1 x y hx hy (by grind) (by grind))).1, (not_calm n2 (q2 x y hx hy (by grind) (by grind))).1⟩)
  have A2 := fine_all (P := fun k x y => ab B x → ab B y → 1 ≤ k → ¬ calm (Q k x) (Q k y) → rsg (Q (k - 1) x) = - rsg (Q (k + 1) x)) m (fun k hk => by
    by_cases c1 : 1 ≤ k
    · obtain ⟨a, w, q, a0, w0, hq, hr⟩ := h.2.2 k c1 hk
      obtain ⟨N, n0, n1, _⟩ := hq
      have hp : 0 < (a + w) * d / (N + 1) := div_pos' (Rat.mul_pos (by grind) d0) (by grind)
      obtain ⟨e, e0, e1, e2⟩ := pos_min d0 hp
      obtain ⟨h1, p1, q1⟩ := nice_small (h.1 k (by omega)) e0
      refine ⟨h1, p1, fun x y hxy hd hx hy _ hn => ?_⟩
      have g1 := (not_calm hn (q1 x y hx hy (by grind) hd)).1
      have g2 : ¬ ab d (Q (k + 1) x) := fun g => gap k hk x hx ⟨ab_le g1 e1, g⟩
      have g3 : ¬ ab d (Q (k - 1) x) := fun g => gap (k - 1) (by omega) x hx ⟨g, by rw [show k - 1 + 1 = k by omega]; exact ab_le g1 e1⟩
      have g4 := ab_mul (n1 x hx) g1
      exact link_opp a0 w0 d0 (hr x) (ab_le g4 (mul_div_le n0 (Rat.le_of_lt e0) e2)) g3 g2
    · exact ⟨1, by grind, fun x y _ _ _ _ c => absurd c c1⟩)
  obtain ⟨b1, p1, q1⟩ := A1
  obtain ⟨b2, p2, q2⟩ := A2
  obtain ⟨b3, p3, q3⟩ := nice_small (h.1 0 (by omega)) (d := d / 2) (by grind)
  obtain ⟨b4, p4, q4⟩ := nice_small (h.1 1 (by omega)) d0
  obtain ⟨c1, r1, s1, s2⟩ := pos_min p1 p2
  obtain ⟨c2, r2, s3, s4⟩ := pos_min p3 p4
  obtain ⟨c, r, s5, s6⟩ := pos_min r1 r2
  refine ⟨c, r, fun x y hx hy hxy hd => ⟨fun k hk => q1 k hk x y hxy (by grind) hx hy, fun k hk1 hk => q2 k hk x y hxy (by grind) hx hy hk1, fun hn => ?_⟩⟩
  have g1 := not_calm hn (q3 x y hx hy (by grind) (by grind))
  have hz : ∀ z : Rat, x ≤ z → z ≤ y → d < Q 1 z ∨ Q 1 z < -d := fun z z1 z2 => by
    have bz : ab B z := in_B hx hy z1 z2
    have g2 := q3 x z hx bz z1 (by grind)
    have g3 : ab d (Q 0 z) := ab_half g1.1 g2
    exact not_ab (fun g => gap 0 (by omega) z bz ⟨g3, g⟩)
  have hzz : ∀ z : Rat, x ≤ z → z ≤ y → ab d (Q 1 z - Q 1 x) := fun z z1 z2 => q4 x z hx (in_B hx hy z1 z2) z1 (by grind)
  rcases hz x (by grind) (by grind) with u | u
  · exact Or.inl (fun z z1 z2 => keep_pos u (hzz z z1 z2))
  · exact Or.inr (fun z z1 z2 => keep_neg u (hzz z z1 z2))
