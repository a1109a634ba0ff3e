/-- a root of A is a root of A without repeated factors -/
theorem sqf_pt {A A' Q R G : Rat → Rat} (hA : ∀ B : Rat, 0 ≤ B → slope B A A') (nA : ∀ B : Rat, 0 ≤ B → nice B A) (hQ : ∀ B : Rat, 0 ≤ B → nice B Q) (hR : ∀ B : Rat, 0 ≤ B → nice B R) (hG : ∀ B : Rat, 0 ≤ B → nice B G) (e1 : ∀ x : Rat, A x = Q x * G x) (e2 : ∀ x : Rat, A' x = R x * G x)
    (hd : ∀ x y : Rat, x < y → ∃ z : Rat, x < z ∧ z < y ∧ A z ≠ 0) {x : Rat} (hx : Q x ≠ 0) : A x ≠ 0 := by
  -- Q may be taken positive at x
  have main : ∀ (Q R G : Rat → Rat), (∀ B : Rat, 0 ≤ B → nice B Q) → (∀ B : Rat, 0 ≤ B → nice B R) → (∀ B : Rat, 0 ≤ B → nice B G) → (∀ x : Rat, A x = Q x * G x) → (∀ x : Rat, A' x = R x * G x) → 0 < Q x → A x ≠ 0 := by
    intro Q R G hQ hR hG e1 e2 hx
    obtain ⟨b, b0, b1⟩ := ab_self (x := x)
    obtain ⟨B, hB⟩ : ∃ B : Rat, B = b + 1 := ⟨_, rfl⟩
    have hB0 : 0 ≤ B := by grind
    obtain ⟨M, m0, m1, _⟩ := hR B hB0
    obtain ⟨h0, p0, p1⟩ := nice_small (hQ B hB0) (d := Q x / 2) (by grind)
    obtain ⟨K, hK⟩ : ∃ K : Rat, K = (2 * M + 1) / (Q x / 2) := ⟨_, rfl⟩
    have hK0 : 0 < K := by rw [hK]; exact div_pos' (by grind) (by grind)
    have hKQ : K * (Q x / 2) = 2 * M + 1 := by rw [hK]; grind
    obtain ⟨w1, w10, w11, w12⟩ := pos_min p0 (show (0 : Rat) < 1 by grind)
    obtain ⟨w, w0, w2, w3⟩ := pos_min w10 (div_pos' (show (0 : Rat) < 1 by grind) hK0)
    have hKw : K * w ≤ 1 := by
      have h3 := Rat.mul_le_mul_of_nonneg_left w3 (c := K) (by grind)
      have e : K * (1 / K) = 1 := by grind
      rw [e] at h3; exact h3
    obtain ⟨z, z1, z2, z3⟩ := hd (x - w) x (by grind)
    have bx : ab B x := ab_le b1 (by grind)
    have bz : ab B z := by unfold ab at *; constructor <;> grind
    have hQn : ∀ t : Rat, z ≤ t → t ≤ x → Q x / 2 ≤ Q t := fun t t1 t2 => by
      have bt : ab B t := in_B bz bx t1 t2
      have := p1 t x bt bx t2 (by grind)
      unfold ab at this
      grind
    have hu : ∀ t : Rat, z ≤ t → t ≤ x → 1 ≤ 1 + K * (t - z) ∧ 1 + K * (t - z) ≤ 2 := fun t t1 t2 => by
      have g1 := Rat.mul_nonneg (Rat.le_of_lt hK0) (show 0 ≤ t - z by grind)
      have g2 := Rat.mul_nonneg (Rat.le_of_lt hK0) (show 0 ≤ w - (t - z) by grind)
      constructor <;> grind
    have hun : nice B (fun t => 1 + K * (t + -z)) := nice_add (nice_const B 1) (nice_smul K (nice_add (nice_id hB0) (nice_const B (-z))))
    have hus : slope B (fun t => 1 + K * (t + -z)) (fun _ => 0 + (0 * (0 + -z) + K * (1 + 0))) := by
      have h1 := slope_mul (slope_const B K) (slope_add (slope_id B) (slope_const B (-z))) (nice_const B K) (nice_add (nice_id hB0) (nice_const B (-z))) (nice_add (nice_const B 1) (nice_const B 0))
      have h2 := slope_add (slope_const B 1) h1
      obtain ⟨C, c0, c1⟩ := h2
      refine ⟨C, c0, fun s t hs ht => ?_⟩
      have := c1 s t hs ht
      have e : (fun x : Rat => 0 + (0 * (x + -z) + K * (1 + 0))) s = 0 + (0 * (0 + -z) + K * (1 + 0)) := by show 0 + (0 * (s + -z) + K * (1 + 0)) = _; grind
      rw [e] at this
      exact this
    have hsl := slope_mul (hA B hB0) hus (nA B hB0) hun (nice_const B _)
    -- the sign of A may be turned
    have fin : ∀ (A A' G : Rat → Rat), slope B (fun t => A t * (1 + K * (t + -z))) (fun t => A' t * (1 + K * (t + -z)) + A t * (0 + (0 * (0 + -z) + K * (1 + 0)))) → nice B G → (∀ x : Rat, A x = Q x * G x) → (∀ x : Rat, A' x = R x * G x) → 0 < A z → A x ≠ 0 := by
      intro A A' G hsl hG e1 e2 hAz g
      have h1 := go_right (Q := fun t => Q t * (1 + K * (t + -z))) (R := fun t => R t * (1 + K * (t + -z)) + Q t * K) (G := G) hsl (nice_mul (hQ B hB0) hun) hG (fun t => by show A t * _ = _; rw [e1]; grind) (fun t => by show A' t * _ + A t * _ = _; rw [e1, e2]; grind) bz bx (by grind) (fun t t1 t2 => by
        have g1 := hQn t t1 t2
        have g2 := hu t t1 t2
        have g3 := m1 t (in_B bz bx t1 t2)
        have g4 := ab_mul g3 (show ab 2 (1 + K * (t + -z)) by unfold ab; constructor <;> grind)
        have g5 := Rat.mul_nonneg (Rat.le_of_lt hK0) (show 0 ≤ Q t - Q x / 2 by grind)
        unfold ab at g4
        grind) (by
        show 0 < Q z * (1 + K * (z + -z))
        have := hQn z (by grind) (by grind)
        rw [show Q z * (1 + K * (z + -z)) = Q z by grind]
        grind) (by
        show 0 < A z * (1 + K * (z + -z))
        rw [show A z * (1 + K * (z + -z)) = A z by grind]
        exact hAz)
      have h2 : A z * (1 + K * (z + -z)) / 2 ≤ A x * (1 + K * (x + -z)) := h1.2
      rw [g] at h2
      grind
    by_cases c : 0 < A z
    · exact fin A A' G hsl (hG B hB0) e1 e2 c
    · have h1 := fin (fun t => - A t) (fun t => - A' t) (fun t => - G t) (by
        obtain ⟨C, c0, c1⟩ := hsl
        refine ⟨C, c0, fun s t hs ht => ?_⟩
        have := ab_neg (c1 s t hs ht)
        have e : -(A t * (1 + K * (t + -z)) - A s * (1 + K * (s + -z)) - (A' s * (1 + K * (s + -z)) + A s * (0 + (0 * (0 + -z) + K * (1 + 0)))) * (t - s)) = -A t * (1 + K * (t + -z)) - -A s * (1 + K * (s + -z)) - (-A' s * (1 + K * (s + -z)) + -A s * (0 + (0 * (0 + -z) + K * (1 + 0)))) * (t - s) := by grind
        rw [e] at this
        exact this) (nice_neg (hG B hB0)) (fun t => by rw [e1]; grind) (fun t => by rw [e2]; grind) (by grind)
      intro g
      exact h1 (by rw [g]; grind)
  by_cases c : 0 < Q x
  · exact main Q R G hQ hR hG e1 e2 c
  · exact main (fun t => - Q t) (fun t => - R t) (fun t => - G t) (fun B hB => nice_neg (hQ B hB)) (fun B hB => nice_neg (hR B hB)) (fun B hB => nice_neg (hG B hB)) (fun t => by rw [e1]; grind) (fun t => by rw [e2]; grind) (by grind)
theorem sq_dense {F : Nat → Int} {N : Nat} {Q Q1 : Rat → Rat} {W : Rat → Int} {G : Nat → Int} {m : Nat} (h : sq F N Q Q1 W G m) (hN : 1 ≤ N) (hF : F (N - 1) ≠ 0) (x y : Rat) (hxy : x < y) : ∃ z : Rat, x < z ∧ z < y ∧ Q z ≠ 0 := by
  obtain ⟨z, z1, z2, z3⟩ := dense hN hF x y hxy
  refine ⟨z, z1, z2, fun g => z3 ?_⟩
  rw [h.2.2.1, g]; grind
theorem sq_root {F : Nat → Int} {N : Nat} {Q Q1 : Rat → Rat} {W : Rat → Int} {G : Nat → Int} {m : Nat} (h : sq F N Q Q1 W G m) (hN : 1 ≤ N) (hF : F (N - 1) ≠ 0) (x : Rat) : rv F N x = 0 ↔ Q x = 0 := by
  constructor
  · intro g
    refine Classical.byContradiction fun hq => ?_
    refine sqf_pt (A := fun x => rv F N x) (A' := fun x => rv (der F) (N - 1) x) (Q := Q) (R := Q1) (G := fun x => rv G m x) (fun B hB => ?_) (fun B hB => rv_nice hB _ _) h.1.1 h.2.1 (fun B hB => rv_nice hB _ _) h.2.2.1 h.2.2.2.1 (fun x y hxy => dense hN hF x y hxy) hq g
    have := rv_slope hB F (N - 1)
    rw [show N - 1 + 1 = N by omega] at this
    exact this
  · intro g
    rw [h.2.2.1, g]; grind
theorem arch_steps {a d : Rat} (hd : 0 < d) : ∃ n : Nat, a ≤ (n : Rat) * d := by
  obtain ⟨n, _, n2⟩ := arch (a / d)
  refine ⟨n, ?_⟩
  have h3 := Rat.mul_le_mul_of_nonneg_left n2 (c := d) (by grind)
  have e : d * (a / d) = a := by grind
  rw [e] at h3
  grind
theorem par_comb {a b c r s t : Int} (h1 : s = if (b - a) % 2 = 0 then r else -r) (h2 : t = if (c - b) % 2 = 0 then s else -s) : t = if (c - a) % 2 = 0 then r else -r := by
  by_cases c1 : (b - a) % 2 = 0 <;> by_cases c2 : (c - b) % 2 = 0
  · rw [if_pos c1] at h1; rw [if_pos c2] at h2; rw [if_pos (by omega)]; omega
  · rw [if_pos c1] at h1; rw [if_neg c2] at h2; rw [if_neg (by omega)]; omega
  · rw [if_neg c1] at h1; rw [if_pos c2] at h2; rw [if_neg (by omega)]; omega
  · rw [if_neg c1] at h1; rw [if_neg c2] at h2; rw [if_pos (by omega)]; omega
theorem par_one {a b r s : Int} (hr : r = 1 ∨ r = -1) (hs : s = 1 ∨ s = -1) (h : b - a = jmp r s) : s = if (b - a) % 2 = 0 then r else -r := by
  unfold jmp at h
  by_cases c : s = r
  · rw [if_neg (fun g => g.2 c)] at h
    rw [if_pos (by omega)]; exact c
  · rw [if_pos ⟨by omega, c⟩] at h
    rw [if_neg (by omega)]; omega
/-- between points that are no roots the sign turns with every root -/
theorem cnt_par {Q : Rat → Rat} {W : Rat → Int} (h : cnt Q W) (hd : ∀ x y : Rat, x < y → ∃ z : Rat, x < z ∧ z < y ∧ Q z ≠ 0) {x y : Rat} (hxy : x ≤ y) (hx : Q x ≠ 0) (hy : Q y ≠ 0) : rsg (Q y) = if (W y - W x) % 2 = 0 then rsg (Q x) else - rsg (Q x) := by
  obtain ⟨B, hB, bx, bY⟩ := both_B x y
  obtain ⟨d, d0, d1⟩ := h.2.2 B hB
  have fin : ∀ u v : Rat, x ≤ u → u ≤ v → v ≤ y → v - u ≤ d → Q u ≠ 0 → Q v ≠ 0 → rsg (Q v) = if (W v - W u) % 2 = 0 then rsg (Q u) else - rsg (Q u) := fun u v h1 h2 h3 h4 h5 h6 => by
    by_cases c : u < v
    · exact par_one (rsg_nz h5) (rsg_nz h6) (d1 u v (in_B bx bY h1 (by grind)) (in_B bx bY (by grind) h3) c h4)
    · rw [show v = u by grind, if_pos (by omega)]
  have key : ∀ (n : Nat) (v : Rat), x ≤ v → v ≤ y → v - x ≤ (n : Rat) * (d / 2) → Q v ≠ 0 → rsg (Q v) = if (W v - W x) % 2 = 0 then rsg (Q x) else - rsg (Q x) := by
    intro n
    induction n with
    | zero =>
      intro v h1 h2 h3 h4
      have e0 : ((0 : Nat) : Rat) = 0 := rfl
      rw [e0] at h3
      exact fin x v (by grind) h1 h2 (by grind) hx h4
    | succ n ih =>
      intro v h1 h2 h3 h4
      rw [nat_succ] at h3
      by_cases c : v - x ≤ d
      · exact fin x v (by grind) h1 h2 c hx h4
      · obtain ⟨p, p1, p2, p3⟩ := hd (v - d) (v - d / 2) (by grind)
        have i1 := ih p (by grind) (by grind) (by grind) p3
        have i2 := fin p v (by grind) (by grind) h2 (by grind) p3 h4
        exact par_comb i1 i2
  obtain ⟨n, hn⟩ := arch_steps (a := y - x) (show 0 < d / 2 by clear key fin; grind)
  exact key n y hxy Rat.le_refl hn hy
/-- at a root the count jumps -/
theorem cnt_jump {Q : Rat → Rat} {W : Rat → Int} (h : cnt Q W) (hd : ∀ x y : Rat, x < y → ∃ z : Rat, x < z ∧ z < y ∧ Q z ≠ 0) {x y : Rat} (hxy : x < y) (hy : Q y = 0) : W x < W y := by
  obtain ⟨B, hB, bx, bY⟩ := both_B x y
  obtain ⟨d, d0, d1⟩ := h.2.2 B hB
  obtain ⟨k, k0, k1, k2⟩ := pos_min d0 (show 0 < y - x by grind)
  obtain ⟨z, z1, z2, z3⟩ := hd (y - k) y (by grind)
  have t := d1 z y (in_B bx bY (by grind) (by grind)) bY z2 (by grind)
  rw [hy, rsg_zero] at t
  unfold jmp at t
  rw [if_pos (by rcases rsg_nz z3 with u | u <;> rw [u] <;> omega)] at t
  have := cnt_mono h (show x ≤ z by grind)
  omega
