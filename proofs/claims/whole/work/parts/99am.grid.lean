/-- W counts the roots of Q up to a point -/
def cnt (Q : Rat → Rat) (W : Rat → Int) : Prop := (∀ B : Rat, 0 ≤ B → nice B Q) ∧ (∃ X0 : Rat, 1 ≤ X0 ∧ ∀ X : Rat, X0 ≤ X → W (-X) = 0) ∧ ∀ B : Rat, 0 ≤ B → ∃ d : Rat, 0 < d ∧ ∀ x y : Rat, ab B x → ab B y → x < y → y - x ≤ d → W y - W x = jmp (rsg (Q x)) (rsg (Q y))
def jsum (s : Nat → Int) : Nat → Int
  | 0 => 0
  | n + 1 => jsum s n + jmp (s n) (s (n + 1))
theorem both_B (x y : Rat) : ∃ B : Rat, 0 ≤ B ∧ ab B x ∧ ab B y := by
  obtain ⟨a, a0, a1⟩ := ab_self (x := x)
  obtain ⟨b, b0, b1⟩ := ab_self (x := y)
  exact ⟨a + b, by grind, ab_le a1 (by grind), ab_le b1 (by grind)⟩
/-- the count between two points, over a fine grid -/
theorem cnt_grid {Q : Rat → Rat} {W : Rat → Int} (h : cnt Q W) {x y : Rat} (hxy : x < y) : ∃ (n : Nat) (k : Rat), 1 ≤ n ∧ 0 < k ∧ x + (n : Rat) * k = y ∧ W y - W x = jsum (fun i => rsg (Q (x + (i : Rat) * k))) n := by
  obtain ⟨B, hB, bx, bY⟩ := both_B x y
  obtain ⟨d, d0, d1⟩ := h.2.2 B hB
  obtain ⟨n, n1, n2⟩ := arch ((y - x) / d)
  have hn0 : (0 : Rat) < (n : Rat) := by have := nat_le n1; grind
  have hnd : y - x ≤ (n : Rat) * d := by
    have h3 := Rat.mul_le_mul_of_nonneg_left n2 (c := d) (by grind)
    have e : d * ((y - x) / d) = y - x := by grind
    rw [e] at h3
    grind
  obtain ⟨k, hk⟩ : ∃ k : Rat, k = (y - x) / (n : Rat) := ⟨_, rfl⟩
  have hkn : k * (n : Rat) = y - x := by rw [hk]; grind
  have hk0 : 0 < k := by rw [hk]; exact div_pos' (by grind) hn0
  have hkd : k ≤ d := by
    have h5 : (n : Rat) * k ≤ (n : Rat) * d := by grind
    exact Rat.le_of_mul_le_mul_left h5 hn0
  have hin : ∀ i : Nat, i ≤ n → x ≤ x + (i : Rat) * k ∧ x + (i : Rat) * k ≤ y := fun i hi => by
    have h1 := Rat.mul_nonneg (natr i) (Rat.le_of_lt hk0)
    have h2 := Rat.mul_le_mul_of_nonneg_left (nat_le hi) (Rat.le_of_lt hk0)
    grind
  have main : ∀ i : Nat, i ≤ n → W (x + (i : Rat) * k) - W x = jsum (fun i => rsg (Q (x + (i : Rat) * k))) i := by
    intro i
    induction i with
    | zero =>
      intro _
      have e : x + ((0 : Nat) : Rat) * k = x := by grind
      rw [e]
      show W x - W x = 0
      omega
    | succ i ih =>
      intro hi
      have h1 := ih (by omega)
      have e : x + ((i + 1 : Nat) : Rat) * k = x + (i : Rat) * k + k := by grind
      have i1 := hin i (by omega)
      have i2 := hin (i + 1) hi
      have h2 := d1 (x + (i : Rat) * k) (x + ((i + 1 : Nat) : Rat) * k) (in_B bx bY i1.1 i1.2) (in_B bx bY i2.1 i2.2) (by grind) (by grind)
      show _ = jsum _ i + jmp (rsg (Q (x + (i : Rat) * k))) (rsg (Q (x + ((i + 1 : Nat) : Rat) * k)))
      omega
  have h1 := main n (Nat.le_refl _)
  have e : x + (n : Rat) * k = y := by grind
  rw [e] at h1
  exact ⟨n, k, n1, hk0, e, h1⟩
theorem jmp_nn (a b : Int) : 0 ≤ jmp a b ∧ jmp a b ≤ 1 := by unfold jmp; split <;> omega
theorem jsum_nn (s : Nat → Int) : ∀ n : Nat, 0 ≤ jsum s n
  | 0 => by show (0 : Int) ≤ 0; omega
  | n + 1 => by
    show 0 ≤ jsum s n + jmp _ _
    have := jsum_nn s n
    have := jmp_nn (s n) (s (n + 1))
    omega
theorem jsum_congr {s t : Nat → Int} : ∀ n : Nat, (∀ i : Nat, i ≤ n → s i = t i) → jsum s n = jsum t n
  | 0, _ => rfl
  | n + 1, h => by
    show jsum s n + jmp (s n) (s (n + 1)) = jsum t n + jmp (t n) (t (n + 1))
    rw [jsum_congr n (fun i hi => h i (by omega)), h n (by omega), h (n + 1) (by omega)]
theorem cnt_mono {Q : Rat → Rat} {W : Rat → Int} (h : cnt Q W) {x y : Rat} (hxy : x ≤ y) : W x ≤ W y := by
  by_cases c : x < y
  · obtain ⟨n, k, _, _, _, h1⟩ := cnt_grid h c
    have := jsum_nn (fun i => rsg (Q (x + (i : Rat) * k))) n
    omega
  · have e : x = y := by grind
    rw [e]; omega
/-- a run of signs that turns once at most -/
theorem jsum_once {s : Nat → Int} {r : Int} (hr : r = 1 ∨ r = -1) (hs : ∀ i : Nat, s i = -1 ∨ s i = 0 ∨ s i = 1) : ∀ n : Nat, s 0 = r → (∀ i : Nat, i < n → s i ≠ r → s (i + 1) = -r) → jsum s n = if s n = r then 0 else 1
  | 0, h0, _ => by rw [if_pos h0]; rfl
  | n + 1, h0, h => by
    show jsum s n + jmp (s n) (s (n + 1)) = _
    rw [jsum_once hr hs n h0 (fun i hi => h i (by omega))]
    unfold jmp
    by_cases c : s n = r
    · rw [if_pos c, c]
      by_cases c2 : s (n + 1) = r
      · rw [if_pos c2, if_neg (fun g => g.2 c2)]; rfl
      · rw [if_neg c2, if_pos ⟨by omega, c2⟩]; rfl
    · have h1 := h n (by omega) c
      have h2 := hs n
      rw [if_neg c, h1, if_neg (show ¬ -r = r by omega), if_neg (by omega)]; rfl
/-- between two points where the sign turns once at most -/
theorem cnt_once {Q : Rat → Rat} {W : Rat → Int} (h : cnt Q W) {x y : Rat} (hxy : x < y) {r : Int} (hr : r = 1 ∨ r = -1) (hx : rsg (Q x) = r) (hm : ∀ z w : Rat, x ≤ z → z < w → w ≤ y → rsg (Q z) ≠ r → rsg (Q w) = -r) : W y - W x = if rsg (Q y) = r then 0 else 1 := by
  obtain ⟨n, k, n1, k0, e, h1⟩ := cnt_grid h hxy
  rw [h1]
  have hin : ∀ i : Nat, i ≤ n → x ≤ x + (i : Rat) * k ∧ x + (i : Rat) * k ≤ y := fun i hi => by
    have h1 := Rat.mul_nonneg (natr i) (Rat.le_of_lt k0)
    have h2 := Rat.mul_le_mul_of_nonneg_left (nat_le hi) (Rat.le_of_lt k0)
    grind
  have h2 := jsum_once hr (s := fun i => rsg (Q (x + (i : Rat) * k))) (fun i => rsg_three _) n (by
    have e0 : x + ((0 : Nat) : Rat) * k = x := by grind
    show rsg (Q (x + ((0 : Nat) : Rat) * k)) = r
    rw [e0]; exact hx) (fun i hi g => hm _ _ (hin i (by omega)).1 (by grind) (hin (i + 1) (by omega)).2 g)
  rw [h2]
  show (if rsg (Q (x + (n : Rat) * k)) = r then (0 : Int) else 1) = _
  rw [e]
/-- from a zero on, where no other follows, nothing is counted -/
theorem cnt_after {Q : Rat → Rat} {W : Rat → Int} (h : cnt Q W) {x y : Rat} (hxy : x < y) {r : Int} (hr : r = 1 ∨ r = -1) (hm : ∀ z : Rat, x < z → z ≤ y → rsg (Q z) = r) (hx : rsg (Q x) = r ∨ rsg (Q x) = 0) : W y = W x := by
  obtain ⟨B, hB, bx, bY⟩ := both_B x y
  obtain ⟨d, d0, d1⟩ := h.2.2 B hB
  obtain ⟨k, k0, k1, k2⟩ := pos_min d0 (show 0 < y - x by grind)
  have h1 := d1 x (x + k) bx (in_B bx bY (by grind) (by grind)) (by grind) (by grind)
  have h2 := hm (x + k) (by grind) (by grind)
  have h3 : jmp (rsg (Q x)) (rsg (Q (x + k))) = 0 := by
    rw [h2]
    unfold jmp
    rcases hx with g | g <;> rw [g]
    · rw [if_neg (fun u => u.2 rfl)]
    · rw [if_neg (fun u => u.1 rfl)]
  by_cases c : x + k < y
  · have h4 := cnt_once h c hr h2 (fun z w g1 g2 g3 g4 => absurd (hm z (by grind) (by grind)) g4)
    rw [if_pos (hm y hxy (by grind))] at h4
    omega
  · have e : x + k = y := by grind
    rw [e] at h1 h3
    omega
/-- the sign at a point is that of one side, or 0 -/
theorem sgn_near {Q : Rat → Rat} {B : Rat} (h : nice B Q) {x y : Rat} (hx : ab B x) (hy : ab B y) {r : Int} (hr : r = 1 ∨ r = -1) (hxy : x ≠ y) (hm : ∀ z : Rat, (x < z ∧ z < y) ∨ (y < z ∧ z < x) → rsg (Q z) = r) : rsg (Q x) = r ∨ rsg (Q x) = 0 := by
  obtain ⟨M, m0, m1, m2⟩ := h
  refine Classical.byContradiction fun hn => ?_
  have hne : Q x ≠ 0 := fun g => hn (Or.inr (by rw [g]; exact rsg_zero))
  have hop : rsg (Q x) = -r := by
    rcases rsg_nz hne with g | g
    · rcases hr with u | u
      · exact absurd (Or.inl (g.trans u.symm)) hn
      · rw [g, u]; rfl
    · rcases hr with u | u
      · rw [g, u]
      · exact absurd (Or.inl (g.trans u.symm)) hn
  obtain ⟨q, q0, hq⟩ : ∃ q : Rat, 0 < q ∧ (Q x = q ∨ Q x = -q) := by
    by_cases c : 0 < Q x
    · exact ⟨Q x, c, Or.inl rfl⟩
    · exact ⟨-Q x, by grind, Or.inr (by grind)⟩
  obtain ⟨w, hw⟩ : ∃ w : Rat, 0 < w ∧ (y = x + w ∨ y = x - w) := by
    by_cases c : x < y
    · exact ⟨y - x, by grind, Or.inl (by grind)⟩
    · exact ⟨x - y, by grind, Or.inr (by grind)⟩
  obtain ⟨k, k0, k1, k2⟩ := pos_min (show 0 < w / 2 by grind) (div_pos' q0 (show 0 < M + 1 by grind))
  have k3 : M * k < q := by
    have h3 := Rat.mul_le_mul_of_nonneg_left k2 (c := M + 1) (by grind)
    have ee : (M + 1) * (q / (M + 1)) = q := by grind
    rw [ee] at h3
    grind
  -- a point near x on that side
  have key : ∀ z : Rat, ab B z → ab (M * k) (Q z - Q x) → rsg (Q z) = r → False := fun z _ g1 g2 => by
    unfold ab at g1
    rcases hq with u | u
    · have : rsg (Q z) = 1 := rsg_pos (by grind)
      have : rsg (Q x) = 1 := rsg_pos (by grind)
      omega
    · have : rsg (Q z) = -1 := rsg_neg (by grind)
      have : rsg (Q x) = -1 := rsg_neg (by grind)
      omega
  rcases hw.2 with u | u
  · have bz : ab B (x + k) := in_B hx hy (by grind) (by grind)
    have g1 := m2 x (x + k) hx bz (by grind)
    rw [show x + k - x = k by grind] at g1
    exact key (x + k) bz g1 (hm _ (Or.inl ⟨by grind, by grind⟩))
  · have bz : ab B (x - k) := in_B hy hx (by grind) (by grind)
    have g1 := ab_neg (m2 (x - k) x bz hx (by grind))
    rw [show x - (x - k) = k by grind, show -(Q x - Q (x - k)) = Q (x - k) - Q x by grind] at g1
    exact key (x - k) bz g1 (hm _ (Or.inr ⟨by grind, by grind⟩))
/-- an interval without a root inside -/
theorem leaf0 {Q : Rat → Rat} {W : Rat → Int} (h : cnt Q W) {a b : Rat} (hab : a < b) {r : Int} (hr : r = 1 ∨ r = -1) (hm : ∀ z : Rat, a < z → z < b → rsg (Q z) = r) : W b - W a = if Q b = 0 then 1 else 0 := by
  obtain ⟨B, hB, ba, bb⟩ := both_B a b
  obtain ⟨m, hm1⟩ : ∃ m : Rat, m = (a + b) / 2 := ⟨_, rfl⟩
  have h1 : a < m := by grind
  have h2 : m < b := by grind
  have sa := sgn_near (h.1 B hB) ba bb hr (by grind) (fun z g => hm z (by grind) (by grind))
  have sb := sgn_near (h.1 B hB) bb ba hr (by grind) (fun z g => hm z (by grind) (by grind))
  have e1 := cnt_after h h1 hr (fun z g1 g2 => hm z g1 (by grind)) sa
  have e2 := cnt_once h h2 hr (hm m h1 h2) (fun z w g1 g2 g3 g4 => absurd (hm z (by grind) (by grind)) g4)
  by_cases c : Q b = 0
  · rw [if_pos c]
    rw [c, rsg_zero, if_neg (by omega)] at e2
    omega
  · rw [if_neg c]
    rcases sb with g | g
    · rw [if_pos g] at e2; omega
    · rcases rsg_nz c with u | u <;> omega
/-- an interval with one root inside -/
theorem leaf1 {Q : Rat → Rat} {W : Rat → Int} (h : cnt Q W) {a b z1 z2 : Rat} (h1 : a < z1) (h2 : z1 < z2) (h3 : z2 < b) {r : Int} (hr : r = 1 ∨ r = -1) (hz1 : ∀ z : Rat, a < z → z ≤ z1 → rsg (Q z) = r) (hz2 : ∀ z : Rat, z2 ≤ z → z < b → rsg (Q z) = -r) (hm : ∀ z w : Rat, a < z → z < w → w < b → rsg (Q z) ≠ r → rsg (Q w) = -r) : W b - W a = 1 + (if Q b = 0 then 1 else 0) := by
  obtain ⟨B, hB, ba, bb⟩ := both_B a b
  have b1 : ab B z1 := in_B ba bb (by grind) (by grind)
  have b2 : ab B z2 := in_B ba bb (by grind) (by grind)
  have hr' : -r = 1 ∨ -r = -1 := by omega
  have sa := sgn_near (h.1 B hB) ba b1 hr (by grind) (fun z g => hz1 z (by grind) (by grind))
  have sb := sgn_near (h.1 B hB) bb b2 hr' (by grind) (fun z g => hz2 z (by grind) (by grind))
  have e1 := cnt_after h h1 hr (fun z g1 g2 => hz1 z g1 g2) sa
  have e2 := cnt_once h h2 hr (hz1 z1 h1 (by grind)) (fun z w g1 g2 g3 g4 => hm z w (by grind) g2 (by grind) g4)
  rw [if_neg (by rw [hz2 z2 (by grind) h3]; omega)] at e2
  have e3 := cnt_once h h3 hr' (hz2 z2 (by grind) h3) (fun z w g1 g2 g3 g4 => absurd (hz2 z g1 (by grind)) g4)
  by_cases c : Q b = 0
  · rw [if_pos c]
    rw [c, rsg_zero, if_neg (by omega)] at e3
    omega
  · rw [if_neg c]
    rcases sb with g | g
    · rw [if_pos g] at e3; omega
    · rcases rsg_nz c with u | u <;> omega
