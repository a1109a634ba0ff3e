/-- between -d and d -/
def ab (d x : Rat) : Prop := -d ≤ x ∧ x ≤ d
theorem ab_zero {d : Rat} (h : 0 ≤ d) : ab d 0 := by unfold ab; constructor <;> grind
theorem ab_add {a b x y : Rat} (h : ab a x) (g : ab b y) : ab (a + b) (x + y) := by
  unfold ab at *
  constructor <;> grind
theorem ab_neg {a x : Rat} (h : ab a x) : ab a (-x) := by
  unfold ab at *
  constructor <;> grind
theorem ab_le {a b x : Rat} (h : ab a x) (g : a ≤ b) : ab b x := by
  unfold ab at *
  constructor <;> grind
theorem ab_pos {a x : Rat} (h : ab a x) : 0 ≤ a := by
  unfold ab at h
  grind
theorem ab_mul {a b x y : Rat} (h : ab a x) (g : ab b y) : ab (a * b) (x * y) := by
  have ha := ab_pos h
  have hb := ab_pos g
  unfold ab at *
  have h1 : 0 ≤ (a - x) * (b + y) := Rat.mul_nonneg (by grind) (by grind)
  have h2 : 0 ≤ (a + x) * (b - y) := Rat.mul_nonneg (by grind) (by grind)
  have h3 : 0 ≤ (a - x) * (b - y) := Rat.mul_nonneg (by grind) (by grind)
  have h4 : 0 ≤ (a + x) * (b + y) := Rat.mul_nonneg (by grind) (by grind)
  constructor <;> grind
theorem ab_self {x : Rat} : ∃ d : Rat, 0 ≤ d ∧ ab d x := by
  by_cases h : 0 ≤ x
  · exact ⟨x, h, by unfold ab; constructor <;> grind⟩
  · exact ⟨-x, by grind, by unfold ab; constructor <;> grind⟩
/-- a bounded function with a bounded slope between -B and B -/
def nice (B : Rat) (f : Rat → Rat) : Prop := ∃ M : Rat, 0 ≤ M ∧ (∀ x : Rat, ab B x → ab M (f x)) ∧ ∀ x y : Rat, ab B x → ab B y → x ≤ y → ab (M * (y - x)) (f y - f x)
theorem nice_const (B c : Rat) : nice B (fun _ => c) := by
  obtain ⟨d, h0, h1⟩ := ab_self (x := c)
  refine ⟨d, h0, fun _ _ => h1, fun x y _ _ h => ?_⟩
  have h2 : 0 ≤ d * (y - x) := Rat.mul_nonneg h0 (by grind)
  unfold ab
  constructor <;> grind
theorem nice_id {B : Rat} (hB : 0 ≤ B) : nice B (fun x => x) := by
  refine ⟨B + 1, by grind, fun x h => ab_le h (by grind), fun x y _ _ h => ?_⟩
  have h2 : 0 ≤ B * (y - x) := Rat.mul_nonneg hB (by grind)
  unfold ab
  constructor <;> grind
theorem nice_add {B : Rat} {f g : Rat → Rat} (h : nice B f) (k : nice B g) : nice B (fun x => f x + g x) := by
  obtain ⟨M, h0, h1, h2⟩ := h
  obtain ⟨N, k0, k1, k2⟩ := k
  refine ⟨M + N, by grind, fun x hx => ab_add (h1 x hx) (k1 x hx), fun x y hx hy hh => ?_⟩
  have h3 := ab_add (h2 x y hx hy hh) (k2 x y hx hy hh)
  rw [show f y + g y - (f x + g x) = f y - f x + (g y - g x) by grind, show (M + N) * (y - x) = M * (y - x) + N * (y - x) by grind]
  exact h3
theorem nice_mul {B : Rat} {f g : Rat → Rat} (h : nice B f) (k : nice B g) : nice B (fun x => f x * g x) := by
  obtain ⟨M, h0, h1, h2⟩ := h
  obtain ⟨N, k0, k1, k2⟩ := k
  have hMN : 0 ≤ M * N := Rat.mul_nonneg h0 k0
  refine ⟨M * N + M * N, by grind, fun x hx => ab_le (ab_mul (h1 x hx) (k1 x hx)) (by grind), fun x y hx hy hh => ?_⟩
  have h3 := ab_add (ab_mul (h1 y hy) (k2 x y hx hy hh)) (ab_mul (h2 x y hx hy hh) (k1 x hx))
  rw [show f y * g y - f x * g x = f y * (g y - g x) + (f y - f x) * g x by grind]
  exact ab_le h3 (by grind)
theorem nice_neg {B : Rat} {f : Rat → Rat} (h : nice B f) : nice B (fun x => - f x) := by
  have h1 := nice_mul (nice_const B (-1)) h
  have e : (fun x => -f x) = (fun x => (-1 : Rat) * f x) := by funext x; grind
  rw [e]; exact h1
theorem nice_smul {B : Rat} {f : Rat → Rat} (c : Rat) (h : nice B f) : nice B (fun x => c * f x) := nice_mul (nice_const B c) h
/-- reflected -/
theorem nice_refl {B : Rat} {f : Rat → Rat} (h : nice B f) : nice B (fun x => f (-x)) := by
  obtain ⟨M, h0, h1, h2⟩ := h
  refine ⟨M, h0, fun x hx => h1 _ (ab_neg hx), fun x y hx hy hh => ?_⟩
  have h3 := ab_neg (h2 (-y) (-x) (ab_neg hy) (ab_neg hx) (by grind))
  rw [show f (-y) - f (-x) = -(f (-x) - f (-y)) by grind, show y - x = -x - -y by grind]
  exact h3
/-- a function and its slope -/
def slope (B : Rat) (f f' : Rat → Rat) : Prop := ∃ C : Rat, 0 ≤ C ∧ ∀ x y : Rat, ab B x → ab B y → ab (C * ((y - x) * (y - x))) (f y - f x - f' x * (y - x))
theorem sq_nn (x : Rat) : 0 ≤ x * x := by
  by_cases h : 0 ≤ x
  · exact Rat.mul_nonneg h h
  · have := Rat.mul_nonneg (a := -x) (b := -x) (by grind) (by grind)
    grind
theorem slope_const (B c : Rat) : slope B (fun _ => c) (fun _ => 0) := ⟨0, by grind, fun x y _ _ => by unfold ab; constructor <;> grind⟩
theorem slope_id (B : Rat) : slope B (fun x => x) (fun _ => 1) := ⟨0, by grind, fun x y _ _ => by unfold ab; constructor <;> grind⟩
theorem slope_add {B : Rat} {f f' g g' : Rat → Rat} (h : slope B f f') (k : slope B g g') : slope B (fun x => f x + g x) (fun x => f' x + g' x) := by
  obtain ⟨C, h0, h1⟩ := h
  obtain ⟨D, k0, k1⟩ := k
  refine ⟨C + D, by grind, fun x y hx hy => ?_⟩
  have h3 := ab_add (h1 x y hx hy) (k1 x y hx hy)
  rw [show f y + g y - (f x + g x) - (f' x + g' x) * (y - x) = f y - f x - f' x * (y - x) + (g y - g x - g' x * (y - x)) by grind]
  exact ab_le h3 (by grind)
theorem nice_two {B : Rat} {f : Rat → Rat} (h : nice B f) : ∃ M : Rat, 0 ≤ M ∧ (∀ x : Rat, ab B x → ab M (f x)) ∧ ∀ x y : Rat, ab B x → ab B y → ∃ w : Rat, ab M w ∧ f y - f x = w * (y - x) := by
  obtain ⟨M, h0, h1, h2⟩ := h
  refine ⟨M, h0, h1, fun x y hx hy => ?_⟩
  have key : ∀ u v : Rat, ab B u → ab B v → u < v → ∃ w : Rat, ab M w ∧ f v - f u = w * (v - u) := fun u v hu hv huv => by
    have h3 := h2 u v hu hv (by grind)
    have hp : 0 < v - u := by grind
    refine ⟨(f v - f u) / (v - u), ?_, by grind⟩
    have e : f v - f u = (f v - f u) / (v - u) * (v - u) := by grind
    unfold ab at *
    constructor
    · have h4 : (v - u) * (-M) ≤ (v - u) * ((f v - f u) / (v - u)) := by grind
      exact Rat.le_of_mul_le_mul_left h4 hp
    · have h4 : (v - u) * ((f v - f u) / (v - u)) ≤ (v - u) * M := by grind
      exact Rat.le_of_mul_le_mul_left h4 hp
  by_cases c1 : x < y
  · exact key x y hx hy c1
  · by_cases c2 : y < x
    · obtain ⟨w, h3, h4⟩ := key y x hy hx c2
      exact ⟨w, h3, by grind⟩
    · have e : x = y := by grind
      exact ⟨0, ab_zero h0, by rw [e]; grind⟩
theorem slope_mul {B : Rat} {f f' g g' : Rat → Rat} (h : slope B f f') (k : slope B g g') (hf : nice B f) (hg : nice B g) (hg' : nice B g') : slope B (fun x => f x * g x) (fun x => f' x * g x + f x * g' x) := by
  obtain ⟨C, h0, h1⟩ := h
  obtain ⟨D, k0, k1⟩ := k
  obtain ⟨M, m0, m1, m2⟩ := nice_two hf
  obtain ⟨N, n0, n1, n2⟩ := nice_two hg
  obtain ⟨L, l0, l1, _⟩ := nice_two hg'
  have p1 : 0 ≤ C * N := Rat.mul_nonneg h0 n0
  have p2 : 0 ≤ M * D := Rat.mul_nonneg m0 k0
  have p3 : 0 ≤ M * L := Rat.mul_nonneg m0 l0
  refine ⟨C * N + M * D + M * L, by grind, fun x y hx hy => ?_⟩
  obtain ⟨w, w1, w2⟩ := m2 x y hx hy
  have a1 := ab_mul (h1 x y hx hy) (n1 x hx)
  have a2 := ab_mul (m1 y hy) (k1 x y hx hy)
  have hs : ab ((y - x) * (y - x)) ((y - x) * (y - x)) := by have := sq_nn (y - x); unfold ab; constructor <;> grind
  have a3 := ab_mul (ab_mul w1 (l1 x hx)) hs
  have a4 := ab_add (ab_add a1 a2) a3
  have e : f y * g y - f x * g x - (f' x * g x + f x * g' x) * (y - x) = (f y - f x - f' x * (y - x)) * g x + f y * (g y - g x - g' x * (y - x)) + w * g' x * ((y - x) * (y - x)) := by
    have e2 : w * g' x * ((y - x) * (y - x)) = (f y - f x) * (g' x * (y - x)) := by rw [w2]; grind
    rw [e2]; grind
  rw [e]
  exact ab_le a4 (by grind)
theorem slope_refl {B : Rat} {f f' : Rat → Rat} (h : slope B f f') : slope B (fun x => f (-x)) (fun x => - f' (-x)) := by
  obtain ⟨C, h0, h1⟩ := h
  refine ⟨C, h0, fun x y hx hy => ?_⟩
  have h3 := h1 (-x) (-y) (ab_neg hx) (ab_neg hy)
  rw [show f (-y) - f (-x) - -f' (-x) * (y - x) = f (-y) - f (-x) - f' (-x) * (-y - -x) by grind, show (y - x) * (y - x) = (-y - -x) * (-y - -x) by grind]
  exact h3
theorem slope_neg {B : Rat} {f f' : Rat → Rat} (h : slope B f f') : slope B (fun x => - f x) (fun x => - f' x) := by
  obtain ⟨C, h0, h1⟩ := h
  refine ⟨C, h0, fun x y hx hy => ?_⟩
  have h3 := ab_neg (h1 x y hx hy)
  rw [show -f y - -f x - -f' x * (y - x) = -(f y - f x - f' x * (y - x)) by grind]
  exact h3
/-- whole numbers go beyond every fraction -/
theorem arch (q : Rat) : ∃ n : Nat, 1 ≤ n ∧ q ≤ (n : Rat) := by
  have h1 := Rat.lt_floor_add_one q
  refine ⟨(q.floor + 1).toNat + 1, by omega, ?_⟩
  have h2 : (q.floor + 1 : Int) ≤ (((q.floor + 1).toNat + 1 : Nat) : Int) := by omega
  have h3 : ((q.floor + 1 : Int) : Rat) ≤ ((((q.floor + 1).toNat + 1 : Nat) : Int) : Rat) := Rat.intCast_le_intCast.2 h2
  have e : ((((q.floor + 1).toNat + 1 : Nat) : Int) : Rat) = (((q.floor + 1).toNat + 1 : Nat) : Rat) := by rfl
  rw [e] at h3
  grind
