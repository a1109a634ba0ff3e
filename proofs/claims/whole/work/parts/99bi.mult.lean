/-- alike up to a factor -/
def ppn (F G : Nat → Int) (n : Nat) : Prop := ∃ u v : Int, u ≠ 0 ∧ v ≠ 0 ∧ ∀ i : Nat, i < n → u * F i = v * G i
theorem ppn_refl (F : Nat → Int) (n : Nat) : ppn F F n := ⟨1, 1, by decide, by decide, fun _ _ => rfl⟩
theorem ppn_symm {F G : Nat → Int} {n : Nat} (h : ppn F G n) : ppn G F n := by
  obtain ⟨u, v, hu, hv, e⟩ := h
  exact ⟨v, u, hv, hu, fun i hi => (e i hi).symm⟩
theorem ppn_trans {F G H : Nat → Int} {n : Nat} (h : ppn F G n) (k : ppn G H n) : ppn F H n := by
  obtain ⟨u, v, hu, hv, e⟩ := h
  obtain ⟨a, b, ha, hb, f⟩ := k
  refine ⟨a * u, v * b, Int.mul_ne_zero ha hu, Int.mul_ne_zero hv hb, fun i hi => ?_⟩
  rw [Int.mul_assoc, e i hi, ← Int.mul_assoc, Int.mul_comm a v, Int.mul_assoc, f i hi, Int.mul_assoc]
theorem ppn_lead {F G : Nat → Int} {n : Nat} (h : ppn F G n) (hn : 1 ≤ n) (hG : G (n - 1) ≠ 0) : F (n - 1) ≠ 0 := by
  obtain ⟨u, v, hu, hv, e⟩ := h
  intro g
  have := e (n - 1) (by omega)
  rw [g] at this
  exact Int.mul_ne_zero hv hG (by omega)
theorem num_den (k : Rat) : k * (k.den : Rat) = (k.num : Rat) := by
  have h := Rat.num_divInt_den k
  rw [Rat.divInt_eq_div] at h
  have hd : ((k.den : Int) : Rat) = (k.den : Rat) := rfl
  rw [hd] at h
  have h2 : (k.den : Rat) ≠ 0 := ne_cast (a := (k.den : Int)) (by have := k.den_nz; omega)
  grind
theorem rat_ppn {F G : Nat → Int} {n : Nat} {k : Rat} (hk : k ≠ 0) (h : ∀ x : Rat, rv F n x = k * rv G n x) : ppn F G n := by
  have e1 := num_den k
  have hd : ((k.den : Int) : Rat) = (k.den : Rat) := rfl
  refine ⟨(k.den : Int), k.num, by have := k.den_nz; omega, fun g => hk (Rat.num_eq_zero.1 g), rv_inj (fun x => ?_)⟩
  rw [rv_smul, rv_smul, h, hd, ← e1]
  grind
/-- the rounds: again and again what a polynomial and its derivative share -/
def rnd (F0 : Nat → Int) (N0 : Nat) : Nat → (Nat → Int) → Nat → Prop
  | 0, F, n => n = N0 ∧ ppn F F0 n
  | r + 1, F, n => ∃ (F' : Nat → Int) (n' : Nat) (Q Q1 : Rat → Rat) (W : Rat → Int) (G : Nat → Int), rnd F0 N0 r F' n' ∧ sq F' n' Q Q1 W G n ∧ ppn F G n
section
variable {F0 : Nat → Int} {N0 : Nat}
theorem rnd_lead (hN : 1 ≤ N0) (h0 : F0 (N0 - 1) ≠ 0) : ∀ {r : Nat} {F : Nat → Int} {n : Nat}, rnd F0 N0 r F n → 1 ≤ n ∧ F (n - 1) ≠ 0
  | 0, F, n, h => by
    obtain ⟨h1, h2⟩ := h
    subst h1
    exact ⟨hN, ppn_lead h2 hN h0⟩
  | r + 1, F, n, h => by
    obtain ⟨F', n', Q, Q1, W, G, _, h2, h3⟩ := h
    exact ⟨h2.2.2.2.2.1.1, ppn_lead h3 h2.2.2.2.2.1.1 h2.2.2.2.2.1.2⟩
theorem rnd_uniq : ∀ {r : Nat} {F F2 : Nat → Int} {n n2 : Nat}, rnd F0 N0 r F n → rnd F0 N0 r F2 n2 → n = n2 ∧ ppn F F2 n
  | 0, F, F2, n, n2, h, k => ⟨h.1.trans k.1.symm, ppn_trans h.2 (ppn_symm (by rw [h.1, ← k.1]; exact k.2))⟩
  | r + 1, F, F2, n, n2, h, k => by
    obtain ⟨F', n', Q, Q1, W, G, h1, h2, h3⟩ := h
    obtain ⟨K', l', P, P1, V, G2, k1, k2, k3⟩ := k
    obtain ⟨e1, e2⟩ := rnd_uniq h1 k1
    subst e1
    obtain ⟨u, v, hu, hv, e⟩ := ppn_symm e2
    obtain ⟨_, e3, _, kk, e4, e5⟩ := sq_uniq h2 k2 hu hv e
    subst e3
    exact ⟨rfl, ppn_trans h3 (ppn_symm (ppn_trans k3 (rat_ppn e4 e5)))⟩
/-- W counts the roots of round r -/
def isR (F0 : Nat → Int) (N0 r : Nat) (W : Rat → Int) : Prop := ∃ (F : Nat → Int) (n : Nat) (Q Q1 : Rat → Rat) (G : Nat → Int) (m : Nat), rnd F0 N0 r F n ∧ sq F n Q Q1 W G m
theorem isR_uniq {r : Nat} {W W' : Rat → Int} (h : isR F0 N0 r W) (k : isR F0 N0 r W') (x : Rat) : W x = W' x := by
  obtain ⟨F, n, Q, Q1, G, m, h1, h2⟩ := h
  obtain ⟨K, l, P, P1, G2, m2, k1, k2⟩ := k
  obtain ⟨e1, e2⟩ := rnd_uniq h1 k1
  subst e1
  obtain ⟨u, v, hu, hv, e⟩ := e2
  exact (sq_uniq k2 h2 hu hv e).1 x
theorem isR_ex (hN : 1 ≤ N0) (h0 : F0 (N0 - 1) ≠ 0) : ∀ r : Nat, ∃ W : Rat → Int, isR F0 N0 r W
  | 0 => by
    obtain ⟨Q, Q1, W, G, m, h, _⟩ := sq_ex hN h0
    exact ⟨W, F0, N0, Q, Q1, G, m, ⟨rfl, ppn_refl _ _⟩, h⟩
  | r + 1 => by
    obtain ⟨W, F, n, Q, Q1, G, m, h1, h2⟩ := isR_ex hN h0 r
    obtain ⟨P, P1, V, G2, m2, h3, _⟩ := sq_ex h2.2.2.2.2.1.1 h2.2.2.2.2.1.2
    exact ⟨V, G, m, P, P1, G2, m2, ⟨F, n, Q, Q1, W, G, h1, h2, ppn_refl _ _⟩, h3⟩
theorem isR_mono (hN : 1 ≤ N0) (h0 : F0 (N0 - 1) ≠ 0) {r : Nat} {W W' : Rat → Int} (h : isR F0 N0 r W) (k : isR F0 N0 (r + 1) W') {x y : Rat} (hxy : x ≤ y) : W' y - W' x ≤ W y - W x := by
  obtain ⟨K, l, P, P1, G2, m2, ⟨F, n, Q, Q1, V, G, k1, k2, k3⟩, k4⟩ := k
  have e : ∀ x : Rat, W x = V x := isR_uniq h ⟨F, n, Q, Q1, G, l, k1, k2⟩
  rw [e, e]
  obtain ⟨u, v, hu, hv, e2⟩ := k3
  have hl := rnd_lead hN h0 k1
  exact sq_mono k2 hl.1 hl.2 k4 hu hv e2 hxy
theorem isR_le (hN : 1 ≤ N0) (h0 : F0 (N0 - 1) ≠ 0) {x y : Rat} (hxy : x ≤ y) : ∀ (d r : Nat) {W W' : Rat → Int}, isR F0 N0 r W → isR F0 N0 (r + d) W' → W' y - W' x ≤ W y - W x
  | 0, r, W, W', h, k => by rw [isR_uniq h k, isR_uniq h k]; omega
  | d + 1, r, W, W', h, k => by
    obtain ⟨V, hV⟩ := isR_ex hN h0 (r + d)
    have h1 := isR_le hN h0 hxy d r h hV
    have h2 := isR_mono hN h0 hV k hxy
    omega
/-- the rounds get shorter -/
theorem rnd_len (hN : 1 ≤ N0) (h0 : F0 (N0 - 1) ≠ 0) : ∀ {r : Nat} {F : Nat → Int} {n : Nat}, rnd F0 N0 r F n → n = 1 ∨ n + r ≤ N0
  | 0, F, n, h => by have := h.1; omega
  | r + 1, F, n, h => by
    obtain ⟨F', n', Q, Q1, W, G, h1, h2, h3⟩ := h
    have hl := rnd_lead hN h0 h1
    have ih := rnd_len hN h0 h1
    by_cases c : n' = 1
    · -- a constant's divisor is one
      subst c
      obtain ⟨a, q, l, ha, e⟩ := h2.2.2.2.2.2.1.1
      obtain ⟨j, _, _, hj, _⟩ := dv_deg ha h2.2.2.2.2.1 hl e
      left
      have := h2.2.2.2.2.1.1
      omega
    · obtain ⟨a, q, l, ha, e⟩ := h2.2.2.2.2.2.1.2
      obtain ⟨j, _, _, hj, _⟩ := dv_deg ha h2.2.2.2.2.1 ⟨by omega, der_lead hl.1 hl.2 (n' - 1 - 1) (by omega)⟩ e
      omega
theorem sq_const {F : Nat → Int} {Q Q1 : Rat → Rat} {W : Rat → Int} {G : Nat → Int} {m : Nat} (h : sq F 1 Q Q1 W G m) (hF : F 0 ≠ 0) {x y : Rat} (hxy : x ≤ y) : W y = W x := by
  refine cnt_nz h.1 (fun B hB => rv_nice hB G m) h.2.2.1 hxy (d := 1 / 2) (by grind) (fun z _ _ g => ?_)
  have e : rv F 1 z = (F 0 : Rat) := by show 0 + (F 0 : Rat) * z ^ 0 = _; grind
  rw [e] at g
  have h1 := ab_cast (F 0)
  have h2 : (1 : Rat) ≤ (F 0 : Rat) ∨ (F 0 : Rat) ≤ -1 := by
    rcases Int.lt_or_le (F 0) 0 with c | c
    · right
      have : ((F 0 : Int) : Rat) ≤ ((-1 : Int) : Rat) := Rat.intCast_le_intCast.2 (by omega)
      exact this
    · left
      have : ((1 : Int) : Rat) ≤ ((F 0 : Int) : Rat) := Rat.intCast_le_intCast.2 (by omega)
      exact this
  unfold ab at g
  grind
theorem isR_end (hN : 1 ≤ N0) (h0 : F0 (N0 - 1) ≠ 0) {r : Nat} (hr : N0 ≤ r + 1) {W : Rat → Int} (h : isR F0 N0 r W) {x y : Rat} (hxy : x ≤ y) : W y = W x := by
  obtain ⟨F, n, Q, Q1, G, m, h1, h2⟩ := h
  have hl := rnd_lead hN h0 h1
  have hn := rnd_len hN h0 h1
  have e : n = 1 := by omega
  subst e
  exact sq_const h2 hl.2 hxy
/-- how often the roots between x and y count: the first round without one -/
def mlt (F0 : Nat → Int) (N0 : Nat) (x y : Rat) (v : Nat) : Prop := (∀ W : Rat → Int, isR F0 N0 v W → W y = W x) ∧ ∀ r : Nat, r < v → ∀ W : Rat → Int, isR F0 N0 r W → W x < W y
theorem mlt_ex (hN : 1 ≤ N0) (h0 : F0 (N0 - 1) ≠ 0) {x y : Rat} (hxy : x ≤ y) : ∃ v : Nat, v < N0 ∧ mlt F0 N0 x y v := by
  have key : ∀ k : Nat, (∃ v : Nat, v < k ∧ mlt F0 N0 x y v) ∨ ∀ r : Nat, r < k → ∀ W : Rat → Int, isR F0 N0 r W → W x < W y := by
    intro k
    induction k with
    | zero => exact Or.inr (fun r hr => absurd hr (by omega))
    | succ k ih =>
      rcases ih with ⟨v, h1, h2⟩ | h
      · exact Or.inl ⟨v, by omega, h2⟩
      · obtain ⟨V, hV⟩ := isR_ex hN h0 k
        by_cases c : V y = V x
        · exact Or.inl ⟨k, by omega, fun W hW => by rw [isR_uniq hW hV, isR_uniq hW hV]; exact c, h⟩
        · refine Or.inr (fun r hr W hW => ?_)
          by_cases c2 : r = k
          · rw [c2] at hW
            rw [isR_uniq hW hV, isR_uniq hW hV]
            obtain ⟨F, n, Q, Q1, G, m, _, h2⟩ := hV
            have := cnt_mono h2.1 hxy
            omega
          · exact h r (by omega) W hW
  rcases key N0 with h | h
  · exact h
  · obtain ⟨V, hV⟩ := isR_ex hN h0 (N0 - 1)
    have h1 := h (N0 - 1) (by omega) V hV
    have h2 := isR_end hN h0 (by omega) hV hxy
    omega
theorem mlt_uniq {x y : Rat} {v w : Nat} (hN : 1 ≤ N0) (h0 : F0 (N0 - 1) ≠ 0) (h : mlt F0 N0 x y v) (k : mlt F0 N0 x y w) : v = w := by
  obtain ⟨V, hV⟩ := isR_ex hN h0 v
  obtain ⟨U, hU⟩ := isR_ex hN h0 w
  rcases Nat.lt_trichotomy v w with c | c | c
  · have := k.2 v c V hV
    have := h.1 V hV
    omega
  · exact c
  · have := h.2 w c U hU
    have := k.1 U hU
    omega
theorem mlt_iff (hN : 1 ≤ N0) (h0 : F0 (N0 - 1) ≠ 0) {x y : Rat} (hxy : x ≤ y) {v r : Nat} (h : mlt F0 N0 x y v) {W : Rat → Int} (hW : isR F0 N0 r W) : W x < W y ↔ r < v := by
  constructor
  · intro g
    rcases Nat.lt_or_ge r v with c | c
    · exact c
    · obtain ⟨V, hV⟩ := isR_ex hN h0 v
      have h1 := h.1 V hV
      have h2 := isR_le hN h0 hxy (r - v) v hV (by rw [show v + (r - v) = r by omega]; exact hW)
      omega
  · exact fun g => h.2 r g W hW
/-- a part of an interval that holds its roots -/
theorem mlt_sub (hN : 1 ≤ N0) (h0 : F0 (N0 - 1) ≠ 0) {x y a b : Rat} (h1 : x ≤ a) (h2 : a ≤ b) (h3 : b ≤ y) {V : Rat → Int} (hV : isR F0 N0 0 V) (e1 : V a = V x) (e2 : V y = V b) {v : Nat} (h : mlt F0 N0 a b v) : mlt F0 N0 x y v := by
  have key : ∀ (r : Nat) (W : Rat → Int), isR F0 N0 r W → W a = W x ∧ W y = W b := fun r W hW => by
    have t1 := isR_le hN h0 h1 r 0 hV (by rw [Nat.zero_add]; exact hW)
    have t2 := isR_le hN h0 h3 r 0 hV (by rw [Nat.zero_add]; exact hW)
    obtain ⟨F, n, Q, Q1, G, m, _, h9⟩ := hW
    have := cnt_mono h9.1 h1
    have := cnt_mono h9.1 h3
    omega
  refine ⟨fun W hW => ?_, fun r hr W hW => ?_⟩
  · have := key v W hW
    have := h.1 W hW
    omega
  · have := key r W hW
    have := h.2 r hr W hW
    omega
end
