/-- the polynomial (g, m) divides (p, n), up to a whole factor -/
def pdv (g : Nat → Int) (m : Nat) (p : Nat → Int) (n : Nat) : Prop := ∃ (a : Int) (q : Nat → Int) (l : Nat), a ≠ 0 ∧ ∀ x : Rat, (a : Rat) * rv p n x = rv q l x * rv g m x
/-- beyond its length nothing -/
def cut (p : Nat → Int) (n : Nat) : Nat → Int := fun i => if i < n then p i else 0
theorem cut_rv (p : Nat → Int) (n : Nat) (x : Rat) : rv (cut p n) n x = rv p n x := rv_congr x (fun i hi => if_pos hi)
theorem cut_out (p : Nat → Int) (n : Nat) : ∀ i : Nat, n ≤ i → cut p n i = 0 := fun _ h => if_neg (by omega)
/-- a product is a polynomial -/
theorem rv_prod (p q : Nat → Int) (n m : Nat) : ∃ r : Nat → Int, ∀ x : Rat, rv r (m + n) x = rv q n x * rv p m x := ⟨fun s => qS n (fun e => q e * qx e (cut p m) s), fun x => by
  rw [rv_conv q (cut p m) m (cut_out p m) x n (m + n) (Nat.le_refl _), cut_rv]⟩
theorem rv_sum (p q : Nat → Int) (n m : Nat) (u v : Int) : ∃ r : Nat → Int, ∀ x : Rat, rv r (m + n) x = (u : Rat) * rv q n x + (v : Rat) * rv p m x := ⟨fun s => u * cut q n s + v * cut p m s, fun x => by
  rw [rv_add, rv_smul, rv_smul, rv_le (cut_out q n) (by omega), rv_le (cut_out p m) (by omega), cut_rv, cut_rv]⟩
theorem dv_refl (g : Nat → Int) (m : Nat) : pdv g m g m := ⟨1, fun _ => 1, 1, by decide, fun x => by
  show ((1 : Int) : Rat) * _ = (0 + ((1 : Int) : Rat) * x ^ 0) * _
  have : ((1 : Int) : Rat) = 1 := rfl
  rw [this]; grind⟩
theorem ne_cast {a : Int} (h : a ≠ 0) : (a : Rat) ≠ 0 := fun g => by
  have : (a : Rat) = ((0 : Int) : Rat) := g
  exact h (Rat.intCast_inj.1 this)
/-- what divides two polynomials divides what is made of them -/
theorem dv_comb {g p1 p2 p3 u1 u2 : Nat → Int} {m n1 n2 n3 l1 l2 : Nat} {a : Int} (ha : a ≠ 0) (h1 : pdv g m p1 n1) (h2 : pdv g m p2 n2) (h : ∀ x : Rat, (a : Rat) * rv p3 n3 x = rv u1 l1 x * rv p1 n1 x + rv u2 l2 x * rv p2 n2 x) : pdv g m p3 n3 := by
  obtain ⟨a1, q1, k1, e1, f1⟩ := h1
  obtain ⟨a2, q2, k2, e2, f2⟩ := h2
  obtain ⟨r1, g1⟩ := rv_prod q1 u1 l1 k1
  obtain ⟨r2, g2⟩ := rv_prod q2 u2 l2 k2
  obtain ⟨r, g3⟩ := rv_sum r2 r1 (k1 + l1) (k2 + l2) a2 a1
  refine ⟨a * a1 * a2, r, k2 + l2 + (k1 + l1), ?_, fun x => ?_⟩
  · exact Int.mul_ne_zero (Int.mul_ne_zero ha e1) e2
  · rw [g3, g1, g2, Rat.intCast_mul, Rat.intCast_mul]
    have := h x
    have := f1 x
    have := f2 x
    have t1 : (a : Rat) * a1 * a2 * rv p3 n3 x = a2 * rv u1 l1 x * (a1 * rv p1 n1 x) + a1 * rv u2 l2 x * (a2 * rv p2 n2 x) := by grind
    rw [t1, f1, f2]
    grind
theorem dv_scale {g p q : Nat → Int} {m n l : Nat} {a b : Int} (ha : a ≠ 0) (h : pdv g m p n) (e : ∀ x : Rat, (a : Rat) * rv q l x = (b : Rat) * rv p n x) : pdv g m q l := by
  refine dv_comb (u1 := fun _ => b) (u2 := fun _ => 0) (l1 := 1) (l2 := 0) ha h h (fun x => ?_)
  rw [e]
  show _ = (0 + (b : Rat) * x ^ 0) * _ + 0 * _
  grind
theorem dv_zero (g p : Nat → Int) (m n : Nat) (h : ∀ i : Nat, i < n → p i = 0) : pdv g m p n := ⟨1, fun _ => 0, 0, by decide, fun x => by
  have e : rv p n x = rv (fun _ => 0) n x := rv_congr x h
  rw [e, rv_zero]
  show ((1 : Int) : Rat) * 0 = 0 * _
  grind⟩
theorem dv_trans {g p q : Nat → Int} {m n l : Nat} (h1 : pdv g m p n) (h2 : pdv p n q l) : pdv g m q l := by
  obtain ⟨a, u, k, ha, e⟩ := h2
  refine dv_comb (u1 := u) (u2 := fun _ => 0) (l1 := k) (l2 := 0) ha h1 h1 (fun x => ?_)
  rw [e]
  show _ = _ + 0 * _
  grind
/-- the top of a polynomial -/
theorem has_top {q : Nat → Int} : ∀ l : Nat, (∀ i : Nat, i < l → q i = 0) ∨ ∃ n : Nat, n < l ∧ q n ≠ 0 ∧ ∀ i : Nat, n < i → i < l → q i = 0
  | 0 => Or.inl (fun i hi => absurd hi (by omega))
  | l + 1 => by
    by_cases c : q l = 0
    · rcases has_top l with g | ⟨n, g1, g2, g3⟩
      · refine Or.inl (fun i hi => ?_)
        by_cases c2 : i = l
        · rw [c2]; exact c
        · exact g i (by omega)
      · refine Or.inr ⟨n, by omega, g2, fun i h1 h2 => ?_⟩
        by_cases c2 : i = l
        · rw [c2]; exact c
        · exact g3 i h1 (by omega)
    · exact Or.inr ⟨l, by omega, c, fun i h1 h2 => absurd h1 (by omega)⟩
theorem rv_trim {q : Nat → Int} {n l : Nat} (hn : n < l) (h : ∀ i : Nat, n < i → i < l → q i = 0) (x : Rat) : rv q l x = rv q (n + 1) x := by
  have e1 : rv q l x = rv (cut q (n + 1)) l x := rv_congr x (fun i hi => by
    unfold cut
    by_cases c : i < n + 1
    · rw [if_pos c]
    · rw [if_neg c]; exact h i (by omega) hi)
  rw [e1, rv_le (cut_out q (n + 1)) (by omega), cut_rv]
/-- the degrees of a product -/
theorem dv_deg {g p q : Nat → Int} {m n l : Nat} {a : Int} (ha : a ≠ 0) (hg : 1 ≤ m ∧ g (m - 1) ≠ 0) (hp : 1 ≤ n ∧ p (n - 1) ≠ 0) (h : ∀ x : Rat, (a : Rat) * rv p n x = rv q l x * rv g m x) : ∃ j : Nat, j < l ∧ q j ≠ 0 ∧ n = j + m ∧ ∀ x : Rat, rv q l x = rv q (j + 1) x := by
  rcases has_top (q := q) l with c | ⟨j, j1, j2, j3⟩
  · exfalso
    obtain ⟨z, _, _, hz⟩ := dense hp.1 hp.2 0 1 (by grind)
    have e : rv q l z = rv (fun _ => 0) l z := rv_congr z c
    have := h z
    rw [e, rv_zero] at this
    have h2 : (a : Rat) * rv p n z = 0 := by grind
    rcases Rat.mul_eq_zero.1 h2 with u | u
    · exact ne_cast ha u
    · exact hz u
  · have htr : ∀ x : Rat, rv q l x = rv q (j + 1) x := rv_trim j1 j3
    refine ⟨j, j1, j2, ?_, htr⟩
    -- both sides as coefficients
    obtain ⟨r, hr⟩ : ∃ r : Nat → Int, r = fun s => qS (j + 1) (fun e => q e * qx e (cut g m) s) := ⟨_, rfl⟩
    have hrx : ∀ K : Nat, m + (j + 1) ≤ K → ∀ x : Rat, rv r K x = rv q (j + 1) x * rv g m x := fun K hK x => by
      rw [hr, rv_conv q (cut g m) m (cut_out g m) x (j + 1) K hK, cut_rv]
    obtain ⟨K, hK⟩ : ∃ K : Nat, K = m + (j + 1) + n := ⟨_, rfl⟩
    have heq : ∀ i : Nat, i < K → a * cut p n i = r i := rv_inj (n := K) (fun x => by
      rw [rv_smul, rv_le (cut_out p n) (by omega), cut_rv, h x, htr x, hrx K (by omega)])
    have htop : r (j + (m - 1)) = q j * g (m - 1) := by
      rw [hr]
      show qS j (fun e => q e * qx e (cut g m) (j + (m - 1))) + q j * qx j (cut g m) (j + (m - 1)) = _
      have z : qS j (fun e => q e * qx e (cut g m) (j + (m - 1))) = 0 := qS_zero (fun e he => by
        unfold qx
        rw [if_pos (by omega), cut_out g m _ (by omega)]; omega)
      rw [z]
      unfold qx cut
      rw [if_pos (by omega), show j + (m - 1) - j = m - 1 by omega, if_pos (by omega)]; omega
    have hab : ∀ s : Nat, j + (m - 1) < s → r s = 0 := fun s hs => by
      rw [hr]
      exact qS_zero (fun e he => by
        unfold qx
        by_cases c : e ≤ s
        · rw [if_pos c, cut_out g m _ (by omega)]; omega
        · rw [if_neg c]; omega)
    have h1 := heq (j + (m - 1)) (by omega)
    rw [htop] at h1
    have h2 : q j * g (m - 1) ≠ 0 := Int.mul_ne_zero j2 hg.2
    have h3 : j + (m - 1) < n := by
      rcases Nat.lt_or_ge (j + (m - 1)) n with c | c
      · exact c
      · rw [cut_out p n _ c] at h1; omega
    rcases Nat.lt_or_ge (j + (m - 1)) (n - 1) with c | c
    · exfalso
      have h4 := heq (n - 1) (by omega)
      rw [hab (n - 1) (by omega)] at h4
      unfold cut at h4
      rw [if_pos (by omega)] at h4
      exact Int.mul_ne_zero ha hp.2 h4
    · omega
/-- polynomials that divide each other are alike up to a factor -/
theorem dv_both {g p : Nat → Int} {m n : Nat} (hg : 1 ≤ m ∧ g (m - 1) ≠ 0) (hp : 1 ≤ n ∧ p (n - 1) ≠ 0) (h1 : pdv g m p n) (h2 : pdv p n g m) : m = n ∧ ∃ k : Rat, k ≠ 0 ∧ ∀ x : Rat, rv p n x = k * rv g m x := by
  obtain ⟨a, q, l, ha, e⟩ := h1
  obtain ⟨b, r, l2, hb, f⟩ := h2
  obtain ⟨j, j1, j2, j3, j4⟩ := dv_deg ha hg hp e
  obtain ⟨i, i1, i2, i3, i4⟩ := dv_deg hb hp hg f
  have ej : j = 0 := by omega
  refine ⟨by omega, (q 0 : Rat) / (a : Rat), ?_, fun x => ?_⟩
  · have h3 := ne_cast ha
    have h4 : (q 0 : Rat) ≠ 0 := by rw [ej] at j2; exact ne_cast j2
    intro g
    have : (q 0 : Rat) = (q 0 : Rat) / (a : Rat) * (a : Rat) := by grind
    rw [g] at this
    grind
  · have h3 := ne_cast ha
    have h4 := e x
    rw [j4 x, ej] at h4
    have h5 : rv q (0 + 1) x = (q 0 : Rat) := by show 0 + (q 0 : Rat) * x ^ 0 = _; grind
    rw [h5] at h4
    grind
/-- an identity at all whole points is one everywhere -/
theorem int_all {c e : Nat → Int} : ∀ {n : Nat}, (∀ t : Int, rv c n (t : Rat) = rv e n (t : Rat)) → ∀ i : Nat, i < n → c i = e i
  | 0, _, i, hi => absurd hi (by omega)
  | n + 1, h, i, hi => by
    have htop : c n = e n := by
      refine Classical.byContradiction fun hn => ?_
      obtain ⟨X, x1, x2⟩ := arch (csum (fun i => c i + (-1) * e i) n + 1)
      have h1 := rv_top (c := fun i => c i + (-1) * e i) (n := n) (by show c n + (-1) * e n ≠ 0; omega) (X := (X : Rat)) (x := (X : Rat)) x2 (Or.inl rfl)
      have hX : (0 : Rat) < (X : Rat) := by have := nat_le x1; grind
      rw [rsg_pow_pos hX, rv_add, rv_smul] at h1
      have h2 := h (X : Int)
      have e0 : (((X : Int)) : Rat) = (X : Rat) := rfl
      rw [e0] at h2
      rw [h2] at h1
      have m1 : ((-1 : Int) : Rat) = -1 := rfl
      rw [m1, show rv e (n + 1) (X : Rat) + -1 * rv e (n + 1) (X : Rat) = 0 by grind, rsg_zero, Int.mul_one] at h1
      have h3 := Int.sign_eq_zero_iff_zero.1 h1.symm
      have h4 : c n + (-1) * e n = 0 := h3
      omega
    by_cases c1 : i = n
    · rw [c1]; exact htop
    · refine int_all (n := n) (fun t => ?_) i (by omega)
      have h2 : rv c n (t : Rat) + (c n : Rat) * (t : Rat) ^ n = rv e n (t : Rat) + (e n : Rat) * (t : Rat) ^ n := h t
      rw [htop] at h2
      grind
theorem ev_rv (c : Nat → Int) (t : Int) : ∀ n : Nat, ((ev c n t : Int) : Rat) = rv c n (t : Rat)
  | 0 => rfl
  | n + 1 => by
    show ((ev c n t + c n * t ^ n : Int) : Rat) = rv c n (t : Rat) + (c n : Rat) * (t : Rat) ^ n
    rw [Rat.intCast_add, Rat.intCast_mul, cast_pow, ev_rv c t n]
/-- an identity of the chain of remainders, at every point -/
theorem ev_all {a b q y : Nat → Int} {n m l j : Nat} {u : Int} (h : ∀ t : Int, u * ev a n t = ev q l t * ev b m t + ev y j t) (x : Rat) : (u : Rat) * rv a n x = rv q l x * rv b m x + rv y j x := by
  obtain ⟨r, hr⟩ := rv_prod b q l m
  obtain ⟨r2, hr2⟩ := rv_sum y r (m + l) j 1 1
  have one : ((1 : Int) : Rat) = 1 := rfl
  obtain ⟨K, hK⟩ : ∃ K : Nat, K = j + (m + l) + n := ⟨_, rfl⟩
  have heq : ∀ i : Nat, i < K → u * cut a n i = cut r2 (j + (m + l)) i := int_all (n := K) (fun t => by
    rw [rv_smul, rv_le (cut_out a n) (by omega), cut_rv, rv_le (cut_out r2 _) (by omega), cut_rv, hr2, hr, ← ev_rv, ← ev_rv, ← ev_rv, ← ev_rv, one]
    have := congrArg (fun z : Int => (z : Rat)) (h t)
    simp only [Rat.intCast_mul, Rat.intCast_add] at this
    rw [this]; grind)
  have h2 : rv (fun i => u * cut a n i) K x = rv (cut r2 (j + (m + l))) K x := rv_congr x heq
  rw [rv_smul, rv_le (cut_out a n) (by omega), cut_rv, rv_le (cut_out r2 _) (by omega), cut_rv, hr2, hr, one] at h2
  rw [h2]; grind
/-- two smooth functions that agree at points of every interval agree -/
theorem agree_dense {f g : Rat → Rat} (hf : ∀ B : Rat, 0 ≤ B → nice B f) (hg : ∀ B : Rat, 0 ≤ B → nice B g) (h : ∀ x y : Rat, x < y → ∃ z : Rat, x < z ∧ z < y ∧ f z = g z) (x : Rat) : f x = g x := by
  refine Classical.byContradiction fun hn => ?_
  obtain ⟨b, b0, b1⟩ := ab_self (x := x)
  have hd : nice (b + 1) (fun z => f z + -(g z)) := nice_add (hf _ (by grind)) (nice_neg (hg _ (by grind)))
  obtain ⟨q, q0, hq⟩ : ∃ q : Rat, 0 < q ∧ (f x - g x = q ∨ f x - g x = -q) := by
    by_cases c : 0 < f x - g x
    · exact ⟨_, c, Or.inl rfl⟩
    · exact ⟨-(f x - g x), by grind, Or.inr (by grind)⟩
  obtain ⟨h0, p0, p1⟩ := nice_small hd (d := q / 2) (by grind)
  obtain ⟨k, k0, k1, k2⟩ := pos_min p0 (show (0 : Rat) < 1 by grind)
  obtain ⟨z, z1, z2, z3⟩ := h x (x + k) (by grind)
  have hx : ab (b + 1) x := ab_le b1 (by grind)
  have hz : ab (b + 1) z := by unfold ab at *; constructor <;> grind
  have := p1 x z hx hz (by grind) (by grind)
  unfold ab at this
  grind
