/-- division with a remainder, with the quotient's length -/
theorem pdiv2 {a b : Nat → Int} {n m : Nat} (hb : b m ≠ 0) (ha : a n ≠ 0) (hmn : m ≤ n) (ho : ∀ t : Nat, m < t → b t = 0) (hao : ∀ t : Nat, n < t → a t = 0) : ∃ (A : Int) (Q r : Nat → Int) (k : Nat), A ≠ 0 ∧ k ≤ m ∧ (1 ≤ k → r (k - 1) ≠ 0) ∧ (∀ t : Nat, k ≤ t → r t = 0) ∧ (∀ j : Nat, r j = A * a j + qS (n - m + 1) (fun i => Q i * qx i b j)) ∧ ∃ (q : Nat → Int) (l : Nat), ∀ x : Rat, (A : Rat) * rv a (n + 1) x + rv q l x * rv b (m + 1) x = rv r k x := by
  obtain ⟨A, q, l, r, k, A0, k1, k2, k3⟩ := pdiv (b := b) (m := m + 1) (by omega) (by rw [Nat.add_sub_cancel]; exact hb) (n + 1) a
  have m1 : ((-1 : Int) : Rat) = -1 := rfl
  have o1 : ((1 : Int) : Rat) = 1 := rfl
  -- A a + r is minus q b
  obtain ⟨p, hp⟩ : ∃ p : Nat → Int, p = fun i => A * a i + cut r k i := ⟨_, rfl⟩
  have hpx : ∀ x : Rat, rv p (n + 1) x = (A : Rat) * rv a (n + 1) x + rv r k x := fun x => by
    rw [hp, rv_add, rv_smul, rv_le (cut_out r k) (by omega), cut_rv]
  have hpl : p (n + 1 - 1) ≠ 0 ∨ m = n := by
    by_cases c : m = n
    · exact Or.inr c
    · left
      rw [hp]
      show A * a (n + 1 - 1) + cut r k (n + 1 - 1) ≠ 0
      rw [Nat.add_sub_cancel, cut_out r k n (by omega)]
      have := Int.mul_ne_zero (show A ≠ 0 by omega) ha
      omega
  have hpl' : p (n + 1 - 1) ≠ 0 := by
    rw [hp]
    show A * a (n + 1 - 1) + cut r k (n + 1 - 1) ≠ 0
    rw [Nat.add_sub_cancel, cut_out r k n (by omega)]
    have := Int.mul_ne_zero (show A ≠ 0 by omega) ha
    omega
  obtain ⟨j, j1, j2, j3, j4⟩ := dv_deg (a := 1) (g := b) (p := p) (q := fun i => (-1) * q i) (m := m + 1) (n := n + 1) (l := l) (by decide) ⟨by omega, by rw [Nat.add_sub_cancel]; exact hb⟩ ⟨by omega, hpl'⟩ (fun x => by
    rw [hpx, rv_smul, m1, o1]
    have := k3 x
    grind)
  have ej : j = n - m := by omega
  subst ej
  have jx : ∀ x : Rat, rv q l x = rv q (n - m + 1) x := fun x => by
    have := j4 x
    rw [rv_smul, rv_smul, m1] at this
    grind
  -- the coefficients
  have hc : ∀ s : Nat, -1 * cut r k s = A * a s + qS (n - m + 1) (fun e => q e * qx e b s) := fun s => by
    have key : ∀ i : Nat, i < n + m + k + s + 3 → -1 * cut r k i = A * a i + qS (n - m + 1) (fun e => q e * qx e b i) := rv_inj (fun x => by
      rw [rv_add, rv_smul, rv_smul, rv_le (cut_out r k) (by omega), cut_rv, rv_le (n := n + 1) (fun i hi => hao i (by omega)) (by omega), rv_conv q b (m + 1) (fun i hi => ho i (by omega)) x _ _ (by omega), ← jx, m1]
      have := k3 x
      grind)
    exact key s (by omega)
  refine ⟨A, q, fun i => -1 * cut r k i, k, by omega, by omega, fun hk => ?_, fun t ht => by show -1 * cut r k t = 0; rw [cut_out r k t ht]; omega, hc, q, l, fun x => ?_⟩
  · show -1 * cut r k (k - 1) ≠ 0
    rw [show cut r k (k - 1) = r (k - 1) from if_pos (by omega)]
    have := k2 hk
    omega
  · rw [k3 x, rv_smul, cut_rv, m1]; grind
/-- two polynomials that make up 1 have a resultant -/
theorem res_ne {f0 f1 : Nat → Int} {n0 n1 : Nat} : ∀ (n : Nat) (a b : Nat → Int) (m : Nat), 1 ≤ m → qPr f0 f1 n0 n1 a b m n → a m ≠ 0 → (∀ t : Nat, m < t → a t = 0) → (∃ U V : Rat → Rat, pol U ∧ pol V ∧ ∀ x : Rat, 1 = U x * rv a (m + 1) x + V x * rv b (n + 1) x) → qSb f0 f1 n0 n1 0 0 ≠ 0 ∧ ∀ t : Nat, 1 ≤ t → qSb f0 f1 n0 n1 0 t = 0
  | n, a, b, m, hm, H, ha, hao, hbz => by
    induction n using Nat.strongRecOn generalizing a b m with
    | _ n ih =>
      obtain ⟨hb, hc, hnm, HS⟩ := H
      rcases Nat.eq_zero_or_pos n with c | c
      · -- a constant
        subst c
        obtain ⟨u, v, hu, hv, h1⟩ := HS 0 (Nat.le_refl _) (by omega)
        have h2 : ∀ t : Nat, qSb a b m 0 0 t = (b 0) ^ (m - 1) * b t := fun t => by
          have h3 := qR0_peel hb t (m - 1)
          rw [← h3]
          unfold qSb
          rw [show m + 0 - 2 * 0 - 1 = m - 1 by omega, show 0 + (m - 1) = m - 1 by omega, show 0 - 0 = 0 by omega, show m - 0 = m by omega]
          exact qD_congr t (fun i hi => by
            unfold qR
            rw [if_neg (by omega), show 0 + m - 1 - i = m - 1 - i by omega])
        refine ⟨fun g => ?_, fun t ht => ?_⟩
        · have h3 := h1 0
          rw [g, h2] at h3
          have := Int.mul_ne_zero hu (Int.mul_ne_zero (show (b 0) ^ (m - 1) ≠ 0 from Int.pow_ne_zero hc) hc)
          omega
        · have h3 := h1 t
          rw [h2, hb t (by omega)] at h3
          rcases Int.mul_eq_zero.1 (show v * qSb f0 f1 n0 n1 0 t = 0 by rw [← h3]; simp) with w | w
          · exact absurd w hv
          · exact w
      · obtain ⟨A, Q, r, k, A0, k1, k2, k3, k4, q, l, k5⟩ := pdiv2 hc ha hnm hb hao
        obtain ⟨U, V, nU, nV, hUV⟩ := hbz
        have hA' := ne_cast A0
        -- a out of b and r
        have hax : ∀ x : Rat, rv a (m + 1) x = 1 / (A : Rat) * (rv r k x + -(rv q l x * rv b (n + 1) x)) := fun x => by
          have h1 := k5 x
          have : (A : Rat) * (rv a (m + 1) x - 1 / (A : Rat) * (rv r k x + -(rv q l x * rv b (n + 1) x))) = 0 := by grind
          rcases Rat.mul_eq_zero.1 this with w | w
          · exact absurd w hA'
          · grind
        rcases Nat.eq_zero_or_pos k with c2 | c2
        · -- b divides a: then it is a constant
          exfalso
          have hS := pol_add nV (pol_mul (pol_const (1 / (A : Rat))) (pol_neg (pol_mul nU (pol_rv q l))))
          obtain ⟨d, s, l2, hd, he⟩ := hS
          obtain ⟨j, _, _, hj, _⟩ := dv_deg (a := 1) (g := b) (p := fun _ => d) (q := s) (m := n + 1) (n := 1) (l := l2) (by decide) ⟨by omega, by rw [Nat.add_sub_cancel]; exact hc⟩ ⟨by omega, hd⟩ (fun x => by
            have h2 := hUV x
            rw [hax x, c2] at h2
            have z : rv r 0 x = 0 := rfl
            rw [z] at h2
            have e1 : rv (fun _ => d) 1 x = (d : Rat) := by show 0 + (d : Rat) * x ^ 0 = _; grind
            have o1 : ((1 : Int) : Rat) = 1 := rfl
            rw [e1, o1, ← he x]
            have h3 : (d : Rat) * 1 = (d : Rat) * (U x * (1 / (A : Rat) * (0 + -(rv q l x * rv b (n + 1) x))) + V x * rv b (n + 1) x) := by rw [← h2]
            grind)
          omega
        · have hn : qPr f0 f1 n0 n1 b r n (k - 1) := by
            refine qPr_next (r := r) (Q := Q) (f2 := r) (l := k - 1) (u := A) (c := 1) (e := 1) ⟨hb, hc, hnm, HS⟩ A0 ⟨by decide, by decide⟩ (by omega) ?_ (fun t ht => k3 t (by omega)) (fun t => rfl) (k2 c2)
            exact k4
          refine ih (k - 1) (by omega) b r n c hn hc hb ⟨fun x => V x + 1 / (A : Rat) * -(U x * rv q l x), fun x => 1 / (A : Rat) * U x, pol_add nV (pol_mul (pol_const _) (pol_neg (pol_mul nU (pol_rv q l)))), pol_mul (pol_const _) nU, fun x => ?_⟩
          have h2 := hUV x
          rw [hax x] at h2
          rw [show k - 1 + 1 = k by omega, h2]
          grind
