/-- a determinant of polynomials at a point -/
theorem qD_at {M : Int} (hM : 0 ≤ M) {F x : Rat} (hF : 0 ≤ F) (K : Nat) : ∀ (k n : Nat) (P : Nat → Nat → Int), (∀ i : Nat, i < k + 1 → (∀ t : Nat, ((P i t).natAbs : Int) ≤ M) ∧ ab F (rv (P i) K x)) → ab (((qF (k + 1) : Int) : Rat) * (M : Rat) ^ k * F) (rv (qD k n P) K x)
  | 0, n, P, h => by
    have h1 := (h 0 (by omega)).2
    have e : qD 0 n P = P 0 := rfl
    have e2 : ((qF (0 + 1) : Int) : Rat) * (M : Rat) ^ 0 * F = F := by
      have : ((qF (0 + 1) : Int) : Rat) = 1 := rfl
      rw [this]; grind
    rw [e, e2]
    exact h1
  | k + 1, n, P, h => by
    have hM' : (0 : Rat) ≤ (M : Rat) := by
      have : ((0 : Int) : Rat) ≤ (M : Rat) := Rat.intCast_le_intCast.2 hM
      exact this
    have e : qD (k + 1) n P = fun t => qS (k + 2) (fun i => (qg i * P i n) * qD k (n - 1) (qd i P) t) := rfl
    obtain ⟨X, hX⟩ : ∃ X : Rat, X = ((qF (k + 1) : Int) : Rat) * (M : Rat) ^ k * F := ⟨_, rfl⟩
    have hterm : ∀ i : Nat, i < k + 2 → ab ((M : Rat) * X) (((qg i * P i n : Int) : Rat) * rv (qD k (n - 1) (qd i P)) K x) := fun i hi => by
      have a2 := qD_at hM hF K k (n - 1) (qd i P) (fun j hj => by
        unfold qd
        split
        · exact h j (by omega)
        · exact h (j + 1) (by omega))
      rw [← hX] at a2
      refine ab_mul ?_ a2
      refine cast_le_ab ?_
      have := (h i hi).1 n
      rcases qs1_g i with g | g <;> rw [g]
      · rw [Int.one_mul]; exact this
      · have e9 : (-1 * P i n).natAbs = (P i n).natAbs := by omega
        rw [e9]; exact this
    have hsum : ∀ m : Nat, m ≤ k + 2 → ab ((m : Rat) * ((M : Rat) * X)) (rv (fun t => qS m (fun i => (qg i * P i n) * qD k (n - 1) (qd i P) t)) K x) := by
      intro m
      induction m with
      | zero =>
        intro _
        have e3 : (fun t => qS 0 (fun i => (qg i * P i n) * qD k (n - 1) (qd i P) t)) = (fun _ => (0 : Int)) := rfl
        rw [e3, rv_zero]
        have e4 : ((0 : Nat) : Rat) * ((M : Rat) * X) = 0 := by
          have : ((0 : Nat) : Rat) = 0 := rfl
          rw [this]; grind
        rw [e4]; exact ab_zero (by grind)
      | succ m ihm =>
        intro hm
        have e3 : (fun t => qS (m + 1) (fun i => (qg i * P i n) * qD k (n - 1) (qd i P) t)) = (fun t => qS m (fun i => (qg i * P i n) * qD k (n - 1) (qd i P) t) + (qg m * P m n) * qD k (n - 1) (qd m P) t) := rfl
        rw [e3, rv_add, rv_smul, nat_succ]
        have := ab_add (ihm (by omega)) (hterm m (by omega))
        exact ab_le this (by grind)
    have h3 := hsum (k + 2) (Nat.le_refl _)
    rw [e]
    refine ab_le h3 ?_
    rw [hX]
    have e5 : ((qF (k + 1 + 1) : Int) : Rat) = ((k + 2 : Nat) : Rat) * ((qF (k + 1) : Int) : Rat) := by
      show ((((k + 1 : Nat) : Int) + 1) * qF (k + 1) : Int) = (_ : Rat)
      rw [Rat.intCast_mul]
      congr 1
    rw [e5, show (M : Rat) ^ (k + 1) = (M : Rat) ^ k * (M : Rat) by grind]
    grind
