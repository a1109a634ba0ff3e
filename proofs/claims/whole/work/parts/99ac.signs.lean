/-- a step of the count of changes, with plain signs -/
theorem vs_step {s : Nat → Int} (hs : ∀ k : Nat, (s k).sign = s k) (k : Nat) : vl s (k + 1) = (if s k = 0 then vl s k else s k) ∧ vc s (k + 1) = (if s k ≠ 0 ∧ vl s k ≠ 0 ∧ s k ≠ vl s k then vc s k + 1 else vc s k) := by
  simp only [vl, vc, hs]
  exact ⟨trivial, trivial⟩
/-- two lists of signs that differ only where their neighbours stand still with unlike signs -/
theorem vc_cell {s t : Nat → Int} {m : Nat} (hs : ∀ k : Nat, s k = -1 ∨ s k = 0 ∨ s k = 1) (ht : ∀ k : Nat, t k = -1 ∨ t k = 0 ∨ t k = 1)
    (h : ∀ k : Nat, k ≤ m → ¬ (s k = t k ∧ s k ≠ 0) → (1 ≤ k → s (k - 1) = t (k - 1) ∧ s (k - 1) ≠ 0) ∧ (k < m → s (k + 1) = t (k + 1) ∧ s (k + 1) ≠ 0) ∧ (1 ≤ k → k < m → s (k - 1) = - s (k + 1)))
    (hm : s m = t m ∧ s m ≠ 0) :
    ((vc s (m + 1) : Nat) : Int) - ((vc t (m + 1) : Nat) : Int) = if s 0 = t 0 ∧ s 0 ≠ 0 then 0 else (if s 0 = - s 1 then (if s 0 ≠ 0 then 1 else 0) else 0) - (if t 0 = - t 1 then (if t 0 ≠ 0 then 1 else 0) else 0) := by
  have hs1 : ∀ k : Nat, (s k).sign = s k := fun k => by rcases hs k with g | g | g <;> rw [g] <;> rfl
  have ht1 : ∀ k : Nat, (t k).sign = t k := fun k => by rcases ht k with g | g | g <;> rw [g] <;> rfl
  obtain ⟨D, hD⟩ : ∃ D : Int, D = if s 0 = t 0 ∧ s 0 ≠ 0 then 0 else (if s 0 = - s 1 then (if s 0 ≠ 0 then 1 else 0) else 0) - (if t 0 = - t 1 then (if t 0 ≠ 0 then 1 else 0) else 0) := ⟨_, rfl⟩
  rw [← hD]
  have key : ∀ n k : Nat, k ≤ n → k ≤ m → (s k = t k ∧ s k ≠ 0) → vl s (k + 1) = s k ∧ vl t (k + 1) = s k ∧ ((vc s (k + 1) : Nat) : Int) - ((vc t (k + 1) : Nat) : Int) = D := by
    intro n
    induction n with
    | zero =>
      intro k h1 h2 h3
      obtain rfl : k = 0 := by omega
      rw [if_pos h3] at hD
      obtain ⟨a1, a2⟩ := vs_step hs1 0
      obtain ⟨b1, b2⟩ := vs_step ht1 0
      have e0 : vl s 0 = 0 := rfl
      have e1 : vl t 0 = 0 := rfl
      have e2 : vc s 0 = 0 := rfl
      have e3 : vc t 0 = 0 := rfl
      rw [a1, b1, a2, b2, hD, e0, e1, e2, e3]
      have := h3.1
      have := h3.2
      refine ⟨by rw [if_neg h3.2], by rw [if_neg (by omega)]; omega, ?_⟩
      rw [if_neg (by omega), if_neg (by omega)]
      omega
    | succ n ih =>
      intro k h1 h2 h3
      by_cases c : k ≤ n
      · exact ih k c h2 h3
      · obtain rfl : k = n + 1 := by omega
        obtain ⟨a1, a2⟩ := vs_step hs1 (n + 1)
        obtain ⟨b1, b2⟩ := vs_step ht1 (n + 1)
        have hsk := hs (n + 1)
        by_cases c2 : s n = t n ∧ s n ≠ 0
        · obtain ⟨g1, g2, g3⟩ := ih n (Nat.le_refl _) (by omega) c2
          rw [a1, a2, b1, b2, g1, g2]
          refine ⟨by rw [if_neg h3.2], by rw [← h3.1, if_neg h3.2], ?_⟩
          rw [← h3.1]
          split <;> omega
        · obtain ⟨k1, k2, k3⟩ := h n (by omega) c2
          obtain ⟨a3, a4⟩ := vs_step hs1 n
          obtain ⟨b3, b4⟩ := vs_step ht1 n
          have hsn := hs n
          have htn := ht n
          by_cases c3 : n = 0
          · subst c3
            have e0 : vl s 0 = 0 := rfl
            have e1 : vl t 0 = 0 := rfl
            have e2 : vc s 0 = 0 := rfl
            have e3 : vc t 0 = 0 := rfl
            rw [if_neg c2] at hD
            have h30 := h3.1
            have h31 := h3.2
            rw [a1, a2, b1, b2, a3, a4, b3, b4, hD, e0, e1, e2, e3]
            rw [← h30]
            simp only [Nat.zero_add] at *
            rcases hsn with x | x | x <;> rcases htn with y | y | y <;> rcases hsk with z | z | z <;> simp [x, y, z] at *
          · obtain ⟨j, rfl⟩ : ∃ j : Nat, n = j + 1 := ⟨n - 1, by omega⟩
            have d1 := k1 (by omega)
            have d2 := k3 (by omega) (by omega)
            simp only [Nat.add_sub_cancel] at d1 d2
            obtain ⟨g1, g2, g3⟩ := ih j (by omega) (by omega) d1
            have h30 := h3.1
            rw [a1, a2, b1, b2, a3, a4, b3, b4, g1, g2]
            rw [← h30]
            rcases hsn with x | x | x <;> rcases htn with y | y | y <;> rcases hsk with z | z | z <;> simp [x, y, z] at * <;> (try simp [d2] at *) <;> omega
  exact (key m m (Nat.le_refl _) (Nat.le_refl _) hm).2.2
