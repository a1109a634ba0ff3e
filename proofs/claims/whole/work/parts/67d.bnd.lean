/-- the factorial -/
def qF : Nat → Int
  | 0 => 1
  | k + 1 => ((k : Int) + 1) * qF k

theorem qF_pos : ∀ k : Nat, 0 < qF k := by
  intro k
  induction k with
  | zero => exact Int.one_pos
  | succ k ih => exact Int.mul_pos (by omega) ih

theorem q_abs_mul_le {x y A B : Int} (hx : -A ≤ x ∧ x ≤ A) (hy : -B ≤ y ∧ y ≤ B) : -(A * B) ≤ x * y ∧ x * y ≤ A * B := by
  have hA : 0 ≤ A := by omega
  have hB : 0 ≤ B := by omega
  have h1 : (x * y).natAbs ≤ (A * B).natAbs := by
    rw [Int.natAbs_mul, Int.natAbs_mul]
    exact Nat.mul_le_mul (by omega) (by omega)
  have h2 : 0 ≤ A * B := Int.mul_nonneg hA hB
  omega

theorem qS_abs_le {k : Nat} {F : Nat → Int} {B : Int} (h : ∀ i : Nat, i < k → -B ≤ F i ∧ F i ≤ B) : -((k : Int) * B) ≤ qS k F ∧ qS k F ≤ (k : Int) * B := by
  induction k with
  | zero => show -((0 : Int) * B) ≤ 0 ∧ 0 ≤ (0 : Int) * B; rw [Int.zero_mul]; omega
  | succ k ih =>
    have h1 := ih (fun i hi => h i (by omega))
    have h2 := h k (by omega)
    have e : ((k + 1 : Nat) : Int) * B = (k : Int) * B + B := by rw [Int.natCast_add, Int.add_mul]; omega
    rw [e]
    show -((k : Int) * B + B) ≤ qS k F + F k ∧ qS k F + F k ≤ (k : Int) * B + B
    omega

/-- a sum of rows is looked at by something linear -/
theorem qD_phi {φ : (Nat → Int) → Int} (h0 : φ (fun _ => 0) = 0) (ha : ∀ (u v : Int) (x y : Nat → Int), φ (fun t => u * x t + v * y t) = u * φ x + v * φ y) {M F : Int} {k : Nat} :
    ∀ {n : Nat} {P : Nat → Nat → Int}, (∀ i : Nat, i < k + 1 → (∀ t : Nat, -M ≤ P i t ∧ P i t ≤ M) ∧ -F ≤ φ (P i) ∧ φ (P i) ≤ F) →
    -(qF (k + 1) * M ^ k * F) ≤ φ (qD k n P) ∧ φ (qD k n P) ≤ qF (k + 1) * M ^ k * F := by
  induction k with
  | zero =>
    intro n P h
    have h1 := (h 0 (by omega)).2
    have e : qF (0 + 1) * M ^ 0 * F = F := by
      rw [Int.pow_zero]
      show ((0 : Int) + 1) * 1 * 1 * F = F
      omega
    rw [e]
    exact h1
  | succ k ih =>
    intro n P h
    have aux : ∀ m : Nat, m ≤ k + 2 → φ (fun t => qS m (fun i => qg i * P i n * qD k (n - 1) (qd i P) t)) = qS m (fun i => qg i * P i n * φ (qD k (n - 1) (qd i P))) := by
      intro m
      induction m with
      | zero => intro _; exact h0
      | succ m ihm =>
        intro hm
        have h1 := ha 1 (qg m * P m n) (fun t => qS m (fun i => qg i * P i n * qD k (n - 1) (qd i P) t)) (qD k (n - 1) (qd m P))
        rw [ihm (by omega), Int.one_mul] at h1
        rw [show (fun t => qS (m + 1) (fun i => qg i * P i n * qD k (n - 1) (qd i P) t)) = (fun t => (1 : Int) * qS m (fun i => qg i * P i n * qD k (n - 1) (qd i P) t) + qg m * P m n * qD k (n - 1) (qd m P) t) from funext (fun t => by rw [Int.one_mul]; rfl), h1]
        rfl
    have h2 : φ (qD (k + 1) n P) = qS (k + 2) (fun i => qg i * P i n * φ (qD k (n - 1) (qd i P))) := aux (k + 2) (by omega)
    rw [h2]
    have h3 := qS_abs_le (k := k + 2) (F := fun i => qg i * P i n * φ (qD k (n - 1) (qd i P))) (B := M * (qF (k + 1) * M ^ k * F)) (fun i hi => by
      have a1 := (h i hi).1 n
      have a2 := ih (n := n - 1) (P := qd i P) (fun j hj => by
        unfold qd
        split
        · exact h j (by omega)
        · exact h (j + 1) (by omega))
      have a3 : -M ≤ qg i * P i n ∧ qg i * P i n ≤ M := by
        rcases qs1_g i with e | e <;> rw [e] <;> omega
      exact q_abs_mul_le a3 a2)
    have e : ((k + 2 : Nat) : Int) * (M * (qF (k + 1) * M ^ k * F)) = qF (k + 1 + 1) * M ^ (k + 1) * F := by
      show _ = (((k + 1 : Nat) : Int) + 1) * qF (k + 1) * M ^ (k + 1) * F
      rw [Int.pow_succ]
      have e2 : ((k + 2 : Nat) : Int) = ((k + 1 : Nat) : Int) + 1 := by omega
      rw [e2]
      generalize ((k + 1 : Nat) : Int) + 1 = z
      generalize M ^ k = w
      grind
    rw [e] at h3
    exact h3

theorem qD_bd {M : Int} {k n : Nat} {P : Nat → Nat → Int} (h : ∀ i : Nat, i < k + 1 → ∀ t : Nat, -M ≤ P i t ∧ P i t ≤ M) (t : Nat) : -(qF (k + 1) * M ^ (k + 1)) ≤ qD k n P t ∧ qD k n P t ≤ qF (k + 1) * M ^ (k + 1) := by
  have h1 := qD_phi (φ := fun x => x t) (M := M) (F := M) (k := k) (n := n) (P := P) rfl (fun u v x y => rfl) (fun i hi => ⟨h i hi, h i hi t⟩)
  rw [Int.mul_assoc, ← Int.pow_succ] at h1
  exact h1

theorem qx_bd {M : Int} {f : Nat → Int} (hM : 0 ≤ M) (h : ∀ t : Nat, -M ≤ f t ∧ f t ≤ M) (i t : Nat) : -M ≤ qx i f t ∧ qx i f t ≤ M := by
  unfold qx
  split
  · exact h _
  · omega

theorem qR_bd {M : Int} {f g : Nat → Int} (hM : 0 ≤ M) (hf : ∀ t : Nat, -M ≤ f t ∧ f t ≤ M) (hg : ∀ t : Nat, -M ≤ g t ∧ g t ≤ M) (p q i t : Nat) : -M ≤ qR f g p q i t ∧ qR f g p q i t ≤ M := by
  unfold qR
  split
  · exact qx_bd hM hf _ _
  · exact qx_bd hM hg _ _

/-- subresultants are not great -/
theorem qSb_bd {M : Int} {f g : Nat → Int} {m n j : Nat} (hM : 0 ≤ M) (hf : ∀ t : Nat, -M ≤ f t ∧ f t ≤ M) (hg : ∀ t : Nat, -M ≤ g t ∧ g t ≤ M) (t : Nat) :
    -(qF (m + n - 2 * j - 1 + 1) * M ^ (m + n - 2 * j - 1 + 1)) ≤ qSb f g m n j t ∧ qSb f g m n j t ≤ qF (m + n - 2 * j - 1 + 1) * M ^ (m + n - 2 * j - 1 + 1) :=
  qD_bd (fun i _ t => qR_bd hM hf hg _ _ i t) t
