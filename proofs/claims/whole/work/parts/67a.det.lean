/-- the sum of the first k values -/
def qS : Nat → (Nat → Int) → Int
  | 0, _ => 0
  | k + 1, F => qS k F + F k

theorem qS_congr {k : Nat} {F H : Nat → Int} (h : ∀ i : Nat, i < k → F i = H i) : qS k F = qS k H := by
  induction k with
  | zero => rfl
  | succ k ih =>
    show qS k F + F k = qS k H + H k
    rw [ih (fun i hi => h i (by omega)), h k (by omega)]

theorem qS_zero {k : Nat} {F : Nat → Int} (h : ∀ i : Nat, i < k → F i = 0) : qS k F = 0 := by
  induction k with
  | zero => rfl
  | succ k ih =>
    show qS k F + F k = 0
    rw [ih (fun i hi => h i (by omega)), h k (by omega)]; rfl

theorem qS_add (k : Nat) (F H : Nat → Int) : qS k (fun i => F i + H i) = qS k F + qS k H := by
  induction k with
  | zero => rfl
  | succ k ih =>
    show qS k (fun i => F i + H i) + (F k + H k) = (qS k F + F k) + (qS k H + H k)
    rw [ih]; omega

theorem qS_mul (k : Nat) (a : Int) (F : Nat → Int) : qS k (fun i => a * F i) = a * qS k F := by
  induction k with
  | zero => exact (Int.mul_zero a).symm
  | succ k ih =>
    show qS k (fun i => a * F i) + a * F k = a * (qS k F + F k)
    rw [ih, Int.mul_add]

theorem qS_neg (k : Nat) (F : Nat → Int) : qS k (fun i => - F i) = - qS k F := by
  induction k with
  | zero => rfl
  | succ k ih =>
    show qS k (fun i => - F i) + - F k = -(qS k F + F k)
    rw [ih]; omega

/-- a sum with one value that counts -/
theorem qS_one {k i : Nat} {F : Nat → Int} (hi : i < k) (h : ∀ j : Nat, j < k → j ≠ i → F j = 0) : qS k F = F i := by
  induction k with
  | zero => exact absurd hi (by omega)
  | succ k ih =>
    show qS k F + F k = F i
    by_cases hk : i = k
    · subst hk
      rw [qS_zero (fun j hj => h j (by omega) (by omega))]; omega
    · rw [ih (by omega) (fun j hj => h j (by omega)), h k (by omega) (fun e => hk e.symm)]; omega

/-- a sum with two values that count -/
theorem qS_two {k i : Nat} {F : Nat → Int} (hi : i + 1 < k) (h : ∀ j : Nat, j < k → j ≠ i → j ≠ i + 1 → F j = 0) : qS k F = F i + F (i + 1) := by
  induction k with
  | zero => exact absurd hi (by omega)
  | succ k ih =>
    show qS k F + F k = F i + F (i + 1)
    by_cases hk : i + 1 = k
    · subst hk
      rw [qS_one (i := i) (by omega) (fun j hj hn => h j (by omega) hn (by omega))]
    · rw [ih (by omega) (fun j hj => h j (by omega)), h k (by omega) (by omega) (fun e => hk e.symm)]; omega

/-- a sum is taken from the front -/
theorem qS_front (k : Nat) (F : Nat → Int) : qS (k + 1) F = F 0 + qS k (fun i => F (i + 1)) := by
  induction k with
  | zero => show 0 + F 0 = F 0 + 0; omega
  | succ k ih =>
    show qS (k + 1) F + F (k + 1) = F 0 + (qS k (fun i => F (i + 1)) + F (k + 1))
    rw [ih]; omega

/-- 1, -1, 1 .. -/
def qg (i : Nat) : Int := if i % 2 = 0 then 1 else -1

theorem qg_succ (i : Nat) : qg (i + 1) = - qg i := by
  unfold qg
  by_cases h : i % 2 = 0
  · rw [if_pos h, if_neg (by omega)]
  · rw [if_neg h, if_pos (by omega)]; rfl

/-- all but the i-th -/
def qd {α : Type} (i : Nat) (P : Nat → α) : Nat → α := fun j => if j < i then P j else P (j + 1)

/-- the determinant polynomial of k + 1 rows, by the columns n, n - 1, .. -/
def qD : Nat → Nat → (Nat → Nat → Int) → Nat → Int
  | 0, _, P, t => P 0 t
  | k + 1, n, P, t => qS (k + 2) (fun i => qg i * P i n * qD k (n - 1) (qd i P) t)

theorem qD_congr {k : Nat} : ∀ {n : Nat} {P R : Nat → Nat → Int} (t : Nat), (∀ i : Nat, i < k + 1 → P i = R i) → qD k n P t = qD k n R t := by
  induction k with
  | zero => intro n P R t h; show P 0 t = R 0 t; rw [h 0 (by omega)]
  | succ k ih =>
    intro n P R t h
    refine qS_congr (fun i hi => ?_)
    rw [h i hi, ih (P := qd i P) (R := qd i R) t (fun j hj => ?_)]
    show (if j < i then P j else P (j + 1)) = (if j < i then R j else R (j + 1))
    by_cases hji : j < i
    · rw [if_pos hji, if_pos hji, h j (by omega)]
    · rw [if_neg hji, if_neg hji, h (j + 1) (by omega)]

theorem qd_qu_lt {α : Type} (P : Nat → α) {i j : Nat} (x : α) (h : j < i) : qd j (qu P i x) = qu (qd j P) (i - 1) x := by
  funext t
  show (if t < j then (if t = i then x else P t) else (if t + 1 = i then x else P (t + 1))) = (if t = i - 1 then x else (if t < j then P t else P (t + 1)))
  by_cases h1 : t < j
  · rw [if_pos h1, if_pos h1, if_neg (by omega), if_neg (by omega)]
  · rw [if_neg h1, if_neg h1]
    by_cases h2 : t + 1 = i
    · rw [if_pos h2, if_pos (by omega)]
    · rw [if_neg h2, if_neg (by omega)]

theorem qd_qu_gt {α : Type} (P : Nat → α) {i j : Nat} (x : α) (h : i < j) : qd j (qu P i x) = qu (qd j P) i x := by
  funext t
  show (if t < j then (if t = i then x else P t) else (if t + 1 = i then x else P (t + 1))) = (if t = i then x else (if t < j then P t else P (t + 1)))
  by_cases h1 : t < j
  · rw [if_pos h1, if_pos h1]
  · rw [if_neg h1, if_neg h1, if_neg (by omega), if_neg (by omega)]

theorem qd_qu_eq {α : Type} (P : Nat → α) (i : Nat) (x : α) : qd i (qu P i x) = qd i P := by
  funext t
  show (if t < i then (if t = i then x else P t) else (if t + 1 = i then x else P (t + 1))) = (if t < i then P t else P (t + 1))
  by_cases h1 : t < i
  · rw [if_pos h1, if_pos h1, if_neg (by omega)]
  · rw [if_neg h1, if_neg h1, if_neg (by omega)]

/-- the determinant is linear in each row -/
theorem qD_lin {k : Nat} : ∀ {n : Nat} {P : Nat → Nat → Int} {i : Nat} (t : Nat) (u v : Int) (x y : Nat → Int), i < k + 1 →
    qD k n (qu P i (fun j => u * x j + v * y j)) t = u * qD k n (qu P i x) t + v * qD k n (qu P i y) t := by
  induction k with
  | zero =>
    intro n P i t u v x y hi
    have h0 : i = 0 := by omega
    subst h0
    show qu P 0 _ 0 t = u * qu P 0 x 0 t + v * qu P 0 y 0 t
    rw [qu_same, qu_same, qu_same]
  | succ k ih =>
    intro n P i t u v x y hi
    show qS (k + 2) _ = u * qS (k + 2) _ + v * qS (k + 2) _
    rw [← qS_mul, ← qS_mul, ← qS_add]
    refine qS_congr (fun j hj => ?_)
    by_cases h1 : j = i
    · subst h1
      rw [qd_qu_eq, qd_qu_eq, qd_qu_eq, qu_same, qu_same, qu_same]
      rw [Int.mul_add, Int.add_mul]
      congr 1
      · rw [Int.mul_left_comm (qg j) u, Int.mul_assoc u]
      · rw [Int.mul_left_comm (qg j) v, Int.mul_assoc v]
    · rw [qu_other _ _ h1, qu_other _ _ h1, qu_other _ _ h1]
      rcases Nat.lt_or_gt_of_ne h1 with h2 | h2
      · rw [qd_qu_lt _ _ h2, qd_qu_lt _ _ h2, qd_qu_lt _ _ h2, ih t u v x y (by omega), Int.mul_add, Int.mul_left_comm _ u, Int.mul_left_comm _ v]
      · rw [qd_qu_gt _ _ h2, qd_qu_gt _ _ h2, qd_qu_gt _ _ h2, ih t u v x y (by omega), Int.mul_add, Int.mul_left_comm _ u, Int.mul_left_comm _ v]

/-- two neighbouring rows change places -/
def qw {α : Type} (i : Nat) (P : Nat → α) : Nat → α := fun j => if j = i then P (i + 1) else if j = i + 1 then P i else P j

theorem qd_qw_lt {α : Type} (P : Nat → α) {i j : Nat} (h : j < i) : qd j (qw i P) = qw (i - 1) (qd j P) := by
  obtain ⟨m, rfl⟩ : ∃ m, i = m + 1 := ⟨i - 1, by omega⟩
  rw [Nat.add_sub_cancel]
  funext t
  simp only [qd, qw]
  (repeat' split) <;> first | rfl | (exfalso; omega) | (congr 1; omega)

theorem qd_qw_gt {α : Type} (P : Nat → α) {i j : Nat} (h : i + 1 < j) : qd j (qw i P) = qw i (qd j P) := by
  funext t
  simp only [qd, qw]
  (repeat' split) <;> first | rfl | (exfalso; omega) | (congr 1; omega)

theorem qd_qw_eq {α : Type} (P : Nat → α) (i : Nat) : qd i (qw i P) = qd (i + 1) P := by
  funext t
  simp only [qd, qw]
  (repeat' split) <;> first | rfl | (exfalso; omega) | (congr 1; omega)

theorem qd_qw_eq' {α : Type} (P : Nat → α) (i : Nat) : qd (i + 1) (qw i P) = qd i P := by
  funext t
  simp only [qd, qw]
  (repeat' split) <;> first | rfl | (exfalso; omega) | (congr 1; omega)

theorem qD_swap {k : Nat} : ∀ {n : Nat} {P : Nat → Nat → Int} {i : Nat} (t : Nat), i + 1 < k + 1 → qD k n (qw i P) t = - qD k n P t := by
  induction k with
  | zero => intro n P i t hi; exact absurd hi (by omega)
  | succ k ih =>
    intro n P i t hi
    have key : qS (k + 2) (fun j => qg j * qw i P j n * qD k (n - 1) (qd j (qw i P)) t + qg j * P j n * qD k (n - 1) (qd j P) t) = 0 := by
      rw [qS_two (i := i) hi (fun j hj h1 h2 => ?_)]
      · show qg i * qw i P i n * qD k (n - 1) (qd i (qw i P)) t + qg i * P i n * qD k (n - 1) (qd i P) t + (qg (i + 1) * qw i P (i + 1) n * qD k (n - 1) (qd (i + 1) (qw i P)) t + qg (i + 1) * P (i + 1) n * qD k (n - 1) (qd (i + 1) P) t) = 0
        rw [qd_qw_eq, qd_qw_eq', qg_succ]
        have a1 : qw i P i = P (i + 1) := if_pos rfl
        have a2 : qw i P (i + 1) = P i := by unfold qw; rw [if_neg (by omega), if_pos rfl]
        rw [a1, a2, Int.neg_mul, Int.neg_mul, Int.neg_mul, Int.neg_mul]
        omega
      · show qg j * qw i P j n * qD k (n - 1) (qd j (qw i P)) t + qg j * P j n * qD k (n - 1) (qd j P) t = 0
        have a1 : qw i P j = P j := by unfold qw; rw [if_neg h1, if_neg h2]
        rw [a1]
        rcases Nat.lt_or_gt_of_ne h1 with h3 | h3
        · rw [qd_qw_lt _ h3, ih t (by omega), Int.mul_neg]; omega
        · rw [qd_qw_gt _ (by omega), ih t (by omega), Int.mul_neg]; omega
    rw [qS_add] at key
    show qS (k + 2) _ = - qS (k + 2) _
    omega

/-- two neighbouring rows alike: nothing -/
theorem qD_nb {k n : Nat} {P : Nat → Nat → Int} {i : Nat} (t : Nat) (hi : i + 1 < k + 1) (h : P i = P (i + 1)) : qD k n P t = 0 := by
  have h1 := qD_swap (k := k) (n := n) (P := P) (i := i) t hi
  have h2 : qw i P = P := by
    funext j
    unfold qw
    by_cases h3 : j = i
    · rw [if_pos h3, h3, h]
    · rw [if_neg h3]
      by_cases h4 : j = i + 1
      · rw [if_pos h4, h4, h]
      · rw [if_neg h4]
  rw [h2] at h1
  omega

/-- two rows alike: nothing -/
theorem qD_two {k n : Nat} {i : Nat} (t : Nat) : ∀ (d : Nat) {P : Nat → Nat → Int} , i + (d + 1) < k + 1 → P i = P (i + (d + 1)) → qD k n P t = 0 := by
  intro d
  induction d with
  | zero => intro P hi h; exact qD_nb t hi h
  | succ d ih =>
    intro P hi h
    have h1 := qD_swap (k := k) (n := n) (P := P) (i := i + (d + 1)) t (by omega)
    have h2 := ih (P := qw (i + (d + 1)) P) (by omega) (by
      have e1 : qw (i + (d + 1)) P (i + (d + 1)) = P (i + (d + 1) + 1) := if_pos rfl
      have e2 : qw (i + (d + 1)) P i = P i := by unfold qw; rw [if_neg (by omega), if_neg (by omega)]
      rw [e1, e2, h]; rfl)
    omega

theorem qD_two' {k n i j : Nat} (t : Nat) {P : Nat → Nat → Int} (hi : i < k + 1) (hj : j < k + 1) (hn : i ≠ j) (h : P i = P j) : qD k n P t = 0 := by
  rcases Nat.lt_or_gt_of_ne hn with h1 | h1
  · exact qD_two (i := i) t (j - i - 1) (by omega) (by rw [h]; congr 1; omega)
  · exact qD_two (i := j) t (i - j - 1) (by omega) (by rw [← h]; congr 1; omega)

/-- the first row alone has the upper column -/
theorem qD_peel {k n : Nat} {P : Nat → Nat → Int} (t : Nat) (h : ∀ i : Nat, i < k + 1 → P (i + 1) n = 0) : qD (k + 1) n P t = P 0 n * qD k (n - 1) (fun i => P (i + 1)) t := by
  show qS (k + 2) _ = _
  rw [qS_one (i := 0) (by omega) (fun j hj hn => ?_)]
  · show qg 0 * P 0 n * _ = _
    have h1 : qg 0 = 1 := rfl
    rw [h1, Int.one_mul]; rfl
  · obtain ⟨i, rfl⟩ : ∃ i, j = i + 1 := ⟨j - 1, by omega⟩
    show qg (i + 1) * P (i + 1) n * _ = 0
    rw [h i (by omega), Int.mul_zero, Int.zero_mul]

/-- what is kept by sums and multiples of the rows is kept by the determinant -/
theorem qD_keep {K : (Nat → Int) → Prop} (h0 : K (fun _ => 0)) (ha : ∀ (u v : Int) (x y : Nat → Int), K x → K y → K (fun t => u * x t + v * y t)) {k : Nat} :
    ∀ {n : Nat} {P : Nat → Nat → Int}, (∀ i : Nat, i < k + 1 → K (P i)) → K (qD k n P) := by
  induction k with
  | zero => intro n P h; exact h 0 (by omega)
  | succ k ih =>
    intro n P h
    have aux : ∀ m : Nat, m ≤ k + 2 → K (fun t => qS m (fun i => qg i * P i n * qD k (n - 1) (qd i P) t)) := by
      intro m
      induction m with
      | zero => intro _; exact h0
      | succ m ihm =>
        intro hm
        have h1 := ha 1 (qg m * P m n) _ _ (ihm (by omega)) (ih (n := n - 1) (P := qd m P) (fun j hj => by
          unfold qd
          split
          · exact h j (by omega)
          · exact h (j + 1) (by omega)))
        have h2 : (fun t => (1 : Int) * qS m (fun i => qg i * P i n * qD k (n - 1) (qd i P) t) + qg m * P m n * qD k (n - 1) (qd m P) t) = (fun t => qS (m + 1) (fun i => qg i * P i n * qD k (n - 1) (qd i P) t)) := by
          funext t; rw [Int.one_mul]; rfl
        rw [h2] at h1
        exact h1
    exact aux (k + 2) (by omega)
