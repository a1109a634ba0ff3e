/-- the transformed row: sums with binomials -/
theorem vv_row (c : Nat → Int) {N : Nat} (hN : 1 ≤ N) (hN9 : N ≤ 9) (j : Nat) (hj : j < N) : shf (fun k => c (N - 1 - k)) N (N - 1) j = qS N (fun k => c k * bch (N - 1 - k) j) := by
  have key : ∀ i : Nat, i < N → shf (fun k => c (N - 1 - k)) N (N - 1) i = qS N (fun k => c k * bch (N - 1 - k) i) := rv_inj (fun s => by
    have h1 := sh1_rv (fun k => c (N - 1 - k)) hN s
    unfold sh1 at h1
    rw [h1]
    -- both sides as sums over k of c k (s + 1) ^ (N - 1 - k)
    have hl : ∀ m : Nat, m ≤ N → rv (fun k => if N - 1 - k < m then c (N - 1 - k) else 0) N (s + 1) = rv (fun t => qS m (fun k => c k * bch (N - 1 - k) t)) N s := by
      intro m
      induction m with
      | zero =>
        intro _
        rw [rv_congr (e := fun _ => 0) (s + 1) (fun i hi => if_neg (by omega)), rv_zero]
        have : (fun t => qS 0 (fun k => c k * bch (N - 1 - k) t)) = (fun _ => (0 : Int)) := rfl
        rw [this, rv_zero]
      | succ m ih =>
        intro hm
        have e1 : (fun t => qS (m + 1) (fun k => c k * bch (N - 1 - k) t)) = (fun t => qS m (fun k => c k * bch (N - 1 - k) t) + c m * bch (N - 1 - m) t) := rfl
        rw [e1, rv_add, rv_smul, ← ih (by omega)]
        have e2 : rv (fun k => if N - 1 - k < m + 1 then c (N - 1 - k) else 0) N (s + 1) = rv (fun k => (if N - 1 - k < m then c (N - 1 - k) else 0) + c m * (if k = N - 1 - m then 1 else 0)) N (s + 1) := rv_congr _ (fun k hk => by
          by_cases q : k = N - 1 - m
          · rw [if_pos q, if_pos (by omega), if_neg (by omega), show N - 1 - k = m by omega]; omega
          · rw [if_neg q]
            by_cases q2 : N - 1 - k < m
            · rw [if_pos q2, if_pos (by omega)]; omega
            · rw [if_neg q2, if_neg (by omega)]; omega)
        rw [e2, rv_add, rv_smul]
        -- the power
        have e3 : rv (fun k => if k = N - 1 - m then (1 : Int) else 0) N (s + 1) = (s + 1) ^ (N - 1 - m) := by
          have hz : rv (fun k => if k = N - 1 - m then (1 : Int) else 0) N (s + 1) = rv (fun k => if k = N - 1 - m then (1 : Int) else 0) (N - 1 - m + 1) (s + 1) := rv_le (fun i hi => if_neg (by omega)) (by omega) _
          rw [hz]
          show rv _ (N - 1 - m) (s + 1) + ((if N - 1 - m = N - 1 - m then (1 : Int) else 0 : Int) : Rat) * (s + 1) ^ (N - 1 - m) = _
          rw [if_pos rfl, rv_congr (e := fun _ => 0) (s + 1) (fun i hi => if_neg (by omega)), rv_zero]
          have o1 : ((1 : Int) : Rat) = 1 := rfl
          rw [o1]; grind
        have e4 : rv (fun t => bch (N - 1 - m) t) N s = (s + 1) ^ (N - 1 - m) := by
          have b := binom 1 s (N - 1 - m) (by omega)
          have one : ∀ n : Nat, (1 : Rat) ^ n = 1 := by intro n; induction n with | zero => grind | succ n ih => grind
          have e5 : rv (fun t => bch (N - 1 - m) t) N s = rv (fun t => bch (N - 1 - m) t) (N - 1 - m + 1) s := by
            rcases Nat.lt_or_ge (N - 1 - m + 1) N with q | q
            · refine rv_trim (n := N - 1 - m) (by omega) (fun i h1 h2 => ?_) s
              have hh : ∀ a : Fin 9, ∀ b : Fin 10, a.val < b.val → bch a.val b.val = 0 := by decide +kernel
              exact hh ⟨N - 1 - m, by omega⟩ ⟨i, by omega⟩ h1
            · rw [show N - 1 - m + 1 = N by omega]
          rw [e5, rv_rq, show s + 1 = 1 + s by grind, b]
          exact rq_congr s (fun i _ => by rw [one]; grind)
        rw [e3, e4]
    have h2 := hl N (Nat.le_refl _)
    rw [← h2]
    exact rv_congr _ (fun k hk => (if_pos (by omega)).symm))
  exact key j hj
/-- sums of magnitudes -/
def asum (c : Nat → Int) (wt : Nat → Int) (i : Nat) : Nat → Int
  | 0 => 0
  | n + 1 => asum c wt i n + (if i ≤ n then wt n * ((c n).natAbs : Int) else 0)
theorem asum_nn (c : Nat → Int) {wt : Nat → Int} (hw : ∀ k : Nat, 0 ≤ wt k) (i : Nat) : ∀ n : Nat, 0 ≤ asum c wt i n
  | 0 => by show (0 : Int) ≤ 0; omega
  | n + 1 => by
    show 0 ≤ asum c wt i n + (if i ≤ n then wt n * ((c n).natAbs : Int) else 0)
    have h1 := asum_nn c hw i n
    have h2 := Int.mul_nonneg (hw n) (show (0 : Int) ≤ ((c n).natAbs : Int) by omega)
    split <;> omega
theorem qS_as {c e wt : Nat → Int} {B : Int} {i : Nat} (hB : 0 ≤ B) : ∀ n : Nat, (∀ k : Nat, k < n → i ≤ k → ((e k).natAbs : Int) ≤ wt k * B) → (∀ k : Nat, k < n → k < i → e k = 0) → ((qS n (fun k => c k * e k)).natAbs : Int) ≤ asum c wt i n * B
  | 0, _, _ => by show (((0 : Int).natAbs : Nat) : Int) ≤ 0 * B; simp
  | n + 1, h, hz => by
    have ih := qS_as (c := c) hB n (fun k hk => h k (by omega)) (fun k hk => hz k (by omega))
    show ((qS n (fun k => c k * e k) + c n * e n).natAbs : Int) ≤ (asum c wt i n + (if i ≤ n then wt n * ((c n).natAbs : Int) else 0)) * B
    have h1 := Int.natAbs_add_le (qS n (fun k => c k * e k)) (c n * e n)
    by_cases q : i ≤ n
    · rw [if_pos q]
      have h2 := h n (by omega) q
      have h3 : ((c n * e n).natAbs : Int) ≤ wt n * ((c n).natAbs : Int) * B := by
        rw [Int.natAbs_mul, Int.natCast_mul]
        have := Int.mul_le_mul_of_nonneg_left h2 (show (0 : Int) ≤ ((c n).natAbs : Int) by omega)
        grind
      rw [Int.add_mul]
      omega
    · rw [if_neg q]
      rw [hz n (by omega) (by omega)] at h1 ⊢
      simp at h1 ⊢
      omega
theorem qS_one' {c e : Nat → Int} {n i0 : Nat} (hi : i0 < n) : qS n (fun k => c k * e k) = c i0 * e i0 + qS n (fun k => c k * (if k = i0 then 0 else e k)) := by
  induction n with
  | zero => exact absurd hi (by omega)
  | succ n ih =>
    show qS n (fun k => c k * e k) + c n * e n = c i0 * e i0 + (qS n (fun k => c k * (if k = i0 then 0 else e k)) + c n * (if n = i0 then 0 else e n))
    by_cases q : n = i0
    · subst q
      rw [if_pos rfl]
      have : qS n (fun k => c k * e k) = qS n (fun k => c k * (if k = n then 0 else e k)) := qS_congr (fun k hk => by rw [if_neg (by omega)])
      rw [this]; omega
    · rw [if_neg q, ih (by omega)]; omega
/-- where the first coefficient outweighs the others no sign changes -/
theorem vv_zero {c : Nat → Int} {N : Nat} (hN : 1 ≤ N) (hN9 : N ≤ 9) (h : asum c (fun _ => 1) 1 N < ((c 0).natAbs : Int)) : vv c N = 0 := by
  have hs : ∀ j : Nat, j < N → (shf (fun k => c (N - 1 - k)) N (N - 1) j).sign = (c 0).sign := fun j hj => by
    rw [vv_row c hN hN9 j hj, qS_one' (c := c) (e := fun k => bch (N - 1 - k) j) (i0 := 0) (by omega), Nat.sub_zero]
    have hb : ∀ d : Fin 9, ∀ j : Fin 9, j.val ≤ d.val → 1 ≤ bch d.val j.val ∧ ∀ k : Fin 9, k.val ≤ d.val → ((bch (d.val - k.val) j.val).natAbs : Int) ≤ bch d.val j.val := by decide +kernel
    obtain ⟨b1, b2⟩ := hb ⟨N - 1, by omega⟩ ⟨j, by omega⟩ (by show j ≤ N - 1; omega)
    simp only at b1 b2
    obtain ⟨B, hB⟩ : ∃ B : Int, B = bch (N - 1) j := ⟨_, rfl⟩
    rw [← hB] at b1 b2 ⊢
    have h2 := qS_as (c := c) (e := fun k => if k = 0 then 0 else bch (N - 1 - k) j) (wt := fun _ => 1) (B := B) (i := 1) (by omega) N (fun k hk h1 => by
      rw [if_neg (by omega), Int.one_mul]
      exact b2 ⟨k, by omega⟩ (by show k ≤ N - 1; omega)) (fun k hk h1 => if_pos (by omega))
    obtain ⟨S, hS⟩ : ∃ S : Int, S = qS N (fun k => c k * (if k = 0 then 0 else bch (N - 1 - k) j)) := ⟨_, rfl⟩
    rw [← hS] at h2 ⊢
    have h3 : asum c (fun _ => 1) 1 N * B < ((c 0).natAbs : Int) * B := Int.mul_lt_mul_of_pos_right h (by omega)
    rcases Int.lt_trichotomy (c 0) 0 with g | g | g
    · rw [Int.sign_eq_neg_one_of_neg g]
      have e1 : ((c 0).natAbs : Int) * B = -(c 0 * B) := by rw [show ((c 0).natAbs : Int) = -(c 0) by omega, Int.neg_mul]
      exact Int.sign_eq_neg_one_of_neg (by omega)
    · rw [g] at h
      have := asum_nn c (wt := fun _ => 1) (fun _ => by decide) 1 N
      have e9 : (((0 : Int).natAbs : Nat) : Int) = 0 := rfl
      omega
    · rw [Int.sign_eq_one_of_pos g]
      have e1 : ((c 0).natAbs : Int) * B = c 0 * B := by rw [show ((c 0).natAbs : Int) = c 0 by omega]
      exact Int.sign_eq_one_of_pos (by omega)
  unfold vv
  have key : ∀ n : Nat, n ≤ N → vc (shf (fun k => c (N - 1 - k)) N (N - 1)) n = 0 ∧ (vl (shf (fun k => c (N - 1 - k)) N (N - 1)) n = 0 ∨ vl (shf (fun k => c (N - 1 - k)) N (N - 1)) n = (c 0).sign) := by
    intro n
    induction n with
    | zero => intro _; exact ⟨rfl, Or.inl rfl⟩
    | succ n ih =>
      intro hn
      obtain ⟨i1, i2⟩ := ih (by omega)
      have h1 := hs n (by omega)
      simp only [vc, vl]
      rw [h1, i1]
      refine ⟨?_, ?_⟩
      · rw [if_neg]
        rintro ⟨g1, g2, g3⟩
        rcases i2 with q | q
        · exact g2 q
        · exact g3 q.symm
      · by_cases q : (c 0).sign = 0
        · rw [if_pos q]; exact i2
        · rw [if_neg q]; exact Or.inr rfl
  exact (key N (Nat.le_refl _)).1
/-- signs that turn once and stay -/
theorem vc_turns {b : Nat → Int} {r : Int} (hr : r = 1 ∨ r = -1) : ∀ n : Nat, (∀ j : Nat, j + 1 < n → (b j).sign ≠ r → (b (j + 1)).sign = -r) → (n = 0 ∧ vc b n = 0) ∨ ((b (n - 1)).sign = r ∧ vc b n = 0 ∧ vl b n = r) ∨ ((b (n - 1)).sign = 0 ∧ vc b n = 0 ∧ (vl b n = r ∨ vl b n = 0)) ∨ ((b (n - 1)).sign = -r ∧ vc b n ≤ 1 ∧ vl b n = -r)
  | 0, _ => Or.inl ⟨rfl, rfl⟩
  | n + 1, h => by
    have ih := vc_turns hr n (fun j hj => h j (by omega))
    have hs : (b n).sign = 1 ∨ (b n).sign = 0 ∨ (b n).sign = -1 := by
      rw [← rsg_int]
      rcases rsg_three (b n : Rat) with g | g | g
      · exact Or.inr (Or.inr g)
      · exact Or.inr (Or.inl g)
      · exact Or.inl g
    rw [Nat.add_sub_cancel]
    simp only [vc, vl]
    right
    rcases Nat.eq_zero_or_pos n with q | q
    · subst q
      have e1 : vl b 0 = 0 := rfl
      have e2 : vc b 0 = 0 := rfl
      rw [e1, e2, if_neg (fun g => g.2.1 rfl)]
      by_cases c : (b 0).sign = 0
      · rw [if_pos c]; exact Or.inr (Or.inl ⟨c, rfl, Or.inr rfl⟩)
      · rw [if_neg c]
        by_cases c2 : (b 0).sign = r
        · exact Or.inl ⟨c2, rfl, c2⟩
        · exact Or.inr (Or.inr ⟨by omega, by omega, by omega⟩)
    · have hn := h (n - 1) (by omega)
      rw [show n - 1 + 1 = n by omega] at hn
      rcases ih with ⟨i1, _⟩ | ⟨i1, i2, i3⟩ | ⟨i1, i2, i3⟩ | ⟨i1, i2, i3⟩
      · omega
      · by_cases c : (b n).sign = 0
        · rw [if_neg (fun g => g.1 c), if_pos c]; exact Or.inr (Or.inl ⟨c, i2, Or.inl i3⟩)
        · rw [if_neg c]
          by_cases c2 : (b n).sign = r
          · rw [if_neg (fun g => g.2.2 (by rw [c2, i3]))]; exact Or.inl ⟨c2, i2, c2⟩
          · rw [if_pos ⟨c, by omega, by omega⟩]; exact Or.inr (Or.inr ⟨by omega, by omega, by omega⟩)
      · have h1 := hn (by omega)
        rw [if_neg (show ¬ (b n).sign = 0 by omega)]
        refine Or.inr (Or.inr ⟨h1, ?_, h1⟩)
        split <;> omega
      · have h1 := hn (by omega)
        rw [if_neg (show ¬ (b n).sign = 0 by omega), if_neg (fun g => g.2.2 (by rw [h1, i3]))]
        exact Or.inr (Or.inr ⟨h1, i2, h1⟩)
theorem qS_lin (n : Nat) (c e1 e2 : Nat → Int) (u v : Int) : u * qS n (fun k => c k * e1 k) - v * qS n (fun k => c k * e2 k) = qS n (fun k => c k * (u * e1 k - v * e2 k)) := by
  induction n with
  | zero => show u * 0 - v * 0 = 0; omega
  | succ n ih =>
    show u * (qS n _ + c n * e1 n) - v * (qS n _ + c n * e2 n) = qS n _ + c n * (u * e1 n - v * e2 n)
    rw [← ih]; grind
/-- where the second coefficient outweighs the later ones there is one change at most -/
theorem vv_one {c : Nat → Int} {N : Nat} (hN : 1 ≤ N) (hN9 : N ≤ 9) (h : asum c (fun k => (k : Int)) 2 N < ((c 1).natAbs : Int)) : vv c N ≤ 1 := by
  obtain ⟨b, hb⟩ : ∃ b : Nat → Int, b = shf (fun k => c (N - 1 - k)) N (N - 1) := ⟨_, rfl⟩
  have hc1 : c 1 ≠ 0 := fun g => by
    rw [g] at h
    have := asum_nn c (wt := fun k => (k : Int)) (fun k => by show (0 : Int) ≤ (k : Int); omega) 2 N
    have e9 : (((0 : Int).natAbs : Nat) : Int) = 0 := rfl
    omega
  have hr : (c 1).sign = 1 ∨ (c 1).sign = -1 := by
    rcases Int.lt_trichotomy (c 1) 0 with g | g | g
    · exact Or.inr (Int.sign_eq_neg_one_of_neg g)
    · exact absurd g hc1
    · exact Or.inl (Int.sign_eq_one_of_pos g)
  have hturn : ∀ j : Nat, j + 1 < N → (b j).sign ≠ (c 1).sign → (b (j + 1)).sign = -(c 1).sign := fun j hj hne => by
    have hfin : ∀ d : Fin 9, ∀ j : Fin 8, j.val < d.val → 1 ≤ bch d.val j.val ∧ 1 ≤ bch d.val (j.val + 1) ∧ (bch d.val (j.val + 1) * bch (d.val - 0) j.val - bch d.val j.val * bch (d.val - 0) (j.val + 1) = 0) ∧ 0 < bch d.val (j.val + 1) * bch (d.val - 1) j.val - bch d.val j.val * bch (d.val - 1) (j.val + 1) ∧ ∀ k : Fin 9, 2 ≤ k.val → k.val ≤ d.val → ((bch d.val (j.val + 1) * bch (d.val - k.val) j.val - bch d.val j.val * bch (d.val - k.val) (j.val + 1)).natAbs : Int) ≤ (k.val : Int) * (bch d.val (j.val + 1) * bch (d.val - 1) j.val - bch d.val j.val * bch (d.val - 1) (j.val + 1)) := by decide +kernel
    obtain ⟨p1, p2, p3, p4, p5⟩ := hfin ⟨N - 1, by omega⟩ ⟨j, by omega⟩ (by show j < N - 1; omega)
    simp only at p1 p2 p3 p4 p5
    have e1 := vv_row c hN hN9 j (by omega)
    have e2 := vv_row c hN hN9 (j + 1) (by omega)
    rw [← hb] at e1 e2
    obtain ⟨u, hu⟩ : ∃ u : Int, u = bch (N - 1) (j + 1) := ⟨_, rfl⟩
    obtain ⟨v, hv⟩ : ∃ v : Int, v = bch (N - 1) j := ⟨_, rfl⟩
    have e3 := qS_lin N c (fun k => bch (N - 1 - k) j) (fun k => bch (N - 1 - k) (j + 1)) u v
    rw [← e1, ← e2] at e3
    obtain ⟨B, hB⟩ : ∃ B : Int, B = u * bch (N - 1 - 1) j - v * bch (N - 1 - 1) (j + 1) := ⟨_, rfl⟩
    rw [← hu, ← hv, ← hB] at p4
    rw [qS_one' (c := c) (e := fun k => u * bch (N - 1 - k) j - v * bch (N - 1 - k) (j + 1)) (i0 := 1) (by omega), ← hB] at e3
    have h2 := qS_as (c := c) (e := fun k => if k = 1 then 0 else u * bch (N - 1 - k) j - v * bch (N - 1 - k) (j + 1)) (wt := fun k => (k : Int)) (B := B) (i := 2) (by omega) N (fun k hk h1 => by
      rw [if_neg (by omega), hB, hu, hv]
      exact p5 ⟨k, by omega⟩ h1 (by show k ≤ N - 1; omega)) (fun k hk h1 => by
      by_cases q : k = 1
      · rw [if_pos q]
      · rw [if_neg q, show k = 0 by omega, hu, hv]; exact p3)
    obtain ⟨S, hS⟩ : ∃ S : Int, S = qS N (fun k => c k * (if k = 1 then 0 else u * bch (N - 1 - k) j - v * bch (N - 1 - k) (j + 1))) := ⟨_, rfl⟩
    rw [← hS] at h2 e3
    have h3 : asum c (fun k => (k : Int)) 2 N * B < ((c 1).natAbs : Int) * B := Int.mul_lt_mul_of_pos_right h p4
    rw [← hv] at p1
    rw [← hu] at p2
    rcases Int.lt_trichotomy (c 1) 0 with g | g | g
    · have s1 := Int.sign_eq_neg_one_of_neg g
      rw [s1] at hne ⊢
      have hb0 : 0 ≤ b j := by
        rcases Int.lt_or_le (b j) 0 with q | q
        · exact absurd (Int.sign_eq_neg_one_of_neg q) hne
        · exact q
      have e4 : ((c 1).natAbs : Int) * B = -(c 1 * B) := by rw [show ((c 1).natAbs : Int) = -(c 1) by omega, Int.neg_mul]
      have h5 := Int.mul_nonneg (show 0 ≤ u by omega) hb0
      have h6 : 0 < v * b (j + 1) := by omega
      have h7 : 0 < b (j + 1) := by
        rcases Int.lt_or_le 0 (b (j + 1)) with q | q
        · exact q
        · have := Int.mul_nonneg (show 0 ≤ v by omega) (show 0 ≤ -(b (j + 1)) by omega)
          rw [Int.mul_neg] at this
          omega
      rw [Int.sign_eq_one_of_pos h7]; rfl
    · exact absurd g hc1
    · have s1 := Int.sign_eq_one_of_pos g
      rw [s1] at hne ⊢
      have hb0 : b j ≤ 0 := by
        rcases Int.lt_or_le 0 (b j) with q | q
        · exact absurd (Int.sign_eq_one_of_pos q) hne
        · exact q
      have e4 : ((c 1).natAbs : Int) * B = c 1 * B := by rw [show ((c 1).natAbs : Int) = c 1 by omega]
      have h5 := Int.mul_nonneg (show 0 ≤ u by omega) (show 0 ≤ -(b j) by omega)
      rw [Int.mul_neg] at h5
      have h6 : v * b (j + 1) < 0 := by omega
      have h7 : b (j + 1) < 0 := by
        rcases Int.lt_or_le (b (j + 1)) 0 with q | q
        · exact q
        · have := Int.mul_nonneg (show 0 ≤ v by omega) q
          omega
      exact Int.sign_eq_neg_one_of_neg h7
  have := vc_turns hr N hturn
  unfold vv
  rw [← hb]
  rcases this with ⟨_, g⟩ | ⟨_, g, _⟩ | ⟨_, g, _⟩ | ⟨_, g, _⟩ <;> omega
