theorem q_sgn_abs (c : Int) : c.sign * c = (c.natAbs : Int) := by
  rw [← Int.sign_mul_natAbs c]
  rcases Int.lt_trichotomy c 0 with h | h | h
  · rw [Int.sign_mul_natAbs, Int.sign_eq_neg_one_of_neg h]; omega
  · subst h; rfl
  · rw [Int.sign_mul_natAbs, Int.sign_eq_one_of_pos h]; omega

/-- one step of the remainder, as a sum -/
theorem rdS_sum {b r : Nat → Int} {nb k : Nat} (hb : ∀ t : Nat, nb ≤ t → b t = 0) (hn : 1 ≤ nb) (hk : nb ≤ k + 1) (hr : ∀ t : Nat, k < t → r t = 0) (i : Nat) :
    rdS b nb r k i = ((b (nb - 1)).natAbs : Int) * r i + (-(b (nb - 1)).sign * r k) * qx (k - (nb - 1)) b i := by
  unfold rdS qx
  by_cases h1 : i < k
  · rw [if_pos h1]
    by_cases h2 : k ≤ i + (nb - 1)
    · rw [if_pos h2, if_pos (by omega), show i - (k - (nb - 1)) = i + (nb - 1) - k by omega]; grind
    · rw [if_neg h2, if_neg (by omega)]; grind
  · rw [if_neg h1]
    by_cases h2 : i = k
    · rw [if_pos h2, if_pos (by omega), show i - (k - (nb - 1)) = nb - 1 by omega, h2]
      have e := q_sgn_abs (b (nb - 1))
      rw [← e]; grind
    · rw [if_neg h2, if_pos (by omega), hr i (by omega), hb (i - (k - (nb - 1))) (by omega)]; grind

theorem qS_upd {n e : Nat} (q : Nat → Int) (y : Nat → Int) (u v : Int) (he : e < n) : qS n (fun i => qu (fun i => u * q i) e (u * q e + v) i * y i) = u * qS n (fun i => q i * y i) + v * y e := by
  induction n with
  | zero => exact absurd he (by omega)
  | succ n ih =>
    show qS n (fun i => qu (fun i => u * q i) e (u * q e + v) i * y i) + qu (fun i => u * q i) e (u * q e + v) n * y n = u * (qS n (fun i => q i * y i) + q n * y n) + v * y e
    by_cases h : e = n
    · subst h
      rw [qu_same, qS_congr (H := fun i => u * (q i * y i)) (fun i hi => by rw [qu_other _ _ (by omega)]; grind), qS_mul]; grind
    · rw [ih (by omega), qu_other _ _ (by omega)]; grind

/-- the remainder's steps, as a sum; its degree falls -/
theorem rdN_sum {b r : Nat → Int} {nb na : Nat} (hb : ∀ t : Nat, nb ≤ t → b t = 0) (hn : 1 ≤ nb) (hr : ∀ t : Nat, na ≤ t → r t = 0) (hle : nb ≤ na) : ∀ t : Nat, t ≤ na - nb + 1 →
    (∀ i : Nat, na - t ≤ i → rdN b nb na r t i = 0) ∧ ∃ q : Nat → Int, ∀ i : Nat, rdN b nb na r t i = ((b (nb - 1)).natAbs : Int) ^ t * r i + qS (na - nb + 1) (fun e => q e * qx e b i) := by
  intro t
  induction t with
  | zero =>
    intro _
    refine ⟨fun i hi => hr i (by omega), fun _ => 0, fun i => ?_⟩
    rw [qS_zero (fun e he => Int.zero_mul _), Int.pow_zero]
    show r i = _
    omega
  | succ t ih =>
    intro ht
    obtain ⟨h1, q, h2⟩ := ih (by omega)
    have hs := fun i => rdS_sum (b := b) (r := rdN b nb na r t) (nb := nb) (k := na - 1 - t) hb hn (by omega) (fun i hi => h1 i (by omega)) i
    refine ⟨fun i hi => ?_, qu (fun e => ((b (nb - 1)).natAbs : Int) * q e) (na - 1 - t - (nb - 1)) (((b (nb - 1)).natAbs : Int) * q (na - 1 - t - (nb - 1)) + (-(b (nb - 1)).sign * rdN b nb na r t (na - 1 - t))), fun i => ?_⟩
    · show rdS b nb (rdN b nb na r t) (na - 1 - t) i = 0
      unfold rdS
      rw [if_neg (by omega)]
      by_cases h3 : i = na - 1 - t
      · rw [if_pos h3]
      · rw [if_neg h3]; exact h1 i (by omega)
    · show rdS b nb (rdN b nb na r t) (na - 1 - t) i = _
      rw [hs i, qS_upd _ _ _ _ (by omega), h2 i, Int.pow_succ]; grind

theorem rdS_lb {b r : Nat → Int} {nb k X : Nat} (hb : ∀ i : Nat, i < nb → lb (b i) 95) (hn : 1 ≤ nb) (hk : k < 16) (hnk : nb ≤ k + 1) (hr : ∀ i : Nat, i < 16 → lb (r i) X) : ∀ i : Nat, i < 16 → lb (rdS b nb r k i) (X + 96) := by
  intro i hi
  have hc := hb (nb - 1) (by omega)
  have hca : lb ((b (nb - 1)).natAbs : Int) 95 := by
    unfold lb at *
    rw [Int.natAbs_natCast]; exact hc
  unfold rdS
  by_cases h1 : i < k
  · rw [if_pos h1]
    have a1 := lb_mul (hr i hi) hca
    by_cases h2 : k ≤ i + (nb - 1)
    · rw [if_pos h2]
      have a2 := lb_mul (hr k hk) (hb (i + (nb - 1) - k) (by omega))
      have a3 : lb (-(b (nb - 1)).sign * (r k * b (i + (nb - 1) - k))) (X + 95) := by
        rcases sgn_cases (b (nb - 1)) with ⟨g1, g2⟩ | ⟨g1, g2⟩ | ⟨g1, g2⟩
        all_goals (unfold lb at *; rw [g2]; omega)
      exact lb_add a1 a3
    · rw [if_neg h2, Int.add_zero]
      exact lb_le a1 (by omega)
  · rw [if_neg h1]
    by_cases h2 : i = k
    · rw [if_pos h2]; exact lb_le lb_0 (by omega)
    · rw [if_neg h2]; exact lb_le (hr i hi) (by omega)

theorem rdN_lb {b r : Nat → Int} {nb na : Nat} (hb : ∀ i : Nat, i < nb → lb (b i) 95) (hn : 1 ≤ nb) (hle : nb ≤ na) (hna : na ≤ 16) (hr : ∀ i : Nat, i < 16 → lb (r i) 95) : ∀ t : Nat, t ≤ na - nb + 1 → ∀ i : Nat, i < 16 → lb (rdN b nb na r t i) (95 + 96 * t) := by
  intro t
  induction t with
  | zero => intro _ i hi; exact lb_le (hr i hi) (by omega)
  | succ t ih =>
    intro ht i hi
    have h := rdS_lb (k := na - 1 - t) hb hn (by omega) (by omega) (ih (by omega)) i hi
    exact lb_le (N := 95 + 96 * t + 96) h (by omega)

/-- subresultants of short polynomials are short -/
theorem qSb_lb {f g : Nat → Int} {m n j : Nat} (hf : ∀ t : Nat, lb (f t) 4) (hg : ∀ t : Nat, lb (g t) 4) (hmn : m + n ≤ 23) (hk : 1 ≤ m + n - 2 * j) (t : Nat) : lb (qSb f g m n j t) 95 := by
  have e4 : ∀ x : Int, lb x 4 → -(2 ^ 120) ≤ x ∧ x ≤ 2 ^ 120 := fun x h => by
    unfold lb at h
    have e : (2 : Int) ^ (30 * 4) = 2 ^ 120 := rfl
    rw [e] at h
    omega
  have h := qSb_bd (m := m) (n := n) (j := j) (M := 2 ^ 120) (Int.le_of_lt (Int.pow_pos (by omega))) (fun t => e4 _ (hf t)) (fun t => e4 _ (hg t)) t
  have hb : ∀ k : Fin 24, qF k.val * (2 ^ 120) ^ k.val < 2 ^ (30 * 95) := by decide +kernel
  have h2 := hb ⟨m + n - 2 * j - 1 + 1, by omega⟩
  unfold lb
  have h3 : qF (m + n - 2 * j - 1 + 1) * (2 ^ 120) ^ (m + n - 2 * j - 1 + 1) < 2 ^ (30 * 95) := h2
  omega
