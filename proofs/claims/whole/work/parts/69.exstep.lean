/-- a row as a polynomial: nothing beyond its degree -/
def zr (Z : Nat → Int) (T : Nat → Nat) (j : Nat) : Nat → Int := fun s => if s < T j then Z (pB j + s) else 0
theorem zr_in {Z : Nat → Int} {T : Nat → Nat} {j s : Nat} (h : s < T j) : zr Z T j s = Z (pB j + s) := if_pos h
theorem zr_out {Z : Nat → Int} {T : Nat → Nat} {j s : Nat} (h : T j ≤ s) : zr Z T j s = 0 := if_neg (by omega)
theorem zr_congr {Z Z' : Nat → Int} {T T' : Nat → Nat} {j : Nat} (hT : T' j = T j) (hZ : ∀ s : Nat, s < T j → Z' (pB j + s) = Z (pB j + s)) : zr Z' T' j = zr Z T j := by
  funext s
  unfold zr
  rw [hT]
  by_cases h : s < T j
  · rw [if_pos h, if_pos h, hZ s h]
  · rw [if_neg h, if_neg h]
/-- row i is the remainder of the two before it, sign turned, over a positive number -/
def lnk (Z : Nat → Int) (T : Nat → Nat) (i : Nat) : Prop := T i < T (i - 1) ∧ 1 ≤ T i ∧ zr Z T i (T i - 1) ≠ 0 ∧ ∃ (w : Int) (q : Nat → Int), 0 < w ∧ ∀ s : Nat, ((zr Z T (i - 1) (T (i - 1) - 1)).natAbs : Int) ^ (T (i - 2) - T (i - 1) + 1) * zr Z T (i - 2) s + qS (T (i - 2) - T (i - 1) + 1) (fun e => q e * qx e (zr Z T (i - 1)) s) = -w * zr Z T i s
/-- the chain is at its end -/
def fnl (Z : Nat → Int) (T : Nat → Nat) (us : Nat) : Prop := T (us - 1) = 1 ∨ ∃ q : Nat → Int, ∀ s : Nat, ((zr Z T (us - 1) (T (us - 1) - 1)).natAbs : Int) ^ (T (us - 2) - T (us - 1) + 1) * zr Z T (us - 2) s + qS (T (us - 2) - T (us - 1) + 1) (fun e => q e * qx e (zr Z T (us - 1)) s) = 0
theorem lnk_congr {Z Z' : Nat → Int} {T T' : Nat → Nat} {i : Nat} (h : ∀ j : Nat, j ≤ i → T' j = T j ∧ zr Z' T' j = zr Z T j) (hl : lnk Z T i) : lnk Z' T' i := by
  unfold lnk at *
  rw [(h i (by omega)).1, (h i (by omega)).2, (h (i - 1) (by omega)).1, (h (i - 1) (by omega)).2, (h (i - 2) (by omega)).1, (h (i - 2) (by omega)).2]
  exact hl
/-- what the chain's building keeps -/
def exI (Z : Nat → Int) (T : Nat → Nat) (Z1 : Nat → Int) (T1 : Nat → Nat) (k : Nat) : Prop := (∀ q : Nat, q < 25 ∨ 84 ≤ q → Z1 q = Z q) ∧ (∀ j : Nat, j < 2 ∨ 11 ≤ j → T1 j = T j) ∧ (∀ j : Nat, j < 12 → T1 j ≤ pN j) ∧ (∀ i : Nat, 2 ≤ i → i < k → lnk Z1 T1 i) ∧ (∀ i : Nat, i < k → ∀ s : Nat, s < T1 i → lb (Z1 (pB i + s)) 95)
def exF (Z : Nat → Int) (T : Nat → Nat) (Z1 : Nat → Int) (T1 : Nat → Nat) (us : Nat) : Prop := exI Z T Z1 T1 us ∧ 1 ≤ us ∧ us ≤ 10 ∧ (T 1 = 0 → us = 1) ∧ (1 ≤ T 1 → 2 ≤ us ∧ fnl Z1 T1 us)
theorem rdN_congr {b b' r r' : Nat → Int} {nb na : Nat} (hb : ∀ i : Nat, i < nb → b i = b' i) (hn : 1 ≤ nb) (hle : nb ≤ na) (hna : na ≤ 16) (hr : ∀ i : Nat, i < 16 → r i = r' i) : ∀ t : Nat, t ≤ na - nb + 1 → ∀ i : Nat, i < 16 → rdN b nb na r t i = rdN b' nb na r' t i := by
  intro t
  induction t with
  | zero => intro _ i hi; exact hr i hi
  | succ t ih =>
    intro ht i hi
    show rdS b nb (rdN b nb na r t) (na - 1 - t) i = rdS b' nb (rdN b' nb na r' t) (na - 1 - t) i
    unfold rdS
    rw [hb (nb - 1) (by omega), ih (by omega) i hi, ih (by omega) (na - 1 - t) (by omega)]
    by_cases h1 : i < na - 1 - t
    · rw [if_pos h1, if_pos h1]
      by_cases h2 : na - 1 - t ≤ i + (nb - 1)
      · rw [if_pos h2, if_pos h2, hb _ (by omega)]
      · rw [if_neg h2, if_neg h2]
    · rw [if_neg h1, if_neg h1]
/-- the state of a step: the last two rows, the factors -/
def exS (Z : Nat → Int) (T : Nat → Nat) (Z1 : Nat → Int) (T1 : Nat → Nat) (k : Nat) : Prop := exI Z T Z1 T1 k ∧ 1 ≤ T1 (k - 1) ∧ (T1 (k - 1) + k ≤ 11 ∧ T1 (k - 1) ≤ T 1 ∧ (k = 2 ∨ T1 (k - 1) < T 1)) ∧ T1 (k - 1) ≤ T1 (k - 2) ∧ T1 (k - 2) ≤ 16 ∧ (2 ≤ T1 (k - 1) → T1 (k - 2) ≤ T1 (k - 1) + 7) ∧ lb (Z1 77) 95 ∧ lb (Z1 78) 95 ∧ qIn (zr Z T 0) (zr Z T 1) (T 0 - 1) (T 1 - 1) (zr Z1 T1 (k - 2)) (zr Z1 T1 (k - 1)) (T1 (k - 2) - 1) (T1 (k - 1) - 1) (Z1 77) (Z1 78)
theorem zr_lb {Z : Nat → Int} {T : Nat → Nat} {j N : Nat} (h : ∀ s : Nat, s < T j → lb (Z (pB j + s)) N) (s : Nat) : lb (zr Z T j s) N := by
  by_cases q : s < T j
  · rw [zr_in q]; exact h s q
  · rw [zr_out (by omega)]; exact lb_le lb_0 (by omega)
/-- the bounds of a step -/
theorem ex_bnd {Z : Nat → Int} {T : Nat → Nat} {Zi : Nat → Int} {Ti : Nat → Nat} {k : Nat} (hS : exS Z T Zi Ti k) (hk : 2 ≤ k ∧ k < 10) (h2 : 2 ≤ Ti (k - 1)) : ∀ t : Nat, t ≤ Ti (k - 2) - Ti (k - 1) + 1 → ∀ i : Nat, i < 16 → lb (rdN (zr Zi Ti (k - 1)) (Ti (k - 1)) (Ti (k - 2)) (zr Zi Ti (k - 2)) t i) 900 := by
  obtain ⟨hI, a1, a2, a3, a4, a5, a6, a7, hq⟩ := hS
  have a8 := a5 h2
  intro t ht i hi
  have h := rdN_lb (b := zr Zi Ti (k - 1)) (r := zr Zi Ti (k - 2)) (nb := Ti (k - 1)) (na := Ti (k - 2)) (fun i hi => by rw [zr_in hi]; exact hI.2.2.2.2 (k - 1) (by omega) i hi) (by omega) a3 a4 (fun i _ => zr_lb (hI.2.2.2.2 (k - 2) (by omega)) i) t ht i hi
  exact lb_le (N := 95 + 96 * t) h (by omega)
/-- the remainder is nothing: the chain is at its end -/
theorem ex_zero {Z : Nat → Int} {T : Nat → Nat} {Zi : Nat → Int} {Ti : Nat → Nat} {k : Nat} (hS : exS Z T Zi Ti k) (hk : 2 ≤ k ∧ k < 10) (h0 : ∀ i : Nat, i < 16 → rdN (zr Zi Ti (k - 1)) (Ti (k - 1)) (Ti (k - 2)) (zr Zi Ti (k - 2)) (Ti (k - 2) - Ti (k - 1) + 1) i = 0) : fnl Zi Ti k := by
  obtain ⟨hI, a1, a2, a3, a4, a5, a6, a7, hq⟩ := hS
  obtain ⟨z0, q, hqq⟩ := rdN_sum (b := zr Zi Ti (k - 1)) (r := zr Zi Ti (k - 2)) (nb := Ti (k - 1)) (na := Ti (k - 2)) (fun t ht => zr_out ht) a1 (fun t ht => zr_out ht) a3 (Ti (k - 2) - Ti (k - 1) + 1) (Nat.le_refl _)
  refine Or.inr ⟨q, fun s => ?_⟩
  rw [← hqq s]
  rcases Nat.lt_or_ge s 16 with h | h
  · exact h0 s h
  · exact z0 s (by omega)
theorem lb_pow {x : Int} {N : Nat} (h : lb x N) : ∀ e : Nat, lb (x ^ e) (N * e + 1)
  | 0 => by rw [Int.pow_zero]; show ((1 : Int).natAbs : Int) < 2 ^ (30 * (N * 0 + 1)); rw [Nat.mul_zero]; decide
  | e + 1 => by
    rw [Int.pow_succ]
    exact lb_le (lb_mul (lb_pow h e) h) (by rw [Nat.mul_succ]; omega)
/-- a step: the remainder is an exact multiple, and what the next step knows -/
theorem ex_step {Z : Nat → Int} {T : Nat → Nat} {Zi : Nat → Int} {Ti : Nat → Nat} {k N : Nat} (hS : exS Z T Zi Ti k) (hk : 2 ≤ k ∧ k < 10) (h2 : 2 ≤ Ti (k - 1)) (h01 : T 1 ≤ T 0 ∧ T 0 ≤ 16 ∧ T 1 ≤ 9) (hin : ∀ j : Nat, j < 2 → ∀ i : Nat, i < T j → lb (Z (pB j + i)) 4) {ρ : Nat → Int} (hρ : ρ = rdN (zr Zi Ti (k - 1)) (Ti (k - 1)) (Ti (k - 2)) (zr Zi Ti (k - 2)) (Ti (k - 2) - Ti (k - 1) + 1)) (htp : tpN ρ 16 N) (hN : 1 ≤ N) :
    ∃ (f : Nat → Int) (hq : Int) (q : Nat → Int), (∀ i : Nat, ρ i = f i * (Zi 77 * Zi 78 ^ (Ti (k - 2) - Ti (k - 1)))) ∧ 0 < Zi 77 ∧ 0 < Zi 78 ∧ (∀ i : Nat, lb (f i) 95) ∧ lb hq 95 ∧ (1 ≤ Ti (k - 2) - Ti (k - 1) → ((zr Zi Ti (k - 1) (Ti (k - 1) - 1)).natAbs : Int) ^ (Ti (k - 2) - Ti (k - 1)) = hq * Zi 78 ^ (Ti (k - 2) - Ti (k - 1) - 1)) ∧ N < Ti (k - 1) ∧ f (N - 1) ≠ 0 ∧ (∀ i : Nat, N ≤ i → f i = 0) ∧ zr Zi Ti (k - 1) (Ti (k - 1) - 1) ≠ 0 ∧
    (∀ s : Nat, ((zr Zi Ti (k - 1) (Ti (k - 1) - 1)).natAbs : Int) ^ (Ti (k - 2) - Ti (k - 1) + 1) * zr Zi Ti (k - 2) s + qS (Ti (k - 2) - Ti (k - 1) + 1) (fun e => q e * qx e (zr Zi Ti (k - 1)) s) = ρ s) ∧
    qIn (zr Z T 0) (zr Z T 1) (T 0 - 1) (T 1 - 1) (zr Zi Ti (k - 1)) (fun i => -(f i)) (Ti (k - 1) - 1) (N - 1) ((zr Zi Ti (k - 1) (Ti (k - 1) - 1)).natAbs : Int) (if Ti (k - 2) - Ti (k - 1) = 0 then Zi 78 else hq) := by
  obtain ⟨hI, a1, a2, a3, a4, a5, a6, a7, hQ⟩ := hS
  have hQ0 := hQ
  obtain ⟨b1, b2, b3, b4, b5, b6⟩ := hQ
  obtain ⟨z0, q, hqq⟩ := rdN_sum (b := zr Zi Ti (k - 1)) (r := zr Zi Ti (k - 2)) (nb := Ti (k - 1)) (na := Ti (k - 2)) (fun t ht => zr_out ht) a1 (fun t ht => zr_out ht) a3 (Ti (k - 2) - Ti (k - 1) + 1) (Nat.le_refl _)
  rw [← hρ] at z0 hqq
  have hNn : ρ (N - 1) ≠ 0 := htp.2.2 (N - 1) (by omega)
  have hNlt : N < Ti (k - 1) := by
    rcases Nat.lt_or_ge N (Ti (k - 1)) with h | h
    · exact h
    · exact absurd (z0 (N - 1) (by omega)) hNn
  have hz : ∀ t : Nat, N ≤ t → ρ t = 0 := fun t ht => by
    rcases Nat.lt_or_ge t 16 with h | h
    · exact htp.2.1 t ht h
    · exact z0 t (by omega)
  have em : Ti (k - 2) - 1 - (Ti (k - 1) - 1) = Ti (k - 2) - Ti (k - 1) := by omega
  have hr : ∀ j : Nat, ρ j = ((zr Zi Ti (k - 1) (Ti (k - 1) - 1)).natAbs : Int) ^ (Ti (k - 2) - 1 - (Ti (k - 1) - 1) + 1) * zr Zi Ti (k - 2) j + qS (Ti (k - 2) - 1 - (Ti (k - 1) - 1) + 1) (fun i => q i * qx i (zr Zi Ti (k - 1)) j) := fun j => by rw [em]; exact hqq j
  obtain ⟨s0, hs0, hres⟩ := qIn_rest hQ0 (r := ρ) (Q := q) (l := N - 1) (by omega) hr (fun t ht => hz t (by omega))
  rw [em] at hres
  have hf4 : ∀ j : Nat, j < 2 → ∀ t : Nat, lb (zr Z T j t) 4 := fun j hj t => zr_lb (hin j hj) t
  have hSl : ∀ j t : Nat, j ≤ Ti (k - 1) - 1 → lb (qSb (zr Z T 0) (zr Z T 1) (T 0 - 1) (T 1 - 1) j t) 95 ∨ T 0 + T 1 ≤ 2 * j + 2 := fun j t hj => by
    rcases Nat.lt_or_ge (2 * j + 2) (T 0 + T 1) with h | h
    · exact Or.inl (qSb_lb (hf4 0 (by omega)) (hf4 1 (by omega)) (by omega) (by omega) t)
    · exact Or.inr h
  have hgh : 0 < Zi 77 * Zi 78 ^ (Ti (k - 2) - Ti (k - 1)) := Int.mul_pos b3 (q_pow_pos b4 _)
  have hsg : ∀ x : Int, lb x 95 → lb (s0 * x) 95 := fun x hx => by
    rcases hs0 with e | e <;> rw [e] <;> unfold lb at * <;> omega
  have hlead := fun h => qIn_lead hQ0 (m := Ti (k - 2) - 1) (n := Ti (k - 1) - 1) h
  rw [em] at hlead
  refine ⟨fun i => s0 * qSb (zr Z T 0) (zr Z T 1) (T 0 - 1) (T 1 - 1) (Ti (k - 1) - 1 - 1) i, if Ti (k - 2) - Ti (k - 1) = 0 then 0 else ((qSb (zr Z T 0) (zr Z T 1) (T 0 - 1) (T 1 - 1) (Ti (k - 1) - 1) (Ti (k - 1) - 1)).natAbs : Int), q, fun i => ?_, b3, b4, fun i => ?_, ?_, fun hd => ?_, hNlt, ?_, fun i hi => ?_, b2, fun s => (hqq s).symm, ?_⟩
  · rw [hres i]; grind
  · refine hsg _ ?_
    rcases hSl (Ti (k - 1) - 1 - 1) i (by omega) with h | h
    · exact h
    · omega
  · by_cases hd : Ti (k - 2) - Ti (k - 1) = 0
    · rw [if_pos hd]; exact lb_le lb_0 (by omega)
    · rw [if_neg hd]
      rcases hSl (Ti (k - 1) - 1) (Ti (k - 1) - 1) (by omega) with h | h
      · unfold lb at *; rw [Int.natAbs_natCast]; exact h
      · exfalso
        rcases a2.2.2 with e | e
        · have e0 : Ti (k - 2) = T 0 := by rw [e]; exact hI.2.1 0 (by omega)
          omega
        · omega
  · rw [if_neg (by omega), hlead (by omega), Int.mul_comm]
  · intro h
    have h9 := hres (N - 1)
    have e9 : s0 * (Zi 77 * Zi 78 ^ (Ti (k - 2) - Ti (k - 1))) * qSb (zr Z T 0) (zr Z T 1) (T 0 - 1) (T 1 - 1) (Ti (k - 1) - 1 - 1) (N - 1) = (Zi 77 * Zi 78 ^ (Ti (k - 2) - Ti (k - 1))) * (s0 * qSb (zr Z T 0) (zr Z T 1) (T 0 - 1) (T 1 - 1) (Ti (k - 1) - 1 - 1) (N - 1)) := by grind
    have h8 : s0 * qSb (zr Z T 0) (zr Z T 1) (T 0 - 1) (T 1 - 1) (Ti (k - 1) - 1 - 1) (N - 1) = 0 := h
    rw [e9, h8, Int.mul_zero] at h9
    exact hNn h9
  · have h9 := hres i
    rw [hz i hi] at h9
    have e9 : s0 * (Zi 77 * Zi 78 ^ (Ti (k - 2) - Ti (k - 1))) * qSb (zr Z T 0) (zr Z T 1) (T 0 - 1) (T 1 - 1) (Ti (k - 1) - 1 - 1) i = (Zi 77 * Zi 78 ^ (Ti (k - 2) - Ti (k - 1))) * (s0 * qSb (zr Z T 0) (zr Z T 1) (T 0 - 1) (T 1 - 1) (Ti (k - 1) - 1 - 1) i) := by grind
    rw [e9] at h9
    rcases Int.mul_eq_zero.1 h9.symm with h | h
    · omega
    · exact h
  · have hc0 : 0 < ((zr Zi Ti (k - 1) (Ti (k - 1) - 1)).natAbs : Int) := by omega
    refine qIn_next hQ0 (r := ρ) (Q := q) (l := N - 1) (by omega) hr (fun t ht => hz t (by omega)) (fun t => ?_) (fun h => ?_) ?_ ?_
    · rw [em, hres t]; grind
    · have h9 := hres (N - 1)
      have h7 : -(s0 * qSb (zr Z T 0) (zr Z T 1) (T 0 - 1) (T 1 - 1) (Ti (k - 1) - 1 - 1) (N - 1)) = 0 := h
      have h8 : s0 * qSb (zr Z T 0) (zr Z T 1) (T 0 - 1) (T 1 - 1) (Ti (k - 1) - 1 - 1) (N - 1) = 0 := by omega
      have e9 : s0 * (Zi 77 * Zi 78 ^ (Ti (k - 2) - Ti (k - 1))) * qSb (zr Z T 0) (zr Z T 1) (T 0 - 1) (T 1 - 1) (Ti (k - 1) - 1 - 1) (N - 1) = (Zi 77 * Zi 78 ^ (Ti (k - 2) - Ti (k - 1))) * (s0 * qSb (zr Z T 0) (zr Z T 1) (T 0 - 1) (T 1 - 1) (Ti (k - 1) - 1 - 1) (N - 1)) := by grind
      rw [e9, h8, Int.mul_zero] at h9
      exact hNn h9
    · by_cases hd : Ti (k - 2) - Ti (k - 1) = 0
      · rw [if_pos hd]; exact b4
      · rw [if_neg hd, if_neg hd]
        have h9 := hlead (by omega)
        have h8 := q_pow_pos hc0 (Ti (k - 2) - Ti (k - 1))
        rw [h9] at h8
        rcases Nat.eq_zero_or_pos (qSb (zr Z T 0) (zr Z T 1) (T 0 - 1) (T 1 - 1) (Ti (k - 1) - 1) (Ti (k - 1) - 1)).natAbs with h | h
        · rw [h] at h8
          simp at h8
        · omega
    · by_cases hd : Ti (k - 2) - Ti (k - 1) = 0
      · exact Or.inl ⟨by omega, if_pos hd⟩
      · refine Or.inr ⟨by omega, ?_⟩
        rw [if_neg hd, if_neg hd, em, hlead (by omega), Int.mul_comm]
