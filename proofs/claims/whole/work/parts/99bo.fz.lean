theorem prim_one {y r : Nat → Int} {N : Nat} (h : primR y N r) (hN : 1 ≤ N) (hy : y (N - 1) ≠ 0) : gN r N = 1 := by
  have h1 := gN_ne hy N (by omega)
  have hs : (y (N - 1)).sign = 1 ∨ (y (N - 1)).sign = -1 := by
    rcases Int.lt_trichotomy (y (N - 1)) 0 with g | g | g
    · exact Or.inr (Int.sign_eq_neg_one_of_neg g)
    · exact absurd g hy
    · exact Or.inl (Int.sign_eq_one_of_pos g)
  have h2 : gN y N * gN r N ∣ gN y N := gN_dvd2 (fun i hi => by
    obtain ⟨k, hk⟩ := gN_all (c := r) hi
    have h3 := h i hi
    rw [hk] at h3
    rw [Int.natCast_mul]
    rcases hs with g | g <;> rw [g] at h3
    · exact ⟨k, by rw [Int.mul_assoc]; omega⟩
    · exact ⟨-k, by rw [Int.mul_neg, Int.mul_assoc]; omega⟩)
  have h3 := Nat.le_of_dvd (by omega) h2
  rcases Nat.lt_or_ge 1 (gN r N) with q | q
  · have := Nat.mul_lt_mul_of_pos_left q (show 0 < gN y N by omega)
    omega
  · rcases Nat.eq_zero_or_pos (gN r N) with q2 | q2
    · rw [q2, Nat.mul_zero] at h2
      exact absurd (Nat.eq_zero_of_zero_dvd h2) h1
    · omega
/-- the coefficients of a step -/
theorem step_coef {a b q y : Nat → Int} {Na Nb Nr : Nat} {u : Int} (h : ∀ t : Int, u * ev a Na t = ev q (Na - Nb + 1) t * ev b Nb t + ev y Nr t) (s : Nat) : cut y Nr s = u * cut a Na s + qS (Na - Nb + 1) (fun e => (-1 * q e) * qx e (cut b Nb) s) := by
  have key : ∀ i : Nat, i < Na + Nb + Nr + s + 2 → cut y Nr i = u * cut a Na i + qS (Na - Nb + 1) (fun e => (-1 * q e) * qx e (cut b Nb) i) := rv_inj (fun x => by
    rw [rv_add, rv_smul, rv_le (cut_out y Nr) (by omega), cut_rv, rv_le (cut_out a Na) (by omega), cut_rv, rv_conv (fun e => -1 * q e) (cut b Nb) Nb (cut_out b Nb) x _ _ (by omega), cut_rv, rv_smul, ev_all h x]
    have m1 : ((-1 : Int) : Rat) = -1 := rfl
    rw [m1]; grind)
  exact key s (by omega)
theorem okP_one {r : Nat → Int} (h : gN r 1 = 1) : okP r 1 := fun i hi => by
  rw [show i = 0 by omega]
  have h1 : Int.gcd (r 0) ((0 : Nat) : Int) = 1 := h
  have h2 : (r 0).natAbs = 1 := by
    have h3 : Nat.gcd (r 0).natAbs ((((0 : Nat) : Int)).natAbs) = 1 := h1
    have e0 : ((((0 : Nat) : Int)).natAbs) = 0 := rfl
    rw [e0, Nat.gcd_zero_right] at h3
    exact h3
  rw [h2]
  exact Int.le_trans (show ((1 : Nat) : Int) ≤ 2 ^ 1 by decide) (by
    have : (2 : Nat) ^ 1 ≤ 2 ^ 1200 := Nat.pow_le_pow_right (by decide) (by decide)
    have e1 : ((2 ^ 1 : Nat) : Int) = 2 ^ 1 := rfl
    have e2 : ((2 ^ 1200 : Nat) : Int) = 2 ^ 1200 := by rw [Int.natCast_pow]; rfl
    rw [← e1, ← e2]
    exact Int.ofNat_le.2 this)
/-- the chain of remainders keeps its numbers short -/
theorem FZ_qpr {f0 f1 : Nat → Int} {n0 n1 : Nat} (hb : ∀ j t : Nat, 1 ≤ j → j + 1 ≤ n1 → ((qSb f0 f1 n0 n1 j t).natAbs : Int) ≤ 2 ^ 1200) : ∀ (h : Nat) (a : Nat → Int) (Na : Nat) (b : Nat → Int) (Nb : Nat), okP a Na → okP b Nb → (1 ≤ Nb → (Nb ≤ Na ∧ Nb ≤ n1 + 1) ∧ qPr f0 f1 n0 n1 (cut a Na) (cut b Nb) (Na - 1) (Nb - 1)) → FZ h a Na b Nb
  | 0, a, Na, b, Nb, ha, hb', _ => ⟨ha, hb'⟩
  | h + 1, a, Na, b, Nb, ha, hb', H => by
    refine ⟨ha, hb', fun r Nr h0 hs hr => ?_⟩
    obtain ⟨⟨hle, hn1⟩, HP⟩ := H h0
    obtain ⟨y, y1, y2, y3, y4⟩ := hs
    rcases y4 with ⟨c1, _, _⟩ | ⟨_, q, k, k1, k2, k3, k4⟩
    · omega
    · have hlead : cut b Nb (Nb - 1) ≠ 0 := HP.2.1
      rw [show cut b Nb (Nb - 1) = b (Nb - 1) from if_pos (by omega)] at hlead
      have hu : (b (Nb - 1)) ^ k ≠ 0 := Int.pow_ne_zero hlead
      rcases Nat.eq_zero_or_pos Nr with c | c
      · subst c
        exact FZ_qpr hb h b Nb r 0 hb' (fun i hi => absurd hi (by omega)) (fun g => absurd g (by omega))
      · have hyl := y2 (Nr - 1) (by omega)
        have hrl := hr (Nr - 1) (by omega)
        have hg := prim_one y3 c hyl
        have hgn := gN_ne hyl Nr (by omega)
        have hsn : (y (Nr - 1)).sign ≠ 0 := fun g => hyl (Int.sign_eq_zero_iff_zero.1 g)
        have hcoef := step_coef k4
        have hlen : Na - 1 - (Nb - 1) + 1 = Na - Nb + 1 := by omega
        have hyr : ∀ t : Nat, (y (Nr - 1)).sign * cut y Nr t = ((gN y Nr : Nat) : Int) * cut r Nr t := fun t => by
          by_cases c2 : t < Nr
          · rw [show cut y Nr t = y t from if_pos c2, show cut r Nr t = r t from if_pos c2]
            exact (y3 t c2).symm
          · rw [cut_out y Nr t (by omega), cut_out r Nr t (by omega)]; omega
        have hnext := qPr_next (r := cut y Nr) (Q := fun e => -1 * q e) (f2 := cut r Nr) (l := Nr - 1) (u := (b (Nb - 1)) ^ k) (c := (y (Nr - 1)).sign) (e := ((gN y Nr : Nat) : Int)) HP hu ⟨hsn, by omega⟩ (by omega) (by rw [hlen]; exact hcoef) (fun t ht => cut_out y Nr t (by omega)) hyr (by rw [show cut r Nr (Nr - 1) = r (Nr - 1) from if_pos (by omega)]; exact hrl)
        have hok : okP r Nr := by
          by_cases c2 : Nr = 1
          · rw [c2] at hg ⊢; exact okP_one hg
          · obtain ⟨x, w, hx, hw, hrest⟩ := qPr_rest (r := cut y Nr) (Q := fun e => -1 * q e) (l := Nr - 1) (u := (b (Nb - 1)) ^ k) HP hu (by omega) (by rw [hlen]; exact hcoef) (fun t ht => cut_out y Nr t (by omega))
            have h9 := prim_bd (r := r) (s := qSb f0 f1 n0 n1 (Nb - 1 - 1)) (n := Nr) (x := x * ((gN y Nr : Nat) : Int)) (y := (y (Nr - 1)).sign * w) (Int.mul_ne_zero hx (by omega)) (Int.mul_ne_zero hsn hw) hg (fun t ht => by
              have e1 := hyr t
              have e2 := hrest t
              rw [show cut r Nr t = r t from if_pos ht] at e1
              rw [Int.mul_assoc, ← e1, ← Int.mul_assoc, Int.mul_comm x, Int.mul_assoc, e2, Int.mul_assoc])
            intro i hi
            have h10 := h9 i hi
            have h11 := hb (Nb - 1 - 1) i (by omega) (by omega)
            omega
        exact FZ_qpr hb h b Nb r Nr hb' hok (fun _ => ⟨⟨by omega, by omega⟩, hnext⟩)
theorem nat_pow_cast (a k : Nat) : (((a ^ k : Nat)) : Int) = (a : Int) ^ k := Int.natCast_pow a k
/-- bounds of the subresultants -/
theorem qSb_1200 {f0 f1 : Nat → Int} {n0 n1 B K : Nat} (h0 : ∀ t : Nat, ((f0 t).natAbs : Int) ≤ 2 ^ B) (h1 : ∀ t : Nat, ((f1 t).natAbs : Int) ≤ 2 ^ B) (hK : n0 + n1 ≤ K + 2) (hK14 : K ≤ 14) (hB : B * K + 37 ≤ 1200) (j t : Nat) (hj : 1 ≤ j) (hj2 : 2 * j + 1 ≤ n0 + n1) : ((qSb f0 f1 n0 n1 j t).natAbs : Int) ≤ 2 ^ 1200 := by
  have hM : (0 : Int) ≤ 2 ^ B := Int.le_of_lt (Int.pow_pos (by decide))
  have h2 := qSb_bd (M := 2 ^ B) (f := f0) (g := f1) (m := n0) (n := n1) (j := j) hM (fun t => by have := h0 t; omega) (fun t => by have := h1 t; omega) t
  obtain ⟨k, hk⟩ : ∃ k : Nat, k = n0 + n1 - 2 * j - 1 + 1 := ⟨_, rfl⟩
  rw [← hk] at h2
  have hkK : k ≤ K := by omega
  have hF : qF k ≤ 2 ^ 37 := by
    have : k = 0 ∨ k = 1 ∨ k = 2 ∨ k = 3 ∨ k = 4 ∨ k = 5 ∨ k = 6 ∨ k = 7 ∨ k = 8 ∨ k = 9 ∨ k = 10 ∨ k = 11 ∨ k = 12 ∨ k = 13 ∨ k = 14 := by omega
    rcases this with h | h | h | h | h | h | h | h | h | h | h | h | h | h | h <;> subst h <;> decide
  have hF0 := qF_pos k
  have e1 : ((2 : Int) ^ B) ^ k = 2 ^ (B * k) := by rw [Int.pow_mul]
  rw [e1] at h2
  have e2 : (2 : Int) ^ 37 * 2 ^ (B * k) ≤ 2 ^ 1200 := by
    rw [← Int.pow_add]
    have h3 : 37 + B * k ≤ 1200 := by
      have := Nat.mul_le_mul_left B hkK
      omega
    have h4 : (2 : Nat) ^ (37 + B * k) ≤ 2 ^ 1200 := Nat.pow_le_pow_right (by decide) h3
    have h5 := Int.ofNat_le.2 h4
    rw [nat_pow_cast, nat_pow_cast] at h5
    exact h5
  have h6 := Int.mul_le_mul_of_nonneg_right hF (show (0 : Int) ≤ 2 ^ (B * k) from Int.le_of_lt (Int.pow_pos (by decide)))
  omega
theorem ok_pow {x : Int} {B : Nat} (hB : B ≤ 1200) (h : (x.natAbs : Int) ≤ 2 ^ B) : (x.natAbs : Int) ≤ 2 ^ 1200 := by
  have h4 : (2 : Nat) ^ B ≤ 2 ^ 1200 := Nat.pow_le_pow_right (by decide) hB
  have h5 := Int.ofNat_le.2 h4
  rw [nat_pow_cast, nat_pow_cast] at h5
  exact Int.le_trans h h5
theorem cut_bd {a : Nat → Int} {N B : Nat} (h : ∀ i : Nat, i < N → ((a i).natAbs : Int) ≤ 2 ^ B) (t : Nat) : ((cut a N t).natAbs : Int) ≤ 2 ^ B := by
  unfold cut
  by_cases c : t < N
  · rw [if_pos c]; exact h t c
  · rw [if_neg c]; exact Int.le_of_lt (Int.pow_pos (by decide))
theorem FZ_pair {a b : Nat → Int} {Na Nb B K : Nat} (hl : ldn b Nb) (hle : Nb ≤ Na) (ha : ∀ i : Nat, i < Na → ((a i).natAbs : Int) ≤ 2 ^ B) (hb : ∀ i : Nat, i < Nb → ((b i).natAbs : Int) ≤ 2 ^ B) (hK : Na + Nb ≤ K + 4) (hK14 : K ≤ 14) (hB : B * K + 37 ≤ 1200) (hB2 : B ≤ 1200) (h : Nat) : FZ h a Na b Nb := by
  refine FZ_qpr (f0 := cut a Na) (f1 := cut b Nb) (n0 := Na - 1) (n1 := Nb - 1) (fun j t hj hj2 => qSb_1200 (cut_bd ha) (cut_bd hb) (by omega) hK14 hB j t hj (by omega)) h a Na b Nb (fun i hi => ok_pow hB2 (ha i hi)) (fun i hi => ok_pow hB2 (hb i hi)) (fun g => ⟨⟨hle, by omega⟩, qPr_self (fun t ht => cut_out b Nb t (by omega)) ?_ (by omega)⟩)
  rw [show cut b Nb (Nb - 1) = b (Nb - 1) from if_pos (by omega)]
  exact hl (Nb - 1) (by omega)
theorem prim_le {y r : Nat → Int} {N : Nat} (h : primR y N r) (hl : ldn y N) : ∀ i : Nat, i < N → (r i).natAbs ≤ (y i).natAbs := fun i hi => by
  have hyl := hl (N - 1) (by omega)
  have hgn := gN_ne hyl N (by omega)
  have hsn : (y (N - 1)).sign ≠ 0 := fun g => hyl (Int.sign_eq_zero_iff_zero.1 g)
  exact prim_bd (x := ((gN y N : Nat) : Int)) (y := (y (N - 1)).sign) (by omega) hsn (prim_one h (by omega) hyl) h i hi
theorem FZ_any {a b : Nat → Int} {Na Nb B K : Nat} (hla : ldn a Na) (hl : ldn b Nb) (ha : ∀ i : Nat, i < Na → ((a i).natAbs : Int) ≤ 2 ^ B) (hb : ∀ i : Nat, i < Nb → ((b i).natAbs : Int) ≤ 2 ^ B) (hK : Na + Nb ≤ K + 4) (hK14 : K ≤ 14) (hB : B * K + 37 ≤ 1200) (hB2 : B ≤ 1200) : ∀ h : Nat, FZ h a Na b Nb
  | 0 => ⟨fun i hi => ok_pow hB2 (ha i hi), fun i hi => ok_pow hB2 (hb i hi)⟩
  | h + 1 => by
    by_cases c : Nb ≤ Na
    · exact FZ_pair hl c ha hb hK hK14 hB hB2 (h + 1)
    · refine ⟨fun i hi => ok_pow hB2 (ha i hi), fun i hi => ok_pow hB2 (hb i hi), fun r Nr h0 hs hr => ?_⟩
      obtain ⟨y, y1, y2, y3, y4⟩ := hs
      rcases y4 with ⟨c1, c2, c3⟩ | ⟨c1, _⟩
      · subst c2
        refine FZ_pair hr (by omega) hb (fun i hi => ?_) (by omega) hK14 hB hB2 h
        have h1 := prim_le y3 y2 i hi
        rw [c3 i hi] at h1
        have := ha i hi
        omega
      · omega
