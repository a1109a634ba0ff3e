theorem rsg_pow_neg {X : Rat} (hX : 0 < X) : ∀ n : Nat, rsg ((-X) ^ n) = if n % 2 = 1 then -1 else 1
  | 0 => by rw [show (-X) ^ 0 = 1 by grind, rsg_pos (by grind)]; rfl
  | n + 1 => by
    rw [show (-X) ^ (n + 1) = (-X) ^ n * (-X) by grind, sgn_mul_r, rsg_pow_neg hX n, rsg_neg (by grind)]
    by_cases c : n % 2 = 1
    · rw [if_pos c, if_neg (by omega)]; rfl
    · rw [if_neg c, if_pos (by omega)]; rfl
theorem rsg_pow_pos {X : Rat} (hX : 0 < X) (n : Nat) : rsg (X ^ n) = 1 := rsg_pos (rat_pow_pos hX n)
theorem fin_max (f : Nat → Rat) : ∀ n : Nat, ∃ X : Rat, 1 ≤ X ∧ ∀ k : Nat, k < n → f k ≤ X
  | 0 => ⟨1, by grind, fun k hk => absurd hk (by omega)⟩
  | n + 1 => by
    obtain ⟨X, h1, h2⟩ := fin_max f n
    by_cases c : f n ≤ X
    · refine ⟨X, h1, fun k hk => ?_⟩
      by_cases c2 : k = n
      · rw [c2]; exact c
      · exact h2 k (by omega)
    · refine ⟨f n, by grind, fun k hk => ?_⟩
      by_cases c2 : k = n
      · rw [c2]; grind
      · have := h2 k (by omega); grind
/-- the signs of the rows far out -/
theorem rows_far {Z : Nat → Int} {T : Nat → Nat} {us : Nat} (h : chn Z T us) : ∃ X0 : Rat, 1 ≤ X0 ∧ ∀ X : Rat, X0 ≤ X → ∀ k : Nat, k < us → rsg (rowv Z T k (-X)) = lS Z T 1 k ∧ rsg (rowv Z T k X) = lS Z T 0 k ∧ rowv Z T k (-X) ≠ 0 ∧ rowv Z T k X ≠ 0 := by
  obtain ⟨d1, d2, d3⟩ := chn_dec h
  obtain ⟨X0, x1, x2⟩ := fin_max (fun k => csum (zr Z T k) (T k - 1) + 1) us
  refine ⟨X0, x1, fun X hX k hk => ?_⟩
  have hT := d1 k hk
  obtain ⟨n, hn⟩ : ∃ n : Nat, T k = n + 1 := ⟨T k - 1, by omega⟩
  have hl := d3 k hk
  have hxk := x2 k hk
  simp only [hn, Nat.add_sub_cancel] at hl hxk
  have hXp : 0 < X := by grind
  have hz : Z (pB k + n) = zr Z T k n := (zr_in (by omega)).symm
  have f1 := rv_top hl (X := X) (x := -X) (by grind) (Or.inr rfl)
  have f2 := rv_top hl (X := X) (x := X) (by grind) (Or.inl rfl)
  rw [rsg_pow_neg hXp] at f1
  rw [rsg_pow_pos hXp, Int.mul_one] at f2
  have g1 : rsg (rowv Z T k (-X)) = lS Z T 1 k := by
    unfold rowv lS
    rw [hn, f1, Nat.add_sub_cancel, hz]
    by_cases c : n % 2 = 1
    · rw [if_pos c, if_neg (show ¬ n + 1 = 0 by omega), if_pos ⟨rfl, c⟩]; omega
    · rw [if_neg c, if_neg (show ¬ n + 1 = 0 by omega), if_neg (fun g => c g.2)]; omega
  have g2 : rsg (rowv Z T k X) = lS Z T 0 k := by
    unfold rowv lS
    rw [hn, f2, if_neg (by omega), Nat.add_sub_cancel, hz, if_neg (fun g => absurd g.1 (by decide))]
  have hs : (zr Z T k n).sign ≠ 0 := fun g => hl (Int.sign_eq_zero_iff_zero.1 g)
  refine ⟨g1, g2, fun g => ?_, fun g => ?_⟩
  · unfold rowv at g
    rw [hn] at g
    rw [g, rsg_zero] at f1
    split at f1 <;> omega
  · unfold rowv at g
    rw [hn] at g
    rw [g, rsg_zero] at f2
    omega
theorem row1_rv {Z : Nat → Int} {T : Nat → Nat} (h1 : zr Z T 1 = dp (zr Z T 0)) (h0 : 1 ≤ T 0) (x : Rat) : rowv Z T 1 x = rv (dpr (zr Z T 0)) (T 0 - 1) x := by
  have e : dpr (zr Z T 0) = zr Z T 1 := h1.symm
  unfold rowv
  rw [e]
  have z1 : ∀ i : Nat, T 0 - 1 ≤ i → zr Z T 1 i = 0 := fun i hi => by
    rw [h1]
    unfold dp
    rw [zr_out (by omega)]
    omega
  rcases Nat.le_total (T 1) (T 0 - 1) with c | c
  · exact (rv_le (zr_zero Z T 1) c x).symm
  · exact rv_le z1 c x
/-- what the class counts: a function of the point, that grows by the roots -/
theorem chn_count {Z : Nat → Int} {T : Nat → Nat} {us : Nat} {F : Nat → Int} (h : chn Z T us) (h0 : zr Z T 0 = F) (h1 : zr Z T 1 = dp F) :
    ∃ (Q0 Q1 : Rat → Rat) (W : Rat → Int), (∀ B : Rat, 0 ≤ B → nice B Q0) ∧ (∀ B : Rat, 0 ≤ B → nice B Q1) ∧ (∀ x : Rat, rowv Z T 0 x = Q0 x * rowv Z T (us - 1) x) ∧ (∀ x : Rat, rv (dpr F) (T 0 - 1) x = Q1 x * rowv Z T (us - 1) x) ∧
      (∀ (n : Int) (ex : Nat) (v : Int), upR Z T us n ex v → v = W (dy n ex)) ∧
      (∃ X0 : Rat, 1 ≤ X0 ∧ ∀ X : Rat, X0 ≤ X → W (-X) = 0 ∧ W X = ((vc (lS Z T 1) us : Nat) : Int) - ((vc (lS Z T 0) us : Nat) : Int)) ∧
      ∀ B : Rat, 0 ≤ B → ∃ d : Rat, 0 < d ∧ ∀ x y : Rat, ab B x → ab B y → x < y → y - x ≤ d → W y - W x = jmp (rsg (Q0 x)) (rsg (Q0 y)) := by
  subst h0
  obtain ⟨Q, hQ, hl⟩ := chn_Q h
  have hu := h.2.2.2.1
  have hT0 := h.2.2.2.2.2.2.1
  have hld := h.2.2.2.2.2.2.2.2.1
  have eus : us - 1 + 1 = us := by omega
  obtain ⟨d1, d2, d3⟩ := chn_dec h
  have hQ1 : ∃ Q1 : Rat → Rat, (∀ B : Rat, 0 ≤ B → nice B Q1) ∧ (∀ x : Rat, rv (dpr (zr Z T 0)) (T 0 - 1) x = Q1 x * rowv Z T (us - 1) x) ∧ (1 ≤ us - 1 → ∀ x : Rat, rv (dpr (zr Z T 0)) (T 0 - 1) x = Q 1 x * rowv Z T (us - 1) x) := by
    by_cases c : 1 ≤ us - 1
    · have e : ∀ x : Rat, rv (dpr (zr Z T 0)) (T 0 - 1) x = Q 1 x * rowv Z T (us - 1) x := fun x => by rw [← row1_rv h1 hT0 x]; exact hQ 1 c x
      exact ⟨Q 1, fun B hB => (hl B hB).1 1 c, e, fun _ => e⟩
    · -- a constant
      have hc : T 1 = 0 := by
        by_cases c2 : T 1 = 0
        · exact c2
        · have := (h.2.2.2.2.2.1 (by omega)).1; omega
      refine ⟨fun _ => 0, fun B hB => nice_const B 0, fun x => ?_, fun g => absurd g c⟩
      rw [← row1_rv h1 hT0 x]
      unfold rowv
      rw [hc]
      show (0 : Rat) = 0 * _
      grind
  obtain ⟨Q1, q1, q2, q3⟩ := hQ1
  refine ⟨Q 0, Q1, fun x => ((vc (lS Z T 1) us : Nat) : Int) - ((vc (fun k => rsg (Q k x)) us : Nat) : Int), fun B hB => (hl B hB).1 0 (by omega), q1, fun x => hQ 0 (by omega) x, q2, fun n ex v hv => ?_, ?_, fun B hB => ?_⟩
  · obtain ⟨Za, od, u1, u2, u3⟩ := hv
    have e1 := rows_sign h u1 u2 hQ hl (Nat.zero_le us)
    rw [u3, e1]
    have e2 : vc (lS (qu Za 84 n) T 1) us = vc (lS Z T 1) us := (vc_turn (r := 1) (Or.inl rfl) us (fun k hk => by
      have g2 := h.1 k (by omega)
      have g3 := pB_61 (k := k) (by omega)
      have g4 := d1 k hk
      have e3 : lS (qu Za 84 n) T 1 k = lS Z T 1 k := by
        unfold lS
        rw [qu_other _ _ (by omega), u1 _ (by omega)]
      have g5 : lS Z T 1 k = -1 ∨ lS Z T 1 k = 0 ∨ lS Z T 1 k = 1 := by
        unfold lS
        have hs : (Z (pB k + (T k - 1))).sign = -1 ∨ (Z (pB k + (T k - 1))).sign = 0 ∨ (Z (pB k + (T k - 1))).sign = 1 := by
          rw [← rsg_int]; exact rsg_three _
        split
        · omega
        · split <;> omega
      rw [e3]
      refine ⟨?_, g5⟩
      rcases g5 with g | g | g <;> rw [g] <;> rfl)).2
    rw [e2, Nat.sub_zero]
    simp only [Nat.zero_add]
  · obtain ⟨X0, x1, x2⟩ := rows_far h
    refine ⟨X0, x1, fun X hX => ?_⟩
    have key : ∀ (x : Rat) (bw : Nat), (∀ k : Nat, k < us → rsg (rowv Z T k x) = lS Z T bw k) → rowv Z T (us - 1) x ≠ 0 → vc (lS Z T bw) us = vc (fun k => rsg (Q k x)) us := fun x bw g1 g2 => (vc_turn (rsg_nz g2) us (fun k hk => by
      refine ⟨?_, rsg_three _⟩
      rw [← g1 k hk, hQ k (by omega) x, sgn_mul_r]
      rcases rsg_three (Q k x) with u | u | u <;> rcases rsg_three (rowv Z T (us - 1) x) with w | w | w <;> rw [u, w] <;> rfl)).2
    show _ - _ = _ ∧ _ - _ = _
    rw [← key (-X) 1 (fun k hk => (x2 X hX k hk).1) (x2 X hX (us - 1) (by omega)).2.2.1, ← key X 0 (fun k hk => (x2 X hX k hk).2.1) (x2 X hX (us - 1) (by omega)).2.2.2]
    omega
  · have hsl : slope B (rowv Z T 0) (rv (dpr (zr Z T 0)) (T 0 - 1)) := by
      have := rv_slope hB (zr Z T 0) (T 0 - 1)
      rw [show T 0 - 1 + 1 = T 0 by omega] at this
      exact this
    obtain ⟨d, p1, p2⟩ := sturm_cell (hl B hB) hsl (rv_nice hB (zr Z T (us - 1)) (T (us - 1))) (fun x => hQ 0 (by omega) x) (fun hm x => q3 hm x) (fun x y hxy => dense hT0 hld x y hxy)
    refine ⟨d, p1, fun x y hx hy hxy hd => ?_⟩
    have := p2 x y hx hy hxy hd
    rw [eus] at this
    show ((vc (lS Z T 1) us : Nat) : Int) - _ - (((vc (lS Z T 1) us : Nat) : Int) - _) = _
    omega
