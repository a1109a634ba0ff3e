section
variable {A B : Nat → Int} {N1 N2 : Nat} {QA Q1A QB Q1B QC Q1C TA TB : Rat → Rat} {WA WB WC : Rat → Int} {GA GB : Nat → Int} {mA mB : Nat} {fA fB : Nat → Int} {NA NB : Nat} {kA kB : Rat}
theorem ndQ_of {f c : Nat → Int} {N D : Nat} {Q : Rat → Rat} {a w k : Rat} (h : nd (cut f N) N D c a w) (k0 : k ≠ 0) (hk : ∀ x : Rat, rv f N x = k * Q x) : ndQ f N Q D c a w := by
  refine ⟨(nd_w h).1, ?_, fun _ => h⟩
  obtain ⟨k', k1, _, k2, _⟩ := h
  refine ⟨k' * k, fun g => ?_, fun t => ?_⟩
  · rcases Rat.mul_eq_zero.1 g with u | u
    · grind
    · exact k0 u
  · rw [k2, cut_rv, hk]; grind
theorem nd_sign {f c : Nat → Int} {N D : Nat} {a w : Rat} (h : nd (cut f N) N D c a w) : (psum c N).sign = rsg (rv f N (a + w)) := by
  obtain ⟨k', k1, _, k2, _⟩ := h
  have h1 := k2 1
  rw [← psum_rv, cut_rv, show a + 1 * w = a + w by grind] at h1
  rw [← rsg_int, h1, sgn_mul_r, rsg_pos k1]
  omega
/-- what the narrowing of the reference gives is the sign at the root -/
theorem SR_ok (hA : sq A N1 QA Q1A WA GA mA) (nA : 1 ≤ N1) (lA : A (N1 - 1) ≠ 0) (hB : sq B N2 QB Q1B WB GB mB) (nB : 1 ≤ N2) (lB : B (N2 - 1) ≠ 0) (hT : two QA QB QC TA TB) (hC : cnt QC WC)
    (a1 : 1 ≤ NA ∧ NA ≤ 9) (b1 : 1 ≤ NB ∧ NB ≤ 9) (n9 : N2 ≤ 9) (kA0 : kA ≠ 0) (hkA : ∀ x : Rat, rv fA NA x = kA * QA x) (kB0 : kB ≠ 0) (hkB : ∀ x : Rat, rv fB NB x = kB * QB x) :
    ∀ (k : Nat) (D : Nat) (cA cB cQ : Nat → Int) (a w : Rat) (v : Int), nd (cut fA NA) NA D cA a w → nd (cut fB NB) NB D cB a w → nd (cut B N2) N2 D cQ a w → WA (a + w) - WA a = 1 → WC (a + w) = WC a → SR NA NB N2 k cA cB cQ v → sga (fun x => rv B N2 x) WA WC a (a + w) v
  | 0, _, _, _, _, _, _, _, _, _, _, _, _, h => absurd h (fun h => h)
  | k + 1, D, cA, cB, cQ, a, w, v, dA, dB, dQ, h1, h2, h => by
    have w0 := (nd_w dA).1
    obtain ⟨h9, _, t9, hh⟩ := h
    have ub := ndQ_UV hB.1 (sq_dense hB nB lB) b1.1 (ndQ_of dB kB0 hkB) t9
    rcases hh with ⟨g1, g2⟩ | ⟨g1, h8, _, t8, g2⟩
    · rw [nd_sign dQ] at g2
      rw [ub] at g1
      have mB' := cnt_mono hB.1 (show a ≤ a + w by grind)
      obtain ⟨b, hb, bp, bq⟩ := both_B a (a + w)
      obtain ⟨e, e0, d1, d10, hd1⟩ := cell_C hA nA lA hB nB lB hT b hb
      obtain ⟨d2, d20, hd2⟩ := hA.1.2.2 b hb
      obtain ⟨d3, d30, hd3⟩ := hC.2.2 b hb
      obtain ⟨c1, c10, c11, c12⟩ := pos_min d10 d20
      obtain ⟨c2, c20, c21, c22⟩ := pos_min c10 d30
      obtain ⟨u, u', y1, y2, y3, y4, y5⟩ := find_cell hA.1 (show a ≤ a + w by grind) (show WA a < WA (a + w) by omega) c20
      have bu := in_B bp bq y1 (show u ≤ a + w by grind)
      have bv := in_B bp bq (show a ≤ u' by grind) y3
      have w1 := hd2 u u' bu bv y2 (by grind)
      have w2 := hd3 u u' bu bv y2 (by grind)
      have m1 := cnt_mono hC y1
      have m2 := cnt_mono hC (Rat.le_of_lt y2)
      have m3 := cnt_mono hC y3
      have m4 := cnt_mono hA.1 y1
      have m5 := cnt_mono hA.1 y3
      have hq : ¬ calm (QA u) (QA u') := fun c => by
        have e1 : jmp (rsg (QA u)) (rsg (QA u')) = 0 := by unfold jmp; rw [if_neg (fun g => g.2 c.1.symm)]
        omega
      rw [jmp_off hq] at w1
      have q0 : QA u ≠ 0 := fun g => by rw [if_pos g] at w1; omega
      rcases hd1 u u' bu bv y2 (by grind) hq with ⟨x1, _⟩ | ⟨_, _, s, hs, hz⟩
      · exfalso
        rw [jmp_off x1, if_neg (fun g => q0 (by rw [hT.2.1, g]; grind))] at w2
        omega
      · have bnz : rv B N2 u' ≠ 0 := fun g => by
          have := (hz u' (by grind) (by grind)).1
          rw [g, rsg_zero] at this; omega
        have m6 := cnt_mono hB.1 (show a ≤ u' by grind)
        have m7 := cnt_mono hB.1 y3
        have enz : rv B N2 (a + w) ≠ 0 := fun g => by
          have g3 := (sq_root hB nB lB (a + w)).1 g
          by_cases c : u' = a + w
          · rw [c] at bnz; exact bnz g
          · have := cnt_jump hB.1 (sq_dense hB nB lB) (show u' < a + w by grind) g3
            omega
        have sg := sq_sgn N2 (Nat.le_refl _) hB nB lB u' (a + w) y3 (by omega) bnz enz
        have es : v = s := by rw [g2, sg]; exact (hz u' (by grind) (by grind)).1
        rw [es]
        exact ⟨u, u', y1, y2, y3, by omega, by omega, Or.inl ⟨hs, e, e0, hz⟩⟩
    · have dA2 := nd_left a1 dA
      have ua := ndQ_UV hA.1 (sq_dense hA nA lA) a1.1 (ndQ_of dA2 kA0 hkA) t8
      have m1 := cnt_mono hA.1 (show a ≤ a + w / 2 by grind)
      have m2 := cnt_mono hA.1 (show a + w / 2 ≤ a + w by grind)
      have m3 := cnt_mono hC (show a ≤ a + w / 2 by grind)
      have m4 := cnt_mono hC (show a + w / 2 ≤ a + w by grind)
      have ew : a + w / 2 + w / 2 = a + w := by grind
      rcases g2 with ⟨g2, g3⟩ | ⟨g2, g3⟩
      · rw [ua] at g2
        have := SR_ok hA nA lA hB nB lB hT hC a1 b1 n9 kA0 hkA kB0 hkB k (D + 1) _ _ _ a (w / 2) v dA2 (nd_left b1 dB) (nd_left ⟨nB, n9⟩ dQ) (by omega) (by omega) g3
        exact sga_wide this (by grind) (by grind) rfl (by omega)
      · rw [ua] at g2
        have := SR_ok hA nA lA hB nB lB hT hC a1 b1 n9 kA0 hkA kB0 hkB k (D + 1) _ _ _ (a + w / 2) (w / 2) v (nd_right a1 dA) (nd_right b1 dB) (nd_right ⟨nB, n9⟩ dQ) (by rw [ew]; omega) (by rw [ew]; omega) g3
        rw [ew] at this
        exact sga_wide this (by grind) (by grind) (by omega) rfl
/-- a deep cell holds no two different roots of A and B -/
theorem deep_AB (hA : sq A N1 QA Q1A WA GA mA) (hB : sq B N2 QB Q1B WB GB mB) (hT : two QA QB QC TA TB) (hC : cnt QC WC) (oA : okF fA NA) (oB : okF fB NB) (kA0 : kA ≠ 0) (hkA : ∀ x : Rat, rv fA NA x = kA * QA x) (kB0 : kB ≠ 0) (hkB : ∀ x : Rat, rv fB NB x = kB * QB x)
    {a w : Rat} (w0 : 0 < w) (ha : ab ((2 : Rat) ^ 31) a) (haw : ab ((2 : Rat) ^ 31) (a + w)) (hw : w * (2 : Rat) ^ 1980 ≤ (2 : Rat) ^ 31) (h1 : WA a < WA (a + w)) (h2 : WB a < WB (a + w)) (h3 : WC (a + w) = WC a) : False := by
  obtain ⟨⟨pQA, pQB, pC, pTA, pTB⟩, eA, eB, U, V, pU, pV, bz⟩ := hT
  obtain ⟨P, n, c, oP, c0, hP⟩ := int_T oA kA0 hkA pC pTA eA
  obtain ⟨R, m, c', oR, c0', hR⟩ := int_T oB kB0 hkB pC pTB eB
  have p1560 := p2pos 1560
  have hi : 0 < 1 / (2 : Rat) ^ 1560 := div_pos' (by grind) p1560
  obtain ⟨e, he⟩ : ∃ e : Rat, e = 1 / (2 : Rat) ^ 1560 := ⟨_, rfl⟩
  rw [← he] at hi
  -- small values of the two parts
  have sml : ∀ (c : Rat), c ≠ 0 → ∃ d : Rat, 0 < d ∧ ∀ t : Rat, ab d t → ab (e / 2) (c * t) := fun c c0 => by
    obtain ⟨b, b0, hb⟩ : ∃ b : Rat, 0 < b ∧ ab b c := by
      obtain ⟨b, b0, hb⟩ := ab_self (x := c)
      exact ⟨b + 1, by grind, ab_le hb (by grind)⟩
    refine ⟨e / 2 / b, div_pos' (by grind) b0, fun t ht => ?_⟩
    have := ab_mul hb ht
    rw [show b * (e / 2 / b) = e / 2 by grind] at this
    exact this
  obtain ⟨d1, d10, hd1⟩ := sml c c0
  obtain ⟨d2, d20, hd2⟩ := sml c' c0'
  obtain ⟨u, u1, u2, u3⟩ := small_T hA hC pTA eA (show a ≤ a + w by grind) h1 h3 d10
  obtain ⟨v, v1, v2, v3⟩ := small_T hB hC pTB eB (show a ≤ a + w by grind) h2 h3 d20
  have s1 := hd1 _ u3
  have s2 := hd2 _ v3
  rw [← hP] at s1
  rw [← hR] at s2
  have bu := in_B ha haw u1 u2
  have bv := in_B ha haw v1 v2
  -- the width is tiny
  have hw1 : w * (2 : Rat) ^ 1949 ≤ 1 := by
    have p31 := p2pos 31
    refine Rat.le_of_mul_le_mul_left (c := (2 : Rat) ^ 31) ?_ p31
    have e1 : (2 : Rat) ^ 31 * (w * (2 : Rat) ^ 1949) = w * (2 : Rat) ^ (31 + 1949) := by rw [rat_pow_add]; grind
    rw [e1]
    have : (31 : Nat) + 1949 = 1980 := rfl
    rw [this]
    grind
  have hwl : w ≤ 1 := by
    have t1 := two_pow_mono (show 0 ≤ 1949 by omega)
    have t0 : (2 : Rat) ^ 0 = 1 := by grind
    rw [t0] at t1
    have := Rat.mul_nonneg (Rat.le_of_lt w0) (show 0 ≤ (2 : Rat) ^ 1949 - 1 by grind)
    grind
  have hwe : w * (8 * (2 : Rat) ^ 374) ≤ e / 2 := by
    have t1 : (2 : Rat) ^ 1949 = (2 : Rat) ^ 1560 * ((2 : Rat) ^ 374 * (2 : Rat) ^ 15) := by rw [two_add, two_add]
    have e15 : (2 : Rat) ^ 15 = 32768 := by grind
    rw [t1, e15] at hw1
    have p374 := p2pos 374
    have hp := Rat.mul_pos (Rat.mul_pos w0 p374) p1560
    refine Rat.le_of_mul_le_mul_left (c := (2 : Rat) ^ 1560) ?_ p1560
    have e2 : (2 : Rat) ^ 1560 * (e / 2) = 1 / 2 := by rw [he]; grind
    rw [e2]
    grind
  have mv := bd_move (okF_bd oR) oR.1.1 (x := v) (y := u) bv (Rat.le_of_lt w0) hwl (by unfold ab; constructor <;> grind)
  rw [cut_rv, cut_rv] at mv
  have s3 : ab e (rv R m u) := by
    have := ab_add s2 (ab_le mv hwe)
    rw [show rv R m v + (rv R m u - rv R m v) = rv R m u by grind, show e / 2 + e / 2 = e by grind] at this
    exact this
  rw [he] at s1 s3 hi
  refine okF_sep oP oR ⟨fun x => 1 / c * U x, fun x => 1 / c' * V x, pol_mul (pol_const _) pU, pol_mul (pol_const _) pV, fun x => ?_⟩ bu ⟨ab_le s1 (by grind), s3⟩
  rw [hP, hR, show 1 / c * U x * (c * TA x) = U x * TA x by grind, show 1 / c' * V x * (c' * TB x) = V x * TB x by grind]
  exact bz x
/-- the narrowing ends, and its numbers stay short -/
theorem SG_ok (hA : sq A N1 QA Q1A WA GA mA) (nA : 1 ≤ N1) (lA : A (N1 - 1) ≠ 0) (hB : sq B N2 QB Q1B WB GB mB) (nB : 1 ≤ N2) (lB : B (N2 - 1) ≠ 0) (hT : two QA QB QC TA TB) (hC : cnt QC WC) (oA : okF fA NA) (oB : okF fB NB) (gA : 2 ≤ NA → good (cut fA NA) NA) (gB : 2 ≤ NB → good (cut fB NB) NB) (bQ : bd (cut B N2) N2)
    (hW9 : ∀ x y : Rat, WB y - WB x ≤ 50) (kA0 : kA ≠ 0) (hkA : ∀ x : Rat, rv fA NA x = kA * QA x) (kB0 : kB ≠ 0) (hkB : ∀ x : Rat, rv fB NB x = kB * QB x) :
    ∀ (k : Nat) (D : Nat) (cA cB cQ : Nat → Int) (a w : Rat), nd (cut fA NA) NA D cA a w → nd (cut fB NB) NB D cB a w → nd (cut B N2) N2 D cQ a w → WA (a + w) - WA a = 1 → WC (a + w) = WC a → 1981 ≤ D + k → D ≤ 1980 → SG NA NB N2 k cA cB cQ
  | 0, D, _, _, _, _, _, _, _, _, _, _, h1, h2 => absurd h1 (by omega)
  | k + 1, D, cA, cB, cQ, a, w, dA, dB, dQ, h1, h2, h3, h4 => by
    have w0 := (nd_w dA).1
    have tv : ∀ {f c : Nat → Int} {N E : Nat} {b z : Rat}, (2 ≤ N → good (cut f N) N) → nd (cut f N) N E c b z → E ≤ 2000 → (1 < N → TV N (2100 - E) c) := fun hg hn hE h1 => nd_TV (hg h1) _ _ _ _ _ hn (by omega) (by omega)
    have ok2 : ∀ {f c : Nat → Int} {N E : Nat} {b z : Rat}, bd (cut f N) N → nd (cut f N) N E c b z → E ≤ 2000 → okB c N := fun hg hn hE => bd_ok hg hn (by omega)
    have n9 := bQ.1
    have a1 : 1 ≤ NA ∧ NA ≤ 9 := ⟨oA.1.1, oA.1.2.1⟩
    have b1 : 1 ≤ NB ∧ NB ≤ 9 := ⟨oB.1.1, oB.1.2.1⟩
    have q1 : 1 ≤ N2 ∧ N2 ≤ 9 := ⟨nB, n9⟩
    have ub := ndQ_UV hB.1 (sq_dense hB nB lB) b1.1 (ndQ_of dB kB0 hkB) (tv gB dB (by omega))
    have dA2 := nd_left a1 dA
    have dB2 := nd_left b1 dB
    have dQ2 := nd_left q1 dQ
    have ua := ndQ_UV hA.1 (sq_dense hA nA lA) a1.1 (ndQ_of dA2 kA0 hkA) (tv gA dA2 (by omega))
    have m1 := cnt_mono hA.1 (show a ≤ a + w / 2 by grind)
    have m2 := cnt_mono hA.1 (show a + w / 2 ≤ a + w by grind)
    have m3 := cnt_mono hC (show a ≤ a + w / 2 by grind)
    have m4 := cnt_mono hC (show a + w / 2 ≤ a + w by grind)
    have ew : a + w / 2 + w / 2 = a + w := by grind
    refine ⟨ok2 (okF_bd oA) dA (by omega), ok2 (okF_bd oB) dB (by omega), ok2 bQ dQ (by omega), 2100 - D, by omega, tv gB dB (by omega), by have := hW9 a (a + w); omega, fun hpos => ?_⟩
    rw [ub] at hpos
    have hD : D + 1 ≤ 1980 := by
      refine Classical.byContradiction fun c => ?_
      have eD : D = 1980 := by omega
      subst eD
      have hw := (nd_w dA).2.2
      obtain ⟨_, _, _, _, _, _, ha, haw⟩ := dA
      exact deep_AB hA hB hT hC oA oB kA0 hkA kB0 hkB w0 ha haw hw (by omega) (by omega) h2
    refine ⟨2100 - (D + 1), by omega, tv gA dA2 (by omega), by omega, fun hne => ?_, fun he => ?_⟩
    · exact SG_ok hA nA lA hB nB lB hT hC oA oB gA gB bQ hW9 kA0 hkA kB0 hkB k (D + 1) _ _ _ a (w / 2) dA2 dB2 dQ2 (by omega) (by omega) (by omega) hD
    · refine ⟨ok2 (okF_bd oA) dA2 (by omega), ok2 (okF_bd oB) dB2 (by omega), ok2 bQ dQ2 (by omega), ?_⟩
      exact SG_ok hA nA lA hB nB lB hT hC oA oB gA gB bQ hW9 kA0 hkA kB0 hkB k (D + 1) _ _ _ (a + w / 2) (w / 2) (nd_right a1 dA) (nd_right b1 dB) (nd_right q1 dQ) (by rw [ew]; omega) (by rw [ew]; omega) (by omega) hD
end
