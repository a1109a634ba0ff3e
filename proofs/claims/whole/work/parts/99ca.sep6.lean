/-- a polynomial of the search at depth D: f from a on, in lengths of w -/
def nd (f : Nat → Int) (N D : Nat) (c : Nat → Int) (a w : Rat) : Prop := ∃ k : Rat, 0 < k ∧ k ≤ (2 : Rat) ^ (240 + 8 * D) ∧ (∀ t : Rat, rv c N t = k * rv f N (a + t * w)) ∧ 0 < w ∧ w * (2 : Rat) ^ D ≤ (2 : Rat) ^ 31 ∧ ab ((2 : Rat) ^ 31) a ∧ ab ((2 : Rat) ^ 31) (a + w)
theorem nd_left {f c : Nat → Int} {N D : Nat} {a w : Rat} (hN : 1 ≤ N ∧ N ≤ 9) (h : nd f N D c a w) : nd f N (D + 1) (hlv c N) a (w / 2) := by
  obtain ⟨k, k0, k1, k2, w0, w1, a1, a2⟩ := h
  have p := p2pos (N - 1)
  refine ⟨(2 : Rat) ^ (N - 1) * k, Rat.mul_pos p k0, ?_, fun t => ?_, by grind, ?_, a1, ?_⟩
  · have h1 := two_pow_mono (show N - 1 ≤ 8 by omega)
    rw [show 240 + 8 * (D + 1) = 8 + (240 + 8 * D) by omega, rat_pow_add]
    have t1 := Rat.mul_nonneg (show 0 ≤ (2 : Rat) ^ 8 - (2 : Rat) ^ (N - 1) by grind) (Rat.le_of_lt k0)
    have t2 := Rat.mul_nonneg (Rat.le_of_lt (p2pos 8)) (show 0 ≤ (2 : Rat) ^ (240 + 8 * D) - k by grind)
    grind
  · rw [hlv_rv c hN.1, k2, show a + t / 2 * w = a + t * (w / 2) by grind]; grind
  · rw [rat_pow_add]; grind
  · exact in_B a1 a2 (by grind) (by grind)
theorem nd_right {f c : Nat → Int} {N D : Nat} {a w : Rat} (hN : 1 ≤ N ∧ N ≤ 9) (h : nd f N D c a w) : nd f N (D + 1) (sh1 (hlv c N) N) (a + w / 2) (w / 2) := by
  obtain ⟨k, k0, k1, k2, w0, w1, a1, a2⟩ := nd_left hN h
  obtain ⟨_, _, _, _, _, _, _, b2⟩ := h
  refine ⟨k, k0, k1, fun t => ?_, w0, w1, a2, ?_⟩
  · rw [sh1_rv _ hN.1, k2, show a + (t + 1) * (w / 2) = a + w / 2 + t * (w / 2) by grind]
  · rw [show a + w / 2 + w / 2 = a + w by grind]; exact b2
theorem nd_coef {f c : Nat → Int} {N D : Nat} {a w : Rat} (hg : good f N) (h : nd f N D c a w) : ∃ k : Rat, 0 < k ∧ k ≤ (2 : Rat) ^ (240 + 8 * D) ∧ (∀ i : Nat, i < N → (c i : Rat) = k * (rv (dcf f i) (N - i) a * w ^ i)) ∧ ∀ i : Nat, i < N → ab (k * (2 : Rat) ^ 374 * w ^ i) (c i : Rat) := by
  obtain ⟨k, k0, k1, k2, w0, w1, a1, a2⟩ := h
  have hN9 := hg.2.1
  have hc := node_coef (by omega) k2
  refine ⟨k, k0, k1, hc, fun i hi => ?_⟩
  rw [hc i hi]
  have h1 := good_tay hg a1 i hi
  have h2 : ab (w ^ i) (w ^ i) := by have := rat_pow_pos w0 i; unfold ab; constructor <;> grind
  have h3 := ab_mul (show ab k k by unfold ab; constructor <;> grind) (ab_mul h1 h2)
  rw [show k * (2 : Rat) ^ 374 * w ^ i = k * ((2 : Rat) ^ 374 * w ^ i) by grind]
  exact h3
theorem nd_w {f c : Nat → Int} {N D : Nat} {a w : Rat} (h : nd f N D c a w) : 0 < w ∧ w ≤ (2 : Rat) ^ 31 ∧ w * (2 : Rat) ^ D ≤ (2 : Rat) ^ 31 := by
  obtain ⟨k, k0, k1, k2, w0, w1, a1, a2⟩ := h
  refine ⟨w0, ?_, w1⟩
  have h1 := two_pow_mono (show 0 ≤ D by omega)
  have := Rat.mul_nonneg (Rat.le_of_lt w0) (show 0 ≤ (2 : Rat) ^ D - 1 by grind)
  grind
/-- its numbers are short -/
theorem nd_ok {f c : Nat → Int} {N D : Nat} {a w : Rat} (hg : good f N) (h : nd f N D c a w) (hD : D ≤ 2100) : okB c N := by
  obtain ⟨k, k0, k1, k2, k3⟩ := nd_coef hg h
  obtain ⟨w0, w1, _⟩ := nd_w h
  have hN9 := hg.2.1
  refine ⟨2 ^ 17700, Int.le_of_lt (Int.pow_pos (by decide)), fun i hi => ?_, ?_⟩
  · have h1 := k3 i hi
    have hw : w ^ i ≤ (2 : Rat) ^ 248 := by
      have hwi : w ^ i ≤ ((2 : Rat) ^ 31) ^ i := by
        have key : ∀ n : Nat, w ^ n ≤ ((2 : Rat) ^ 31) ^ n := by
          intro n
          induction n with
          | zero => grind
          | succ n ih =>
            rw [show w ^ (n + 1) = w ^ n * w by grind, show ((2 : Rat) ^ 31) ^ (n + 1) = ((2 : Rat) ^ 31) ^ n * (2 : Rat) ^ 31 by grind]
            have t1 := Rat.mul_nonneg (Rat.le_of_lt (rat_pow_pos w0 n)) (show 0 ≤ (2 : Rat) ^ 31 - w by grind)
            have t2 := Rat.mul_nonneg (show 0 ≤ ((2 : Rat) ^ 31) ^ n - w ^ n by grind) (Rat.le_of_lt (p2pos 31))
            grind
        exact key i
      rw [two_pow_pow] at hwi
      have := two_pow_mono (show 31 * i ≤ 248 by omega)
      grind
    have h2 : k * (2 : Rat) ^ 374 * w ^ i ≤ (2 : Rat) ^ 17700 := by
      have t1 := Rat.mul_nonneg (Rat.mul_nonneg (Rat.le_of_lt k0) (Rat.le_of_lt (p2pos 374))) (show 0 ≤ (2 : Rat) ^ 248 - w ^ i by grind)
      have t2 := Rat.mul_nonneg (show 0 ≤ (2 : Rat) ^ (240 + 8 * D) - k by grind) (Rat.mul_nonneg (Rat.le_of_lt (p2pos 374)) (Rat.le_of_lt (p2pos 248)))
      have e1 : (2 : Rat) ^ (240 + 8 * D) * ((2 : Rat) ^ 374 * (2 : Rat) ^ 248) = (2 : Rat) ^ (240 + 8 * D + (374 + 248)) := by rw [two_add, two_add]
      have t3 := two_pow_mono (show 240 + 8 * D + (374 + 248) ≤ 17700 by omega)
      grind
    have h3 := ab_le h1 h2
    have h4 : ((c i : Int) : Rat) ≤ (((2 : Int) ^ 17700 : Int) : Rat) := by rw [cast_pow2]; exact h3.2
    have h5 : ((-(2 : Int) ^ 17700 : Int) : Rat) ≤ ((c i : Int) : Rat) := by rw [Rat.intCast_neg, cast_pow2]; exact h3.1
    have h6 := Rat.intCast_le_intCast.1 h4
    have h7 := Rat.intCast_le_intCast.1 h5
    omega
  · have e1 : (16 : Int) ^ 9 = 2 ^ 36 := by decide
    rw [e1, ← Int.pow_add]
    have h4 : (2 : Nat) ^ (36 + 17700) < 2 ^ (31 * 638) := Nat.pow_lt_pow_right (by decide) (by decide)
    have h5 := Int.ofNat_lt.2 h4
    rw [nat_pow_cast, nat_pow_cast] at h5
    exact h5
theorem asum_rat {c : Nat → Int} {wt : Nat → Int} {Y : Rat} {i : Nat} (hY : 0 ≤ Y) : ∀ n : Nat, n ≤ 9 → (∀ k : Nat, k < n → i ≤ k → ab Y (c k : Rat) ∧ 0 ≤ wt k ∧ wt k ≤ 8) → ((asum c wt i n : Int) : Rat) ≤ (n : Rat) * (8 * Y)
  | 0, _, _ => by
    show ((0 : Int) : Rat) ≤ ((0 : Nat) : Rat) * _
    have e1 : ((0 : Int) : Rat) = 0 := rfl
    have e2 : ((0 : Nat) : Rat) = 0 := rfl
    rw [e1, e2]; grind
  | n + 1, hn, h => by
    have ih := asum_rat (c := c) (wt := wt) hY n (by omega) (fun k hk => h k (by omega))
    show ((asum c wt i n + (if i ≤ n then wt n * ((c n).natAbs : Int) else 0) : Int) : Rat) ≤ _
    rw [Rat.intCast_add, nat_succ]
    by_cases q : i ≤ n
    · rw [if_pos q, Rat.intCast_mul]
      obtain ⟨h1, h2, h3⟩ := h n (by omega) q
      have h4 : ((((c n).natAbs : Nat) : Int) : Rat) ≤ Y := by
        unfold ab at h1
        rcases Int.lt_or_le (c n) 0 with g | g
        · rw [show (((c n).natAbs : Nat) : Int) = -(c n) by omega, Rat.intCast_neg]; grind
        · rw [show (((c n).natAbs : Nat) : Int) = c n by omega]; exact h1.2
      have h5 : (wt n : Rat) ≤ 8 := by
        have : ((wt n : Int) : Rat) ≤ ((8 : Int) : Rat) := Rat.intCast_le_intCast.2 h3
        exact this
      have h6 : (0 : Rat) ≤ ((((c n).natAbs : Nat) : Int) : Rat) := by
        have : ((0 : Int) : Rat) ≤ ((((c n).natAbs : Nat) : Int) : Rat) := Rat.intCast_le_intCast.2 (by omega)
        exact this
      have t1 := Rat.mul_nonneg (show 0 ≤ 8 - (wt n : Rat) by grind) h6
      grind
    · rw [if_neg q]
      have e1 : ((0 : Int) : Rat) = 0 := rfl
      rw [e1]; grind
theorem lt_cast {a b : Int} (h : (a : Rat) < (b : Rat)) : a < b := Rat.intCast_lt_intCast.1 h
/-- deep enough the search is at its end -/
theorem nd_leaf {f c : Nat → Int} {N D : Nat} {a w : Rat} (hg : good f N) (h : nd f N D c a w) (hD : 1715 ≤ D) : vv c N ≤ 1 := by
  obtain ⟨k, k0, k1, k2, k3⟩ := nd_coef hg h
  obtain ⟨w0, _, w1⟩ := nd_w h
  have ha : ab ((2 : Rat) ^ 31) a := by obtain ⟨_, _, _, _, _, _, a1, _⟩ := h; exact a1
  have hN2 := hg.1
  have hN9 := hg.2.1
  have p1300 := p2pos 1300
  -- the width is tiny
  have hw : w * (2 : Rat) ^ 1684 ≤ 1 := by
    have t1 := two_pow_mono (show 31 + 1684 ≤ D by omega)
    rw [rat_pow_add] at t1
    have t2 := Rat.mul_nonneg (Rat.le_of_lt w0) (show 0 ≤ (2 : Rat) ^ D - (2 : Rat) ^ 31 * (2 : Rat) ^ 1684 by grind)
    have p31 := p2pos 31
    refine Rat.le_of_mul_le_mul_left (c := (2 : Rat) ^ 31) ?_ p31
    grind
  have hw1 : w ≤ 1 := by
    have t1 := two_pow_mono (show 0 ≤ 1684 by omega)
    have := Rat.mul_nonneg (Rat.le_of_lt w0) (show 0 ≤ (2 : Rat) ^ 1684 - 1 by grind)
    grind
  have hwe : 72 * ((2 : Rat) ^ 374 * w) < 1 / (2 : Rat) ^ 1300 := by
    have t1 : (2 : Rat) ^ 1684 = (2 : Rat) ^ 1300 * ((2 : Rat) ^ 374 * (2 : Rat) ^ 10) := by rw [two_add, two_add]
    have e10 : (2 : Rat) ^ 10 = 1024 := by grind
    rw [t1, e10] at hw
    have p374 := p2pos 374
    have hp := Rat.mul_pos (Rat.mul_pos p374 w0) p1300
    refine Rat.lt_of_mul_lt_mul_left (c := (2 : Rat) ^ 1300) ?_ (Rat.le_of_lt p1300)
    have e2 : (2 : Rat) ^ 1300 * (1 / (2 : Rat) ^ 1300) = 1 := by grind
    rw [e2]
    grind
  have hpw : ∀ i j : Nat, i ≤ j → w ^ j ≤ w ^ i := fun i j hij => by
    obtain ⟨m, rfl⟩ : ∃ m : Nat, j = i + m := ⟨j - i, by omega⟩
    clear hij
    induction m with
    | zero => rw [Nat.add_zero]; grind
    | succ m ih =>
      rw [show i + (m + 1) = i + m + 1 by omega, show w ^ (i + m + 1) = w ^ (i + m) * w by grind]
      have := Rat.mul_nonneg (Rat.le_of_lt (rat_pow_pos w0 (i + m))) (show 0 ≤ 1 - w by grind)
      grind
  have hkT := Rat.mul_pos k0 (p2pos 374)
  have n9 : (N : Rat) ≤ 9 := by have := nat_le hN9; exact this
  by_cases c1 : ab (1 / (2 : Rat) ^ 1300) (rv (der f) (N - 1) a)
  · -- then the value is not small
    have c0 : ¬ ab (1 / (2 : Rat) ^ 1300) (rv f N a) := fun g => good_sep hg ha ⟨g, c1⟩
    have e0 := k2 0 (by omega)
    rw [dcf_zero, Nat.sub_zero, show w ^ 0 = 1 by grind] at e0
    have h1 := asum_rat (c := c) (wt := fun _ => 1) (Y := k * (2 : Rat) ^ 374 * w) (i := 1) (Rat.le_of_lt (Rat.mul_pos hkT w0)) N hN9 (fun i hi h1 => ⟨ab_le (k3 i hi) (by
      have t := hpw 1 i h1
      rw [show w ^ 1 = w by grind] at t
      have := Rat.mul_nonneg (Rat.le_of_lt hkT) (show 0 ≤ w - w ^ i by grind)
      grind), by decide, by decide⟩)
    have h2 : ((asum c (fun _ => 1) 1 N : Int) : Rat) < k * (1 / (2 : Rat) ^ 1300) := by
      have t1 := Rat.mul_nonneg (show 0 ≤ 9 - (N : Rat) by grind) (Rat.le_of_lt (Rat.mul_pos hkT w0))
      have t2 := Rat.mul_pos k0 (show 0 < 1 / (2 : Rat) ^ 1300 - 72 * ((2 : Rat) ^ 374 * w) by grind)
      grind
    have h3 : k * (1 / (2 : Rat) ^ 1300) ≤ ((((c 0).natAbs : Nat) : Int) : Rat) := by
      rcases not_ab c0 with u | u
      · have t := Rat.mul_pos k0 (show 0 < rv f N a - 1 / (2 : Rat) ^ 1300 by grind)
        have t2 : ((c 0 : Int) : Rat) ≤ ((((c 0).natAbs : Nat) : Int) : Rat) := Rat.intCast_le_intCast.2 (by omega)
        grind
      · have t := Rat.mul_pos k0 (show 0 < -(1 / (2 : Rat) ^ 1300) - rv f N a by grind)
        have t2 : ((-(c 0) : Int) : Rat) ≤ ((((c 0).natAbs : Nat) : Int) : Rat) := Rat.intCast_le_intCast.2 (by omega)
        rw [Rat.intCast_neg] at t2
        grind
    have h4 := vv_zero (by omega) hN9 (lt_cast (Std.lt_of_lt_of_le h2 h3))
    omega
  · have e1 := k2 1 (by omega)
    have ed : rv (dcf f 1) (N - 1) a = rv (der f) (N - 1) a := rv_congr a (fun i hi => by
      unfold dcf der
      have hh : ∀ a : Fin 9, bch (a.val + 1) 1 = ((a.val + 1 : Nat) : Int) := by decide +kernel
      rw [hh ⟨i, by omega⟩])
    rw [ed, show w ^ 1 = w by grind] at e1
    have hw2 : w ^ 2 = w * w := by grind
    have h1 := asum_rat (c := c) (wt := fun k => (k : Int)) (Y := k * (2 : Rat) ^ 374 * (w * w)) (i := 2) (Rat.le_of_lt (Rat.mul_pos hkT (Rat.mul_pos w0 w0))) N hN9 (fun i hi h1 => ⟨ab_le (k3 i hi) (by
      have t := hpw 2 i h1
      rw [hw2] at t
      have := Rat.mul_nonneg (Rat.le_of_lt hkT) (show 0 ≤ w * w - w ^ i by grind)
      grind), by show (0 : Int) ≤ (i : Int); omega, by show (i : Int) ≤ 8; omega⟩)
    have hkw := Rat.mul_pos k0 w0
    have h2 : ((asum c (fun k => (k : Int)) 2 N : Int) : Rat) < k * w * (1 / (2 : Rat) ^ 1300) := by
      have t1 := Rat.mul_nonneg (show 0 ≤ 9 - (N : Rat) by grind) (Rat.le_of_lt (Rat.mul_pos hkT (Rat.mul_pos w0 w0)))
      have t2 := Rat.mul_pos hkw (show 0 < 1 / (2 : Rat) ^ 1300 - 72 * ((2 : Rat) ^ 374 * w) by grind)
      grind
    have h3 : k * w * (1 / (2 : Rat) ^ 1300) ≤ ((((c 1).natAbs : Nat) : Int) : Rat) := by
      rcases not_ab c1 with u | u
      · have t := Rat.mul_pos hkw (show 0 < rv (der f) (N - 1) a - 1 / (2 : Rat) ^ 1300 by grind)
        have t2 : ((c 1 : Int) : Rat) ≤ ((((c 1).natAbs : Nat) : Int) : Rat) := Rat.intCast_le_intCast.2 (by omega)
        grind
      · have t := Rat.mul_pos hkw (show 0 < -(1 / (2 : Rat) ^ 1300) - rv (der f) (N - 1) a by grind)
        have t2 : ((-(c 1) : Int) : Rat) ≤ ((((c 1).natAbs : Nat) : Int) : Rat) := Rat.intCast_le_intCast.2 (by omega)
        rw [Rat.intCast_neg] at t2
        grind
    exact vv_one (by omega) hN9 (lt_cast (Std.lt_of_lt_of_le h2 h3))
/-- the search ends -/
theorem nd_TV {f : Nat → Int} {N : Nat} (hg : good f N) : ∀ (h D : Nat) (c : Nat → Int) (a w : Rat), nd f N D c a w → 1715 ≤ D + h → D + h ≤ 2100 → TV N h c
  | 0, D, c, a, w, hn, h1, h2 => ⟨nd_ok hg hn (by omega), nd_leaf hg hn (by omega)⟩
  | h + 1, D, c, a, w, hn, h1, h2 => by
    have hN : 1 ≤ N ∧ N ≤ 9 := ⟨by have := hg.1; omega, hg.2.1⟩
    refine ⟨nd_ok hg hn (by omega), Or.inr ⟨nd_TV hg h (D + 1) _ _ _ (nd_left hN hn) (by omega) (by omega), nd_ok hg (nd_right hN hn) (by omega), nd_TV hg h (D + 1) _ _ _ (nd_right hN hn) (by omega) (by omega), tw_ok c hN.1⟩⟩
/-- the search's first polynomial -/
theorem nd_mvd {f : Nat → Int} {N : Nat} (hN : 1 ≤ N ∧ N ≤ 9) {n len : Int} (hl : 0 < len) (h1 : -1152921504606846976 ≤ n) (h2 : n + len ≤ 1152921504606846976) : nd f N 0 (mvd f N n len) (dy n 30) (dy (n + len) 30 - dy n 30) := by
  have p30 := p2pos 30
  have en := dy_mul n 30
  have em := dy_mul (n + len) 30
  have hr : ∀ z : Int, -1152921504606846976 ≤ z → z ≤ 1152921504606846976 → ab ((2 : Rat) ^ 31) (dy z 30) ∧ ab ((2 : Rat) ^ 30) (dy z 30) := fun z z1 z2 => by
    have ez := dy_mul z 30
    have q1 : ((-1152921504606846976 : Int) : Rat) ≤ (z : Rat) := Rat.intCast_le_intCast.2 z1
    have q2 : (z : Rat) ≤ ((1152921504606846976 : Int) : Rat) := Rat.intCast_le_intCast.2 z2
    have e60 : ((1152921504606846976 : Int) : Rat) = (2 : Rat) ^ 30 * (2 : Rat) ^ 30 := by rw [two_add, ← cast_pow2]; rfl
    have e60' : ((-1152921504606846976 : Int) : Rat) = -((2 : Rat) ^ 30 * (2 : Rat) ^ 30) := by rw [← e60]; rfl
    rw [e60'] at q1
    rw [e60] at q2
    have b : ab ((2 : Rat) ^ 30) (dy z 30) := by
      unfold ab
      constructor
      · exact Rat.le_of_mul_le_mul_left (c := (2 : Rat) ^ 30) (by grind) p30
      · exact Rat.le_of_mul_le_mul_left (c := (2 : Rat) ^ 30) (by grind) p30
    exact ⟨ab_le b (two_pow_mono (by omega)), b⟩
  have r1 := hr n h1 (by omega)
  have r2 := hr (n + len) (by omega) h2
  have hlt := dy_lt (s := 30) (show n < n + len by omega)
  refine ⟨((2 : Rat) ^ 30) ^ (N - 1), rat_pow_pos p30 _, ?_, fun t => ?_, by grind, ?_, r1.1, by rw [show dy n 30 + (dy (n + len) 30 - dy n 30) = dy (n + len) 30 by grind]; exact r2.1⟩
  · rw [two_pow_pow]; exact two_pow_mono (by omega)
  · rw [mvd_rv f hN.1]
    have e : ((n : Rat) + t * (len : Rat)) / (2 : Rat) ^ 30 = dy n 30 + t * (dy (n + len) 30 - dy n 30) := by
      rw [Rat.intCast_add] at em
      have e1 : (n : Rat) + t * (len : Rat) = (dy n 30 + t * (dy (n + len) 30 - dy n 30)) * (2 : Rat) ^ 30 := by grind
      rw [e1]; grind
    rw [e]
  · have e31 : (2 : Rat) ^ 31 = 2 * (2 : Rat) ^ 30 := by rw [show (2 : Rat) ^ 31 = (2 : Rat) ^ 30 * (2 : Rat) ^ 1 from rat_pow_add 2 30 1]; grind
    have a1 := r1.2
    have a2 := r2.2
    unfold ab at a1 a2
    rw [show (2 : Rat) ^ 0 = 1 by grind, e31]; grind
