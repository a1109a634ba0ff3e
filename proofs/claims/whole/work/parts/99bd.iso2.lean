theorem dy_le {a b : Int} {s : Nat} (h : a ≤ b) : dy a s ≤ dy b s := by
  have p := p2pos s
  have h1 := dy_mul a s
  have h2 := dy_mul b s
  have h3 : (a : Rat) ≤ (b : Rat) := Rat.intCast_le_intCast.2 h
  exact Rat.le_of_mul_le_mul_left (c := (2 : Rat) ^ s) (by grind) p
theorem dy_lt {a b : Int} {s : Nat} (h : a < b) : dy a s < dy b s := by
  have p := p2pos s
  have h1 := dy_mul a s
  have h2 := dy_mul b s
  have h3 : (a : Rat) < (b : Rat) := Rat.intCast_lt_intCast.2 h
  exact Rat.lt_of_mul_lt_mul_left (c := (2 : Rat) ^ s) (by grind) (by grind)
theorem dy_up (a : Int) (s k : Nat) : dy (a * 2 ^ k) (s + k) = dy a s := by
  have p := p2pos s
  have q := p2pos k
  unfold dy
  rw [Rat.intCast_mul, cast_pow2, rat_pow_add]
  grind
theorem dy_zero (a : Int) : dy a 0 = (a : Rat) := by
  unfold dy
  rw [show (2 : Rat) ^ 0 = 1 by grind]
  grind
theorem dy_mulp (a : Int) (s : Nat) : dy (a * 2 ^ s) s = (a : Rat) := by
  have := dy_up a 0 s
  rw [Nat.zero_add, dy_zero] at this
  exact this
/-- the lead's place is known -/
theorem T_eq {Z : Nat → Int} {T : Nat → Nat} {us N : Nat} {g : Nat → Int32} (h : chR Z T us g) (hN : tpN (gp g) 9 N) : T 0 = N := by
  have h1 := h.1.2.2.2.2.2.2.1
  have h2 := h.1.2.2.2.2.2.2.2.2.1
  rw [h.2.1] at h2
  have h3 : T 0 - 1 < N := by
    rcases Nat.lt_or_ge (T 0 - 1) N with c | c
    · exact c
    · by_cases c2 : T 0 - 1 < 9
      · exact absurd (hN.2.1 _ c c2) h2
      · unfold gp at h2; rw [if_neg c2] at h2; exact absurd rfl h2
  rcases Nat.lt_or_ge (N - 1) (T 0) with c | c
  · omega
  · have h4 := hN.2.2 (N - 1) (by omega)
    rw [← h.2.1, zr_out c] at h4
    exact absurd rfl h4
theorem gp_out (g : Nat → Int32) : ∀ i : Nat, 9 ≤ i → gp g i = 0 := fun i hi => if_neg (by omega)
/-- a monotone count has its steps -/
theorem cell_ex {W : Rat → Int} (hm : ∀ x y : Rat, x ≤ y → W x ≤ W y) {s : Nat} {i : Int} : ∀ (d : Nat) (a : Int), W (dy a s) ≤ i → i < W (dy (a + d) s) → ∃ n : Int, a ≤ n ∧ n < a + d ∧ W (dy n s) ≤ i ∧ i < W (dy (n + 1) s)
  | 0, a, h1, h2 => by rw [show a + ((0 : Nat) : Int) = a by omega] at h2; omega
  | d + 1, a, h1, h2 => by
    by_cases c : i < W (dy (a + 1) s)
    · exact ⟨a, by omega, by omega, h1, c⟩
    · obtain ⟨n, n1, n2, n3, n4⟩ := cell_ex (s := s) (i := i) hm d (a + 1) (by omega) (by rw [show a + 1 + (d : Int) = a + ((d + 1 : Nat) : Int) by omega]; exact h2)
      exact ⟨n, by omega, by omega, n3, n4⟩
theorem cell_uniq {W : Rat → Int} (hm : ∀ x y : Rat, x ≤ y → W x ≤ W y) {s : Nat} {i j : Int} (hij : i ≤ j) {a b : Int} (h2 : i < W (dy (a + 1) s)) (h1 : W (dy a s) ≤ i) (h3 : W (dy b s) ≤ j) (h4 : j < W (dy (b + 1) s)) : a ≤ b := by
  rcases Int.lt_or_le b a with c | c
  · have := hm _ _ (dy_le (s := s) (show b + 1 ≤ a by omega))
    omega
  · exact c
/-- the cells of the roots at every level -/
theorem cells_ex {W : Rat → Int} (hm : ∀ x y : Rat, x ≤ y → W x ≤ W y) {b : Int} (hb : 0 ≤ b) {ct : Nat} (h0 : W (-(b : Rat)) = 0) (h1 : W (b : Rat) = (ct : Int)) : ∃ cs : Nat → Nat → Int, ∀ s i : Nat, i < ct → (-(b * 2 ^ s) ≤ cs s i ∧ cs s i < b * 2 ^ s) ∧ W (dy (cs s i) s) ≤ (i : Int) ∧ (i : Int) < W (dy (cs s i + 1) s) := by
  have key : ∀ s i : Nat, ∃ n : Int, i < ct → (-(b * 2 ^ s) ≤ n ∧ n < b * 2 ^ s) ∧ W (dy n s) ≤ (i : Int) ∧ (i : Int) < W (dy (n + 1) s) := fun s i => by
    by_cases c : i < ct
    · have hp : 0 ≤ b * 2 ^ s := Int.mul_nonneg hb (Int.le_of_lt (Int.pow_pos (by decide)))
      have e1 : dy (-(b * 2 ^ s)) s = -(b : Rat) := by
        have := dy_mulp (-b) s
        rw [Int.neg_mul] at this
        rw [this, Rat.intCast_neg]
      have e2 : dy (-(b * 2 ^ s) + ((2 * (b * 2 ^ s)).toNat : Int)) s = (b : Rat) := by
        rw [show -(b * 2 ^ s) + ((2 * (b * 2 ^ s)).toNat : Int) = b * 2 ^ s by omega, dy_mulp]
      obtain ⟨n, n1, n2, n3, n4⟩ := cell_ex hm (s := s) (i := (i : Int)) (2 * (b * 2 ^ s)).toNat (-(b * 2 ^ s)) (by rw [e1, h0]; omega) (by rw [e2, h1]; omega)
      exact ⟨n, fun _ => ⟨⟨n1, by omega⟩, n3, n4⟩⟩
    · exact ⟨0, fun g => absurd g c⟩
  exact ⟨fun s i => Classical.choose (key s i), fun s i => Classical.choose_spec (key s i)⟩
theorem cauchy_bd {M L : Int} (hM : 0 ≤ M) (hL : 0 < L) : M < L * (M / L + 2 - 1) := by
  have h1 := Int.lt_mul_ediv_self_add (x := M) hL
  have h2 : L * (M / L + 2 - 1) = L * (M / L) + L := by
    rw [show M / L + 2 - 1 = M / L + 1 by omega, Int.mul_add, Int.mul_one]
  omega
theorem mxA_ge (g : Nat → Int32) : ∀ k i : Nat, i < k → ((g i).toInt.natAbs : Int) ≤ mxA g k
  | 0, i, hi => absurd hi (by omega)
  | k + 1, i, hi => by
    simp only [mxA]
    by_cases c : i = k
    · rw [c]; omega
    · have := mxA_ge g k i (by omega); omega
/-- the class's sign is that of the polynomial without repeated factors -/
theorem ssd_Q {Z : Nat → Int} {T : Nat → Nat} {us s : Nat} {g : Nat → Int32} (h : chR Z T us g) {Q Q1 : Rat → Rat} {W : Rat → Int} (hq : sq (gp g) (T 0) Q Q1 W (zr Z T (us - 1)) (T (us - 1))) (x : Int) : ssd Z T us s x = rsg (Q (dy x s)) := by
  have hu := h.1.2.2.2.1
  have hT := h.1.1
  obtain ⟨d1, d2, d3⟩ := chn_dec h.1
  have hs : ∀ k : Nat, k < us → (yV (qu Z 84 x) T s 0 k).sign = rsg (rowv Z T k (dy x s)) := fun k hk => by
    have g2 := hT k (by omega)
    have g3 := pB_61 (k := k) (by omega)
    unfold yV
    rw [qu_same, Nat.sub_zero]
    have e1 : tyl (fun i => qu Z 84 x (pB k + i)) (T k) 0 x s (T k) = tyl (zr Z T k) (T k) 0 x s (T k) := tyl_congr' (fun i hi => by rw [qu_other _ _ (by omega), zr_in hi]) _ (Nat.le_refl _)
    rw [e1]
    exact tyl_sign0 _ _ _ _
  have e0 : rowv Z T 0 (dy x s) = Q (dy x s) * rowv Z T (us - 1) (dy x s) := by
    have := hq.2.2.1 (dy x s)
    rw [← h.2.1] at this
    exact this
  have hld : gp g (T 0 - 1) ≠ 0 := by rw [← h.2.1]; exact d3 0 (by omega)
  have hroot := sq_root hq h.1.2.2.2.2.2.2.1 hld (dy x s)
  rw [← h.2.1] at hroot
  unfold ssd
  have h1 := hs 0 (by omega)
  have h2 := hs (us - 1) (by omega)
  by_cases c : yV (qu Z 84 x) T s 0 0 = 0
  · rw [if_pos c]
    rw [c] at h1
    have h3 : rowv Z T 0 (dy x s) = 0 := by
      rcases rsg_cases (rowv Z T 0 (dy x s)) with ⟨_, e⟩ | ⟨e, _⟩ | ⟨_, e⟩
      · rw [e] at h1; exact absurd h1 (by decide)
      · exact e
      · rw [e] at h1; exact absurd h1 (by decide)
    rw [hroot.1 h3, rsg_zero]
  · rw [if_neg c, h1, h2, e0, sgn_mul_r]
    have h3 : rowv Z T (us - 1) (dy x s) ≠ 0 := fun g2 => by
      rw [e0, g2, show Q (dy x s) * 0 = 0 by grind, rsg_zero] at h1
      exact c (Int.sign_eq_zero_iff_zero.1 h1)
    rcases rsg_nz h3 with u | u <;> rw [u] <;> omega
