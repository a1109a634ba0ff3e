/-- whether a sum is divisible hangs on one place, if all others are -/
theorem qS_dvd {p : Int} {i0 : Nat} : ∀ {n : Nat} {F : Nat → Int}, i0 < n → (∀ e : Nat, e < n → e ≠ i0 → p ∣ F e) → p ∣ qS n F → p ∣ F i0
  | 0, F, h, _, _ => absurd h (by omega)
  | n + 1, F, h, ho, hs => by
    have hs' : p ∣ qS n F + F n := hs
    by_cases c : i0 = n
    · subst c
      have h1 : p ∣ qS i0 F := by
        have key : ∀ k : Nat, k ≤ i0 → p ∣ qS k F := by
          intro k
          induction k with
          | zero => intro _; exact ⟨0, by show (0 : Int) = _; omega⟩
          | succ k ih => intro hk; exact Int.dvd_add (ih (by omega)) (ho k (by omega) (by omega))
        exact key i0 (Nat.le_refl _)
      exact (Int.dvd_add_right h1).1 hs'
    · have h1 := ho n (by omega) (fun g => c g.symm)
      exact qS_dvd (by omega) (fun e he hne => ho e (by omega) hne) ((Int.dvd_add_left h1).1 hs')
theorem gN_dvd2 {P : Nat → Int} {p : Nat} : ∀ {n : Nat}, (∀ i : Nat, i < n → (p : Int) ∣ P i) → p ∣ gN P n
  | 0, _ => ⟨0, by show 0 = _; omega⟩
  | n + 1, h => by
    show p ∣ Int.gcd (P n) (gN P n)
    have h1 := gN_dvd2 (n := n) (fun i hi => h i (by omega))
    exact Int.dvd_gcd (h n (by omega)) (Int.ofNat_dvd.2 h1)
/-- a number above 1 has a divisor that has none but 1 and itself -/
theorem prime_dv : ∀ c : Nat, 1 < c → ∃ p : Nat, 1 < p ∧ p ∣ c ∧ ∀ d : Nat, d ∣ p → d = 1 ∨ d = p
  | c, hc => by
    induction c using Nat.strongRecOn with
    | _ c ih =>
      by_cases h : ∃ d : Nat, d ∣ c ∧ d ≠ 1 ∧ d ≠ c
      · obtain ⟨d, d1, d2, d3⟩ := h
        have hle := Nat.le_of_dvd (by omega) d1
        have hd0 : d ≠ 0 := fun g => by rw [g] at d1; have := Nat.eq_zero_of_zero_dvd d1; omega
        obtain ⟨p, p1, p2, p3⟩ := ih d (by omega) (by omega)
        exact ⟨p, p1, Nat.dvd_trans p2 d1, p3⟩
      · refine ⟨c, hc, Nat.dvd_refl c, fun d hd => ?_⟩
        by_cases c1 : d = 1
        · exact Or.inl c1
        · exact Or.inr (Classical.byContradiction fun q => h ⟨d, hd, c1, q⟩)
theorem prime_mul {p : Nat} (hp : ∀ d : Nat, d ∣ p → d = 1 ∨ d = p) {a b : Int} (h : (p : Int) ∣ a * b) (ha : ¬ (p : Int) ∣ a) : (p : Int) ∣ b := by
  have h1 : p ∣ a.natAbs * b.natAbs := by rw [← Int.natAbs_mul]; exact Int.ofNat_dvd_left.1 h
  have h2 : ¬ p ∣ a.natAbs := fun g => ha (Int.ofNat_dvd_left.2 g)
  have hc : Nat.Coprime p a.natAbs := by
    rcases hp (Nat.gcd p a.natAbs) (Nat.gcd_dvd_left _ _) with g | g
    · exact g
    · exact absurd (by rw [← g]; exact Nat.gcd_dvd_right _ _) h2
  exact Int.ofNat_dvd_left.2 (hc.dvd_of_dvd_mul_left h1)
/-- a divisor of a product with a primitive polynomial divides the other factor -/
theorem gauss_prime {P C : Nat → Int} {n p : Nat} (hp : ∀ d : Nat, d ∣ p → d = 1 ∨ d = p) (hP : ∃ i : Nat, i < n ∧ ¬ (p : Int) ∣ P i) (h : ∀ s : Nat, (p : Int) ∣ qS n (fun e => P e * qx e C s)) (j : Nat) : (p : Int) ∣ C j := by
  -- the first place where P is not divisible
  have hmin : ∃ i : Nat, i < n ∧ ¬ (p : Int) ∣ P i ∧ ∀ k : Nat, k < i → (p : Int) ∣ P k := by
    obtain ⟨i, hi, hn⟩ := hP
    induction i using Nat.strongRecOn with
    | _ i ih =>
      by_cases c : ∃ k : Nat, k < i ∧ ¬ (p : Int) ∣ P k
      · obtain ⟨k, k1, k2⟩ := c
        exact ih k k1 (by omega) k2
      · exact ⟨i, hi, hn, fun k hk => Classical.byContradiction fun q => c ⟨k, hk, q⟩⟩
  obtain ⟨i0, i1, i2, i3⟩ := hmin
  induction j using Nat.strongRecOn with
  | _ j ih =>
    have h1 := qS_dvd i1 (fun e he hne => by
      rcases Nat.lt_or_ge e i0 with c | c
      · exact Int.dvd_mul_of_dvd_left (i3 e c)
      · refine Int.dvd_mul_of_dvd_right ?_
        unfold qx
        by_cases c2 : e ≤ i0 + j
        · rw [if_pos c2]; exact ih _ (by omega)
        · rw [if_neg c2]; exact ⟨0, by omega⟩) (h (i0 + j))
    have e2 : qx i0 C (i0 + j) = C j := by
      unfold qx
      rw [if_pos (by omega), show i0 + j - i0 = j by omega]
    rw [e2] at h1
    exact prime_mul hp h1 i2
theorem qS_smul (n : Nat) (P C : Nat → Int) (a : Int) (s : Nat) : qS n (fun e => P e * qx e (fun j => a * C j) s) = a * qS n (fun e => P e * qx e C s) := by
  induction n with
  | zero => show (0 : Int) = a * 0; omega
  | succ n ih =>
    show qS n _ + P n * qx n (fun j => a * C j) s = a * (qS n _ + P n * qx n C s)
    rw [ih, Int.mul_add]
    congr 1
    unfold qx
    split
    · rw [← Int.mul_assoc, Int.mul_comm (P n) a, Int.mul_assoc]
    · omega
/-- Gauss -/
theorem gauss {P : Nat → Int} {n : Nat} (hP : gN P n = 1) : ∀ (c : Nat) (C : Nat → Int), c ≠ 0 → (∀ s : Nat, (c : Int) ∣ qS n (fun e => P e * qx e C s)) → ∀ j : Nat, (c : Int) ∣ C j
  | c, C, hc, h => by
    induction c using Nat.strongRecOn generalizing C with
    | _ c ih =>
      intro j
      by_cases c1 : c = 1
      · rw [c1]; exact ⟨C j, by omega⟩
      · obtain ⟨p, p1, ⟨k, hk⟩, p3⟩ := prime_dv c (by omega)
        have hnp : ∃ i : Nat, i < n ∧ ¬ (p : Int) ∣ P i := Classical.byContradiction fun q => by
          have := gN_dvd2 (p := p) (n := n) (P := P) (fun i hi => Classical.byContradiction fun q2 => q ⟨i, hi, q2⟩)
          rw [hP] at this
          have := Nat.le_of_dvd (by omega) this
          omega
        have hck : (c : Int) = (p : Int) * (k : Int) := by rw [hk, Int.natCast_mul]
        have hC := gauss_prime p3 hnp (C := C) (fun s => by
          have := h s
          rw [hck] at this
          exact Int.dvd_trans ⟨k, rfl⟩ this)
        -- divide by p
        have hk0 : k ≠ 0 := fun g => by rw [g] at hk; omega
        have hkc : k < c := by
          rw [hk]
          have := Nat.mul_lt_mul_of_pos_right p1 (show 0 < k by omega)
          omega
        have hD : ∀ j : Nat, C j = (p : Int) * (C j / (p : Int)) := fun j => (Int.mul_ediv_cancel' (hC j)).symm
        have h2 := ih k hkc (fun j => C j / (p : Int)) hk0 (fun s => by
          have e : qS n (fun e => P e * qx e C s) = (p : Int) * qS n (fun e => P e * qx e (fun j => C j / (p : Int)) s) := by
            rw [← qS_smul]
            congr 1
            funext e
            congr 2
            funext j
            exact hD j
          have := h s
          rw [e, hck] at this
          exact Int.dvd_of_mul_dvd_mul_left (by omega) this) j
        rw [hD j, hck]
        exact Int.mul_dvd_mul_left _ h2
/-- a primitive divisor divides with whole coefficients -/
theorem prim_dvd {P A : Nat → Int} {n N : Nat} (hP : gN P n = 1) (hn : 1 ≤ n ∧ P (n - 1) ≠ 0) (hA : 1 ≤ N ∧ A (N - 1) ≠ 0) (h : pdv P n A N) : ∃ (C : Nat → Int) (k : Nat), N + 1 = n + k ∧ 1 ≤ k ∧ C (k - 1) ≠ 0 ∧ ∀ x : Rat, rv A N x = rv C k x * rv P n x := by
  obtain ⟨a, q, l, ha, e⟩ := h
  obtain ⟨j, j1, j2, j3, j4⟩ := dv_deg ha hn hA e
  -- coefficients
  have hcoef : ∀ s : Nat, a * cut A N s = qS n (fun e => P e * qx e (cut q (j + 1)) s) := fun s => by
    have key : ∀ i : Nat, i < N + n + j + s + 2 → a * cut A N i = qS n (fun e => P e * qx e (cut q (j + 1)) i) := rv_inj (fun x => by
      rw [rv_smul, rv_le (cut_out A N) (by omega), cut_rv, rv_conv P (cut q (j + 1)) (j + 1) (cut_out q (j + 1)) x n _ (by omega), cut_rv, e, j4]
      grind)
    exact key s (by omega)
  have hdv := gauss hP a.natAbs (cut q (j + 1)) (by omega) (fun s => by
    rw [← hcoef s]
    exact Int.natAbs_dvd.2 ⟨cut A N s, rfl⟩)
  have hq : ∀ i : Nat, cut q (j + 1) i = a * (cut q (j + 1) i / a) := fun i => (Int.mul_ediv_cancel' (Int.natAbs_dvd.1 (hdv i))).symm
  refine ⟨fun i => cut q (j + 1) i / a, j + 1, by omega, by omega, ?_, fun x => ?_⟩
  · intro g
    have h1 := hq j
    rw [show cut q (j + 1) j = q j from if_pos (by omega)] at h1
    have h2 : cut q (j + 1) j / a = 0 := g
    rw [show cut q (j + 1) j = q j from if_pos (by omega)] at h2
    rw [h2] at h1
    omega
  · have h1 : (a : Rat) * rv A N x = rv (cut q (j + 1)) (j + 1) x * rv P n x := by rw [cut_rv, ← j4]; exact e x
    have h2 : rv (cut q (j + 1)) (j + 1) x = (a : Rat) * rv (fun i => cut q (j + 1) i / a) (j + 1) x := by
      rw [← rv_smul]; exact rv_congr x (fun i _ => hq i)
    rw [h2] at h1
    have ha' := ne_cast ha
    have h3 : (a : Rat) * (rv A N x - rv (fun i => cut q (j + 1) i / a) (j + 1) x * rv P n x) = 0 := by grind
    rcases Rat.mul_eq_zero.1 h3 with u | u
    · exact absurd u ha'
    · grind
