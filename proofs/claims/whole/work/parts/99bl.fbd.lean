/-- values at whole points -/
theorem rv_int (c : Nat → Int) (n : Nat) (t : Int) : ∃ z : Int, rv c n (t : Rat) = (z : Rat) := ⟨ev c n t, (ev_rv c t n).symm⟩
/-- a root taken out -/
theorem root_out {P : Nat → Int} {m : Nat} (a : Int) (x : Rat) : rv P m x = ((sfa P m a m : Int) : Rat) + (x - (a : Rat)) * rv (fun j => sfa P m a (m - 1 - j)) (m - 1) x := by
  have h := sfa_div P m a x m (Nat.le_refl _)
  have e : (fun j => P (m - m + j)) = P := by funext j; rw [Nat.sub_self, Nat.zero_add]
  rw [e] at h
  exact h
theorem sfa_val {P : Nat → Int} {m : Nat} (a : Int) : rv P m (a : Rat) = ((sfa P m a m : Int) : Rat) := by
  rw [root_out a (a : Rat)]; grind
theorem sfa_top {P : Nat → Int} {m : Nat} (a : Int) : sfa P m a 1 = P (m - 1) := by
  show P (m - (0 + 1)) + 0 * a = _
  rw [Nat.zero_add]; omega
/-- no more roots than the degree -/
theorem roots_le : ∀ (m : Nat) (P : Nat → Int), 1 ≤ m → P (m - 1) ≠ 0 → ∀ l : List Int, l.Nodup → (∀ a : Int, a ∈ l → rv P m (a : Rat) = 0) → l.length + 1 ≤ m
  | 0, P, h, _, _, _, _ => absurd h (by omega)
  | m + 1, P, _, hP, [], _, _ => by show 0 + 1 ≤ m + 1; omega
  | m + 1, P, _, hP, a :: l, hn, hr => by
    have h0 := hr a (List.mem_cons_self ..)
    rw [sfa_val] at h0
    have hx : ∀ x : Rat, rv P (m + 1) x = (x - (a : Rat)) * rv (fun j => sfa P (m + 1) a (m + 1 - 1 - j)) m x := fun x => by
      rw [root_out a x, h0]
      show 0 + _ * rv _ (m + 1 - 1) x = _
      rw [Nat.add_sub_cancel]; grind
    have hm : 1 ≤ m := by
      rcases Nat.eq_zero_or_pos m with c | c
      · subst c
        have e : ((sfa P (0 + 1) a (0 + 1) : Int) : Rat) = (P 0 : Rat) := by
          have := sfa_top (P := P) (m := 0 + 1) a
          rw [show (0 + 1 : Nat) = 1 by omega] at this ⊢
          rw [this]
        rw [e] at h0
        exact absurd h0 (ne_cast hP)
      · exact c
    have hl := roots_le m (fun j => sfa P (m + 1) a (m + 1 - 1 - j)) hm (by
      show sfa P (m + 1) a (m + 1 - 1 - (m - 1)) ≠ 0
      rw [show m + 1 - 1 - (m - 1) = 1 by omega, sfa_top]; exact hP) l (List.nodup_cons.1 hn).2 (fun b hb => by
      have h1 := hr b (List.mem_cons_of_mem _ hb)
      rw [hx] at h1
      have hne : a ≠ b := fun g => (List.nodup_cons.1 hn).1 (by rw [g]; exact hb)
      rcases Rat.mul_eq_zero.1 h1 with u | u
      · exfalso
        have : (b : Rat) = (a : Rat) := by grind
        exact hne (Rat.intCast_inj.1 this).symm
      · exact u)
    show l.length + 1 + 1 ≤ m + 1
    omega
/-- how large the coefficients are that belong to small values -/
def KB : Nat → Int → Int
  | 0, V => V
  | d + 1, V => V + 9 * KB d (2 * V)
theorem KB_ge : ∀ (d : Nat) (V : Int), 0 ≤ V → V ≤ KB d V
  | 0, V, _ => Int.le_refl V
  | d + 1, V, h => by
    show V ≤ V + 9 * KB d (2 * V)
    have := KB_ge d (2 * V) (by omega)
    omega
theorem interp : ∀ (d : Nat) (P : Nat → Int) (V : Int) (l : List Int), 0 ≤ V → l.Nodup → d + 1 ≤ l.length → (∀ a : Int, a ∈ l → (a.natAbs : Int) ≤ 8 ∧ ((ev P (d + 1) a).natAbs : Int) ≤ V) → ∀ i : Nat, i < d + 1 → ((P i).natAbs : Int) ≤ KB d V
  | 0, P, V, l, hV, hn, hl, h, i, hi => by
    obtain ⟨a, l', rfl⟩ : ∃ (a : Int) (l' : List Int), l = a :: l' := by
      cases l with
      | nil => exact absurd hl (by show ¬ 0 + 1 ≤ 0; omega)
      | cons a l' => exact ⟨a, l', rfl⟩
    have h1 := (h a (List.mem_cons_self ..)).2
    rw [show i = 0 by omega]
    have e : ev P (0 + 1) a = P 0 := by show 0 + P 0 * a ^ 0 = _; rw [Int.pow_zero]; omega
    rw [e] at h1
    exact h1
  | d + 1, P, V, l, hV, hn, hl, h, i, hi => by
    obtain ⟨a, l', rfl⟩ : ∃ (a : Int) (l' : List Int), l = a :: l' := by
      cases l with
      | nil => exact absurd hl (by show ¬ d + 1 + 1 ≤ 0; omega)
      | cons a l' => exact ⟨a, l', rfl⟩
    have ha := h a (List.mem_cons_self ..)
    have hl' : d + 1 ≤ l'.length := by have : d + 1 + 1 ≤ l'.length + 1 := hl; omega
    obtain ⟨P1, hP1⟩ : ∃ P1 : Nat → Int, P1 = fun j => sfa P (d + 1 + 1) a (d + 1 + 1 - 1 - j) := ⟨_, rfl⟩
    have hva : sfa P (d + 1 + 1) a (d + 1 + 1) = ev P (d + 1 + 1) a := by
      have h1 := sfa_val (P := P) (m := d + 1 + 1) a
      rw [← ev_rv] at h1
      exact (Rat.intCast_inj.1 h1).symm
    -- the other values
    have hb : ∀ b : Int, b ∈ l' → (b.natAbs : Int) ≤ 8 ∧ ((ev P1 (d + 1) b).natAbs : Int) ≤ 2 * V := fun b hb => by
      have hb1 := h b (List.mem_cons_of_mem _ hb)
      refine ⟨hb1.1, ?_⟩
      have hne : a ≠ b := fun g => (List.nodup_cons.1 hn).1 (by rw [g]; exact hb)
      have h1 := root_out (P := P) (m := d + 1 + 1) a (b : Rat)
      rw [show d + 1 + 1 - 1 = d + 1 by omega] at h1
      have e1 : (fun j => sfa P (d + 1 + 1) a (d + 1 - j)) = P1 := by rw [hP1]; rfl
      rw [e1, hva, ← ev_rv, ← ev_rv] at h1
      have h2 : ev P (d + 1 + 1) b = ev P (d + 1 + 1) a + (b - a) * ev P1 (d + 1) b := by
        have : ((ev P (d + 1 + 1) b : Int) : Rat) = ((ev P (d + 1 + 1) a + (b - a) * ev P1 (d + 1) b : Int) : Rat) := by
          rw [Rat.intCast_add, Rat.intCast_mul, Rat.intCast_sub]; exact h1
        exact Rat.intCast_inj.1 this
      have h3 : ((b - a) * ev P1 (d + 1) b).natAbs ≤ (ev P (d + 1 + 1) b).natAbs + (ev P (d + 1 + 1) a).natAbs := by omega
      rw [Int.natAbs_mul] at h3
      have h4 : 1 ≤ (b - a).natAbs := by omega
      have h5 := Nat.mul_le_mul_right (ev P1 (d + 1) b).natAbs h4
      omega
    have ih := interp d P1 (2 * V) l' (by omega) (List.nodup_cons.1 hn).2 hl' hb
    -- the coefficients
    have hS : ∀ j : Nat, j < d + 1 → ((sfa P (d + 1 + 1) a (d + 1 - j)).natAbs : Int) ≤ KB d (2 * V) := fun j hj => by
      have := ih j hj
      rw [hP1] at this
      exact this
    have hrec : P i = sfa P (d + 1 + 1) a (d + 1 + 1 - i) - sfa P (d + 1 + 1) a (d + 1 - i) * a := by
      have e : sfa P (d + 1 + 1) a (d + 1 - i + 1) = P (d + 1 + 1 - (d + 1 - i + 1)) + sfa P (d + 1 + 1) a (d + 1 - i) * a := rfl
      rw [show d + 1 + 1 - (d + 1 - i + 1) = i by omega, show d + 1 - i + 1 = d + 1 + 1 - i by omega] at e
      omega
    have hlow : ((sfa P (d + 1 + 1) a (d + 1 - i)).natAbs : Int) ≤ KB d (2 * V) := by
      rcases Nat.lt_or_ge i (d + 1) with c | c
      · exact hS i c
      · rw [show d + 1 - i = 0 by omega]
        show (((0 : Int).natAbs : Nat) : Int) ≤ _
        have := KB_ge d (2 * V) (by omega)
        have e0 : (((0 : Int).natAbs : Nat) : Int) = 0 := rfl
        omega
    have hprod : ((sfa P (d + 1 + 1) a (d + 1 - i) * a).natAbs : Int) ≤ KB d (2 * V) * 8 := by
      rw [Int.natAbs_mul, Int.natCast_mul]
      exact Int.mul_le_mul hlow ha.1 (by omega) (by have := KB_ge d (2 * V) (by omega); omega)
    show ((P i).natAbs : Int) ≤ V + 9 * KB d (2 * V)
    have hk := KB_ge d (2 * V) (by omega)
    rcases Nat.eq_zero_or_pos i with c | c
    · subst c
      rw [Nat.sub_zero, hva] at hrec
      have := ha.2
      omega
    · have h6 := hS (i - 1) (by omega)
      rw [show d + 1 - (i - 1) = d + 1 + 1 - i by omega] at h6
      omega
theorem flen (p : Int → Bool) : ∀ l : List Int, (l.filter p).length + (l.filter (fun a => !p a)).length = l.length
  | [] => rfl
  | a :: l => by
    have ih := flen p l
    by_cases c : p a = true
    · rw [List.filter_cons_of_pos c, List.filter_cons_of_neg (by simp [c])]
      show (l.filter p).length + 1 + _ = l.length + 1
      omega
    · rw [List.filter_cons_of_neg c, List.filter_cons_of_pos (by simp [c])]
      show _ + ((l.filter (fun a => !p a)).length + 1) = l.length + 1
      omega
/-- seventeen whole points -/
def pts : List Int := [-8, -7, -6, -5, -4, -3, -2, -1, 0, 1, 2, 3, 4, 5, 6, 7, 8]
theorem pts_ok : pts.Nodup ∧ pts.length = 17 ∧ ∀ a : Int, a ∈ pts → (a.natAbs : Int) ≤ 8 := by decide
theorem ev_bd {A : Nat → Int} {M : Int} (hM : 0 ≤ M) {a : Int} (ha : (a.natAbs : Int) ≤ 8) : ∀ n : Nat, (∀ i : Nat, i < n → ((A i).natAbs : Int) ≤ M) → ((ev A n a).natAbs : Int) * 7 ≤ M * (8 ^ n - 1)
  | 0, _ => by show (((0 : Int).natAbs : Nat) : Int) * 7 ≤ M * (8 ^ 0 - 1); simp
  | n + 1, h => by
    have ih := ev_bd hM ha n (fun i hi => h i (by omega))
    have h1 := h n (by omega)
    have hp : (0 : Int) ≤ 8 ^ n := Int.le_of_lt (Int.pow_pos (by decide))
    have h2 : ((a ^ n).natAbs : Int) ≤ 8 ^ n := by
      rw [Int.natAbs_pow, Int.natCast_pow]
      have key : ∀ k : Nat, ((a.natAbs : Int)) ^ k ≤ 8 ^ k := by
        intro k
        induction k with
        | zero => exact Int.le_refl _
        | succ k ih2 =>
          rw [Int.pow_succ, Int.pow_succ]
          exact Int.mul_le_mul ih2 ha (by omega) (Int.le_of_lt (Int.pow_pos (by decide)))
      exact key n
    have h3 : ((A n * a ^ n).natAbs : Int) ≤ M * 8 ^ n := by
      rw [Int.natAbs_mul, Int.natCast_mul]
      exact Int.mul_le_mul h1 h2 (by omega) hM
    show ((ev A n a + A n * a ^ n).natAbs : Int) * 7 ≤ M * (8 ^ (n + 1) - 1)
    have h4 := Int.natAbs_add_le (ev A n a) (A n * a ^ n)
    rw [Int.pow_succ]
    have e : M * (8 ^ n * 8 - 1) = M * (8 ^ n - 1) + M * 8 ^ n * 7 := by grind
    omega
/-- divisors have small coefficients -/
theorem fac_bd {P A : Nat → Int} {n N : Nat} (hP : gN P n = 1) (hn : 1 ≤ n ∧ P (n - 1) ≠ 0) (hA : 1 ≤ N ∧ A (N - 1) ≠ 0) (hN : N ≤ 9) (hlt : n < N) (hM : ∀ i : Nat, i < N → ((A i).natAbs : Int) ≤ 1000000000) (h : pdv P n A N) : ∀ i : Nat, i < n → ((P i).natAbs : Int) ≤ KB (n - 1) 19173961000000000 := by
  obtain ⟨C, k, k1, k2, k3, e⟩ := prim_dvd hP hn hA h
  -- the points where A is not 0
  obtain ⟨l, hl⟩ : ∃ l : List Int, l = pts.filter (fun a => ev A N a ≠ 0) := ⟨_, rfl⟩
  have hroots := roots_le N A hA.1 hA.2 (pts.filter (fun a => !decide (ev A N a ≠ 0))) (pts_ok.1.filter _) (fun a ha => by
    have h1 := (List.mem_filter.1 ha).2
    have h2 : ev A N a = 0 := by simpa using h1
    rw [← ev_rv, h2]; rfl)
  have hlen : 9 ≤ l.length := by
    have h1 := flen (fun a => decide (ev A N a ≠ 0)) pts
    have h2 := pts_ok.2.1
    rw [h2] at h1
    rw [hl]
    omega
  have hnod : l.Nodup := by rw [hl]; exact pts_ok.1.filter _
  obtain ⟨d, rfl⟩ : ∃ d : Nat, n = d + 1 := ⟨n - 1, by omega⟩
  refine interp d P 19173961000000000 l (by decide) hnod (by omega) (fun a ha => ?_)
  rw [hl] at ha
  have h1 := List.mem_filter.1 ha
  have h8 := pts_ok.2.2 a h1.1
  refine ⟨h8, ?_⟩
  have hne : ev A N a ≠ 0 := by simpa using h1.2
  -- |P(a)| is at most |A(a)|
  have h2 : ev A N a = ev C k a * ev P (d + 1) a := by
    have := e (a : Rat)
    rw [← ev_rv, ← ev_rv, ← ev_rv, ← Rat.intCast_mul] at this
    exact Rat.intCast_inj.1 this
  have h3 : ev C k a ≠ 0 := fun g => hne (by rw [h2, g]; omega)
  have h4 : (ev P (d + 1) a).natAbs ≤ (ev A N a).natAbs := by
    rw [h2, Int.natAbs_mul]
    have := Nat.mul_le_mul_right (ev P (d + 1) a).natAbs (show 1 ≤ (ev C k a).natAbs by omega)
    omega
  have h5 := ev_bd (M := 1000000000) (by decide) h8 N hM
  have h6 : (8 : Int) ^ N ≤ 134217728 := by
    have key : ∀ k : Nat, k ≤ 9 → (8 : Int) ^ k ≤ 134217728 := by
      intro k hk
      have : k = 0 ∨ k = 1 ∨ k = 2 ∨ k = 3 ∨ k = 4 ∨ k = 5 ∨ k = 6 ∨ k = 7 ∨ k = 8 ∨ k = 9 := by omega
      rcases this with h | h | h | h | h | h | h | h | h | h <;> subst h <;> decide
    exact key N hN
  omega
theorem KB_mono {V : Int} (hV : 0 ≤ V) : ∀ d : Nat, KB d V ≤ KB (d + 1) V
  | d => by
    show KB d V ≤ V + 9 * KB d (2 * V)
    have key : ∀ (d : Nat) (V U : Int), 0 ≤ V → V ≤ U → KB d V ≤ KB d U := by
      intro d
      induction d with
      | zero => intro V U _ h; exact h
      | succ d ih =>
        intro V U hV h
        show V + 9 * KB d (2 * V) ≤ U + 9 * KB d (2 * U)
        have := ih (2 * V) (2 * U) (by omega) (by omega)
        omega
    have h1 := key d V (2 * V) hV (by omega)
    have h2 := KB_ge d V hV
    omega
theorem KB_le {V : Int} (hV : 0 ≤ V) {d e : Nat} (h : d ≤ e) : KB d V ≤ KB e V := by
  obtain ⟨k, rfl⟩ : ∃ k : Nat, e = d + k := ⟨e - d, by omega⟩
  clear h
  induction k with
  | zero => exact Int.le_refl _
  | succ k ih => have := KB_mono hV (d + k); rw [Nat.add_assoc] at this; omega
theorem KB_7 : KB 7 19173961000000000 ≤ 2 ^ 84 := by decide +kernel
