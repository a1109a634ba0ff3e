/-- division with a remainder, up to a positive factor -/
theorem pdiv {b : Nat → Int} {m : Nat} (hm : 1 ≤ m) (hb : b (m - 1) ≠ 0) : ∀ (n : Nat) (a : Nat → Int), ∃ (A : Int) (q : Nat → Int) (l : Nat) (r : Nat → Int) (k : Nat), 0 < A ∧ k < m ∧ (1 ≤ k → r (k - 1) ≠ 0) ∧ ∀ x : Rat, (A : Rat) * rv a n x + rv q l x * rv b m x = - rv r k x
  | n, a => by
    have o1 : ((1 : Int) : Rat) = 1 := rfl
    have m1 : ((-1 : Int) : Rat) = -1 := rfl
    induction n using Nat.strongRecOn generalizing a with
    | _ n ih =>
      rcases has_top (q := a) n with c | ⟨t, t1, t2, t3⟩
      · refine ⟨1, fun _ => 0, 0, fun _ => 0, 0, by decide, by omega, fun h => absurd h (by omega), fun x => ?_⟩
        have e : rv a n x = rv (fun _ => 0) n x := rv_congr x c
        rw [e, rv_zero]
        show ((1 : Int) : Rat) * 0 + 0 * _ = - 0
        grind
      · have htr := rv_trim t1 t3
        rcases Nat.lt_or_ge (t + 1) m with c | c
        · refine ⟨1, fun _ => 0, 0, fun i => (-1) * a i, t + 1, by decide, c, fun _ => ?_, fun x => ?_⟩
          · show (-1) * a (t + 1 - 1) ≠ 0
            rw [Nat.add_sub_cancel]; omega
          · rw [rv_smul, m1, o1, htr x]
            show 1 * rv a (t + 1) x + 0 * _ = -(-1 * rv a (t + 1) x)
            grind
        · -- take the top away
          obtain ⟨L, hL⟩ : ∃ L : Int, L = b (m - 1) := ⟨_, rfl⟩
          rw [← hL] at hb
          have hLs : (L.natAbs : Int) = L.sign * L := by
            rcases Int.lt_trichotomy L 0 with g | g | g
            · rw [Int.sign_eq_neg_one_of_neg g]; omega
            · exact absurd g hb
            · rw [Int.sign_eq_one_of_pos g]; omega
          obtain ⟨a2, ha2⟩ : ∃ a2 : Nat → Int, a2 = fun i => (L.natAbs : Int) * cut a (t + 1) i + (-(L.sign * a t)) * qx (t + 1 - m) (cut b m) i := ⟨_, rfl⟩
          have hx : ∀ x : Rat, rv a2 (t + 1) x = ((L.natAbs : Int) : Rat) * rv a (t + 1) x + ((-(L.sign * a t) : Int) : Rat) * (x ^ (t + 1 - m) * rv b m x) := fun x => by
            rw [ha2, rv_add, rv_smul, rv_smul, cut_rv]
            have h3 := rv_qx (cut b m) (t + 1 - m) x m
            rw [show m + (t + 1 - m) = t + 1 by omega, cut_rv] at h3
            rw [h3]
          have htop : a2 t = 0 := by
            rw [ha2]
            show (L.natAbs : Int) * cut a (t + 1) t + (-(L.sign * a t)) * qx (t + 1 - m) (cut b m) t = 0
            have c1 : cut a (t + 1) t = a t := if_pos (by omega)
            have c2 : qx (t + 1 - m) (cut b m) t = L := by
              unfold qx
              rw [if_pos (by omega), show t - (t + 1 - m) = m - 1 by omega]
              unfold cut
              rw [if_pos (by omega), hL]
            rw [c1, c2, hLs]
            grind
          have hx2 : ∀ x : Rat, rv a2 (t + 1) x = rv a2 t x := fun x => by
            show rv a2 t x + (a2 t : Rat) * x ^ t = _
            rw [htop]
            have z : ((0 : Int) : Rat) = 0 := rfl
            rw [z]; grind
          obtain ⟨A, q, l, r, k, A0, k1, k2, k3⟩ := ih t t1 a2
          obtain ⟨q2, hq2⟩ := rv_sum (fun i => if i = t + 1 - m then 1 else 0) q l (t + 1 - m + 1) 1 (-(A * (L.sign * a t)))
          have hmon : ∀ (j : Nat) (x : Rat), rv (fun i => if i = j then 1 else 0) (j + 1) x = x ^ j := fun j x => by
            have e : rv (fun i => if i = j then (1 : Int) else 0) (j + 1) x = rv (fun _ => 0) j x + ((if j = j then (1 : Int) else 0 : Int) : Rat) * x ^ j := by
              show rv _ j x + _ = _
              rw [rv_congr (e := fun _ => 0) x (fun i hi => if_neg (by omega))]
            rw [e, rv_zero, if_pos rfl, o1]; grind
          refine ⟨A * (L.natAbs : Int), q2, t + 1 - m + 1 + l, r, k, Int.mul_pos A0 (by omega), k1, k2, fun x => ?_⟩
          have t1 := k3 x
          rw [← hx2 x, hx x] at t1
          rw [hq2, hmon, htr x, o1, Rat.intCast_mul]
          rw [← t1]
          have e5 : ((-(A * (L.sign * a t)) : Int) : Rat) = (A : Rat) * ((-(L.sign * a t) : Int) : Rat) := by
            rw [← Rat.intCast_mul]
            congr 1
            grind
          rw [e5]
          grind
/-- a chain of polynomials, each the remainder of the two before it with its sign turned -/
def pch (P : Nat → Nat → Int) (T : Nat → Nat) (m : Nat) : Prop := (∀ k : Nat, k ≤ m → 1 ≤ T k ∧ P k (T k - 1) ≠ 0) ∧ (∀ k : Nat, 1 ≤ k → k < m → ∃ (A w : Int) (q : Nat → Int) (d : Nat), 0 < A ∧ 0 < w ∧ ∀ x : Rat, (A : Rat) * rv (P (k - 1)) (T (k - 1)) x + rv q d x * rv (P k) (T k) x = - ((w : Rat) * rv (P (k + 1)) (T (k + 1)) x)) ∧ (1 ≤ m → ∃ (A : Int) (q : Nat → Int) (d : Nat), 0 < A ∧ ∀ x : Rat, (A : Rat) * rv (P (m - 1)) (T (m - 1)) x = rv q d x * rv (P m) (T m) x)
theorem pch_ex : ∀ (m : Nat) (a b : Nat → Int) (n : Nat), 1 ≤ n → a (n - 1) ≠ 0 → 1 ≤ m → b (m - 1) ≠ 0 → ∃ (P : Nat → Nat → Int) (T : Nat → Nat) (l : Nat), pch P T l ∧ (1 ≤ l ∧ l ≤ m) ∧ P 0 = a ∧ T 0 = n ∧ P 1 = b ∧ T 1 = m
  | m, a, b, n, hn, ha, hm, hb => by
    induction m using Nat.strongRecOn generalizing a b n with
    | _ m ih =>
      have m1 : ((-1 : Int) : Rat) = -1 := rfl
      have o1 : ((1 : Int) : Rat) = 1 := rfl
      obtain ⟨A, q, l, r, k, A0, k1, k2, k3⟩ := pdiv hm hb n a
      rcases Nat.eq_zero_or_pos k with c | c
      · refine ⟨fun i => if i = 0 then a else b, fun i => if i = 0 then n else m, 1, ⟨fun i hi => ?_, fun i h1 h2 => absurd h1 (by omega), fun _ => ⟨A, fun i => (-1) * q i, l, A0, fun x => ?_⟩⟩, by omega, rfl, rfl, rfl, rfl⟩
        · by_cases c2 : i = 0
          · rw [c2]; exact ⟨hn, ha⟩
          · simp only [if_neg c2]; exact ⟨hm, hb⟩
        · show (A : Rat) * rv a n x = rv (fun i => (-1) * q i) l x * rv b m x
          have := k3 x
          rw [c] at this
          have z : rv r 0 x = 0 := rfl
          rw [z] at this
          rw [rv_smul, m1]
          grind
      · obtain ⟨P, T, l2, ⟨h1, h2, h3⟩, ⟨h4, h4'⟩, h5, h6, h7, h8⟩ := ih k k1 b r m hm hb c (k2 c)
        refine ⟨fun i => if i = 0 then a else P (i - 1), fun i => if i = 0 then n else T (i - 1), l2 + 1, ⟨fun i hi => ?_, fun i g1 g2 => ?_, fun _ => ?_⟩, by omega, rfl, rfl, h5, h6⟩
        · by_cases c2 : i = 0
          · rw [c2]; exact ⟨hn, ha⟩
          · simp only [if_neg c2]; exact h1 (i - 1) (by omega)
        · by_cases c2 : i = 1
          · subst c2
            refine ⟨A, 1, q, l, A0, by decide, fun x => ?_⟩
            show (A : Rat) * rv a n x + rv q l x * rv (P 0) (T 0) x = -(((1 : Int) : Rat) * rv (P 1) (T 1) x)
            rw [h5, h6, h7, h8, o1]
            have := k3 x
            grind
          · obtain ⟨A', w, q', d, a0, w0, hr⟩ := h2 (i - 1) (by omega) (by omega)
            refine ⟨A', w, q', d, a0, w0, fun x => ?_⟩
            have e1 : i ≠ 0 := by omega
            have e2 : i - 1 ≠ 0 := by omega
            have e3 : i + 1 ≠ 0 := by omega
            simp only [if_neg e1, if_neg e2, if_neg e3]
            have := hr x
            rw [show i - 1 + 1 = i + 1 - 1 by omega] at this
            exact this
        · obtain ⟨A', q', d, a0, hr⟩ := h3 h4
          refine ⟨A', q', d, a0, fun x => ?_⟩
          have e1 : l2 + 1 ≠ 0 := by omega
          have e2 : l2 + 1 - 1 ≠ 0 := by omega
          simp only [if_neg e1, if_neg e2]
          exact hr x
theorem vc_lt (e : Nat → Int) : ∀ n : Nat, vc e (n + 1) ≤ n
  | 0 => by simp [vc, vl]
  | n + 1 => by
    have h := vc_lt e n
    have e1 : vc e (n + 1 + 1) = if (e (n + 1)).sign ≠ 0 ∧ vl e (n + 1) ≠ 0 ∧ (e (n + 1)).sign ≠ vl e (n + 1) then vc e (n + 1) + 1 else vc e (n + 1) := rfl
    rw [e1]
    split
    · exact Nat.succ_le_succ h
    · exact Nat.le_succ_of_le h
/-- the chain counts the roots -/
theorem pch_cnt {P : Nat → Nat → Int} {T : Nat → Nat} {m : Nat} (h : pch P T m) (h1 : 1 ≤ m → ∀ x : Rat, rv (P 1) (T 1) x = rv (der (P 0)) (T 0 - 1) x) (h2 : m = 0 → T 0 = 1) : ∃ (Q Q1 : Rat → Rat) (W : Rat → Int), cnt Q W ∧ (∀ x : Rat, rv (P 0) (T 0) x = Q x * rv (P m) (T m) x) ∧ (∀ B : Rat, 0 ≤ B → nice B Q1) ∧ (∀ x : Rat, rv (der (P 0)) (T 0 - 1) x = Q1 x * rv (P m) (T m) x) ∧ ∀ x : Rat, W x ≤ (m : Int) := by
  obtain ⟨p1, p2, p3⟩ := h
  have hnice : ∀ k : Nat, ∀ B : Rat, 0 ≤ B → nice B (fun x => rv (P k) (T k) x) := fun k B hB => rv_nice hB _ _
  have cpos : ∀ {z : Int}, 0 < z → (0 : Rat) < (z : Rat) := fun {z} hz => by
    have : ((0 : Int) : Rat) < (z : Rat) := Rat.intCast_lt_intCast.2 hz
    exact this
  obtain ⟨Q, hQ, hl⟩ := chain_div (m := m) (P := fun k x => rv (P k) (T k) x) (hnice m) (fun k k1 k2 => by
    obtain ⟨A, w, q, d, a0, w0, hr⟩ := p2 k k1 k2
    exact ⟨(A : Rat), (w : Rat), fun x => rv q d x, cpos a0, cpos w0, fun B hB => rv_nice hB _ _, hr⟩) (fun hm => by
    obtain ⟨A, q, d, a0, hr⟩ := p3 hm
    refine ⟨fun x => (1 / (A : Rat)) * rv q d x, fun B hB => nice_smul _ (rv_nice hB _ _), fun x => ?_⟩
    have := hr x
    have := cpos a0
    have h5 : (A : Rat) * (rv (P (m - 1)) (T (m - 1)) x - (1 / (A : Rat)) * rv q d x * rv (P m) (T m) x) = 0 := by grind
    rcases Rat.mul_eq_zero.1 h5 with u | u
    · grind
    · show rv (P (m - 1)) (T (m - 1)) x = _
      grind)
  have hQ1 : ∃ Q1 : Rat → Rat, (∀ B : Rat, 0 ≤ B → nice B Q1) ∧ (∀ x : Rat, rv (der (P 0)) (T 0 - 1) x = Q1 x * rv (P m) (T m) x) ∧ (1 ≤ m → ∀ x : Rat, rv (der (P 0)) (T 0 - 1) x = Q 1 x * rv (P m) (T m) x) := by
    by_cases c : 1 ≤ m
    · have e : ∀ x : Rat, rv (der (P 0)) (T 0 - 1) x = Q 1 x * rv (P m) (T m) x := fun x => by rw [← h1 c x]; exact hQ 1 c x
      exact ⟨Q 1, fun B hB => (hl B hB).1 1 c, e, fun _ => e⟩
    · have e : T 0 = 1 := h2 (by omega)
      refine ⟨fun _ => 0, fun B hB => nice_const B 0, fun x => ?_, fun g => absurd g c⟩
      rw [e]
      show (0 : Rat) = 0 * _
      grind
  obtain ⟨Q1, q1, q2, q3⟩ := hQ1
  -- far out
  obtain ⟨X0, x1, x2⟩ := fin_max (fun k => csum (P k) (T k - 1) + 1) (m + 1)
  obtain ⟨s, hs⟩ : ∃ s : Nat → Int, s = fun k => rsg (rv (P k) (T k) (-X0)) := ⟨_, rfl⟩
  have far : ∀ X : Rat, X0 ≤ X → ∀ k : Nat, k ≤ m → rsg (rv (P k) (T k) (-X)) = s k ∧ rv (P k) (T k) (-X) ≠ 0 := fun X hX k hk => by
    obtain ⟨t1, t2⟩ := p1 k hk
    obtain ⟨n, hn⟩ : ∃ n : Nat, T k = n + 1 := ⟨T k - 1, by omega⟩
    have hxk := x2 k (by omega)
    simp only [hn, Nat.add_sub_cancel] at t2 hxk
    have f1 := rv_top t2 (X := X) (x := -X) (by grind) (Or.inr rfl)
    have f2 := rv_top t2 (X := X0) (x := -X0) (by grind) (Or.inr rfl)
    rw [rsg_pow_neg (by grind)] at f1 f2
    rw [hs]
    show rsg (rv (P k) (T k) (-X)) = rsg (rv (P k) (T k) (-X0)) ∧ _
    rw [hn, f1, f2]
    refine ⟨rfl, fun g => ?_⟩
    rw [g, rsg_zero] at f1
    have : (P k n).sign ≠ 0 := fun g => t2 (Int.sign_eq_zero_iff_zero.1 g)
    split at f1 <;> omega
  refine ⟨Q 0, Q1, fun x => ((vc s (m + 1) : Nat) : Int) - ((vc (fun k => rsg (Q k x)) (m + 1) : Nat) : Int), ⟨fun B hB => (hl B hB).1 0 (by omega), ⟨X0, x1, fun X hX => ?_⟩, fun B hB => ?_⟩, fun x => hQ 0 (by omega) x, q1, q2, fun x => by have := vc_lt s m; show ((vc s (m + 1) : Nat) : Int) - _ ≤ _; omega⟩
  · have key : vc s (m + 1) = vc (fun k => rsg (Q k (-X))) (m + 1) := (vc_turn (rsg_nz (far X hX m (Nat.le_refl _)).2) (m + 1) (fun k hk => by
      refine ⟨?_, rsg_three _⟩
      rw [← (far X hX k (by omega)).1]
      have := hQ k (by omega) (-X)
      rw [this, sgn_mul_r]
      rcases rsg_three (Q k (-X)) with u | u | u <;> rcases rsg_three (rv (P m) (T m) (-X)) with w | w | w <;> rw [u, w] <;> rfl)).2
    show ((vc s (m + 1) : Nat) : Int) - _ = 0
    rw [key]; omega
  · obtain ⟨t1, t2⟩ := p1 0 (by omega)
    have hsl : slope B (fun x => rv (P 0) (T 0) x) (fun x => rv (der (P 0)) (T 0 - 1) x) := by
      have := rv_slope hB (P 0) (T 0 - 1)
      rw [show T 0 - 1 + 1 = T 0 by omega] at this
      exact this
    obtain ⟨d, e1, e2⟩ := sturm_cell (hl B hB) hsl (hnice m B hB) (fun x => hQ 0 (by omega) x) (fun hm x => q3 hm x) (fun x y hxy => dense t1 t2 x y hxy)
    refine ⟨d, e1, fun x y hx hy hxy hd => ?_⟩
    have := e2 x y hx hy hxy hd
    show ((vc s (m + 1) : Nat) : Int) - _ - (((vc s (m + 1) : Nat) : Int) - _) = _
    omega
