theorem yV_T {Z : Nat → Int} {T Ta : Nat → Nat} {ex od k : Nat} (h : Ta k = T k) : yV Z Ta ex od k = yV Z T ex od k := by unfold yV; rw [h]
/-- the changes from the second row on, over fine cells -/
theorem tarski {Z : Nat → Int} {T : Nat → Nat} {us : Nat} (h : chn Z T us) (h2 : 2 ≤ us) : ∃ (Qa R : Rat → Rat) (V : Rat → Int), (∀ B : Rat, 0 ≤ B → nice B Qa) ∧ (∀ B : Rat, 0 ≤ B → nice B R) ∧ (∀ x : Rat, rowv Z T 1 x = Qa x * rowv Z T (us - 1) x) ∧ (∀ x : Rat, rowv Z T 0 x = -(R x * rowv Z T (us - 1) x)) ∧ (∀ (n : Int) (ex : Nat) (v : Int), chg Z T us n ex v → v = V (dy n ex)) ∧
    ∀ B : Rat, 0 ≤ B → ∃ d e : Rat, 0 < d ∧ 0 < e ∧ ∀ p q : Rat, ab B p → ab B q → p < q → q - p ≤ d → (calm (Qa p) (Qa q) → V p = V q) ∧ (¬ calm (Qa p) (Qa q) → ∃ s : Int, (s = 1 ∨ s = -1) ∧ (∀ z : Rat, p ≤ z → z ≤ q → rsg (R z) = s ∧ ¬ ab e (R z)) ∧ V p - V q = (if rsg (Qa p) = -s then 1 else 0) - (if rsg (Qa q) = -s then 1 else 0)) := by
  obtain ⟨Q, hQ, hl⟩ := chn_Q h
  have hu := h.2.2.2.1
  refine ⟨Q 1, fun x => - Q 0 x, fun x => ((vc (fun k => rsg (Q (1 + k) x)) (us - 1) : Nat) : Int), fun B hB => (hl B hB).1 1 (by omega), fun B hB => nice_neg ((hl B hB).1 0 (by omega)), fun x => hQ 1 (by omega) x, fun x => by rw [hQ 0 (by omega) x]; grind, fun n ex v hv => ?_, fun B hB => ?_⟩
  · obtain ⟨Za, Ta, od, c1, c2, c3, c4⟩ := hv
    have hT : ∀ k : Nat, k < us → Ta k = T k := fun k hk => c2 k (by omega)
    have c3' : oD (qu Za 84 n) T ex (us - 1) od := by
      obtain ⟨o1, o2⟩ := c3
      refine ⟨fun j hj => ?_, ?_⟩
      · have := o1 j hj
        rw [hT (us - 1) (by omega), yV_T (hT (us - 1) (by omega))] at this
        exact this
      · rw [hT (us - 1) (by omega), yV_T (hT (us - 1) (by omega))] at o2
        exact o2
    have e1 := rows_sign (fr := 1) h c1 c3' hQ hl (by omega)
    show v = ((vc (fun k => rsg (Q (1 + k) (dy n ex))) (us - 1) : Nat) : Int)
    rw [c4, vc_congr (e := fun k => yV (qu Za 84 n) T ex od (1 + k)) (fun k hk => yV_T (hT (1 + k) (by omega))), e1]
  · have hlB := hl B hB
    have hS : lkd B (us - 2) (fun k => Q (1 + k)) := by
      refine ⟨fun k hk => hlB.1 (1 + k) (by omega), fun x => ?_, fun k k1 k2 => ?_⟩
      · have := hlB.2.1 x
        show Q (1 + (us - 2)) x = 1
        rw [show 1 + (us - 2) = us - 1 by omega]; exact this
      · obtain ⟨a, w, q, a0, w0, hq, hr⟩ := hlB.2.2 (k + 1) (by omega) (by omega)
        refine ⟨a, w, q, a0, w0, hq, fun x => ?_⟩
        have := hr x
        rw [Nat.add_sub_cancel] at this
        show a * Q (1 + (k - 1)) x + q x * Q (1 + k) x = -(w * Q (1 + (k + 1)) x)
        rw [show 1 + (k - 1) = k by omega, show 1 + k = k + 1 by omega, show 1 + (k + 1) = k + 1 + 1 by omega]
        exact this
    obtain ⟨d1, p1, q1⟩ := sturm_raw hS
    have e0 : us - 2 + 1 = us - 1 := by omega
    by_cases c : us = 2
    · subst c
      refine ⟨d1, 1, p1, by grind, fun p q hp hq hpq hd => ⟨fun _ => ?_, fun hn => ?_⟩⟩
      · have := (q1 p q hp hq hpq hd).1
        have this := this.trans (if_pos (show calm (Q (1 + 0) p) (Q (1 + 0) q) by
          have t1 := hS.2.1 p
          have t2 := hS.2.1 q
          simp only at t1 t2
          rw [show 1 + (2 - 2) = 1 + 0 by omega] at t1 t2
          rw [t1, t2]
          unfold calm
          rw [rsg_pos (by grind)]; exact ⟨rfl, by decide⟩))
        rw [e0] at this
        show ((vc (fun k => rsg (Q (1 + k) p)) (2 - 1) : Nat) : Int) = ((vc (fun k => rsg (Q (1 + k) q)) (2 - 1) : Nat) : Int)
        omega
      · exfalso
        apply hn
        have t1 := hS.2.1 p
        have t2 := hS.2.1 q
        simp only at t1 t2
        rw [show 1 + (2 - 2) = 1 by omega] at t1 t2
        rw [t1, t2]
        unfold calm
        rw [rsg_pos (by grind)]; exact ⟨rfl, by decide⟩
    · obtain ⟨a, w, qf, a0, w0, hqf, hr⟩ := hlB.2.2 1 (by omega) (by omega)
      simp only [Nat.sub_self] at hr
      obtain ⟨g, g0, g1⟩ := lkd_gap hS (us - 2 - 1) (by omega)
      have gap : ∀ x : Rat, ab B x → ¬ (ab g (Q 1 x) ∧ ab g (Q 2 x)) := fun x hx => by
        have := g1 0 (by omega) (by omega) x hx
        exact this
      obtain ⟨N, n0, n1, _⟩ := hqf
      -- how small Q 1 must be
      have hwg : 0 < w * g := Rat.mul_pos w0 g0
      obtain ⟨e1, e10, e11, e12⟩ := pos_min g0 (div_pos' (show 0 < w * g / 2 by grind) (show 0 < N + 1 by grind))
      obtain ⟨d2, p2, q2⟩ := nice_small (hlB.1 1 (by omega)) (d := e1 / 2) (by grind)
      obtain ⟨d, p3, p4, p5⟩ := pos_min p1 p2
      refine ⟨d, w * g / 2 / (2 * a), p3, div_pos' (by grind) (by grind), fun p q hp hq hpq hd => ?_⟩
      obtain ⟨r1, r2⟩ := q1 p q hp hq hpq (by grind)
      rw [e0] at r1
      refine ⟨fun hc => ?_, fun hn => ?_⟩
      · have r1 := r1.trans (if_pos hc)
        show ((vc (fun k => rsg (Q (1 + k) p)) (us - 1) : Nat) : Int) = ((vc (fun k => rsg (Q (1 + k) q)) (us - 1) : Nat) : Int)
        omega
      · have r1 := r1.trans (if_neg hn)
        have r3 := r2 hn
        have s1 := not_calm hn (q2 p q hp hq (by grind) (by grind))
        have small : ∀ z : Rat, p ≤ z → z ≤ q → ab e1 (Q 1 z) := fun z z1 z2 => ab_half s1.1 (q2 p z hp (in_B hp hq z1 z2) z1 (by grind))
        have big : ∀ z : Rat, p ≤ z → z ≤ q → ¬ ab g (Q 2 z) := fun z z1 z2 t => gap z (in_B hp hq z1 z2) ⟨ab_le (small z z1 z2) e11, t⟩
        -- a R = q Q1 + w Q2
        have hq1 : ∀ z : Rat, p ≤ z → z ≤ q → ab (w * g / 2) (qf z * Q 1 z) := fun z z1 z2 => by
          have t := ab_mul (n1 z (in_B hp hq z1 z2)) (small z z1 z2)
          exact ab_le t (mul_div_le n0 (Rat.le_of_lt e10) e12)
        have fin : ∀ s : Int, (s = 1 ∨ s = -1) → (∀ z : Rat, p ≤ z → z ≤ q → rsg (Q 2 z) = s) → (∀ z : Rat, p ≤ z → z ≤ q → rsg (- Q 0 z) = s ∧ ¬ ab (w * g / 2 / (2 * a)) (- Q 0 z)) := fun s hs hz z z1 z2 => by
          have t1 := hr z
          have t2 := hq1 z z1 z2
          have t3 := hz z z1 z2
          have e9 : a * (w * g / 2 / (2 * a)) = w * g / 2 / 2 := by grind
          unfold ab at t2
          rcases not_ab (big z z1 z2) with u | u
          · have t4 : rsg (Q 2 z) = 1 := rsg_pos (pos_of g0 u)
            have t5 := Rat.mul_pos w0 (show 0 < Q 2 z - g by grind)
            have t6 : w * g / 2 ≤ a * (- Q 0 z) := by grind
            have t7 : w * g / 2 / (2 * a) < - Q 0 z := Rat.lt_of_mul_lt_mul_left (c := a) (by grind) (by grind)
            refine ⟨?_, fun t8 => by unfold ab at t8; grind⟩
            have t9 : 0 < w * g / 2 / (2 * a) := div_pos' (by grind) (by grind)
            rw [rsg_pos (by grind)]; omega
          · have t4 : rsg (Q 2 z) = -1 := rsg_neg (neg_of g0 u)
            have t5 := Rat.mul_pos w0 (show 0 < -g - Q 2 z by grind)
            have t6 : a * (- Q 0 z) ≤ -(w * g / 2) := by grind
            have t7 : - Q 0 z < -(w * g / 2 / (2 * a)) := Rat.lt_of_mul_lt_mul_left (c := a) (by grind) (by grind)
            refine ⟨?_, fun t8 => by unfold ab at t8; grind⟩
            have t9 : 0 < w * g / 2 / (2 * a) := div_pos' (by grind) (by grind)
            rw [rsg_neg (by grind)]; omega
        have form : ∀ s : Int, (s = 1 ∨ s = -1) → rsg (Q 2 p) = s → rsg (Q 2 q) = s → ((vc (fun k => rsg (Q (1 + k) p)) (us - 1) : Nat) : Int) - ((vc (fun k => rsg (Q (1 + k) q)) (us - 1) : Nat) : Int) = (if rsg (Q 1 p) = -s then 1 else 0) - (if rsg (Q 1 q) = -s then 1 else 0) := fun s hs a1 a2 => by
          have b1 : rsg (Q (1 + 1) p) = s := a1
          have b2 : rsg (Q (1 + 1) q) = s := a2
          rw [b1, b2] at r1
          rw [r1]
          have c0 : rsg (Q (1 + 0) p) = rsg (Q 1 p) := rfl
          have c1 : rsg (Q (1 + 0) q) = rsg (Q 1 q) := rfl
          rw [c0, c1]
          have k1 : ∀ t : Int, (if t = -s then (if t ≠ 0 then (1 : Int) else 0) else 0) = if t = -s then 1 else 0 := fun t => by
            by_cases w : t = -s
            · rw [if_pos w, if_pos w, if_pos (by omega)]
            · rw [if_neg w, if_neg w]
          rw [k1, k1]
        rcases r3 with r3 | r3
        · have hz : ∀ z : Rat, p ≤ z → z ≤ q → rsg (Q 2 z) = 1 := fun z z1 z2 => rsg_pos (r3 z z1 z2)
          exact ⟨1, Or.inl rfl, fin 1 (Or.inl rfl) hz, form 1 (Or.inl rfl) (hz p (by grind) (by grind)) (hz q (by grind) (by grind))⟩
        · have hz : ∀ z : Rat, p ≤ z → z ≤ q → rsg (Q 2 z) = -1 := fun z z1 z2 => rsg_neg (r3 z z1 z2)
          exact ⟨-1, Or.inr rfl, fin (-1) (Or.inr rfl) hz, form (-1) (Or.inr rfl) (hz p (by grind) (by grind)) (hz q (by grind) (by grind))⟩
