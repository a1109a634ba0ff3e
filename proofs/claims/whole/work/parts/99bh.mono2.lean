/-- smooth, with its slope -/
def sm (f f' : Rat → Rat) : Prop := (∀ B : Rat, 0 ≤ B → nice B f) ∧ (∀ B : Rat, 0 ≤ B → nice B f') ∧ ∀ B : Rat, 0 ≤ B → slope B f f'
theorem sm_add {f f' g g' : Rat → Rat} (h : sm f f') (k : sm g g') : sm (fun x => f x + g x) (fun x => f' x + g' x) := ⟨fun B hB => nice_add (h.1 B hB) (k.1 B hB), fun B hB => nice_add (h.2.1 B hB) (k.2.1 B hB), fun B hB => slope_add (h.2.2 B hB) (k.2.2 B hB)⟩
theorem sm_mul {f f' g g' : Rat → Rat} (h : sm f f') (k : sm g g') : sm (fun x => f x * g x) (fun x => f' x * g x + f x * g' x) := ⟨fun B hB => nice_mul (h.1 B hB) (k.1 B hB), fun B hB => nice_add (nice_mul (h.2.1 B hB) (k.1 B hB)) (nice_mul (h.1 B hB) (k.2.1 B hB)), fun B hB => slope_mul (h.2.2 B hB) (k.2.2 B hB) (h.1 B hB) (k.1 B hB) (k.2.1 B hB)⟩
theorem sm_const (c : Rat) : sm (fun _ => c) (fun _ => 0) := ⟨fun B _ => nice_const B c, fun B _ => nice_const B 0, fun B _ => slope_const B c⟩
theorem sm_rv (c : Nat → Int) (n : Nat) : sm (fun x => rv c n x) (fun x => rv (der c) (n - 1) x) := ⟨fun B hB => rv_nice hB _ _, fun B hB => rv_nice hB _ _, fun B hB => rv_slope' hB c n⟩
theorem sm_eq {f g f' : Rat → Rat} (h : sm f f') (e : ∀ x : Rat, g x = f x) : sm g f' := by
  have : g = f := funext e
  rw [this]; exact h
theorem sm_uniq {f p q : Rat → Rat} (h : sm f p) (k : sm f q) (x : Rat) : p x = q x := by
  obtain ⟨b, b0, b1⟩ := ab_self (x := x)
  exact slope_uniq (h.2.2 (b + 1) (by grind)) (k.2.2 (b + 1) (by grind)) (ab_le b1 (by grind)) (by unfold ab at b1; grind)
theorem sm_poly {Q : Rat → Rat} {c : Rat} {q : Nat → Int} {l : Nat} (e : ∀ x : Rat, Q x = c * rv q l x) : ∃ (Qd Qdd : Rat → Rat), sm Q Qd ∧ sm Qd Qdd := by
  refine ⟨fun x => c * rv (der q) (l - 1) x, fun x => 0 * rv (der q) (l - 1) x + c * rv (der (der q)) (l - 1 - 1) x, ?_, sm_mul (sm_const c) (sm_rv (der q) (l - 1))⟩
  have h := sm_mul (sm_const c) (sm_rv q l)
  have e2 : (fun x => 0 * rv q l x + c * rv (der q) (l - 1) x) = (fun x => c * rv (der q) (l - 1) x) := by funext x; grind
  rw [e2] at h
  exact sm_eq h e
/-- a polynomial function, with fractions for coefficients -/
def pol (f : Rat → Rat) : Prop := ∃ (d : Int) (q : Nat → Int) (l : Nat), d ≠ 0 ∧ ∀ x : Rat, (d : Rat) * f x = rv q l x
theorem pol_rv (q : Nat → Int) (l : Nat) : pol (fun x => rv q l x) := ⟨1, q, l, by decide, fun x => by have o1 : ((1 : Int) : Rat) = 1 := rfl; rw [o1]; grind⟩
theorem pol_add {f g : Rat → Rat} (h : pol f) (k : pol g) : pol (fun x => f x + g x) := by
  obtain ⟨d, q, l, hd, e⟩ := h
  obtain ⟨d2, q2, l2, hd2, e2⟩ := k
  obtain ⟨r, hr⟩ := rv_sum q2 q l l2 d2 d
  refine ⟨d * d2, r, l2 + l, Int.mul_ne_zero hd hd2, fun x => ?_⟩
  rw [hr, ← e, ← e2, Rat.intCast_mul]; grind
theorem pol_mul {f g : Rat → Rat} (h : pol f) (k : pol g) : pol (fun x => f x * g x) := by
  obtain ⟨d, q, l, hd, e⟩ := h
  obtain ⟨d2, q2, l2, hd2, e2⟩ := k
  obtain ⟨r, hr⟩ := rv_prod q2 q l l2
  refine ⟨d * d2, r, l2 + l, Int.mul_ne_zero hd hd2, fun x => ?_⟩
  rw [hr, ← e, ← e2, Rat.intCast_mul]; grind
theorem num_den' (k : Rat) : k * (k.den : Rat) = (k.num : Rat) := by
  have h := Rat.num_divInt_den k
  rw [Rat.divInt_eq_div] at h
  have hd : ((k.den : Int) : Rat) = (k.den : Rat) := rfl
  rw [hd] at h
  have h2 : (k.den : Rat) ≠ 0 := ne_cast (a := (k.den : Int)) (by have := k.den_nz; omega)
  grind
theorem pol_const (c : Rat) : pol (fun _ => c) := by
  refine ⟨(c.den : Int), fun _ => c.num, 1, by have := c.den_nz; omega, fun x => ?_⟩
  have h := num_den' c
  have hd : ((c.den : Int) : Rat) = (c.den : Rat) := rfl
  show ((c.den : Int) : Rat) * c = 0 + (c.num : Rat) * x ^ 0
  rw [hd]; grind
theorem pol_neg {f : Rat → Rat} (h : pol f) : pol (fun x => - f x) := by
  obtain ⟨d, q, l, hd, e⟩ := h
  refine ⟨-d, q, l, by omega, fun x => ?_⟩
  rw [← e, Rat.intCast_neg]; grind
theorem pol_nice {f : Rat → Rat} (h : pol f) (B : Rat) (hB : 0 ≤ B) : nice B f := by
  obtain ⟨d, q, l, hd, e⟩ := h
  have hd' := ne_cast hd
  have : f = fun x => 1 / (d : Rat) * rv q l x := by funext x; rw [← e]; grind
  rw [this]
  exact nice_smul _ (rv_nice hB q l)
theorem pol_sm {f : Rat → Rat} (h : pol f) : ∃ f' : Rat → Rat, sm f f' ∧ pol f' := by
  obtain ⟨d, q, l, hd, e⟩ := h
  have hd' := ne_cast hd
  have hf : ∀ x : Rat, f x = 1 / (d : Rat) * rv q l x := fun x => by rw [← e]; grind
  refine ⟨fun x => 1 / (d : Rat) * rv (der q) (l - 1) x, ?_, pol_mul (pol_const _) (pol_rv _ _)⟩
  have h := sm_mul (sm_const (1 / (d : Rat))) (sm_rv q l)
  have e2 : (fun x => 0 * rv q l x + 1 / (d : Rat) * rv (der q) (l - 1) x) = (fun x => 1 / (d : Rat) * rv (der q) (l - 1) x) := by funext x; grind
  rw [e2] at h
  exact sm_eq h hf
theorem pol_of {f : Rat → Rat} {c : Rat} {q : Nat → Int} {l : Nat} (e : ∀ x : Rat, f x = c * rv q l x) : pol f := by
  have h := pol_mul (pol_const c) (pol_rv q l)
  have : f = fun x => c * rv q l x := funext e
  rw [this]; exact h
/-- a polynomial without repeated factors, and the one of what it shares with its derivative -/
theorem sq_fac {F : Nat → Int} {N : Nat} {Q Q1 : Rat → Rat} {W : Rat → Int} {G : Nat → Int} {m : Nat} (h : sq F N Q Q1 W G m) (hN : 1 ≤ N) (hF : F (N - 1) ≠ 0) {F' : Nat → Int} {Q' E : Rat → Rat} {W' : Rat → Int} {G2 : Nat → Int} {m2 : Nat} (h' : sq F' m Q' E W' G2 m2) {u v : Int} (hu : u ≠ 0) (hv : v ≠ 0) (e : ∀ i : Nat, i < m → u * F' i = v * G i) :
    ∃ (H Hd Qd Pd U V : Rat → Rat) (a : Rat), a ≠ 0 ∧ sm H Hd ∧ sm Q Qd ∧ sm Q' Pd ∧ (pol U ∧ pol V ∧ pol Hd ∧ pol Pd ∧ pol Q' ∧ pol E) ∧ (∀ x : Rat, a = U x * Q x + V x * Q1 x) ∧ (∀ x : Rat, Q x = Q' x * H x) ∧ (∀ x : Rat, Q1 x = Qd x + H x * E x) ∧ ∀ x : Rat, Qd x = Pd x * H x + Q' x * Hd x := by
  have hG := h.2.2.2.2.1
  have hG2 := h'.2.2.2.2.1
  have hu' := ne_cast hu
  have hv' := ne_cast hv
  have hF' : F' (m - 1) ≠ 0 := fun g => by
    have := e (m - 1) (by omega)
    rw [g] at this
    exact Int.mul_ne_zero hv hG.2 (by omega)
  have f1 : ∀ x : Rat, (u : Rat) * rv F' m x = (v : Rat) * rv G m x := fun x => by
    rw [← rv_smul, ← rv_smul]; exact rv_congr x e
  have f2 : ∀ x : Rat, (u : Rat) * rv (der F') (m - 1) x = (v : Rat) * rv (der G) (m - 1) x := fun x => by
    rw [← rv_smul, ← rv_smul]
    exact rv_congr x (fun i hi => by
      have := e (i + 1) (by omega)
      unfold der
      rw [← Int.mul_assoc, this, Int.mul_assoc])
  obtain ⟨c, q, l, _, hc⟩ := sq_poly h
  obtain ⟨c1, q1, l1, _, hc1⟩ := sq_poly1 h
  obtain ⟨c2, q2, l2, _, hc2⟩ := sq_poly h'
  obtain ⟨c3, q3, l3, _, hc3⟩ := sq_poly1 h'
  have pQ := pol_of hc
  have pQ1 := pol_of hc1
  have pQ' := pol_of hc2
  have pE := pol_of hc3
  obtain ⟨Qd, s1, pQd⟩ := pol_sm pQ
  obtain ⟨Pd, s4, pPd⟩ := pol_sm pQ'
  obtain ⟨a, U, V, k1, k2, a0, ha⟩ := sq_bez h hN hF
  obtain ⟨b, U2, V2, k3, k4, b0, hb⟩ := sq_bez h' hG.1 hF'
  -- dense non-zeros
  have dG := dense hG.1 hG.2
  have dP : ∀ x y : Rat, x < y → ∃ z : Rat, x < z ∧ z < y ∧ rv F' m z ≠ 0 := fun x y hxy => dense hG.1 hF' x y hxy
  -- the slope of A, two ways
  have t1 : ∀ x : Rat, Q1 x * rv G m x = Qd x * rv G m x + Q x * rv (der G) (m - 1) x := fun x => by
    have p1 := sm_mul s1 (sm_rv G m)
    have p2 := sm_rv F N
    have p3 := sm_uniq (sm_eq p1 (fun x => h.2.2.1 x)) p2 x
    rw [h.2.2.2.1] at p3
    exact p3.symm
  -- Q E = (Q1 - Qd) Q'
  have t2 : ∀ x : Rat, Q x * E x = (Q1 x + -(Qd x)) * Q' x := agree_dense (fun B hB => nice_mul (h.1.1 B hB) (h'.2.1 B hB)) (fun B hB => nice_mul (nice_add (h.2.1 B hB) (nice_neg (s1.2.1 B hB))) (h'.1.1 B hB)) (fun x y hxy => by
    obtain ⟨z, z1, z2, z3⟩ := dense hG2.1 hG2.2 x y hxy
    refine ⟨z, z1, z2, ?_⟩
    have p1 := t1 z
    have p2 := f1 z
    have p3 := f2 z
    rw [h'.2.2.1] at p2
    rw [h'.2.2.2.1] at p3
    have p4 : (v : Rat) * ((Q1 z - Qd z) * rv G m z) = (v : Rat) * (Q z * rv (der G) (m - 1) z) := by grind
    have p5 : (Q1 z - Qd z) * ((u : Rat) * (Q' z * rv G2 m2 z)) = Q z * ((u : Rat) * (E z * rv G2 m2 z)) := by rw [p2, p3]; grind
    have p6 : (u : Rat) * ((Q1 z + -Qd z) * Q' z - Q z * E z) * rv G2 m2 z = 0 := by grind
    rcases Rat.mul_eq_zero.1 p6 with w | w
    · rcases Rat.mul_eq_zero.1 w with w2 | w2
      · exact absurd w2 hu'
      · grind
    · exact absurd w z3)
  -- the cofactor
  obtain ⟨H, hH⟩ : ∃ H : Rat → Rat, H = fun x => 1 / b * (rv U2 k3 x * Q x + rv V2 k4 x * (Q1 x + (-1) * Qd x)) := ⟨_, rfl⟩
  have pH : pol H := by rw [hH]; exact pol_mul (pol_const _) (pol_add (pol_mul (pol_rv U2 k3) pQ) (pol_mul (pol_rv V2 k4) (pol_add pQ1 (pol_mul (pol_const (-1)) pQd))))
  obtain ⟨Hd, hHd, pHd⟩ := pol_sm pH
  have t3 : ∀ x : Rat, Q x = Q' x * H x := fun x => by
    have p1 := hb x
    have p2 := t2 x
    have p3 : b * Q x = b * (Q' x * H x) := by
      have e1 : b * (Q' x * H x) = Q' x * (rv U2 k3 x * Q x + rv V2 k4 x * (Q1 x + (-1) * Qd x)) := by rw [hH]; grind
      rw [e1]
      have e2 : b * Q x = rv U2 k3 x * Q' x * Q x + rv V2 k4 x * (Q x * E x) := by
        have : b * Q x = (rv U2 k3 x * Q' x + rv V2 k4 x * E x) * Q x := by rw [← p1]
        rw [this]; grind
      rw [e2, p2]; grind
    have p4 : b * (Q x - Q' x * H x) = 0 := by grind
    rcases Rat.mul_eq_zero.1 p4 with w | w
    · exact absurd w b0
    · grind
  -- Q1 = Qd + H E
  have t4 : ∀ x : Rat, Q1 x = Qd x + H x * E x := agree_dense (h.2.1) (fun B hB => nice_add (s1.2.1 B hB) (nice_mul (hHd.1 B hB) (h'.2.1 B hB))) (fun x y hxy => by
    obtain ⟨z, z1, z2, z3⟩ := dP x y hxy
    refine ⟨z, z1, z2, ?_⟩
    have p1 := t2 z
    rw [t3] at p1
    have p2 : (H z * E z - (Q1 z + -Qd z)) * Q' z = 0 := by grind
    rcases Rat.mul_eq_zero.1 p2 with w | w
    · grind
    · rw [h'.2.2.1, w] at z3
      exact absurd (show 0 * rv G2 m2 z = 0 by grind) z3)
  have t5 : ∀ x : Rat, Qd x = Pd x * H x + Q' x * Hd x := fun x => sm_uniq s1 (sm_eq (sm_mul s4 hHd) t3) x
  exact ⟨H, Hd, Qd, Pd, fun x => rv U k1 x, fun x => rv V k2 x, a, a0, hHd, s1, s4, ⟨pol_rv U k1, pol_rv V k2, pHd, pPd, pQ', pE⟩, ha, t3, t4, t5⟩
/-- what a polynomial and its derivative share has no more roots than it -/
theorem sq_mono {F : Nat → Int} {N : Nat} {Q Q1 : Rat → Rat} {W : Rat → Int} {G : Nat → Int} {m : Nat} (h : sq F N Q Q1 W G m) (hN : 1 ≤ N) (hF : F (N - 1) ≠ 0) {F' : Nat → Int} {Q' E : Rat → Rat} {W' : Rat → Int} {G2 : Nat → Int} {m2 : Nat} (h' : sq F' m Q' E W' G2 m2) {u v : Int} (hu : u ≠ 0) (hv : v ≠ 0) (e : ∀ i : Nat, i < m → u * F' i = v * G i) {x y : Rat} (hxy : x ≤ y) : W' y - W' x ≤ W y - W x := by
  obtain ⟨H, Hd, Qd, Pd, U, V, a, a0, hHd, s1, s4, ⟨pU, pV, pHd, pPd, pQ', pE⟩, ha, t3, t4, t5⟩ := sq_fac h hN hF h' hu hv e
  refine fac_mono h.1 h'.1 hHd.1 t3 (fun B hB => ?_) hxy
  refine bez_gap (a := a) (u := fun x => V x * Hd x) (v := fun x => U x * Q' x + V x * (Pd x + E x)) a0 (nice_mul (pol_nice pV B hB) (hHd.2.1 B hB)) (nice_add (nice_mul (pol_nice pU B hB) (h'.1.1 B hB)) (nice_mul (pol_nice pV B hB) (nice_add (s4.2.1 B hB) (h'.2.1 B hB)))) (fun x _ => ?_)
  rw [ha x, t4 x, t5 x, t3 x]
  grind
theorem comb_id (u v b q d X1 X2 X3 X4 X5 : Rat) : u * (b * (X1 * q + X2 * d)) + v * (b * (X5 * q + X3 * d + X4 * (b * (X1 * q + X2 * d)))) = b * (u * X1 + v * (X5 + b * X4 * X1)) * q + b * (u * X2 + v * (X3 + b * X4 * X2)) * d := by grind
/-- a polynomial without repeated factors and its derivative make up 1 -/
theorem sq_cop : ∀ (n : Nat) {F : Nat → Int} {N : Nat} {Q Q1 : Rat → Rat} {W : Rat → Int} {G : Nat → Int} {m : Nat}, N ≤ n → sq F N Q Q1 W G m → 1 ≤ N → F (N - 1) ≠ 0 → ∃ (Qd U V : Rat → Rat), sm Q Qd ∧ pol U ∧ pol V ∧ ∀ x : Rat, 1 = U x * Q x + V x * Qd x
  | 0, F, N, Q, Q1, W, G, m, hn, _, hN, _ => absurd hN (by omega)
  | n + 1, F, N, Q, Q1, W, G, m, hn, h, hN, hF => by
    by_cases c : N = 1
    · -- a constant
      subst c
      obtain ⟨cc, q, l, _, hc⟩ := sq_poly h
      obtain ⟨Qd, _, s1, _⟩ := sm_poly hc
      have eF : ∀ x : Rat, rv F 1 x = (F 0 : Rat) := fun x => by show 0 + (F 0 : Rat) * x ^ 0 = _; grind
      have hF0 : (F 0 : Rat) ≠ 0 := ne_cast hF
      obtain ⟨j, j1, j2, j3, _⟩ : ∃ j : Nat, j < 1 ∧ (1 : Nat) = j + m ∧ 1 ≤ m ∧ True := by
        obtain ⟨a, q, l, ha, e⟩ := h.2.2.2.2.2.1.1
        obtain ⟨j, _, _, hj, _⟩ := dv_deg ha h.2.2.2.2.1 ⟨by omega, hF⟩ e
        have := h.2.2.2.2.1.1
        exact ⟨j, by omega, hj, this, trivial⟩
      have em : m = 1 := by omega
      subst em
      have eG : ∀ x : Rat, rv G 1 x = (G 0 : Rat) := fun x => by show 0 + (G 0 : Rat) * x ^ 0 = _; grind
      refine ⟨Qd, fun _ => (G 0 : Rat) / (F 0 : Rat), fun _ => 0, s1, pol_const _, pol_const 0, fun x => ?_⟩
      have t := h.2.2.1 x
      rw [eF, eG] at t
      have : (F 0 : Rat) * ((G 0 : Rat) / (F 0 : Rat) * Q x) = (F 0 : Rat) := by
        have e1 : (F 0 : Rat) * ((G 0 : Rat) / (F 0 : Rat) * Q x) = Q x * (G 0 : Rat) := by grind
        rw [e1, ← t]
      have t2 : (F 0 : Rat) * ((G 0 : Rat) / (F 0 : Rat) * Q x - 1) = 0 := by grind
      rcases Rat.mul_eq_zero.1 t2 with w | w
      · exact absurd w hF0
      · grind
    · have hG := h.2.2.2.2.1
      have hm : m + 1 ≤ N := by
        obtain ⟨a, q, l, ha, e⟩ := h.2.2.2.2.2.1.2
        obtain ⟨j, _, _, hj, _⟩ := dv_deg ha hG ⟨by omega, der_lead hN hF (N - 1 - 1) (by omega)⟩ e
        omega
      obtain ⟨Q', E, W', G2, m2, h', _⟩ := sq_ex hG.1 hG.2
      obtain ⟨H, Hd, Qd, Pd, U, V, a, a0, hHd, s1, s4, ⟨pU, pV, pHd, pPd, pQ', pE⟩, ha, t3, t4, t5⟩ := sq_fac h hN hF h' (u := 1) (v := 1) (by decide) (by decide) (fun i _ => rfl)
      obtain ⟨Pd', U', V', p1, p2, p3, p4⟩ := sq_cop n (by omega) h' hG.1 hG.2
      have ep : ∀ x : Rat, Pd' x = Pd x := fun x => sm_uniq p1 s4 x
      -- Q' and its slope out of Q and Qd
      have c1 : ∀ x : Rat, a * Q' x = (U x * Q' x + V x * E x) * Q x + V x * Q' x * Qd x := fun x => by
        have : a * Q' x = (U x * Q x + V x * Q1 x) * Q' x := by rw [← ha x]
        rw [this, t4 x]
        have t := t3 x
        grind
      have c2 : ∀ x : Rat, a * Pd x = U x * Pd x * Q x + V x * (Pd x + E x) * Qd x + -(V x * E x * Hd x) * Q' x := fun x => by
        have : a * Pd x = (U x * Q x + V x * Q1 x) * Pd x := by rw [← ha x]
        rw [this, t4 x]
        have t := t5 x
        grind
      refine ⟨Qd, fun x => 1 / a * (U' x * (U x * Q' x + V x * E x) + V' x * (U x * Pd x + 1 / a * -(V x * E x * Hd x) * (U x * Q' x + V x * E x))), fun x => 1 / a * (U' x * (V x * Q' x) + V' x * (V x * (Pd x + E x) + 1 / a * -(V x * E x * Hd x) * (V x * Q' x))), s1, ?_, ?_, fun x => ?_⟩
      · exact pol_mul (pol_const _) (pol_add (pol_mul p2 (pol_add (pol_mul pU pQ') (pol_mul pV pE))) (pol_mul p3 (pol_add (pol_mul pU pPd) (pol_mul (pol_mul (pol_const _) (pol_neg (pol_mul (pol_mul pV pE) pHd))) (pol_add (pol_mul pU pQ') (pol_mul pV pE))))))
      · exact pol_mul (pol_const _) (pol_add (pol_mul p2 (pol_mul pV pQ')) (pol_mul p3 (pol_add (pol_mul pV (pol_add pPd pE)) (pol_mul (pol_mul (pol_const _) (pol_neg (pol_mul (pol_mul pV pE) pHd))) (pol_mul pV pQ')))))
      · have q1 := c1 x
        have q2 := c2 x
        have q3 := p4 x
        rw [ep x] at q3
        have d1 : Q' x = 1 / a * ((U x * Q' x + V x * E x) * Q x + V x * Q' x * Qd x) := by rw [← q1]; grind
        have d2 : Pd x = 1 / a * (U x * Pd x * Q x + V x * (Pd x + E x) * Qd x + -(V x * E x * Hd x) * Q' x) := by rw [← q2]; grind
        show 1 = 1 / a * (U' x * (U x * Q' x + V x * E x) + V' x * (U x * Pd x + 1 / a * -(V x * E x * Hd x) * (U x * Q' x + V x * E x))) * Q x + 1 / a * (U' x * (V x * Q' x) + V' x * (V x * (Pd x + E x) + 1 / a * -(V x * E x * Hd x) * (V x * Q' x))) * Qd x
        generalize U x * Q' x + V x * E x = X1 at *
        generalize V x * Q' x = X2 at *
        generalize V x * (Pd x + E x) = X3 at *
        generalize -(V x * E x * Hd x) = X4 at *
        generalize U x * Pd x = X5 at *
        generalize 1 / a = b at *
        have e3 : U' x * Q' x + V' x * Pd x = U' x * (b * (X1 * Q x + X2 * Qd x)) + V' x * (b * (X5 * Q x + X3 * Qd x + X4 * (b * (X1 * Q x + X2 * Qd x)))) := by
          rw [← d1, ← d2]
        exact q3.trans (e3.trans (comb_id _ _ _ _ _ _ _ _ _ _))
