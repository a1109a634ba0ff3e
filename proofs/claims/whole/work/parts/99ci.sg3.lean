theorem nice_pw {B : Rat} {f : Rat → Rat} (h : nice B f) : ∀ j : Nat, nice B (fun x => f x ^ j)
  | 0 => by
    have : (fun x => f x ^ 0) = fun _ => (1 : Rat) := by funext x; grind
    rw [this]; exact nice_const B 1
  | j + 1 => by
    have : (fun x => f x ^ (j + 1)) = fun x => f x ^ j * f x := by funext x; grind
    rw [this]; exact nice_mul (nice_pw h j) h
theorem mul_pow' (a b : Rat) : ∀ j : Nat, (a * b) ^ j = a ^ j * b ^ j
  | 0 => by grind
  | j + 1 => by
    have h := mul_pow' a b j
    rw [show (a * b) ^ (j + 1) = (a * b) ^ j * (a * b) by grind, h, show a ^ (j + 1) = a ^ j * a by grind, show b ^ (j + 1) = b ^ j * b by grind]
    grind
/-- a polynomial divides a power of the one without its repeated factors -/
theorem sq_pow : ∀ (n : Nat) {F : Nat → Int} {N : Nat} {Q Q1 : Rat → Rat} {W : Rat → Int} {G : Nat → Int} {m : Nat}, N ≤ n → sq F N Q Q1 W G m → 1 ≤ N → F (N - 1) ≠ 0 → ∃ (H : Rat → Rat) (j : Nat), (∀ B : Rat, 0 ≤ B → nice B H) ∧ ∀ x : Rat, rv F N x * H x = Q x ^ j
  | 0, F, N, Q, Q1, W, G, m, hn, _, hN, _ => absurd hN (by omega)
  | n + 1, F, N, Q, Q1, W, G, m, hn, h, hN, hF => by
    by_cases c : N = 1
    · subst c
      have eF : ∀ x : Rat, rv F 1 x = (F 0 : Rat) := fun x => by show 0 + (F 0 : Rat) * x ^ 0 = _; grind
      have hF0 : (F 0 : Rat) ≠ 0 := ne_cast hF
      refine ⟨fun _ => 1 / (F 0 : Rat), 0, fun B _ => nice_const B _, fun x => ?_⟩
      rw [eF]
      grind
    · have hG := h.2.2.2.2.1
      have hm : m + 1 ≤ N := by
        obtain ⟨a, q, l, ha, e⟩ := h.2.2.2.2.2.1.2
        obtain ⟨j, _, _, hj, _⟩ := dv_deg ha hG ⟨by omega, der_lead hN hF (N - 1 - 1) (by omega)⟩ e
        omega
      obtain ⟨Q', E, W', G2, m2, h', _⟩ := sq_ex hG.1 hG.2
      obtain ⟨H, Hd, Qd, Pd, U, V, a, a0, hHd, s1, s4, _, ha, t3, t4, t5⟩ := sq_fac h hN hF h' (u := 1) (v := 1) (by decide) (by decide) (fun _ _ => rfl)
      obtain ⟨H2, j, k1, k2⟩ := sq_pow n (by omega) h' hG.1 hG.2
      refine ⟨fun x => H2 x * H x ^ j, j + 1, fun B hB => nice_mul (k1 B hB) (nice_pw (hHd.1 B hB) j), fun x => ?_⟩
      show rv F N x * (H2 x * H x ^ j) = Q x ^ (j + 1)
      have e1 := k2 x
      have e2 := t3 x
      have e3 := h.2.2.1 x
      have e4 : Q x ^ j = Q' x ^ j * H x ^ j := by rw [e2]; exact mul_pow' _ _ j
      rw [e3, show Q x ^ (j + 1) = Q x ^ j * Q x by grind, e4, ← e1]
      grind
/-- where no root lies between, the sign is the same -/
theorem sq_sgn : ∀ (n : Nat) {F : Nat → Int} {N : Nat} {Q Q1 : Rat → Rat} {W : Rat → Int} {G : Nat → Int} {m : Nat}, N ≤ n → sq F N Q Q1 W G m → 1 ≤ N → F (N - 1) ≠ 0 → ∀ (x y : Rat), x ≤ y → W y = W x → rv F N x ≠ 0 → rv F N y ≠ 0 → rsg (rv F N y) = rsg (rv F N x)
  | 0, F, N, Q, Q1, W, G, m, hn, _, hN, _ => absurd hN (by omega)
  | n + 1, F, N, Q, Q1, W, G, m, hn, h, hN, hF => by
    intro x y hxy hW hx hy
    by_cases c : N = 1
    · subst c
      have eF : ∀ x : Rat, rv F 1 x = (F 0 : Rat) := fun x => by show 0 + (F 0 : Rat) * x ^ 0 = _; grind
      rw [eF, eF]
    · have hG := h.2.2.2.2.1
      have hm : m + 1 ≤ N := by
        obtain ⟨a, q, l, ha, e⟩ := h.2.2.2.2.2.1.2
        obtain ⟨j, _, _, hj, _⟩ := dv_deg ha hG ⟨by omega, der_lead hN hF (N - 1 - 1) (by omega)⟩ e
        omega
      obtain ⟨Q', E, W', G2, m2, h', _⟩ := sq_ex hG.1 hG.2
      have hmo := sq_mono h hN hF h' (u := 1) (v := 1) (by decide) (by decide) (fun _ _ => rfl) hxy
      have hmo2 := cnt_mono h'.1 hxy
      have e1 := h.2.2.1 x
      have e2 := h.2.2.1 y
      have nx : Q x ≠ 0 ∧ rv G m x ≠ 0 := ⟨fun g => hx (by rw [e1, g]; grind), fun g => hx (by rw [e1, g]; grind)⟩
      have ny : Q y ≠ 0 ∧ rv G m y ≠ 0 := ⟨fun g => hy (by rw [e2, g]; grind), fun g => hy (by rw [e2, g]; grind)⟩
      have k1 := sq_sgn n (by omega) h' hG.1 hG.2 x y hxy (by omega) nx.2 ny.2
      have k2 := cnt_par h.1 (sq_dense h hN hF) hxy nx.1 ny.1
      rw [if_pos (by rw [hW]; omega)] at k2
      rw [e1, e2, sgn_mul_r, sgn_mul_r, k1, k2]
/-- a factor of a polynomial without repeated ones -/
theorem fac_bez {F : Nat → Int} {N : Nat} {Q Q1 : Rat → Rat} {W : Rat → Int} {G : Nat → Int} {m : Nat} (h : sq F N Q Q1 W G m) (hN : 1 ≤ N) (hF : F (N - 1) ≠ 0) {P S : Rat → Rat} (hP : pol P) (hS : pol S) (e : ∀ x : Rat, Q x = P x * S x) :
    (∃ U V Pd : Rat → Rat, pol U ∧ pol V ∧ sm P Pd ∧ ∀ x : Rat, 1 = U x * P x + V x * Pd x) ∧ ∀ B : Rat, 0 ≤ B → ∃ d : Rat, 0 < d ∧ ∀ x : Rat, ab B x → ¬ (ab d (P x) ∧ ab d (S x)) := by
  obtain ⟨Qd, U, V, s1, pU, pV, hb⟩ := sq_cop N (Nat.le_refl _) h hN hF
  obtain ⟨Pd, s2, pPd⟩ := pol_sm hP
  obtain ⟨Sd, s3, pSd⟩ := pol_sm hS
  have t : ∀ x : Rat, Qd x = Pd x * S x + P x * Sd x := fun x => sm_uniq s1 (sm_eq (sm_mul s2 s3) e) x
  refine ⟨⟨fun x => U x * S x + V x * Sd x, fun x => V x * S x, Pd, pol_add (pol_mul pU hS) (pol_mul pV pSd), pol_mul pV hS, s2, fun x => ?_⟩, fun B hB => ?_⟩
  · have := hb x
    rw [e x, t x] at this
    rw [this]; grind
  · refine bez_gap (a := 1) (u := fun x => V x * Sd x) (v := fun x => U x * P x + V x * Pd x) (by grind) (nice_mul (pol_nice pV B hB) (pol_nice pSd B hB)) (nice_add (nice_mul (pol_nice pU B hB) (pol_nice hP B hB)) (nice_mul (pol_nice pV B hB) (pol_nice pPd B hB))) (fun x _ => ?_)
    have := hb x
    rw [e x, t x] at this
    rw [this]; grind
theorem nab_mul {a b x y : Rat} (ha : 0 ≤ a) (hb : 0 ≤ b) (h : ¬ ab a x) (k : ¬ ab b y) : ¬ ab (a * b) (x * y) := by
  intro g
  unfold ab at g
  rcases not_ab h with u | u <;> rcases not_ab k with w | w
  · have := Rat.mul_pos (show 0 < x - a by grind) (show 0 < y - b by grind)
    have := Rat.mul_nonneg ha (show 0 ≤ y - b by grind)
    have := Rat.mul_nonneg hb (show 0 ≤ x - a by grind)
    grind
  · have := Rat.mul_pos (show 0 < x - a by grind) (show 0 < -y - b by grind)
    have := Rat.mul_nonneg ha (show 0 ≤ -y - b by grind)
    have := Rat.mul_nonneg hb (show 0 ≤ x - a by grind)
    grind
  · have := Rat.mul_pos (show 0 < -x - a by grind) (show 0 < y - b by grind)
    have := Rat.mul_nonneg ha (show 0 ≤ y - b by grind)
    have := Rat.mul_nonneg hb (show 0 ≤ -x - a by grind)
    grind
  · have := Rat.mul_pos (show 0 < -x - a by grind) (show 0 < -y - b by grind)
    have := Rat.mul_nonneg ha (show 0 ≤ -y - b by grind)
    have := Rat.mul_nonneg hb (show 0 ≤ -x - a by grind)
    grind
theorem nab_div {c M x h : Rat} (hc : 0 < c) (hM : 0 ≤ M) (hh : ab M h) (k : ¬ ab c (x * h)) : ¬ ab (c / (M + 1)) x := fun g => k (by
  have h1 := ab_mul g hh
  have h2 := div_pos' hc (show 0 < M + 1 by grind)
  refine ab_le h1 ?_
  have e : c / (M + 1) * (M + 1) = c := by grind
  grind)
theorem nab_pow {a x : Rat} (ha : 0 < a) (h : ¬ ab a x) : ∀ j : Nat, ¬ ab (a ^ j / 2) (x ^ j)
  | 0 => fun g => by
    rw [show a ^ 0 / 2 = (1 : Rat) / 2 by grind, show x ^ 0 = 1 by grind] at g
    unfold ab at g; grind
  | j + 1 => by
    have h1 := nab_mul (a := a ^ j / 2) (b := a) (by have := rat_pow_pos ha j; grind) (Rat.le_of_lt ha) (nab_pow ha h j) h
    rw [show x ^ (j + 1) = x ^ j * x by grind, show a ^ (j + 1) / 2 = a ^ j / 2 * a by grind]
    exact h1
theorem calm_mul {a b c d : Rat} (h : calm a b) (k : calm c d) : calm (a * c) (b * d) := by
  unfold calm at *
  rw [sgn_mul_r, sgn_mul_r, h.1, k.1]
  refine ⟨rfl, ?_⟩
  have h1 := h.2
  have k1 := k.2
  rw [h.1] at h1
  rw [k.1] at k1
  exact Int.mul_ne_zero h1 k1
theorem calm_div {a b c d : Rat} (h : calm (a * c) (b * d)) (k : calm c d) : calm a b := by
  unfold calm at *
  rw [sgn_mul_r, sgn_mul_r, ← k.1] at h
  refine ⟨?_, fun g => h.2 (by rw [g]; omega)⟩
  have h1 := h.1
  exact Int.mul_eq_mul_right_iff k.2 |>.1 h1
