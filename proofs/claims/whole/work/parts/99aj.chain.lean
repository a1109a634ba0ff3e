/-- out of a chain of functions with a common last one: the same without it -/
theorem chain_div {m : Nat} {P : Nat → Rat → Rat} (hP : ∀ B : Rat, 0 ≤ B → nice B (P m))
    (hl : ∀ k : Nat, 1 ≤ k → k < m → ∃ (a w : Rat) (q : Rat → Rat), 0 < a ∧ 0 < w ∧ (∀ B : Rat, 0 ≤ B → nice B q) ∧ ∀ x : Rat, a * P (k - 1) x + q x * P k x = - (w * P (k + 1) x))
    (hm : 1 ≤ m → ∃ q : Rat → Rat, (∀ B : Rat, 0 ≤ B → nice B q) ∧ ∀ x : Rat, P (m - 1) x = q x * P m x) :
    ∃ Q : Nat → Rat → Rat, (∀ k : Nat, k ≤ m → ∀ x : Rat, P k x = Q k x * P m x) ∧ ∀ B : Rat, 0 ≤ B → lkd B m Q := by
  have key : ∀ j : Nat, j ≤ m → ∃ Q : Nat → Rat → Rat, (∀ k : Nat, m - j ≤ k → k ≤ m → ((∀ B : Rat, 0 ≤ B → nice B (Q k)) ∧ ∀ x : Rat, P k x = Q k x * P m x)) ∧ (∀ x : Rat, Q m x = 1) ∧ ∀ k : Nat, m - j < k → 1 ≤ k → k < m → ∃ (a w : Rat) (q : Rat → Rat), 0 < a ∧ 0 < w ∧ (∀ B : Rat, 0 ≤ B → nice B q) ∧ ∀ x : Rat, a * Q (k - 1) x + q x * Q k x = - (w * Q (k + 1) x) := by
    intro j
    induction j with
    | zero =>
      intro _
      refine ⟨fun _ _ => 1, fun k h1 h2 => ⟨fun B hB => nice_const B 1, fun x => ?_⟩, fun _ => rfl, fun k h1 h2 h3 => absurd h1 (by omega)⟩
      rw [show k = m by omega]
      grind
    | succ j ih =>
      intro hj
      obtain ⟨Q, q1, q2, q3⟩ := ih (by omega)
      obtain ⟨k0, hk0⟩ : ∃ k : Nat, k = m - (j + 1) := ⟨_, rfl⟩
      -- the new function
      have hnew : ∃ F : Rat → Rat, (∀ B : Rat, 0 ≤ B → nice B F) ∧ (∀ x : Rat, P k0 x = F x * P m x) ∧ (k0 + 1 < m → ∃ (a w : Rat) (q : Rat → Rat), 0 < a ∧ 0 < w ∧ (∀ B : Rat, 0 ≤ B → nice B q) ∧ ∀ x : Rat, a * F x + q x * Q (k0 + 1) x = - (w * Q (k0 + 2) x)) := by
        by_cases c : j = 0
        · obtain ⟨q, h1, h2⟩ := hm (by omega)
          exact ⟨q, h1, by rw [hk0, c]; exact h2, fun h => absurd h (by omega)⟩
        · obtain ⟨a, w, q, a0, w0, hq, hr⟩ := hl (k0 + 1) (by omega) (by omega)
          have e0 : k0 + 1 - 1 = k0 := by omega
          rw [e0] at hr
          have n1 := q1 (k0 + 1) (by omega) (by omega)
          have n2 := q1 (k0 + 1 + 1) (by omega) (by omega)
          refine ⟨fun x => (1 / a) * (-(q x * Q (k0 + 1) x + w * Q (k0 + 1 + 1) x)), fun B hB => nice_smul _ (nice_neg (nice_add (nice_mul (hq B hB) (n1.1 B hB)) (nice_smul w (n2.1 B hB)))), fun x => ?_, fun _ => ⟨a, w, q, a0, w0, hq, fun x => ?_⟩⟩
          · have h1 := hr x
            have h2 := n1.2 x
            have h3 := n2.2 x
            have h4 : a * P k0 x = a * ((1 / a) * (-(q x * Q (k0 + 1) x + w * Q (k0 + 1 + 1) x)) * P m x) := by
              have e5 : a * ((1 / a) * (-(q x * Q (k0 + 1) x + w * Q (k0 + 1 + 1) x)) * P m x) = -(q x * (Q (k0 + 1) x * P m x) + w * (Q (k0 + 1 + 1) x * P m x)) := by grind
              rw [e5, ← h2, ← h3]
              grind
            have h5 : a * (P k0 x - (1 / a) * (-(q x * Q (k0 + 1) x + w * Q (k0 + 1 + 1) x)) * P m x) = 0 := by grind
            rcases Rat.mul_eq_zero.1 h5 with u | u
            · grind
            · grind
          · show a * ((1 / a) * (-(q x * Q (k0 + 1) x + w * Q (k0 + 1 + 1) x))) + q x * Q (k0 + 1) x = -(w * Q (k0 + 2) x)
            grind
      obtain ⟨F, f1, f2, f3⟩ := hnew
      refine ⟨fun k => if k = k0 then F else Q k, fun k h1 h2 => ?_, fun x => ?_, fun k h1 h2 h3 => ?_⟩
      · by_cases c : k = k0
        · simp only [if_pos c]
          exact ⟨f1, by rw [c]; exact f2⟩
        · simp only [if_neg c]
          exact q1 k (by omega) h2
      · have c : m ≠ k0 := by omega
        simp only [if_neg c]
        exact q2 x
      · by_cases c : k = k0 + 1
        · obtain ⟨a, w, q, a0, w0, hq, hr⟩ := f3 (by omega)
          refine ⟨a, w, q, a0, w0, hq, fun x => ?_⟩
          have c1 : k - 1 = k0 := by omega
          have c2 : k ≠ k0 := by omega
          have c3 : k + 1 ≠ k0 := by omega
          simp only [if_pos c1, if_neg c2, if_neg c3]
          rw [c]
          exact hr x
        · obtain ⟨a, w, q, a0, w0, hq, hr⟩ := q3 k (by omega) h2 h3
          refine ⟨a, w, q, a0, w0, hq, fun x => ?_⟩
          have c1 : k - 1 ≠ k0 := by omega
          have c2 : k ≠ k0 := by omega
          have c3 : k + 1 ≠ k0 := by omega
          simp only [if_neg c1, if_neg c2, if_neg c3]
          exact hr x
  obtain ⟨Q, q1, q2, q3⟩ := key m (Nat.le_refl _)
  refine ⟨Q, fun k hk => (q1 k (by omega) hk).2, fun B hB => ⟨fun k hk => (q1 k (by omega) hk).1 B hB, q2, fun k h1 h2 => ?_⟩⟩
  obtain ⟨a, w, q, a0, w0, hq, hr⟩ := q3 k (by omega) h1 h2
  exact ⟨a, w, q, a0, w0, hq B hB, hr⟩
/-- the rows' values -/
def rowv (Z : Nat → Int) (T : Nat → Nat) (k : Nat) (x : Rat) : Rat := rv (zr Z T k) (T k) x
theorem zr_zero (Z : Nat → Int) (T : Nat → Nat) (k : Nat) : ∀ i : Nat, T k ≤ i → zr Z T k i = 0 := fun _ h => zr_out h
theorem link_rv {Z : Nat → Int} {T : Nat → Nat} {i d : Nat} {A w : Int} {q : Nat → Int} (h1 : T (i + 1) ≤ T i + d) (h2 : T (i + 2) ≤ T i + d) (h3 : T i ≤ T i + d)
    (h : ∀ s : Nat, A * zr Z T i s + qS d (fun e => q e * qx e (zr Z T (i + 1)) s) = -w * zr Z T (i + 2) s) (x : Rat) : (A : Rat) * rowv Z T i x + rv q d x * rowv Z T (i + 1) x = - ((w : Rat) * rowv Z T (i + 2) x) := by
  have e1 : rv (fun s => A * zr Z T i s + qS d (fun e => q e * qx e (zr Z T (i + 1)) s)) (T i + d + T (i + 1)) x = rv (fun s => -w * zr Z T (i + 2) s) (T i + d + T (i + 1)) x := rv_congr x (fun s _ => h s)
  rw [rv_add, rv_smul, rv_smul, rv_conv q _ (T (i + 1)) (zr_zero Z T (i + 1)) x d _ (by omega), rv_le (zr_zero Z T i) (by omega), rv_le (zr_zero Z T (i + 2)) (by omega)] at e1
  unfold rowv
  rw [e1]
  have : ((-w : Int) : Rat) = -(w : Rat) := by rw [Rat.intCast_neg]
  rw [this]
  grind
theorem cast_natAbs_pos {z : Int} (h : z ≠ 0) : (0 : Rat) < ((z.natAbs : Int) : Rat) := by
  have : ((0 : Int) : Rat) < ((z.natAbs : Int) : Rat) := Rat.intCast_lt_intCast.2 (by omega)
  exact this
theorem cast_pow (a : Int) : ∀ n : Nat, ((a ^ n : Int) : Rat) = (a : Rat) ^ n
  | 0 => rfl
  | n + 1 => by rw [Int.pow_succ, Rat.intCast_mul, cast_pow a n]; grind
/-- the chain in the rows, without what its rows share -/
theorem chn_Q {Z : Nat → Int} {T : Nat → Nat} {us : Nat} (h : chn Z T us) : ∃ Q : Nat → Rat → Rat, (∀ k : Nat, k ≤ us - 1 → ∀ x : Rat, rowv Z T k x = Q k x * rowv Z T (us - 1) x) ∧ ∀ B : Rat, 0 ≤ B → lkd B (us - 1) Q := by
  obtain ⟨a1, a2, a3, a4, a5, a6, a7, a8, a9, a10⟩ := h
  have hnice : ∀ k : Nat, ∀ B : Rat, 0 ≤ B → nice B (rowv Z T k) := fun k B hB => rv_nice hB _ _
  have hlead : ∀ k : Nat, 1 ≤ k → k < us → zr Z T k (T k - 1) ≠ 0 := fun k h1 h2 => by
    by_cases c : k = 1
    · rw [c]
      refine a10 ?_
      by_cases c2 : T 1 = 0
      · have := a5 c2; omega
      · omega
    · exact (a2 k (by omega) h2).2.2.1
  have hdec : ∀ k : Nat, 1 ≤ k → k < us → T k ≤ T (k - 1) := fun k h1 h2 => by
    by_cases c : k = 1
    · rw [c]; exact a8
    · have := (a2 k (by omega) h2).1; omega
  refine chain_div (hnice _) (fun k h1 h2 => ?_) (fun hm => ?_)
  · obtain ⟨l1, l2, l3, w, q, w0, hr⟩ := a2 (k + 1) (by omega) (by omega)
    obtain ⟨j, rfl⟩ : ∃ j : Nat, k = j + 1 := ⟨k - 1, by omega⟩
    rw [show j + 1 + 1 - 1 = j + 1 by omega, show j + 1 + 1 - 2 = j by omega] at hr
    have d1 := hdec (j + 1) (by omega) (by omega)
    rw [show j + 1 - 1 = j by omega] at d1
    have d2 := hdec (j + 2) (by omega) (by omega)
    rw [show j + 2 - 1 = j + 1 by omega] at d2
    have hL := hlead (j + 1) (by omega) (by omega)
    refine ⟨((((zr Z T (j + 1) (T (j + 1) - 1)).natAbs : Int) ^ (T j - T (j + 1) + 1) : Int) : Rat), (w : Rat), rv q (T j - T (j + 1) + 1), ?_, ?_, fun B hB => rv_nice hB _ _, fun x => ?_⟩
    · rw [cast_pow]; exact rat_pow_pos (cast_natAbs_pos hL) _
    · have : ((0 : Int) : Rat) < (w : Rat) := Rat.intCast_lt_intCast.2 w0
      exact this
    · exact link_rv (by omega) (by omega) (by omega) hr x
  · have ht1 : 1 ≤ T 1 := by
      by_cases c : T 1 = 0
      · have := a5 c; omega
      · omega
    have hL := hlead (us - 1) (by omega) (by omega)
    rcases (a6 ht1).2 with hc | ⟨q, hr⟩
    · -- the last row is a constant
      have e1 : ∀ x : Rat, rowv Z T (us - 1) x = (zr Z T (us - 1) 0 : Rat) := fun x => by
        unfold rowv
        rw [hc]
        show 0 + (zr Z T (us - 1) 0 : Rat) * x ^ 0 = _
        grind
      have hg : ((zr Z T (us - 1) 0 : Int) : Rat) ≠ 0 := by
        rw [hc] at hL
        intro hh
        have h9 : ((zr Z T (us - 1) 0 : Int) : Rat) = ((0 : Int) : Rat) := hh
        exact hL (Rat.intCast_inj.1 h9)
      refine ⟨fun x => (1 / (zr Z T (us - 1) 0 : Rat)) * rowv Z T (us - 1 - 1) x, fun B hB => nice_smul _ (hnice _ B hB), fun x => ?_⟩
      rw [e1]
      grind
    · have d1 := hdec (us - 1) (by omega) (by omega)
      rw [show us - 1 - 1 = us - 2 by omega] at d1
      obtain ⟨A, hA⟩ : ∃ A : Int, A = ((zr Z T (us - 1) (T (us - 1) - 1)).natAbs : Int) ^ (T (us - 2) - T (us - 1) + 1) := ⟨_, rfl⟩
      have hA0 : (0 : Rat) < (A : Rat) := by rw [hA, cast_pow]; exact rat_pow_pos (cast_natAbs_pos hL) _
      have hx : ∀ x : Rat, (A : Rat) * rowv Z T (us - 2) x + rv q (T (us - 2) - T (us - 1) + 1) x * rowv Z T (us - 1) x = 0 := fun x => by
        have e1 : rv (fun s => A * zr Z T (us - 2) s + qS (T (us - 2) - T (us - 1) + 1) (fun e => q e * qx e (zr Z T (us - 1)) s)) (T (us - 2) + T (us - 2) + 2) x = rv (fun _ => 0) (T (us - 2) + T (us - 2) + 2) x := rv_congr x (fun s _ => by rw [hA]; exact hr s)
        rw [rv_add, rv_smul, rv_zero, rv_conv q _ (T (us - 1)) (zr_zero Z T (us - 1)) x _ _ (by omega), rv_le (zr_zero Z T (us - 2)) (by omega)] at e1
        exact e1
      refine ⟨fun x => (1 / (A : Rat)) * (- rv q (T (us - 2) - T (us - 1) + 1) x), fun B hB => nice_smul _ (nice_neg (rv_nice hB _ _)), fun x => ?_⟩
      have := hx x
      rw [show us - 1 - 1 = us - 2 by omega]
      have h5 : (A : Rat) * (rowv Z T (us - 2) x - (1 / (A : Rat)) * (- rv q (T (us - 2) - T (us - 1) + 1) x) * rowv Z T (us - 1) x) = 0 := by grind
      rcases Rat.mul_eq_zero.1 h5 with u | u
      · grind
      · grind
