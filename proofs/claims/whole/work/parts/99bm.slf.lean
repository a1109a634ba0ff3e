theorem gN_all {c : Nat → Int} : ∀ {n i : Nat}, i < n → ((gN c n : Nat) : Int) ∣ c i
  | 0, i, h => absurd h (by omega)
  | n + 1, i, h => by
    show ((Int.gcd (c n) (gN c n) : Nat) : Int) ∣ c i
    by_cases e : i = n
    · rw [e]; exact Int.gcd_dvd_left ..
    · exact Int.dvd_trans (Int.gcd_dvd_right ..) (gN_all (by omega))
/-- the primitive part -/
def prm (c : Nat → Int) (n : Nat) : Nat → Int := fun i => c i / ((gN c n : Nat) : Int)
theorem prm_mul {c : Nat → Int} {n i : Nat} (h : i < n) : ((gN c n : Nat) : Int) * prm c n i = c i := Int.mul_ediv_cancel' (gN_all h)
theorem prm_one {c : Nat → Int} {n : Nat} (h : gN c n ≠ 0) : gN (prm c n) n = 1 := by
  have h1 : gN c n * gN (prm c n) n ∣ gN c n := gN_dvd2 (fun i hi => by
    obtain ⟨k, hk⟩ := gN_all (c := prm c n) hi
    rw [← prm_mul (c := c) (n := n) hi, hk, Int.natCast_mul]
    exact ⟨k, by rw [Int.mul_assoc]⟩)
  have h2 := Nat.le_of_dvd (by omega) h1
  rcases Nat.lt_or_ge 1 (gN (prm c n) n) with q | q
  · have := Nat.mul_lt_mul_of_pos_left q (show 0 < gN c n by omega)
    omega
  · rcases Nat.eq_zero_or_pos (gN (prm c n) n) with q2 | q2
    · rw [q2, Nat.mul_zero] at h1
      exact absurd (Nat.eq_zero_of_zero_dvd h1) h
    · omega
theorem prm_rv {c : Nat → Int} {n : Nat} (x : Rat) : (((gN c n : Nat) : Int) : Rat) * rv (prm c n) n x = rv c n x := by
  rw [← rv_smul]
  exact rv_congr x (fun i hi => prm_mul hi)
theorem prm_dv {c A : Nat → Int} {n N : Nat} (h : pdv c n A N) : pdv (prm c n) n A N := by
  obtain ⟨a, q, l, ha, e⟩ := h
  refine ⟨a, fun i => ((gN c n : Nat) : Int) * q i, l, ha, fun x => ?_⟩
  rw [e, rv_smul, ← prm_rv (c := c) x]; grind
theorem lead_mul {C P A : Nat → Int} {k n N : Nat} (hk : 1 ≤ k) (hn : 1 ≤ n) (hN : N + 1 = n + k) (e : ∀ x : Rat, rv A N x = rv C k x * rv P n x) : A (N - 1) = C (k - 1) * P (n - 1) := by
  have hcoef : ∀ i : Nat, i < N + n + k → cut A N i = qS k (fun e => C e * qx e (cut P n) i) := rv_inj (fun x => by
    rw [rv_le (cut_out A N) (by omega), cut_rv, rv_conv C (cut P n) n (cut_out P n) x k _ (by omega), cut_rv, e])
  have h1 := hcoef (N - 1) (by omega)
  rw [show cut A N (N - 1) = A (N - 1) from if_pos (by omega)] at h1
  rw [h1]
  obtain ⟨j, rfl⟩ : ∃ j : Nat, k = j + 1 := ⟨k - 1, by omega⟩
  show qS j (fun e => C e * qx e (cut P n) (N - 1)) + C j * qx j (cut P n) (N - 1) = C (j + 1 - 1) * P (n - 1)
  rw [qS_zero (fun e he => by
    unfold qx
    rw [if_pos (by omega), cut_out P n _ (by omega)]; omega)]
  unfold qx
  rw [if_pos (by omega), show N - 1 - j = n - 1 by omega, show cut P n (n - 1) = P (n - 1) from if_pos (by omega), Nat.add_sub_cancel]
  omega
/-- the coefficients of a primitive divisor -/
theorem prm_bd {L A : Nat → Int} {m N : Nat} (hL : 1 ≤ m ∧ L (m - 1) ≠ 0) (hA : 1 ≤ N ∧ A (N - 1) ≠ 0) (hN : N ≤ 9) (hM : ∀ i : Nat, i < N → ((A i).natAbs : Int) ≤ 1000000000) (h : pdv L m A N) : ∀ i : Nat, i < m → ((prm L m i).natAbs : Int) ≤ 2 ^ 84 := by
  have hg := gN_ne hL.2 m (by omega)
  have h1 := prm_one hg
  have hl : prm L m (m - 1) ≠ 0 := fun g => by
    have := prm_mul (c := L) (n := m) (i := m - 1) (by omega)
    rw [g] at this; exact hL.2 (by omega)
  have hd := prm_dv h
  obtain ⟨C, k, k1, k2, k3, e⟩ := prim_dvd h1 ⟨hL.1, hl⟩ hA hd
  by_cases c : m < N
  · intro i hi
    have h2 := fac_bd h1 ⟨hL.1, hl⟩ hA hN c hM hd i hi
    have h3 := KB_le (V := 19173961000000000) (by decide) (show m - 1 ≤ 7 by omega)
    have h4 := KB_7
    omega
  · -- then A is it times a number
    have ek : k = 1 := by omega
    have em : m = N := by omega
    subst ek
    subst em
    have hc : ∀ i : Nat, i < m → A i = C 0 * prm L m i := rv_inj (fun x => by
      rw [e, rv_smul]
      have : rv C 1 x = (C 0 : Rat) := by show 0 + (C 0 : Rat) * x ^ 0 = _; grind
      rw [this])
    intro i hi
    have h2 := hM i hi
    rw [hc i hi, Int.natAbs_mul] at h2
    have h5 : C 0 ≠ 0 := k3
    have h3 := Nat.mul_le_mul_right (prm L m i).natAbs (show 1 ≤ (C 0).natAbs by omega)
    have h4 : (1000000000 : Int) ≤ 2 ^ 84 := by decide
    omega
/-- the last row can be brought to the first one's lead -/
theorem slF_ex {Z : Nat → Int} {T : Nat → Nat} {us N : Nat} {A : Nat → Int} (h : chn Z T us) (hl : ((zr Z T 0 (T 0 - 1)).natAbs : Int) ≤ 1000000000) (hA : 1 ≤ N ∧ A (N - 1) ≠ 0) (hN : N ≤ 9) (hM : ∀ i : Nat, i < N → ((A i).natAbs : Int) ≤ 1000000000) (hd : pdv (zr Z T (us - 1)) (T (us - 1)) A N) : ∃ F : Nat → Int, slF Z T us F := by
  obtain ⟨d1, d2, d3⟩ := chn_dec h
  have hu := h.2.2.2.1
  have hT0 := h.2.2.2.2.2.2.1
  obtain ⟨L, hL⟩ : ∃ L : Nat → Int, L = zr Z T (us - 1) := ⟨_, rfl⟩
  obtain ⟨m, hm⟩ : ∃ m : Nat, m = T (us - 1) := ⟨_, rfl⟩
  have lL := d3 (us - 1) (by omega)
  rw [← hL, ← hm] at lL hd
  rw [← hm] at d2
  have hb := prm_bd ⟨d2, lL⟩ hA hN hM hd
  have hg := gN_ne lL m (by omega)
  have h1 := prm_one hg
  have hlp : prm L m (m - 1) ≠ 0 := fun g => by
    have := prm_mul (c := L) (n := m) (i := m - 1) (by omega)
    rw [g] at this; exact lL (by omega)
  have hd0 := (cls_dv h).1 0 (by omega)
  rw [← hL, ← hm] at hd0
  have l0 := d3 0 (by omega)
  obtain ⟨C, k, k1, k2, k3, e⟩ := prim_dvd h1 ⟨d2, hlp⟩ ⟨hT0, l0⟩ (prm_dv hd0)
  have hlead := lead_mul k2 d2 k1 e
  obtain ⟨q, hq⟩ : ∃ q : Int, q = C (k - 1) := ⟨_, rfl⟩
  rw [← hq] at hlead
  have hqb : (q.natAbs : Int) ≤ 1000000000 := by
    rw [hlead, Int.natAbs_mul] at hl
    have := Nat.mul_le_mul_left q.natAbs (show 1 ≤ (prm L m (m - 1)).natAbs by omega)
    omega
  refine ⟨fun i => if i < m then prm L m i * q else 0, fun i hi => ?_, fun i hi => if_neg (by omega), fun i => ?_⟩
  · have e0 : Z (pB 0 + (T 0 - 1)) = zr Z T 0 (T 0 - 1) := (zr_in (by omega)).symm
    have eL : Z (pB (us - 1) + (T (us - 1) - 1)) = L (m - 1) := by rw [hL, hm]; exact (zr_in (by omega)).symm
    have ei : Z (pB (us - 1) + i) = L i := by rw [hL]; exact (zr_in hi).symm
    have ef : (fun i => if i < m then prm L m i * q else 0) i = prm L m i * q := if_pos (by omega)
    rw [e0, eL, ei, ef, hlead, ← prm_mul (c := L) (n := m) (show i < m by omega), ← prm_mul (c := L) (n := m) (show m - 1 < m by omega)]
    grind
  · unfold lb
    have e4 : (2 : Int) ^ (30 * 4) = 2 ^ 120 := rfl
    rw [e4]
    by_cases c : i < m
    · have ef : (fun i => if i < m then prm L m i * q else 0) i = prm L m i * q := if_pos c
      rw [ef, Int.natAbs_mul, Int.natAbs_mul, Int.natCast_mul, Int.natCast_mul]
      have h2 := Int.mul_le_mul (hb i c) hqb (by omega) (by decide)
      have h3 := Int.mul_le_mul_of_nonneg_right h2 (show (0 : Int) ≤ ((16 : Int).natAbs : Int) by decide)
      have h4 : (2 : Int) ^ 84 * 1000000000 * (((16 : Int).natAbs : Nat) : Int) < 2 ^ 120 := by decide
      omega
    · have ef : (fun i => if i < m then prm L m i * q else 0) i = 0 := if_neg c
      rw [ef]; decide
theorem rnd_dv {F0 : Nat → Int} {N0 : Nat} : ∀ {r : Nat} {F : Nat → Int} {n : Nat}, rnd F0 N0 r F n → pdv F n F0 N0
  | 0, F, n, h => by
    obtain ⟨h1, u, v, hu, hv, e⟩ := h
    subst h1
    exact dv_scale hv (dv_refl F n) (fun x => by rw [← rv_smul, ← rv_smul]; exact (rv_congr x e).symm)
  | r + 1, F, n, h => by
    obtain ⟨F', n', Q, Q1, W, G, h1, h2, u, v, hu, hv, e⟩ := h
    have h3 : pdv F n G n := dv_scale hv (dv_refl F n) (fun x => by rw [← rv_smul, ← rv_smul]; exact (rv_congr x e).symm)
    exact dv_trans (dv_trans h3 h2.2.2.2.2.2.1.1) (rnd_dv h1)
theorem rps_lead {F0 : Nat → Int} {N : Nat} (hN : 1 ≤ N) (hl : F0 (N - 1) ≠ 0) (ho : ∀ i : Nat, N ≤ i → F0 i = 0) : ∀ {r : Nat} {F : Nat → Int}, rpS F0 r F → ∀ {Z : Nat → Int} {T : Nat → Nat} {us : Nat}, chn Z T us → zr Z T 0 = F → zr Z T 1 = dp F → F (T 0 - 1) = F0 (N - 1)
  | 0, F, h, Z, T, us, hc, h0, _ => by
    have e : F = F0 := h
    subst e
    rw [top_eq hc h0 hN hl ho]
  | r + 1, F, h, Z, T, us, hc, h0, _ => by
    obtain ⟨F', Z', T', us', h1, h2, h3, h4, h5, h6, h7, _⟩ := h
    have ih := rps_lead hN hl ho h1 h2 h3 h4
    obtain ⟨d1, d2, d3⟩ := chn_dec h2
    have hu := h2.2.2.2.1
    have hT0 := h2.2.2.2.2.2.2.1
    have lL := d3 (us' - 1) (by omega)
    have l0 := d3 0 (by omega)
    have e0 : Z' (pB 0 + (T' 0 - 1)) = zr Z' T' 0 (T' 0 - 1) := (zr_in (by omega)).symm
    have eL : Z' (pB (us' - 1) + (T' (us' - 1) - 1)) = zr Z' T' (us' - 1) (T' (us' - 1) - 1) := (zr_in (by omega)).symm
    have h8 := h6 (T' (us' - 1) - 1) (by omega)
    rw [e0, eL, Int.mul_comm] at h8
    have h9 : zr Z' T' 0 (T' 0 - 1) = F (T' (us' - 1) - 1) := Int.eq_of_mul_eq_mul_right lL h8
    have eT : T 0 = T' (us' - 1) := top_eq hc h0 d2 (by rw [← h9]; exact l0) h7
    rw [eT, ← h9, h3]
    exact ih
/-- so the rounds go through -/
theorem hsl_ok {g : Nat → Int32} {N : Nat} (hN : tpN (gp g) 9 N) (hN1 : 1 ≤ N) (hg : ∀ i : Nat, i < 9 → ((g i).toInt.natAbs : Int) ≤ 1000000000) : ∀ (r : Nat) (F Z9 : Nat → Int) (T9 : Nat → Nat) (u9 : Nat), rpS (gp g) r F → chn Z9 T9 u9 → zr Z9 T9 0 = F → zr Z9 T9 1 = dp F → 2 ≤ T9 (u9 - 1) → ∃ F1 : Nat → Int, slF Z9 T9 u9 F1 := fun r F Z9 T9 u9 hr hc h0 h1 _ => by
  have hN9 := hN.1
  have hld : gp g (N - 1) ≠ 0 := by rw [gp_in (by omega)]; exact tp_lead hN hN1
  have hout : ∀ i : Nat, N ≤ i → gp g i = 0 := fun i hi => by
    by_cases c : i < 9
    · exact hN.2.1 i hi c
    · exact gp_out g i (by omega)
  have hM : ∀ i : Nat, i < N → ((gp g i).natAbs : Int) ≤ 1000000000 := fun i hi => by rw [gp_in (by omega)]; exact hg i (by omega)
  have hrn := rps_rnd hN1 hld hout hr hc h0 h1
  have hle := rps_lead hN1 hld hout hr hc h0 h1
  have hu := hc.2.2.2.1
  have hd := (cls_dv hc).1 0 (by omega)
  rw [h0] at hd
  exact slF_ex hc (by rw [h0, hle]; exact hM _ (by omega)) ⟨hN1, hld⟩ hN9 hM (dv_trans hd (rnd_dv hrn))
theorem chP_sl {g g2 : Nat → Int32} (hg : ∀ i : Nat, i < 9 → ((g i).toInt.natAbs : Int) ≤ 1000000000) (hg2 : ∀ i : Nat, i < 9 → ((g2 i).toInt.natAbs : Int) ≤ 1000000000) : ∀ (Z9 : Nat → Int) (T9 : Nat → Nat) (u9 N1 N2 : Nat), tpN (gp g) 9 N1 → tpN (gp g2) 9 N2 → 1 ≤ N1 → 1 ≤ N2 → chP Z9 T9 u9 g g2 N1 N2 → 2 ≤ T9 (u9 - 1) → ∃ F : Nat → Int, slF Z9 T9 u9 F := fun Z9 T9 u9 N1 N2 t1 t2 n1 n2 hc _ => by
  have key : ∀ (g : Nat → Int32) (N : Nat), (∀ i : Nat, i < 9 → ((g i).toInt.natAbs : Int) ≤ 1000000000) → tpN (gp g) 9 N → 1 ≤ N → zr Z9 T9 0 = gp g → ∃ F : Nat → Int, slF Z9 T9 u9 F := fun g N hg hN hN1 h0 => by
    have hN9 := hN.1
    have hld : gp g (N - 1) ≠ 0 := by rw [gp_in (by omega)]; exact tp_lead hN hN1
    have hout : ∀ i : Nat, N ≤ i → gp g i = 0 := fun i hi => by
      by_cases c : i < 9
      · exact hN.2.1 i hi c
      · exact gp_out g i (by omega)
    have hM : ∀ i : Nat, i < N → ((gp g i).natAbs : Int) ≤ 1000000000 := fun i hi => by rw [gp_in (by omega)]; exact hg i (by omega)
    have hT := top_eq hc.1 h0 hN1 hld hout
    have hu := hc.1.2.2.2.1
    have hd := (cls_dv hc.1).1 0 (by omega)
    rw [h0, hT] at hd
    exact slF_ex hc.1 (by rw [h0, hT]; exact hM _ (by omega)) ⟨hN1, hld⟩ hN9 hM hd
  rcases hc.2 with ⟨_, h0, _⟩ | ⟨_, h0, _⟩
  · exact key g N1 hg t1 n1 h0
  · exact key g2 N2 hg2 t2 n2 h0
