/-- three numbers of the chain set -/
def g3 (Z : Nat → Int) (a b c : Int) : Nat → Int := qu (qu (qu Z 81 a) 82 b) 83 c
theorem g3_o {Z : Nat → Int} {a b c : Int} {q : Nat} (h : q < 81 ∨ 83 < q) : g3 Z a b c q = Z q := by
  unfold g3
  rw [qu_other _ _ (by omega), qu_other _ _ (by omega), qu_other _ _ (by omega)]
theorem g3_s81 (Z : Nat → Int) (a b c x : Int) : qu (g3 Z a b c) 81 x = g3 Z x b c := by
  funext q
  unfold g3 qu
  by_cases h : q = 81
  · subst h; rfl
  · simp only [if_neg h]
theorem g3_s82 (Z : Nat → Int) (a b c x : Int) : qu (g3 Z a b c) 82 x = g3 Z a x c := by
  funext q
  unfold g3 qu
  by_cases h : q = 82
  · subst h; rfl
  · simp only [if_neg h]
theorem g3_s83 (Z : Nat → Int) (a b c x : Int) : qu (g3 Z a b c) 83 x = g3 Z a b x := qu_qu _ _ _ _
/-- the rest and three numbers set -/
def rZ (Z : Nat → Int) (a b c : Int) (ρ : Nat → Int) : Nat → Int := sP (g3 Z a b c) 61 16 ρ
theorem rZ_81 {Z : Nat → Int} {a b c : Int} {ρ : Nat → Int} : rZ Z a b c ρ 81 = a := rfl
theorem rZ_82 {Z : Nat → Int} {a b c : Int} {ρ : Nat → Int} : rZ Z a b c ρ 82 = b := rfl
theorem rZ_83 {Z : Nat → Int} {a b c : Int} {ρ : Nat → Int} : rZ Z a b c ρ 83 = c := rfl
theorem rZ_r {Z : Nat → Int} {a b c : Int} {ρ : Nat → Int} {i : Nat} (h : i < 16) : rZ Z a b c ρ (61 + i) = ρ i := sP_in _ _ h
theorem rZ_o {Z : Nat → Int} {a b c : Int} {ρ : Nat → Int} {q : Nat} (h : q < 61 ∨ (77 ≤ q ∧ q < 81) ∨ 83 < q) : rZ Z a b c ρ q = Z q := by
  unfold rZ
  rw [sP_out _ _ (by omega), g3_o (by omega)]
theorem rZ_row {Z : Nat → Int} {a b c : Int} {ρ : Nat → Int} {j i : Nat} (hj : j < 10) (hi : i < pN j) : rZ Z a b c ρ (pB j + i) = Z (pB j + i) := by
  have h := pB_d (i := j) (j := 10) (by omega) (by omega) (by omega)
  have h1 := pB_r (j := j) (by omega)
  have e1 : pB 10 = 61 := rfl
  have e2 : pN 10 = 16 := rfl
  rw [e1, e2] at h
  exact rZ_o (by omega)
theorem sP_qs (Z : Nat → Int) {bs n w : Nat} (ρ : Nat → Int) (x : Int) (h : w < bs ∨ bs + n ≤ w) : qu (sP Z bs n ρ) w x = sP (qu Z w x) bs n ρ := by
  funext q
  unfold sP
  by_cases h1 : q = w
  · rw [h1, qu_same, if_neg (by omega), qu_same]
  · rw [qu_other _ _ h1, qu_other _ _ h1]
theorem rZ_s81 (Z : Nat → Int) (a b c x : Int) (ρ : Nat → Int) : qu (rZ Z a b c ρ) 81 x = rZ Z x b c ρ := by
  unfold rZ; rw [sP_qs _ _ _ (by omega), g3_s81]
theorem rZ_s82 (Z : Nat → Int) (a b c x : Int) (ρ : Nat → Int) : qu (rZ Z a b c ρ) 82 x = rZ Z a x c ρ := by
  unfold rZ; rw [sP_qs _ _ _ (by omega), g3_s82]
theorem rZ_s83 (Z : Nat → Int) (a b c x : Int) (ρ : Nat → Int) : qu (rZ Z a b c ρ) 83 x = rZ Z a b x ρ := by
  unfold rZ; rw [sP_qs _ _ _ (by omega), g3_s83]
theorem rZ_put {Z : Nat → Int} {a b c v : Int} {ρ ρ' : Nat → Int} {i : Nat} (hi : i < 16) (hv : v = ρ' i) (h : ∀ j : Nat, j < 16 → j ≠ i → ρ' j = ρ j) : qu (rZ Z a b c ρ) (61 + i) v = rZ Z a b c ρ' := sP_put _ hi hv h
theorem rZ_congr {Z : Nat → Int} {a b c : Int} {ρ ρ' : Nat → Int} (h : ∀ j : Nat, j < 16 → ρ j = ρ' j) : rZ Z a b c ρ = rZ Z a b c ρ' := sP_congr _ _ _ h
theorem rZ_self (Z : Nat → Int) : Z = rZ Z (Z 81) (Z 82) (Z 83) (fun i => Z (61 + i)) := by
  funext q
  by_cases h : 61 ≤ q ∧ q < 77
  · obtain ⟨i, rfl⟩ : ∃ i, q = 61 + i := ⟨q - 61, by omega⟩
    rw [rZ_r (by omega)]
  · by_cases h1 : q = 81
    · rw [h1]; rfl
    · by_cases h2 : q = 82
      · rw [h2]; rfl
      · by_cases h3 : q = 83
        · rw [h3]; rfl
        · rw [rZ_o (by omega)]
/-- one step of the remainder -/
def rdS (b : Nat → Int) (nb : Nat) (r : Nat → Int) (k i : Nat) : Int := if i < k then r i * ((b (nb - 1)).natAbs : Int) + (if k ≤ i + (nb - 1) then -(b (nb - 1)).sign * (r k * b (i + (nb - 1) - k)) else 0) else if i = k then 0 else r i
def rdN (b : Nat → Int) (nb na : Nat) (r : Nat → Int) : Nat → (Nat → Int)
  | 0 => r
  | t + 1 => rdS b nb (rdN b nb na r t) (na - 1 - t)
theorem if_lt_same2 {x y : Int} {i k j : Nat} (h : j < i ↔ j < k) : (if j < i then x else y) = (if j < k then x else y) := by
  by_cases q : j < i
  · rw [if_pos q, if_pos (h.1 q)]
  · rw [if_neg q, if_neg (fun h2 => q (h.2 h2))]
theorem lb_abs {z : Int} {N : Nat} (h : lb z N) : lb ((z.natAbs : Nat) : Int) N := by
  unfold lb at *
  rw [Int.natAbs_natCast]
  exact h
set_option maxHeartbeats 4000000 in
set_option maxRecDepth 100000 in
/-- reduceBy -/
theorem cc_reduceBy (l : Launch) (D : va_G) (G : Nat → ClassId) (X : va_W) (Q P PA T : Nat → Nat) (st : Nat → va_W) (nn : Nat → Nat) (Z : Nat → Int) (cx rx j : Nat) (us : Int32) (hZ : pAll G Q st nn Z) (hj : j < 10) (hNb : 1 ≤ T j ∧ T j ≤ pN j) (hNa : T 10 ≤ 16) (hld : Z (pB j + (T j - 1)) ≠ 0) (hb : ∀ i : Nat, i < T j → lb (Z (pB j + i)) 100) (hrb : ∀ t : Nat, t ≤ T 10 + 1 - T j → ∀ i : Nat, i < 16 → lb ((rdN (fun i => Z (pB j + i)) (T j) (T 10) (fun i => Z (61 + i)) t) i) 900) (sz hs : Nat) : Met l yX0_reduceBy (wC yX0_reduceBy cX0_reduceBy 6 none) ({ frames := 3, cells := 2156, slots := 802816, locals := 92 }) (va_Pc [.ref cx, .ref (P j)] (cPre nW D G ((cx, .inr (0, [.ref rx, .int (us), .ref (P 10), .ref (Q 77), .ref (Q 78), .ref (Q 79), .ref (Q 80), .ref (Q 81), .ref (Q 82), .ref (Q 83)])) :: (rx, .inl (G 5, 10, .inr (.inr (.inr (.inr (fun i => some (P i))))))) :: ((fp G Q P PA T ++ X) ++ pl st) : va_W) sz hs)) (va_Qv (fun (u : cS) => ∃ (st1 : Nat → va_W) (nn1 : Nat → Nat) (c1 s1 : Nat) (sc up tm : Int) (N : Nat), tpN (rdN (fun i => Z (pB j + i)) (T j) (T 10) (fun i => Z (61 + i)) (T 10 + 1 - T j)) 16 N ∧ pAll G Q st1 nn1 (rZ Z sc up tm (rdN (fun i => Z (pB j + i)) (T j) (T 10) (fun i => Z (61 + i)) (T 10 + 1 - T j))) ∧ pG (pC nn) (pS nn) nn1 c1 s1 ∧ u = (((cx, .inr (0, [.ref rx, .int (us), .ref (P 10), .ref (Q 77), .ref (Q 78), .ref (Q 79), .ref (Q 80), .ref (Q 81), .ref (Q 82), .ref (Q 83)])) :: (rx, .inl (G 5, 10, .inr (.inr (.inr (.inr (fun i => some (P i))))))) :: ((fp G Q P PA (qu T 10 N) ++ X) ++ pl st1) : va_W), c1, s1)) (cAt D G (va_A ((cx, .inr (0, [.ref rx, .int (us), .ref (P 10), .ref (Q 77), .ref (Q 78), .ref (Q 79), .ref (Q 80), .ref (Q 81), .ref (Q 82), .ref (Q 83)])) :: (rx, .inl (G 5, 10, .inr (.inr (.inr (.inr (fun i => some (P i))))))) :: ((fp G Q P PA T ++ X) ++ pl st) : va_W) sz) sz hs) (va_A ((cx, .inr (0, [.ref rx, .int (us), .ref (P 10), .ref (Q 77), .ref (Q 78), .ref (Q 79), .ref (Q 80), .ref (Q 81), .ref (Q 82), .ref (Q 83)])) :: (rx, .inl (G 5, 10, .inr (.inr (.inr (.inr (fun i => some (P i))))))) :: ((fp G Q P PA T ++ X) ++ pl st) : va_W) sz)) 2156 802816 (va_A ((cx, .inr (0, [.ref rx, .int (us), .ref (P 10), .ref (Q 77), .ref (Q 78), .ref (Q 79), .ref (Q 80), .ref (Q 81), .ref (Q 82), .ref (Q 83)])) :: (rx, .inl (G 5, 10, .inr (.inr (.inr (.inr (fun i => some (P i))))))) :: ((fp G Q P PA T ++ X) ++ pl st) : va_W) sz) := by
  refine g_met (cc := cX0_reduceBy) (maxL := 6) (ret := none) (own := RX0) (by decide) rfl rfl (Nat.le_of_ble_eq_true rfl) ?_
  intro p e s m below meth c hsz hhs hNs hA C hr hlk
  refine w_sub [(0, .ref cx), (1, .ref (P j))] [0, 1] rfl ?_
  have hG : pG (pC nn) (pS nn) nn 0 0 := ⟨Nat.le_of_eq (Nat.zero_add _), Nat.le_of_eq (Nat.zero_add _)⟩
  have hpj := pB_r (j := j) (by omega)
  obtain ⟨sg, hsg⟩ : ∃ sg : Int, sg = (Z (pB j + (T j - 1))).sign := ⟨_, rfl⟩
  have hsg1 : sg = 1 ∨ sg = -1 := by rw [hsg]; exact sgn_one (fun h => hld (sgn_zero h))
  have hZs := hZ
  have hlc := hb (T j - 1) (by omega)
  refine w_aload_n C dX0_reduceBy_0 0 rfl ?_
  refine w_get (ci := 0) (ref := "RootIsolator$Chain") (T := TX0) (Cn := RX0) (N := 10) C (fun w h => wC_in (inX0 w h)) 0 rfl rfl 7 (by decide) (wC_in fX0_44) rfl rfl dX0_reduceBy_1 ?_
  refine w_aload_n C dX0_reduceBy_4 1 rfl ?_
  refine c_parts C ((cx, .inr (0, [.ref rx, .int (us), .ref (P 10), .ref (Q 77), .ref (Q 78), .ref (Q 79), .ref (Q 80), .ref (Q 81), .ref (Q 82), .ref (Q 83)])) :: (rx, .inl (G 5, 10, .inr (.inr (.inr (.inr (fun i => some (P i))))))) :: [] : va_W) X (fun w h => wC_in (inX2 w h)) (j) (by omega) hNs.2.2.2.2.1 dX0_reduceBy_5 ?_
  refine w_aload_n C dX0_reduceBy_8 1 rfl ?_
  refine c_top C ((cx, .inr (0, [.ref rx, .int (us), .ref (P 10), .ref (Q 77), .ref (Q 78), .ref (Q 79), .ref (Q 80), .ref (Q 81), .ref (Q 82), .ref (Q 83)])) :: (rx, .inl (G 5, 10, .inr (.inr (.inr (.inr (fun i => some (P i))))))) :: [] : va_W) X (fun w h => wC_in (inX2 w h)) (j) (by omega) hNs.2.2.2.2.2.2.1 dX0_reduceBy_9 ?_
  refine c_elem C ((cx, .inr (0, [.ref rx, .int (us), .ref (P 10), .ref (Q 77), .ref (Q 78), .ref (Q 79), .ref (Q 80), .ref (Q 81), .ref (Q 82), .ref (Q 83)])) :: (rx, .inl (G 5, 10, .inr (.inr (.inr (.inr (fun i => some (P i))))))) :: [] : va_W) X (j) (by omega) (T j - 1) ⟨by omega, by omega⟩ dX0_reduceBy_12 ?_
  refine p_copy hA C ((cx, .inr (0, [.ref rx, .int (us), .ref (P 10), .ref (Q 77), .ref (Q 78), .ref (Q 79), .ref (Q 80), .ref (Q 81), .ref (Q 82), .ref (Q 83)])) :: (rx, .inl (G 5, 10, .inr (.inr (.inr (.inr (fun i => some (P i))))))) :: (fp G Q P PA T ++ X) : va_W) hZ hG (81) (pB j + (T j - 1)) (by omega) (by omega) (by omega) (lb_le hlc (by omega)) (cwV 1 C.1.2.2.2.2 (wC_V kX0_93 nX3_copy slX3_copy iniX3 cdX3_copy) rfl rfl rfl (by decide +kernel) ⟨Nat.le_of_ble_eq_true rfl, Nat.le_of_ble_eq_true rfl⟩) ⟨Nat.le_of_ble_eq_true rfl, Nat.le_of_ble_eq_true rfl⟩ (Nat.le_of_ble_eq_true rfl) dX0_reduceBy_13 (fun st1 nn1 c1 s1 hZ1 hG1 => ?_)
  rw [show (qu Z 81 (Z (pB j + (T j - 1)))) = (rZ Z (Z (pB j + (T j - 1))) (Z 82) (Z 83) (fun i => Z (61 + i))) from by
  have e := rZ_s81 Z (Z 81) (Z 82) (Z 83) (Z (pB j + (T j - 1))) (fun i => Z (61 + i))
  rw [← rZ_self] at e
  exact e] at hZ1
  refine w_aload_n C dX0_reduceBy_16 0 rfl ?_
  refine w_get (ci := 0) (ref := "RootIsolator$Chain") (T := TX0) (Cn := RX0) (N := 10) C (fun w h => wC_in (inX0 w h)) 0 rfl rfl 7 (by decide) (wC_in fX0_44) rfl rfl dX0_reduceBy_17 ?_
  refine p_side C ((cx, .inr (0, [.ref rx, .int (us), .ref (P 10), .ref (Q 77), .ref (Q 78), .ref (Q 79), .ref (Q 80), .ref (Q 81), .ref (Q 82), .ref (Q 83)])) :: (rx, .inl (G 5, 10, .inr (.inr (.inr (.inr (fun i => some (P i))))))) :: (fp G Q P PA T ++ X) : va_W) (fun w h => wC_in (inX3 w h)) hZ1 (81) (by omega) hNs.2.1 dX0_reduceBy_20 ?_
  refine w_top C (sg) (by rw [rZ_81, hsg]) ?_
  refine w_istore_n C [(2, .int (iZ (sg))), (0, .ref cx), (1, .ref (P j))] dX0_reduceBy_23 rfl (by decide) rfl ?_
  refine w_aload_n C dX0_reduceBy_24 1 rfl ?_
  refine w_get (ci := 0) (ref := "RootIsolator$Chain") (T := TX0) (Cn := RX0) (N := 10) C (fun w h => wC_in (inX0 w h)) 0 rfl rfl 7 (by decide) (wC_in fX0_44) rfl rfl dX0_reduceBy_25 ?_
  refine p_dropSign hA C ((cx, .inr (0, [.ref rx, .int (us), .ref (P 10), .ref (Q 77), .ref (Q 78), .ref (Q 79), .ref (Q 80), .ref (Q 81), .ref (Q 82), .ref (Q 83)])) :: (rx, .inl (G 5, 10, .inr (.inr (.inr (.inr (fun i => some (P i))))))) :: (fp G Q P PA T ++ X) : va_W) hZ1 hG1 (81) (by omega)  (cwV 0 C.1.2.2.2.2 (wC_V kX0_126 nX3_dropSign slX3_dropSign iniX3 cdX3_dropSign) rfl rfl rfl (by decide +kernel) ⟨Nat.le_of_ble_eq_true rfl, Nat.le_of_ble_eq_true rfl⟩) ⟨Nat.le_of_ble_eq_true rfl, Nat.le_of_ble_eq_true rfl⟩ (Nat.le_of_ble_eq_true rfl) dX0_reduceBy_28 (fun st2 nn2 c2 s2 hZ2 hG2 => ?_)
  rw [show (qu (rZ Z (Z (pB j + (T j - 1))) (Z 82) (Z 83) (fun i => Z (61 + i))) 81 (((rZ Z (Z (pB j + (T j - 1))) (Z 82) (Z 83) (fun i => Z (61 + i))) 81).natAbs : Int)) = (rZ Z (((Z (pB j + (T j - 1))).natAbs : Nat) : Int) (Z 82) (Z 83) (fun i => Z (61 + i))) from by rw [rZ_81, rZ_s81]] at hZ2
  refine w_aload_n C dX0_reduceBy_31 1 rfl ?_
  refine w_get (ci := 0) (ref := "RootIsolator$Chain") (T := TX0) (Cn := RX0) (N := 10) C (fun w h => wC_in (inX0 w h)) 0 rfl rfl 2 (by decide) (wC_in fX0_24) rfl rfl dX0_reduceBy_32 ?_
  refine c_top C ((cx, .inr (0, [.ref rx, .int (us), .ref (P 10), .ref (Q 77), .ref (Q 78), .ref (Q 79), .ref (Q 80), .ref (Q 81), .ref (Q 82), .ref (Q 83)])) :: (rx, .inl (G 5, 10, .inr (.inr (.inr (.inr (fun i => some (P i))))))) :: [] : va_W) X (fun w h => wC_in (inX2 w h)) (10) (by omega) hNs.2.2.2.2.2.2.1 dX0_reduceBy_35 ?_
  refine w_istore_n C [(3, .int (iZ (((T (10) : Nat) : Int) - 1))), (2, .int (iZ (sg))), (0, .ref cx), (1, .ref (P j))] dX0_reduceBy_38 rfl (by decide) rfl ?_
  have lp : ∀ (d : Nat) (t : Nat) (up : Int) (tm : Int) (ρ : Nat → Int) (sti : Nat → va_W) (nni : Nat → Nat) (ci : Nat) (si : Nat), T 10 + 1 < t + d → t ≤ T 10 + 1 - T j → ρ = (rdN (fun i => Z (pB j + i)) (T j) (T 10) (fun i => Z (61 + i)) t) → pAll G Q sti nni ((rZ Z (((Z (pB j + (T j - 1))).natAbs : Nat) : Int) up tm ρ)) → pG (pC nn) (pS nn) nni ci si → ZW p l e ({ frames := 3, cells := 2156, slots := 802816, locals := 92 }) s m ([.ref cx, .ref (P j)] : List Value).toArray below meth c D (va_A ((cx, .inr (0, [.ref rx, .int (us), .ref (P 10), .ref (Q 77), .ref (Q 78), .ref (Q 79), .ref (Q 80), .ref (Q 81), .ref (Q 82), .ref (Q 83)])) :: (rx, .inl (G 5, 10, .inr (.inr (.inr (.inr (fun i => some (P i))))))) :: ((fp G Q P PA T ++ X) ++ pl st) : va_W) sz) 6 ci si (MQ below (va_Qv (fun (u : cS) => ∃ (st1 : Nat → va_W) (nn1 : Nat → Nat) (c1 s1 : Nat) (sc up tm : Int) (N : Nat), tpN (rdN (fun i => Z (pB j + i)) (T j) (T 10) (fun i => Z (61 + i)) (T 10 + 1 - T j)) 16 N ∧ pAll G Q st1 nn1 (rZ Z sc up tm (rdN (fun i => Z (pB j + i)) (T j) (T 10) (fun i => Z (61 + i)) (T 10 + 1 - T j))) ∧ pG (pC nn) (pS nn) nn1 c1 s1 ∧ u = (((cx, .inr (0, [.ref rx, .int (us), .ref (P 10), .ref (Q 77), .ref (Q 78), .ref (Q 79), .ref (Q 80), .ref (Q 81), .ref (Q 82), .ref (Q 83)])) :: (rx, .inl (G 5, 10, .inr (.inr (.inr (.inr (fun i => some (P i))))))) :: ((fp G Q P PA (qu T 10 N) ++ X) ++ pl st1) : va_W), c1, s1)) (cAt D G (va_A ((cx, .inr (0, [.ref rx, .int (us), .ref (P 10), .ref (Q 77), .ref (Q 78), .ref (Q 79), .ref (Q 80), .ref (Q 81), .ref (Q 82), .ref (Q 83)])) :: (rx, .inl (G 5, 10, .inr (.inr (.inr (.inr (fun i => some (P i))))))) :: ((fp G Q P PA T ++ X) ++ pl st) : va_W) sz) sz hs) (va_A ((cx, .inr (0, [.ref rx, .int (us), .ref (P 10), .ref (Q 77), .ref (Q 78), .ref (Q 79), .ref (Q 80), .ref (Q 81), .ref (Q 82), .ref (Q 83)])) :: (rx, .inl (G 5, 10, .inr (.inr (.inr (.inr (fun i => some (P i))))))) :: ((fp G Q P PA T ++ X) ++ pl st) : va_W) sz)) ([.ref cx, .ref (P j)] : List Value).toArray s 2156 802816 (va_A ((cx, .inr (0, [.ref rx, .int (us), .ref (P 10), .ref (Q 77), .ref (Q 78), .ref (Q 79), .ref (Q 80), .ref (Q 81), .ref (Q 82), .ref (Q 83)])) :: (rx, .inl (G 5, 10, .inr (.inr (.inr (.inr (fun i => some (P i))))))) :: ((fp G Q P PA T ++ X) ++ pl st) : va_W) sz)) ((cx, .inr (0, [.ref rx, .int (us), .ref (P 10), .ref (Q 77), .ref (Q 78), .ref (Q 79), .ref (Q 80), .ref (Q 81), .ref (Q 82), .ref (Q 83)])) :: (rx, .inl (G 5, 10, .inr (.inr (.inr (.inr (fun i => some (P i))))))) :: ((fp G Q P PA T ++ X) ++ pl sti) : va_W) 39 [(3, .int (iZ ((T 10 : Int) - 1 - (t : Int)))), (2, .int (iZ (sg))), (0, .ref cx), (1, .ref (P j))] [] := by
    intro d
    induction d with
    | zero =>
      intro t up tm ρ sti nni ci si hd ht hρ hZi hGi
      exact absurd hd (by omega)
    | succ d ih2 =>
      intro t up tm ρ sti nni ci si hd ht hρ hZi hGi
      refine w_iload_n C dX0_reduceBy_39 0 rfl ?_
      refine w_aload_n C dX0_reduceBy_40 3 rfl ?_
      refine c_top C ((cx, .inr (0, [.ref rx, .int (us), .ref (P 10), .ref (Q 77), .ref (Q 78), .ref (Q 79), .ref (Q 80), .ref (Q 81), .ref (Q 82), .ref (Q 83)])) :: (rx, .inl (G 5, 10, .inr (.inr (.inr (.inr (fun i => some (P i))))))) :: [] : va_W) X (fun w h => wC_in (inX2 w h)) (j) (by omega) hNs.2.2.2.2.2.2.1 dX0_reduceBy_41 ?_
      refine w_icmp_lt C 174 dX0_reduceBy_44 (by decide) ⟨⟨by omega, by omega⟩, by omega, by omega⟩ (fun c44 => ?_) (fun c44 => ?_)
      · have htt : t = T 10 + 1 - T j := by omega
        subst hρ
        rw [htt] at hZi
        refine w_aload_n C dX0_reduceBy_174 2 rfl ?_
        refine w_get (ci := 0) (ref := "RootIsolator$Chain") (T := TX0) (Cn := RX0) (N := 10) C (fun w h => wC_in (inX0 w h)) 0 rfl rfl 2 (by decide) (wC_in fX0_24) rfl rfl dX0_reduceBy_175 ?_
        refine c_findTop hA C hNs ((cx, .inr (0, [.ref rx, .int (us), .ref (P 10), .ref (Q 77), .ref (Q 78), .ref (Q 79), .ref (Q 80), .ref (Q 81), .ref (Q 82), .ref (Q 83)])) :: (rx, .inl (G 5, 10, .inr (.inr (.inr (.inr (fun i => some (P i))))))) :: [] : va_W) X hZi hGi 10 (by omega) (cwV 0 C.1.2.2.2.2 (wC_V kX0_90 nX2_findTop slX2_findTop iniX2 cdX2_findTop) rfl rfl rfl (by decide +kernel) ⟨Nat.le_of_ble_eq_true rfl, Nat.le_of_ble_eq_true rfl⟩) ⟨Nat.le_of_ble_eq_true rfl, Nat.le_of_ble_eq_true rfl⟩ (Nat.le_of_ble_eq_true rfl) dX0_reduceBy_178 (fun st203 nn203 c203 s203 N203 htp203 hZ203 hG203 => ?_)
        have hle := pG_le hZ203 hG203
        exact g_vret hsz hhs C hr hlk ⟨by omega, by omega⟩ (⟨_, _, _, _, _, _, _, N203, tpN_ext htp203 (fun i hi => rZ_r hi), hZ203, hG203, rfl⟩) dX0_reduceBy_181
      · obtain ⟨k, hk⟩ : ∃ k : Nat, k = T 10 - 1 - t := ⟨_, rfl⟩
        have hkz : (T 10 : Int) - 1 - (t : Int) = (k : Int) := by omega
        refine w_sub [(3, .int (iZ ((k : Int)))), (2, .int (iZ (sg))), (0, .ref cx), (1, .ref (P j))] [0, 1, 2, 3] (by rw [hkz]; rfl) ?_
        have hρb : ∀ i : Nat, i < 16 → lb (ρ i) 900 := fun i hi => by rw [hρ]; exact hrb t (by omega) i hi
        refine w_aload_n C dX0_reduceBy_47 2 rfl ?_
        refine w_get (ci := 0) (ref := "RootIsolator$Chain") (T := TX0) (Cn := RX0) (N := 10) C (fun w h => wC_in (inX0 w h)) 0 rfl rfl 8 (by decide) (wC_in fX0_47) rfl rfl dX0_reduceBy_48 ?_
        refine w_aload_n C dX0_reduceBy_51 2 rfl ?_
        refine w_get (ci := 0) (ref := "RootIsolator$Chain") (T := TX0) (Cn := RX0) (N := 10) C (fun w h => wC_in (inX0 w h)) 0 rfl rfl 2 (by decide) (wC_in fX0_24) rfl rfl dX0_reduceBy_52 ?_
        refine c_parts C ((cx, .inr (0, [.ref rx, .int (us), .ref (P 10), .ref (Q 77), .ref (Q 78), .ref (Q 79), .ref (Q 80), .ref (Q 81), .ref (Q 82), .ref (Q 83)])) :: (rx, .inl (G 5, 10, .inr (.inr (.inr (.inr (fun i => some (P i))))))) :: [] : va_W) X (fun w h => wC_in (inX2 w h)) (10) (by omega) hNs.2.2.2.2.1 dX0_reduceBy_55 ?_
        refine w_iload_n C dX0_reduceBy_58 0 rfl ?_
        refine c_elem C ((cx, .inr (0, [.ref rx, .int (us), .ref (P 10), .ref (Q 77), .ref (Q 78), .ref (Q 79), .ref (Q 80), .ref (Q 81), .ref (Q 82), .ref (Q 83)])) :: (rx, .inl (G 5, 10, .inr (.inr (.inr (.inr (fun i => some (P i))))))) :: [] : va_W) X (10) (by omega) (k) ⟨by omega, by show _ < 16; omega⟩ dX0_reduceBy_59 ?_
        refine p_copy hA C ((cx, .inr (0, [.ref rx, .int (us), .ref (P 10), .ref (Q 77), .ref (Q 78), .ref (Q 79), .ref (Q 80), .ref (Q 81), .ref (Q 82), .ref (Q 83)])) :: (rx, .inl (G 5, 10, .inr (.inr (.inr (.inr (fun i => some (P i))))))) :: (fp G Q P PA T ++ X) : va_W) hZi hGi (82) (61 + k) (by omega) (by omega) (by omega) (by rw [rZ_r (by omega)]; exact lb_le (hρb k (by omega)) (by omega)) (cwV 1 C.1.2.2.2.2 (wC_V kX0_93 nX3_copy slX3_copy iniX3 cdX3_copy) rfl rfl rfl (by decide +kernel) ⟨Nat.le_of_ble_eq_true rfl, Nat.le_of_ble_eq_true rfl⟩) ⟨Nat.le_of_ble_eq_true rfl, Nat.le_of_ble_eq_true rfl⟩ (Nat.le_of_ble_eq_true rfl) dX0_reduceBy_60 (fun st103 nn103 c103 s103 hZ103 hG103 => ?_)
        rw [show (qu (rZ Z (((Z (pB j + (T j - 1))).natAbs : Nat) : Int) up tm ρ) 82 ((rZ Z (((Z (pB j + (T j - 1))).natAbs : Nat) : Int) up tm ρ) (61 + k))) = (rZ Z (((Z (pB j + (T j - 1))).natAbs : Nat) : Int) (ρ k) tm ρ) from by rw [rZ_r (by omega), rZ_s82]] at hZ103
        refine w_iconst C dX0_reduceBy_63 ?_
        refine w_istore C [(4, .int (iZ (0))), (3, .int (iZ ((k : Int)))), (2, .int (iZ (sg))), (0, .ref cx), (1, .ref (P j))] dX0_reduceBy_64 (by decide) rfl ?_
        have lp2 : ∀ (d : Nat) (i : Nat) (tm : Int) (sti : Nat → va_W) (nni : Nat → Nat) (ci : Nat) (si : Nat), k < i + d → i ≤ k → pAll G Q sti nni ((rZ Z (((Z (pB j + (T j - 1))).natAbs : Nat) : Int) (ρ k) tm (fun q => if q < i then rdS (fun i => Z (pB j + i)) (T j) ρ k q else ρ q))) → pG (pC nn) (pS nn) nni ci si → ZW p l e ({ frames := 3, cells := 2156, slots := 802816, locals := 92 }) s m ([.ref cx, .ref (P j)] : List Value).toArray below meth c D (va_A ((cx, .inr (0, [.ref rx, .int (us), .ref (P 10), .ref (Q 77), .ref (Q 78), .ref (Q 79), .ref (Q 80), .ref (Q 81), .ref (Q 82), .ref (Q 83)])) :: (rx, .inl (G 5, 10, .inr (.inr (.inr (.inr (fun i => some (P i))))))) :: ((fp G Q P PA T ++ X) ++ pl st) : va_W) sz) 6 ci si (MQ below (va_Qv (fun (u : cS) => ∃ (st1 : Nat → va_W) (nn1 : Nat → Nat) (c1 s1 : Nat) (sc up tm : Int) (N : Nat), tpN (rdN (fun i => Z (pB j + i)) (T j) (T 10) (fun i => Z (61 + i)) (T 10 + 1 - T j)) 16 N ∧ pAll G Q st1 nn1 (rZ Z sc up tm (rdN (fun i => Z (pB j + i)) (T j) (T 10) (fun i => Z (61 + i)) (T 10 + 1 - T j))) ∧ pG (pC nn) (pS nn) nn1 c1 s1 ∧ u = (((cx, .inr (0, [.ref rx, .int (us), .ref (P 10), .ref (Q 77), .ref (Q 78), .ref (Q 79), .ref (Q 80), .ref (Q 81), .ref (Q 82), .ref (Q 83)])) :: (rx, .inl (G 5, 10, .inr (.inr (.inr (.inr (fun i => some (P i))))))) :: ((fp G Q P PA (qu T 10 N) ++ X) ++ pl st1) : va_W), c1, s1)) (cAt D G (va_A ((cx, .inr (0, [.ref rx, .int (us), .ref (P 10), .ref (Q 77), .ref (Q 78), .ref (Q 79), .ref (Q 80), .ref (Q 81), .ref (Q 82), .ref (Q 83)])) :: (rx, .inl (G 5, 10, .inr (.inr (.inr (.inr (fun i => some (P i))))))) :: ((fp G Q P PA T ++ X) ++ pl st) : va_W) sz) sz hs) (va_A ((cx, .inr (0, [.ref rx, .int (us), .ref (P 10), .ref (Q 77), .ref (Q 78), .ref (Q 79), .ref (Q 80), .ref (Q 81), .ref (Q 82), .ref (Q 83)])) :: (rx, .inl (G 5, 10, .inr (.inr (.inr (.inr (fun i => some (P i))))))) :: ((fp G Q P PA T ++ X) ++ pl st) : va_W) sz)) ([.ref cx, .ref (P j)] : List Value).toArray s 2156 802816 (va_A ((cx, .inr (0, [.ref rx, .int (us), .ref (P 10), .ref (Q 77), .ref (Q 78), .ref (Q 79), .ref (Q 80), .ref (Q 81), .ref (Q 82), .ref (Q 83)])) :: (rx, .inl (G 5, 10, .inr (.inr (.inr (.inr (fun i => some (P i))))))) :: ((fp G Q P PA T ++ X) ++ pl st) : va_W) sz)) ((cx, .inr (0, [.ref rx, .int (us), .ref (P 10), .ref (Q 77), .ref (Q 78), .ref (Q 79), .ref (Q 80), .ref (Q 81), .ref (Q 82), .ref (Q 83)])) :: (rx, .inl (G 5, 10, .inr (.inr (.inr (.inr (fun i => some (P i))))))) :: ((fp G Q P PA T ++ X) ++ pl sti) : va_W) 66 [(4, .int (iZ ((i : Int)))), (3, .int (iZ ((k : Int)))), (2, .int (iZ (sg))), (0, .ref cx), (1, .ref (P j))] [] := by
          intro d
          induction d with
          | zero =>
            intro i tm sti nni ci si hd hi hZi hGi
            exact absurd hd (by omega)
          | succ d ih3 =>
            intro i tm sti nni ci si hd hi hZi hGi
            refine w_iload C dX0_reduceBy_66 0 rfl ?_
            refine w_iload_n C dX0_reduceBy_68 1 rfl ?_
            refine w_icmp_ge C 155 dX0_reduceBy_69 (by decide) ⟨⟨by omega, by omega⟩, by omega, by omega⟩ (fun c69 => ?_) (fun c69 => ?_)
            · refine w_aload_n C dX0_reduceBy_155 3 rfl ?_
              refine w_get (ci := 0) (ref := "RootIsolator$Chain") (T := TX0) (Cn := RX0) (N := 10) C (fun w h => wC_in (inX0 w h)) 0 rfl rfl 2 (by decide) (wC_in fX0_24) rfl rfl dX0_reduceBy_156 ?_
              refine c_parts C ((cx, .inr (0, [.ref rx, .int (us), .ref (P 10), .ref (Q 77), .ref (Q 78), .ref (Q 79), .ref (Q 80), .ref (Q 81), .ref (Q 82), .ref (Q 83)])) :: (rx, .inl (G 5, 10, .inr (.inr (.inr (.inr (fun i => some (P i))))))) :: [] : va_W) X (fun w h => wC_in (inX2 w h)) (10) (by omega) hNs.2.2.2.2.1 dX0_reduceBy_159 ?_
              refine w_iload_n C dX0_reduceBy_162 1 rfl ?_
              refine c_elem C ((cx, .inr (0, [.ref rx, .int (us), .ref (P 10), .ref (Q 77), .ref (Q 78), .ref (Q 79), .ref (Q 80), .ref (Q 81), .ref (Q 82), .ref (Q 83)])) :: (rx, .inl (G 5, 10, .inr (.inr (.inr (.inr (fun i => some (P i))))))) :: [] : va_W) X (10) (by omega) (k) ⟨by omega, by show _ < 16; omega⟩ dX0_reduceBy_163 ?_
              refine w_lconst C 0 dX0_reduceBy_164 rfl ?_
              refine p_put hA C ((cx, .inr (0, [.ref rx, .int (us), .ref (P 10), .ref (Q 77), .ref (Q 78), .ref (Q 79), .ref (Q 80), .ref (Q 81), .ref (Q 82), .ref (Q 83)])) :: (rx, .inl (G 5, 10, .inr (.inr (.inr (.inr (fun i => some (P i))))))) :: (fp G Q P PA T ++ X) : va_W) hZi hGi (61 + k) (by omega) 0 (by omega) (cwV 1 C.1.2.2.2.2 (wC_V kX0_78 nX3_put slX3_put iniX3 cdX3_put) rfl rfl rfl (by decide +kernel) ⟨Nat.le_of_ble_eq_true rfl, Nat.le_of_ble_eq_true rfl⟩) ⟨Nat.le_of_ble_eq_true rfl, Nat.le_of_ble_eq_true rfl⟩ (Nat.le_of_ble_eq_true rfl) dX0_reduceBy_165 (fun st204 nn204 c204 s204 hZ204 hG204 => ?_)
              rw [show (qu (rZ Z (((Z (pB j + (T j - 1))).natAbs : Nat) : Int) (ρ k) tm (fun q => if q < i then rdS (fun i => Z (pB j + i)) (T j) ρ k q else ρ q)) (61 + k) 0) = (rZ Z (((Z (pB j + (T j - 1))).natAbs : Nat) : Int) (ρ k) tm (rdS (fun i => Z (pB j + i)) (T j) ρ k)) from by
  refine rZ_put (by omega) ?_ (fun q h1 h2 => ?_)
  · unfold rdS
    rw [if_neg (by omega), if_pos rfl]
  · by_cases h3 : q < i
    · rw [if_pos h3]
    · rw [if_neg h3]
      unfold rdS
      rw [if_neg (by omega), if_neg (by omega)]] at hZ204
              refine w_iinc C ((T 10 : Int) - 1 - ((t + 1 : Nat) : Int)) (by omega) [(3, .int (iZ ((T 10 : Int) - 1 - ((t + 1 : Nat) : Int)))), (4, .int (iZ ((i : Int)))), (2, .int (iZ (sg))), (0, .ref cx), (1, .ref (P j))] dX0_reduceBy_168 1 rfl (by decide) rfl ?_
              refine w_goto C 39 dX0_reduceBy_171 (by decide) ?_
              refine w_sub [(3, .int (iZ ((T 10 : Int) - 1 - ((t + 1 : Nat) : Int)))), (2, .int (iZ (sg))), (0, .ref cx), (1, .ref (P j))] [0, 2, 3, 4] rfl ?_
              exact ih2 (t + 1) _ _ _ _ _ _ _ (by omega) (by omega) rfl (by
                have hx := hZ204
                rw [hρ, hk] at hx
                exact hx) hG204
            · refine w_aload_n C dX0_reduceBy_72 3 rfl ?_
              refine w_get (ci := 0) (ref := "RootIsolator$Chain") (T := TX0) (Cn := RX0) (N := 10) C (fun w h => wC_in (inX0 w h)) 0 rfl rfl 2 (by decide) (wC_in fX0_24) rfl rfl dX0_reduceBy_73 ?_
              refine c_parts C ((cx, .inr (0, [.ref rx, .int (us), .ref (P 10), .ref (Q 77), .ref (Q 78), .ref (Q 79), .ref (Q 80), .ref (Q 81), .ref (Q 82), .ref (Q 83)])) :: (rx, .inl (G 5, 10, .inr (.inr (.inr (.inr (fun i => some (P i))))))) :: [] : va_W) X (fun w h => wC_in (inX2 w h)) (10) (by omega) hNs.2.2.2.2.1 dX0_reduceBy_76 ?_
              refine w_iload C dX0_reduceBy_79 0 rfl ?_
              have hρi := hρb i (by omega)
              have hρk := hρb k (by omega)
              refine c_elem C ((cx, .inr (0, [.ref rx, .int (us), .ref (P 10), .ref (Q 77), .ref (Q 78), .ref (Q 79), .ref (Q 80), .ref (Q 81), .ref (Q 82), .ref (Q 83)])) :: (rx, .inl (G 5, 10, .inr (.inr (.inr (.inr (fun i => some (P i))))))) :: [] : va_W) X (10) (by omega) (i) ⟨by omega, by show _ < 16; omega⟩ dX0_reduceBy_81 ?_
              refine w_aload_n C dX0_reduceBy_82 3 rfl ?_
              refine w_get (ci := 0) (ref := "RootIsolator$Chain") (T := TX0) (Cn := RX0) (N := 10) C (fun w h => wC_in (inX0 w h)) 0 rfl rfl 7 (by decide) (wC_in fX0_44) rfl rfl dX0_reduceBy_83 ?_
              refine p_multiply hA C ((cx, .inr (0, [.ref rx, .int (us), .ref (P 10), .ref (Q 77), .ref (Q 78), .ref (Q 79), .ref (Q 80), .ref (Q 81), .ref (Q 82), .ref (Q 83)])) :: (rx, .inl (G 5, 10, .inr (.inr (.inr (.inr (fun i => some (P i))))))) :: (fp G Q P PA T ++ X) : va_W) hZi hGi (61 + i) (81) (by omega) (by omega) (by omega) 900 100 (by omega) ⟨by rw [rZ_r (by omega), if_neg (by omega)]; exact hρi, by rw [rZ_81]; exact lb_abs hlc⟩ (cwV 1 C.1.2.2.2.2 (wC_V kX0_104 nX3_multiply slX3_multiply iniX3 cdX3_multiply) rfl rfl rfl (by decide +kernel) ⟨Nat.le_of_ble_eq_true rfl, Nat.le_of_ble_eq_true rfl⟩) ⟨Nat.le_of_ble_eq_true rfl, Nat.le_of_ble_eq_true rfl⟩ (Nat.le_of_ble_eq_true rfl) dX0_reduceBy_86 (fun st205 nn205 c205 s205 hZ205 hG205 => ?_)
              rw [show (qu (rZ Z (((Z (pB j + (T j - 1))).natAbs : Nat) : Int) (ρ k) tm (fun q => if q < i then rdS (fun i => Z (pB j + i)) (T j) ρ k q else ρ q)) (61 + i) ((rZ Z (((Z (pB j + (T j - 1))).natAbs : Nat) : Int) (ρ k) tm (fun q => if q < i then rdS (fun i => Z (pB j + i)) (T j) ρ k q else ρ q)) (61 + i) * (rZ Z (((Z (pB j + (T j - 1))).natAbs : Nat) : Int) (ρ k) tm (fun q => if q < i then rdS (fun i => Z (pB j + i)) (T j) ρ k q else ρ q)) 81)) = (rZ Z (((Z (pB j + (T j - 1))).natAbs : Nat) : Int) (ρ k) tm (qu (fun q => if q < i then rdS (fun i => Z (pB j + i)) (T j) ρ k q else ρ q) i (ρ i * (((Z (pB j + (T j - 1))).natAbs : Nat) : Int)))) from by rw [rZ_r (by omega), rZ_81, if_neg (show ¬ i < i by omega)]; exact rZ_put (by omega) (qu_same _ _ _).symm (fun q h1 h2 => qu_other _ _ h2)] at hZ205
              refine w_iload C dX0_reduceBy_89 0 rfl ?_
              refine w_iload_n C dX0_reduceBy_91 1 rfl ?_
              refine w_aload_n C dX0_reduceBy_92 4 rfl ?_
              refine c_top C ((cx, .inr (0, [.ref rx, .int (us), .ref (P 10), .ref (Q 77), .ref (Q 78), .ref (Q 79), .ref (Q 80), .ref (Q 81), .ref (Q 82), .ref (Q 83)])) :: (rx, .inl (G 5, 10, .inr (.inr (.inr (.inr (fun i => some (P i))))))) :: [] : va_W) X (fun w h => wC_in (inX2 w h)) (j) (by omega) hNs.2.2.2.2.2.2.1 dX0_reduceBy_93 ?_
              refine w_isub C dX0_reduceBy_96 ?_
              refine w_isub C dX0_reduceBy_97 ?_
              refine w_istore C [(5, .int (iZ ((i : Int) - ((k : Int) - (((T (j) : Nat) : Int) - 1))))), (4, .int (iZ ((i : Int)))), (3, .int (iZ ((k : Int)))), (2, .int (iZ (sg))), (0, .ref cx), (1, .ref (P j))] dX0_reduceBy_98 (by decide) rfl ?_
              refine w_iload C dX0_reduceBy_100 0 rfl ?_
              refine w_if_lt C 149 dX0_reduceBy_102 (by decide) ⟨by omega, by omega⟩ (fun c102 => ?_) (fun c102 => ?_)
              · refine w_iinc C (((i + 1 : Nat) : Int)) (by omega) [(4, .int (iZ (((i + 1 : Nat) : Int)))), (5, .int (iZ ((i : Int) - ((k : Int) - (((T (j) : Nat) : Int) - 1))))), (3, .int (iZ ((k : Int)))), (2, .int (iZ (sg))), (0, .ref cx), (1, .ref (P j))] dX0_reduceBy_149 1 rfl (by decide) rfl ?_
                refine w_goto C 66 dX0_reduceBy_152 (by decide) ?_
                refine w_sub [(4, .int (iZ (((i + 1 : Nat) : Int)))), (3, .int (iZ ((k : Int)))), (2, .int (iZ (sg))), (0, .ref cx), (1, .ref (P j))] [0, 2, 3, 4, 5] rfl ?_
                exact ih3 (i + 1) _ _ _ _ _ (by omega) (by omega) (by
                  rw [rZ_congr (ρ := (fun q => if q < (i + 1) then rdS (fun i => Z (pB j + i)) (T j) ρ k q else ρ q)) (ρ' := (qu (fun q => if q < i then rdS (fun i => Z (pB j + i)) (T j) ρ k q else ρ q) i (ρ i * (((Z (pB j + (T j - 1))).natAbs : Nat) : Int)))) (fun q hq => by
                    by_cases h2 : q = i
                    · rw [h2, qu_same, if_pos (by omega)]
                      unfold rdS
                      rw [if_pos (by omega), if_neg (by omega), Int.add_zero]
                    · rw [qu_other _ _ h2]
                      exact if_lt_same2 (by omega))]
                  exact hZ205) hG205
              · refine w_aload_n C dX0_reduceBy_105 4 rfl ?_
                refine w_get (ci := 0) (ref := "RootIsolator$Chain") (T := TX0) (Cn := RX0) (N := 10) C (fun w h => wC_in (inX0 w h)) 0 rfl rfl 9 (by decide) (wC_in fX0_50) rfl rfl dX0_reduceBy_106 ?_
                refine w_aload_n C dX0_reduceBy_109 4 rfl ?_
                refine w_get (ci := 0) (ref := "RootIsolator$Chain") (T := TX0) (Cn := RX0) (N := 10) C (fun w h => wC_in (inX0 w h)) 0 rfl rfl 8 (by decide) (wC_in fX0_47) rfl rfl dX0_reduceBy_110 ?_
                obtain ⟨fq, hfq⟩ : ∃ fq : Nat, fq = i + (T j - 1) - k := ⟨_, rfl⟩
                have hbf := hb fq (by omega)
                refine p_copy hA C ((cx, .inr (0, [.ref rx, .int (us), .ref (P 10), .ref (Q 77), .ref (Q 78), .ref (Q 79), .ref (Q 80), .ref (Q 81), .ref (Q 82), .ref (Q 83)])) :: (rx, .inl (G 5, 10, .inr (.inr (.inr (.inr (fun i => some (P i))))))) :: (fp G Q P PA T ++ X) : va_W) hZ205 hG205 (83) (82) (by omega) (by omega) (by omega) (by rw [rZ_82]; exact lb_le hρk (by omega)) (cwV 1 C.1.2.2.2.2 (wC_V kX0_93 nX3_copy slX3_copy iniX3 cdX3_copy) rfl rfl rfl (by decide +kernel) ⟨Nat.le_of_ble_eq_true rfl, Nat.le_of_ble_eq_true rfl⟩) ⟨Nat.le_of_ble_eq_true rfl, Nat.le_of_ble_eq_true rfl⟩ (Nat.le_of_ble_eq_true rfl) dX0_reduceBy_113 (fun st206 nn206 c206 s206 hZ206 hG206 => ?_)
                rw [show (qu (rZ Z (((Z (pB j + (T j - 1))).natAbs : Nat) : Int) (ρ k) tm (qu (fun q => if q < i then rdS (fun i => Z (pB j + i)) (T j) ρ k q else ρ q) i (ρ i * (((Z (pB j + (T j - 1))).natAbs : Nat) : Int)))) 83 ((rZ Z (((Z (pB j + (T j - 1))).natAbs : Nat) : Int) (ρ k) tm (qu (fun q => if q < i then rdS (fun i => Z (pB j + i)) (T j) ρ k q else ρ q) i (ρ i * (((Z (pB j + (T j - 1))).natAbs : Nat) : Int)))) 82)) = (rZ Z (((Z (pB j + (T j - 1))).natAbs : Nat) : Int) (ρ k) (ρ k) (qu (fun q => if q < i then rdS (fun i => Z (pB j + i)) (T j) ρ k q else ρ q) i (ρ i * (((Z (pB j + (T j - 1))).natAbs : Nat) : Int)))) from by rw [rZ_82, rZ_s83]] at hZ206
                refine w_aload_n C dX0_reduceBy_116 4 rfl ?_
                refine w_get (ci := 0) (ref := "RootIsolator$Chain") (T := TX0) (Cn := RX0) (N := 10) C (fun w h => wC_in (inX0 w h)) 0 rfl rfl 9 (by decide) (wC_in fX0_50) rfl rfl dX0_reduceBy_117 ?_
                refine w_aload_n C dX0_reduceBy_120 5 rfl ?_
                refine c_parts C ((cx, .inr (0, [.ref rx, .int (us), .ref (P 10), .ref (Q 77), .ref (Q 78), .ref (Q 79), .ref (Q 80), .ref (Q 81), .ref (Q 82), .ref (Q 83)])) :: (rx, .inl (G 5, 10, .inr (.inr (.inr (.inr (fun i => some (P i))))))) :: [] : va_W) X (fun w h => wC_in (inX2 w h)) (j) (by omega) hNs.2.2.2.2.1 dX0_reduceBy_121 ?_
                refine w_iload C dX0_reduceBy_124 0 rfl ?_
                refine c_elem C ((cx, .inr (0, [.ref rx, .int (us), .ref (P 10), .ref (Q 77), .ref (Q 78), .ref (Q 79), .ref (Q 80), .ref (Q 81), .ref (Q 82), .ref (Q 83)])) :: (rx, .inl (G 5, 10, .inr (.inr (.inr (.inr (fun i => some (P i))))))) :: [] : va_W) X (j) (by omega) (i + (T j - 1) - k) ⟨by omega, by omega⟩ dX0_reduceBy_126 ?_
                refine p_multiply hA C ((cx, .inr (0, [.ref rx, .int (us), .ref (P 10), .ref (Q 77), .ref (Q 78), .ref (Q 79), .ref (Q 80), .ref (Q 81), .ref (Q 82), .ref (Q 83)])) :: (rx, .inl (G 5, 10, .inr (.inr (.inr (.inr (fun i => some (P i))))))) :: (fp G Q P PA T ++ X) : va_W) hZ206 hG206 (83) (pB j + (i + (T j - 1) - k)) (by omega) (by omega) (by omega) 900 100 (by omega) ⟨by rw [rZ_83]; exact hρk, by rw [rZ_row hj (by omega), ← hfq]; exact hbf⟩ (cwV 1 C.1.2.2.2.2 (wC_V kX0_104 nX3_multiply slX3_multiply iniX3 cdX3_multiply) rfl rfl rfl (by decide +kernel) ⟨Nat.le_of_ble_eq_true rfl, Nat.le_of_ble_eq_true rfl⟩) ⟨Nat.le_of_ble_eq_true rfl, Nat.le_of_ble_eq_true rfl⟩ (Nat.le_of_ble_eq_true rfl) dX0_reduceBy_127 (fun st207 nn207 c207 s207 hZ207 hG207 => ?_)
                rw [show (qu (rZ Z (((Z (pB j + (T j - 1))).natAbs : Nat) : Int) (ρ k) (ρ k) (qu (fun q => if q < i then rdS (fun i => Z (pB j + i)) (T j) ρ k q else ρ q) i (ρ i * (((Z (pB j + (T j - 1))).natAbs : Nat) : Int)))) 83 ((rZ Z (((Z (pB j + (T j - 1))).natAbs : Nat) : Int) (ρ k) (ρ k) (qu (fun q => if q < i then rdS (fun i => Z (pB j + i)) (T j) ρ k q else ρ q) i (ρ i * (((Z (pB j + (T j - 1))).natAbs : Nat) : Int)))) 83 * (rZ Z (((Z (pB j + (T j - 1))).natAbs : Nat) : Int) (ρ k) (ρ k) (qu (fun q => if q < i then rdS (fun i => Z (pB j + i)) (T j) ρ k q else ρ q) i (ρ i * (((Z (pB j + (T j - 1))).natAbs : Nat) : Int)))) (pB j + (i + (T j - 1) - k)))) = (rZ Z (((Z (pB j + (T j - 1))).natAbs : Nat) : Int) (ρ k) (ρ k * Z (pB j + (i + (T j - 1) - k))) (qu (fun q => if q < i then rdS (fun i => Z (pB j + i)) (T j) ρ k q else ρ q) i (ρ i * (((Z (pB j + (T j - 1))).natAbs : Nat) : Int)))) from by rw [rZ_83, rZ_row hj (by omega), rZ_s83]] at hZ207
                refine w_aload_n C dX0_reduceBy_130 4 rfl ?_
                refine w_get (ci := 0) (ref := "RootIsolator$Chain") (T := TX0) (Cn := RX0) (N := 10) C (fun w h => wC_in (inX0 w h)) 0 rfl rfl 2 (by decide) (wC_in fX0_24) rfl rfl dX0_reduceBy_131 ?_
                refine c_parts C ((cx, .inr (0, [.ref rx, .int (us), .ref (P 10), .ref (Q 77), .ref (Q 78), .ref (Q 79), .ref (Q 80), .ref (Q 81), .ref (Q 82), .ref (Q 83)])) :: (rx, .inl (G 5, 10, .inr (.inr (.inr (.inr (fun i => some (P i))))))) :: [] : va_W) X (fun w h => wC_in (inX2 w h)) (10) (by omega) hNs.2.2.2.2.1 dX0_reduceBy_134 ?_
                refine w_iload C dX0_reduceBy_137 1 rfl ?_
                refine c_elem C ((cx, .inr (0, [.ref rx, .int (us), .ref (P 10), .ref (Q 77), .ref (Q 78), .ref (Q 79), .ref (Q 80), .ref (Q 81), .ref (Q 82), .ref (Q 83)])) :: (rx, .inl (G 5, 10, .inr (.inr (.inr (.inr (fun i => some (P i))))))) :: [] : va_W) X (10) (by omega) (i) ⟨by omega, by show _ < 16; omega⟩ dX0_reduceBy_139 ?_
                refine w_aload_n C dX0_reduceBy_140 4 rfl ?_
                refine w_get (ci := 0) (ref := "RootIsolator$Chain") (T := TX0) (Cn := RX0) (N := 10) C (fun w h => wC_in (inX0 w h)) 0 rfl rfl 9 (by decide) (wC_in fX0_50) rfl rfl dX0_reduceBy_141 ?_
                refine w_iload_n C dX0_reduceBy_144 3 rfl ?_
                refine w_ineg C dX0_reduceBy_145 ?_
                refine p_add hA C ((cx, .inr (0, [.ref rx, .int (us), .ref (P 10), .ref (Q 77), .ref (Q 78), .ref (Q 79), .ref (Q 80), .ref (Q 81), .ref (Q 82), .ref (Q 83)])) :: (rx, .inl (G 5, 10, .inr (.inr (.inr (.inr (fun i => some (P i))))))) :: (fp G Q P PA T ++ X) : va_W) hZ207 hG207 (61 + i) (83) (by omega) (by omega) (by omega) (-(sg)) (-(sg) * (ρ k * Z (pB j + (i + (T j - 1) - k)))) (by rw [rZ_83]; rcases hsg1 with q | q <;> rw [q] <;> omega) ⟨by rw [rZ_r (by omega), qu_same]; exact lb_le (lb_mul hρi (lb_abs hlc)) (by omega), by rw [rZ_83, ← hfq]; exact lb_le (lb_mul hρk hbf) (by omega)⟩ (cwV 2 C.1.2.2.2.2 (wC_V kX0_86 nX3_add slX3_add iniX3 cdX3_add) rfl rfl rfl (by decide +kernel) ⟨Nat.le_of_ble_eq_true rfl, Nat.le_of_ble_eq_true rfl⟩) ⟨Nat.le_of_ble_eq_true rfl, Nat.le_of_ble_eq_true rfl⟩ (Nat.le_of_ble_eq_true rfl) dX0_reduceBy_146 (fun st208 nn208 c208 s208 hZ208 hG208 => ?_)
                rw [show (qu (rZ Z (((Z (pB j + (T j - 1))).natAbs : Nat) : Int) (ρ k) (ρ k * Z (pB j + (i + (T j - 1) - k))) (qu (fun q => if q < i then rdS (fun i => Z (pB j + i)) (T j) ρ k q else ρ q) i (ρ i * (((Z (pB j + (T j - 1))).natAbs : Nat) : Int)))) (61 + i) ((rZ Z (((Z (pB j + (T j - 1))).natAbs : Nat) : Int) (ρ k) (ρ k * Z (pB j + (i + (T j - 1) - k))) (qu (fun q => if q < i then rdS (fun i => Z (pB j + i)) (T j) ρ k q else ρ q) i (ρ i * (((Z (pB j + (T j - 1))).natAbs : Nat) : Int)))) (61 + i) + -(sg) * (ρ k * Z (pB j + (i + (T j - 1) - k))))) = (rZ Z (((Z (pB j + (T j - 1))).natAbs : Nat) : Int) (ρ k) (ρ k * Z (pB j + (i + (T j - 1) - k))) (fun q => if q < (i + 1) then rdS (fun i => Z (pB j + i)) (T j) ρ k q else ρ q)) from by
  rw [rZ_r (by omega), qu_same]
  refine rZ_put (by omega) ?_ (fun q h1 h2 => ?_)
  · rw [if_pos (by omega)]
    unfold rdS
    rw [if_pos (by omega), if_pos (by omega), hsg]
  · rw [qu_other _ _ h2]
    exact if_lt_same2 (by omega)] at hZ208
                refine w_iinc C (((i + 1 : Nat) : Int)) (by omega) [(4, .int (iZ (((i + 1 : Nat) : Int)))), (5, .int (iZ ((i : Int) - ((k : Int) - (((T (j) : Nat) : Int) - 1))))), (3, .int (iZ ((k : Int)))), (2, .int (iZ (sg))), (0, .ref cx), (1, .ref (P j))] dX0_reduceBy_149 1 rfl (by decide) rfl ?_
                refine w_goto C 66 dX0_reduceBy_152 (by decide) ?_
                refine w_sub [(4, .int (iZ (((i + 1 : Nat) : Int)))), (3, .int (iZ ((k : Int)))), (2, .int (iZ (sg))), (0, .ref cx), (1, .ref (P j))] [0, 2, 3, 4, 5] rfl ?_
                exact ih3 (i + 1) _ _ _ _ _ (by omega) (by omega) hZ208 hG208
        exact lp2 (k + 1) 0 tm st103 nn103 c103 s103 (by omega) (by omega) (by
          rw [rZ_congr (ρ := (fun q => if q < 0 then rdS (fun i => Z (pB j + i)) (T j) ρ k q else ρ q)) (ρ' := ρ) (fun q hq => if_neg (by omega))]
          exact hZ103) hG103
  refine w_sub [(3, .int (iZ ((T 10 : Int) - 1 - ((0 : Nat) : Int)))), (2, .int (iZ sg)), (0, .ref cx), (1, .ref (P j))] [0, 1, 2, 3] (by rw [show (T 10 : Int) - 1 - ((0 : Nat) : Int) = (T 10 : Int) - 1 by omega]; rfl) ?_
  exact lp (T 10 + 2) 0 (Z 82) (Z 83) _ st2 nn2 c2 s2 (by omega) (by omega) rfl hZ2 hG2
