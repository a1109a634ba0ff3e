/-- the signs of the rows far out -/
def lS (Z : Nat → Int) (T : Nat → Nat) (bw k : Nat) : Int := if T k = 0 then 0 else if bw = 1 ∧ (T k - 1) % 2 = 1 then -(Z (pB k + (T k - 1))).sign else (Z (pB k + (T k - 1))).sign
theorem lS_r (Z : Nat → Int) (T : Nat → Nat) (bw k : Nat) : -1 ≤ lS Z T bw k ∧ lS Z T bw k ≤ 1 := by
  have h := sgn_r (Z (pB k + (T k - 1)))
  unfold lS
  split
  · omega
  · split <;> omega
theorem sg1 {x : Int} (h : -1 ≤ x ∧ x ≤ 1) : x.sign = x := by
  have : x = -1 ∨ x = 0 ∨ x = 1 := by omega
  rcases this with rfl | rfl | rfl <;> rfl
/-- a step of the count as the class takes it -/
theorem vc_cl {e : Nat → Int} {k : Nat} (h : -1 ≤ e k ∧ e k ≤ 1) (h0 : e k ≠ 0) : ((vc e (k + 1) : Nat) : Int) = ((vc e k : Nat) : Int) + (if vl e k = -(e k) then 1 else 0) ∧ vl e (k + 1) = e k := by
  have h2 := vl_r e k
  have hs := sg1 h
  simp only [vc, vl, hs]
  refine ⟨?_, if_neg h0⟩
  by_cases q : vl e k = -(e k)
  · rw [if_pos q, if_pos (by omega)]; omega
  · rw [if_neg q, if_neg (by omega)]; omega
theorem vc_c0 {e : Nat → Int} {k : Nat} (h0 : e k = 0) : vc e (k + 1) = vc e k ∧ vl e (k + 1) = vl e k := by
  simp [vc, vl, h0]
theorem rem_m1 : iZ (-1) - iZ (-1) / iZ 2 * iZ 2 = iZ (-1) := by decide
theorem rem_top {t : Nat} {tm : Int} (h : tm = (if t = 0 then -1 else (((t - 1) % 2 : Nat) : Int))) (hb : t < 1000 := by omega) : iZ ((t : Int) - 1) - iZ ((t : Int) - 1) / iZ 2 * iZ 2 = iZ tm := by
  by_cases q : t = 0
  · rw [h, if_pos q, q]; exact rem_m1
  · rw [h, if_neg q, show (t : Int) - 1 = ((t - 1 : Nat) : Int) by omega]
    exact iZ_remN (t - 1) 2 (by omega) (by omega) (by omega)
theorem lS_neg {Z : Nat → Int} {T : Nat → Nat} {bw k : Nat} {s0 s1 tm : Int} (hs0 : s0 = (if T k = 0 then 0 else (Z (pB k + (T k - 1))).sign)) (hs1 : s1 = lS Z T bw k) (htm : tm = (if T k = 0 then -1 else (((T k - 1) % 2 : Nat) : Int))) (hb : bw = 1) (c : tm = 1) : -(s0) = s1 := by
  rw [hs1, hs0]
  unfold lS
  by_cases q : T k = 0
  · rw [if_pos q] at htm; omega
  · rw [if_neg q] at htm
    rw [if_neg q, if_neg q, if_pos ⟨hb, by omega⟩]
theorem lS_pos {Z : Nat → Int} {T : Nat → Nat} {bw k : Nat} {s0 s1 tm : Int} (hs0 : s0 = (if T k = 0 then 0 else (Z (pB k + (T k - 1))).sign)) (hs1 : s1 = lS Z T bw k) (htm : tm = (if T k = 0 then -1 else (((T k - 1) % 2 : Nat) : Int))) (c : ¬ tm = 1) : s0 = s1 := by
  rw [hs1, hs0]
  unfold lS
  by_cases q : T k = 0
  · rw [if_pos q, if_pos q]
  · rw [if_neg q] at htm
    rw [if_neg q, if_neg q, if_neg (by omega)]
theorem lS_zero {Z : Nat → Int} {T : Nat → Nat} {bw k : Nat} {s0 s1 : Int} (hs0 : s0 = (if T k = 0 then 0 else (Z (pB k + (T k - 1))).sign)) (hs1 : s1 = lS Z T bw k) (c : ¬ bw = 1) : s0 = s1 := by
  rw [hs1, hs0]
  unfold lS
  by_cases q : T k = 0
  · rw [if_pos q, if_pos q]
  · rw [if_neg q, if_neg q, if_neg (fun h => c h.1)]
set_option maxHeartbeats 4000000 in
set_option maxRecDepth 100000 in
/-- changesBeyond -/
theorem cc_changesBeyond (l : Launch) (D : va_G) (G : Nat → ClassId) (X : va_W) (Q P PA T : Nat → Nat) (st : Nat → va_W) (nn : Nat → Nat) (Z : Nat → Int) (cx rx us bw : Nat) (hZ : pAll G Q st nn Z) (hus : us ≤ 10) (hbw : bw ≤ 1) (hT : ∀ k : Nat, k < 12 → T k ≤ pN k) (sz hs : Nat) : Met l yX0_changesBeyond (wC yX0_changesBeyond cX0_changesBeyond 7 (some .int)) ({ frames := 0, cells := 0, slots := 0, locals := 0 }) (va_Pc [.ref cx, .int (iZ ((bw : Int)))] (cPre nW D G ((cx, .inr (0, [.ref rx, .int (iZ ((us : Int))), .ref (P 10), .ref (Q 77), .ref (Q 78), .ref (Q 79), .ref (Q 80), .ref (Q 81), .ref (Q 82), .ref (Q 83)])) :: (rx, .inl (G 5, 10, .inr (.inr (.inr (.inr (fun i => some (P i))))))) :: ((fp G Q P PA T ++ X) ++ pl st) : va_W) sz hs)) (va_Qi (fun (r : Int32) (u : cS) => ∃ (st1 : Nat → va_W) (nn1 : Nat → Nat) (c1 s1 : Nat), r = iZ ((vc (lS Z T bw) us : Nat) : Int) ∧ pAll G Q st1 nn1 (Z) ∧ pG (pC nn) (pS nn) nn1 c1 s1 ∧ u = (((cx, .inr (0, [.ref rx, .int (iZ ((us : Int))), .ref (P 10), .ref (Q 77), .ref (Q 78), .ref (Q 79), .ref (Q 80), .ref (Q 81), .ref (Q 82), .ref (Q 83)])) :: (rx, .inl (G 5, 10, .inr (.inr (.inr (.inr (fun i => some (P i))))))) :: ((fp G Q P PA T ++ X) ++ pl st1) : va_W), c1, s1)) (cAt D G (va_A ((cx, .inr (0, [.ref rx, .int (iZ ((us : Int))), .ref (P 10), .ref (Q 77), .ref (Q 78), .ref (Q 79), .ref (Q 80), .ref (Q 81), .ref (Q 82), .ref (Q 83)])) :: (rx, .inl (G 5, 10, .inr (.inr (.inr (.inr (fun i => some (P i))))))) :: ((fp G Q P PA T ++ X) ++ pl st) : va_W) sz) sz hs) (va_A ((cx, .inr (0, [.ref rx, .int (iZ ((us : Int))), .ref (P 10), .ref (Q 77), .ref (Q 78), .ref (Q 79), .ref (Q 80), .ref (Q 81), .ref (Q 82), .ref (Q 83)])) :: (rx, .inl (G 5, 10, .inr (.inr (.inr (.inr (fun i => some (P i))))))) :: ((fp G Q P PA T ++ X) ++ pl st) : va_W) sz)) 0 0 (va_A ((cx, .inr (0, [.ref rx, .int (iZ ((us : Int))), .ref (P 10), .ref (Q 77), .ref (Q 78), .ref (Q 79), .ref (Q 80), .ref (Q 81), .ref (Q 82), .ref (Q 83)])) :: (rx, .inl (G 5, 10, .inr (.inr (.inr (.inr (fun i => some (P i))))))) :: ((fp G Q P PA T ++ X) ++ pl st) : va_W) sz) := by
  refine g_met (cc := cX0_changesBeyond) (maxL := 7) (ret := (some .int)) (own := RX0) (by decide) rfl rfl (Nat.le_of_ble_eq_true rfl) ?_
  intro p e s m below meth c hsz hhs hNs hA C hr hlk
  refine w_sub [(0, .ref cx), (1, .int (iZ ((bw : Int))))] [0, 1] rfl ?_
  have hG : pG (pC nn) (pS nn) nn 0 0 := ⟨Nat.le_of_eq (Nat.zero_add _), Nat.le_of_eq (Nat.zero_add _)⟩
  have lp : ∀ (d : Nat) (k : Nat), us < k + d → k ≤ us → ZW p l e ({ frames := 0, cells := 0, slots := 0, locals := 0 }) s m ([.ref cx, .int (iZ ((bw : Int)))] : List Value).toArray below meth c D (va_A ((cx, .inr (0, [.ref rx, .int (iZ ((us : Int))), .ref (P 10), .ref (Q 77), .ref (Q 78), .ref (Q 79), .ref (Q 80), .ref (Q 81), .ref (Q 82), .ref (Q 83)])) :: (rx, .inl (G 5, 10, .inr (.inr (.inr (.inr (fun i => some (P i))))))) :: ((fp G Q P PA T ++ X) ++ pl st) : va_W) sz) 7 0 0 (MQ below (va_Qi (fun (r : Int32) (u : cS) => ∃ (st1 : Nat → va_W) (nn1 : Nat → Nat) (c1 s1 : Nat), r = iZ ((vc (lS Z T bw) us : Nat) : Int) ∧ pAll G Q st1 nn1 (Z) ∧ pG (pC nn) (pS nn) nn1 c1 s1 ∧ u = (((cx, .inr (0, [.ref rx, .int (iZ ((us : Int))), .ref (P 10), .ref (Q 77), .ref (Q 78), .ref (Q 79), .ref (Q 80), .ref (Q 81), .ref (Q 82), .ref (Q 83)])) :: (rx, .inl (G 5, 10, .inr (.inr (.inr (.inr (fun i => some (P i))))))) :: ((fp G Q P PA T ++ X) ++ pl st1) : va_W), c1, s1)) (cAt D G (va_A ((cx, .inr (0, [.ref rx, .int (iZ ((us : Int))), .ref (P 10), .ref (Q 77), .ref (Q 78), .ref (Q 79), .ref (Q 80), .ref (Q 81), .ref (Q 82), .ref (Q 83)])) :: (rx, .inl (G 5, 10, .inr (.inr (.inr (.inr (fun i => some (P i))))))) :: ((fp G Q P PA T ++ X) ++ pl st) : va_W) sz) sz hs) (va_A ((cx, .inr (0, [.ref rx, .int (iZ ((us : Int))), .ref (P 10), .ref (Q 77), .ref (Q 78), .ref (Q 79), .ref (Q 80), .ref (Q 81), .ref (Q 82), .ref (Q 83)])) :: (rx, .inl (G 5, 10, .inr (.inr (.inr (.inr (fun i => some (P i))))))) :: ((fp G Q P PA T ++ X) ++ pl st) : va_W) sz)) ([.ref cx, .int (iZ ((bw : Int)))] : List Value).toArray s 0 0 (va_A ((cx, .inr (0, [.ref rx, .int (iZ ((us : Int))), .ref (P 10), .ref (Q 77), .ref (Q 78), .ref (Q 79), .ref (Q 80), .ref (Q 81), .ref (Q 82), .ref (Q 83)])) :: (rx, .inl (G 5, 10, .inr (.inr (.inr (.inr (fun i => some (P i))))))) :: ((fp G Q P PA T ++ X) ++ pl st) : va_W) sz)) ((cx, .inr (0, [.ref rx, .int (iZ ((us : Int))), .ref (P 10), .ref (Q 77), .ref (Q 78), .ref (Q 79), .ref (Q 80), .ref (Q 81), .ref (Q 82), .ref (Q 83)])) :: (rx, .inl (G 5, 10, .inr (.inr (.inr (.inr (fun i => some (P i))))))) :: ((fp G Q P PA T ++ X) ++ pl st) : va_W) 7 [(4, .int (iZ ((k : Int)))), (2, .int (iZ (((vc (lS Z T bw) k : Nat) : Int)))), (3, .int (iZ (vl (lS Z T bw) k))), (0, .ref cx), (1, .int (iZ ((bw : Int))))] [] := by
    intro d
    induction d with
    | zero =>
      intro k hd hk
      exact absurd hd (by omega)
    | succ d ih =>
      intro k hd hk
      refine w_iload C dX0_changesBeyond_7 0 rfl ?_
      refine w_aload_n C dX0_changesBeyond_9 3 rfl ?_
      refine w_get (ci := 0) (ref := "RootIsolator$Chain") (T := TX0) (Cn := RX0) (N := 10) C (fun w h => wC_in (inX0 w h)) 0 rfl rfl 1 (by decide) (wC_in fX0_17) rfl rfl dX0_changesBeyond_10 ?_
      refine w_icmp_ge C 106 dX0_changesBeyond_13 (by decide) ⟨⟨by omega, by omega⟩, by omega, by omega⟩ (fun c13 => ?_) (fun c13 => ?_)
      · obtain rfl : k = us := by omega
        refine w_iload_n C dX0_changesBeyond_106 1 rfl ?_
        exact g_iret hsz hhs C hr hlk ⟨Nat.le_refl _, Nat.le_refl _⟩ (⟨_, _, _, _, rfl, hZ, hG, rfl⟩) dX0_changesBeyond_107
      · have hTk := hT k (by omega)
        have hpk := pB_r (j := k) (by omega)
        obtain ⟨s0, hs0⟩ : ∃ s0 : Int, s0 = (if T k = 0 then 0 else (Z (pB k + (T k - 1))).sign) := ⟨_, rfl⟩
        obtain ⟨s1, hs1⟩ : ∃ s1 : Int, s1 = lS Z T bw k := ⟨_, rfl⟩
        have hr1 := lS_r Z T bw k
        have hvr := vl_r (lS Z T bw) k
        have hvc := vc_le (lS Z T bw) k
        rw [← hs1] at hr1
        have hr0 : -1 ≤ s0 ∧ s0 ≤ 1 := by
          have := sgn_r (Z (pB k + (T k - 1)))
          rw [hs0]; split <;> omega
        obtain ⟨tm, htm⟩ : ∃ tm : Int, tm = (if T k = 0 then -1 else (((T k - 1) % 2 : Nat) : Int)) := ⟨_, rfl⟩
        have htr : -1 ≤ tm ∧ tm ≤ 1 := by rw [htm]; split <;> omega
        refine w_aload_n C dX0_changesBeyond_16 3 rfl ?_
        refine w_get (ci := 0) (ref := "RootIsolator$Chain") (T := TX0) (Cn := RX0) (N := 10) C (fun w h => wC_in (inX0 w h)) 0 rfl rfl 0 (by decide) (wC_in fX0_13) rfl rfl dX0_changesBeyond_17 ?_
        refine w_iload C dX0_changesBeyond_20 0 rfl ?_
        refine w_aald (n := 10) (f := (fun i => some (P i))) C 1 5 rfl rfl rfl (k) ⟨by omega, by omega, by omega⟩ (rfl) dX0_changesBeyond_22 ?_
        refine c_top C ((cx, .inr (0, [.ref rx, .int (iZ ((us : Int))), .ref (P 10), .ref (Q 77), .ref (Q 78), .ref (Q 79), .ref (Q 80), .ref (Q 81), .ref (Q 82), .ref (Q 83)])) :: (rx, .inl (G 5, 10, .inr (.inr (.inr (.inr (fun i => some (P i))))))) :: [] : va_W) X (fun w h => wC_in (inX2 w h)) ((k)) (by omega) hNs.2.2.2.2.2.2.1 dX0_changesBeyond_23 ?_
        refine w_istore C [(5, .int (iZ (((T ((k)) : Nat) : Int) - 1))), (4, .int (iZ ((k : Int)))), (2, .int (iZ (((vc (lS Z T bw) k : Nat) : Int)))), (3, .int (iZ (vl (lS Z T bw) k))), (0, .ref cx), (1, .int (iZ ((bw : Int))))] dX0_changesBeyond_26 (by decide) rfl ?_
        refine w_iload C dX0_changesBeyond_28 0 rfl ?_
        have J1 : ZW p l e ({ frames := 0, cells := 0, slots := 0, locals := 0 }) s m ([.ref cx, .int (iZ ((bw : Int)))] : List Value).toArray below meth c D (va_A ((cx, .inr (0, [.ref rx, .int (iZ ((us : Int))), .ref (P 10), .ref (Q 77), .ref (Q 78), .ref (Q 79), .ref (Q 80), .ref (Q 81), .ref (Q 82), .ref (Q 83)])) :: (rx, .inl (G 5, 10, .inr (.inr (.inr (.inr (fun i => some (P i))))))) :: ((fp G Q P PA T ++ X) ++ pl st) : va_W) sz) 7 0 0 (MQ below (va_Qi (fun (r : Int32) (u : cS) => ∃ (st1 : Nat → va_W) (nn1 : Nat → Nat) (c1 s1 : Nat), r = iZ ((vc (lS Z T bw) us : Nat) : Int) ∧ pAll G Q st1 nn1 (Z) ∧ pG (pC nn) (pS nn) nn1 c1 s1 ∧ u = (((cx, .inr (0, [.ref rx, .int (iZ ((us : Int))), .ref (P 10), .ref (Q 77), .ref (Q 78), .ref (Q 79), .ref (Q 80), .ref (Q 81), .ref (Q 82), .ref (Q 83)])) :: (rx, .inl (G 5, 10, .inr (.inr (.inr (.inr (fun i => some (P i))))))) :: ((fp G Q P PA T ++ X) ++ pl st1) : va_W), c1, s1)) (cAt D G (va_A ((cx, .inr (0, [.ref rx, .int (iZ ((us : Int))), .ref (P 10), .ref (Q 77), .ref (Q 78), .ref (Q 79), .ref (Q 80), .ref (Q 81), .ref (Q 82), .ref (Q 83)])) :: (rx, .inl (G 5, 10, .inr (.inr (.inr (.inr (fun i => some (P i))))))) :: ((fp G Q P PA T ++ X) ++ pl st) : va_W) sz) sz hs) (va_A ((cx, .inr (0, [.ref rx, .int (iZ ((us : Int))), .ref (P 10), .ref (Q 77), .ref (Q 78), .ref (Q 79), .ref (Q 80), .ref (Q 81), .ref (Q 82), .ref (Q 83)])) :: (rx, .inl (G 5, 10, .inr (.inr (.inr (.inr (fun i => some (P i))))))) :: ((fp G Q P PA T ++ X) ++ pl st) : va_W) sz)) ([.ref cx, .int (iZ ((bw : Int)))] : List Value).toArray s 0 0 (va_A ((cx, .inr (0, [.ref rx, .int (iZ ((us : Int))), .ref (P 10), .ref (Q 77), .ref (Q 78), .ref (Q 79), .ref (Q 80), .ref (Q 81), .ref (Q 82), .ref (Q 83)])) :: (rx, .inl (G 5, 10, .inr (.inr (.inr (.inr (fun i => some (P i))))))) :: ((fp G Q P PA T ++ X) ++ pl st) : va_W) sz)) ((cx, .inr (0, [.ref rx, .int (iZ ((us : Int))), .ref (P 10), .ref (Q 77), .ref (Q 78), .ref (Q 79), .ref (Q 80), .ref (Q 81), .ref (Q 82), .ref (Q 83)])) :: (rx, .inl (G 5, 10, .inr (.inr (.inr (.inr (fun i => some (P i))))))) :: ((fp G Q P PA T ++ X) ++ pl st) : va_W) 53 [(5, .int (iZ (((T ((k)) : Nat) : Int) - 1))), (4, .int (iZ ((k : Int)))), (2, .int (iZ (((vc (lS Z T bw) k : Nat) : Int)))), (3, .int (iZ (vl (lS Z T bw) k))), (0, .ref cx), (1, .int (iZ ((bw : Int))))] [.int (iZ (s0))] := by
          refine w_istore C [(6, .int (iZ (s0))), (5, .int (iZ (((T ((k)) : Nat) : Int) - 1))), (4, .int (iZ ((k : Int)))), (2, .int (iZ (((vc (lS Z T bw) k : Nat) : Int)))), (3, .int (iZ (vl (lS Z T bw) k))), (0, .ref cx), (1, .int (iZ ((bw : Int))))] dX0_changesBeyond_53 (by decide) rfl ?_
          refine w_iload_n C dX0_changesBeyond_55 6 rfl ?_
          have J2 : ZW p l e ({ frames := 0, cells := 0, slots := 0, locals := 0 }) s m ([.ref cx, .int (iZ ((bw : Int)))] : List Value).toArray below meth c D (va_A ((cx, .inr (0, [.ref rx, .int (iZ ((us : Int))), .ref (P 10), .ref (Q 77), .ref (Q 78), .ref (Q 79), .ref (Q 80), .ref (Q 81), .ref (Q 82), .ref (Q 83)])) :: (rx, .inl (G 5, 10, .inr (.inr (.inr (.inr (fun i => some (P i))))))) :: ((fp G Q P PA T ++ X) ++ pl st) : va_W) sz) 7 0 0 (MQ below (va_Qi (fun (r : Int32) (u : cS) => ∃ (st1 : Nat → va_W) (nn1 : Nat → Nat) (c1 s1 : Nat), r = iZ ((vc (lS Z T bw) us : Nat) : Int) ∧ pAll G Q st1 nn1 (Z) ∧ pG (pC nn) (pS nn) nn1 c1 s1 ∧ u = (((cx, .inr (0, [.ref rx, .int (iZ ((us : Int))), .ref (P 10), .ref (Q 77), .ref (Q 78), .ref (Q 79), .ref (Q 80), .ref (Q 81), .ref (Q 82), .ref (Q 83)])) :: (rx, .inl (G 5, 10, .inr (.inr (.inr (.inr (fun i => some (P i))))))) :: ((fp G Q P PA T ++ X) ++ pl st1) : va_W), c1, s1)) (cAt D G (va_A ((cx, .inr (0, [.ref rx, .int (iZ ((us : Int))), .ref (P 10), .ref (Q 77), .ref (Q 78), .ref (Q 79), .ref (Q 80), .ref (Q 81), .ref (Q 82), .ref (Q 83)])) :: (rx, .inl (G 5, 10, .inr (.inr (.inr (.inr (fun i => some (P i))))))) :: ((fp G Q P PA T ++ X) ++ pl st) : va_W) sz) sz hs) (va_A ((cx, .inr (0, [.ref rx, .int (iZ ((us : Int))), .ref (P 10), .ref (Q 77), .ref (Q 78), .ref (Q 79), .ref (Q 80), .ref (Q 81), .ref (Q 82), .ref (Q 83)])) :: (rx, .inl (G 5, 10, .inr (.inr (.inr (.inr (fun i => some (P i))))))) :: ((fp G Q P PA T ++ X) ++ pl st) : va_W) sz)) ([.ref cx, .int (iZ ((bw : Int)))] : List Value).toArray s 0 0 (va_A ((cx, .inr (0, [.ref rx, .int (iZ ((us : Int))), .ref (P 10), .ref (Q 77), .ref (Q 78), .ref (Q 79), .ref (Q 80), .ref (Q 81), .ref (Q 82), .ref (Q 83)])) :: (rx, .inl (G 5, 10, .inr (.inr (.inr (.inr (fun i => some (P i))))))) :: ((fp G Q P PA T ++ X) ++ pl st) : va_W) sz)) ((cx, .inr (0, [.ref rx, .int (iZ ((us : Int))), .ref (P 10), .ref (Q 77), .ref (Q 78), .ref (Q 79), .ref (Q 80), .ref (Q 81), .ref (Q 82), .ref (Q 83)])) :: (rx, .inl (G 5, 10, .inr (.inr (.inr (.inr (fun i => some (P i))))))) :: ((fp G Q P PA T ++ X) ++ pl st) : va_W) 75 [(6, .int (iZ (s0))), (5, .int (iZ (((T ((k)) : Nat) : Int) - 1))), (4, .int (iZ ((k : Int)))), (2, .int (iZ (((vc (lS Z T bw) k : Nat) : Int)))), (3, .int (iZ (vl (lS Z T bw) k))), (0, .ref cx), (1, .int (iZ ((bw : Int))))] [.int (iZ (s1))] := by
            refine w_istore C [(6, .int (iZ (s1))), (5, .int (iZ (((T ((k)) : Nat) : Int) - 1))), (4, .int (iZ ((k : Int)))), (2, .int (iZ (((vc (lS Z T bw) k : Nat) : Int)))), (3, .int (iZ (vl (lS Z T bw) k))), (0, .ref cx), (1, .int (iZ ((bw : Int))))] dX0_changesBeyond_75 (by decide) rfl ?_
            refine w_iload C dX0_changesBeyond_77 0 rfl ?_
            refine w_if_eq C 100 dX0_changesBeyond_79 (by decide) ⟨by omega, by omega⟩ (fun c79 => ?_) (fun c79 => ?_)
            · refine w_iinc C (((k + 1 : Nat) : Int)) (by omega) [(4, .int (iZ (((k + 1 : Nat) : Int)))), (6, .int (iZ (s1))), (5, .int (iZ (((T ((k)) : Nat) : Int) - 1))), (2, .int (iZ (((vc (lS Z T bw) k : Nat) : Int)))), (3, .int (iZ (vl (lS Z T bw) k))), (0, .ref cx), (1, .int (iZ ((bw : Int))))] dX0_changesBeyond_100 2 rfl (by decide) rfl ?_
              refine w_goto C 7 dX0_changesBeyond_103 (by decide) ?_
              refine w_sub [(4, .int (iZ (((k + 1 : Nat) : Int)))), (2, .int (iZ (((vc (lS Z T bw) k : Nat) : Int)))), (3, .int (iZ (vl (lS Z T bw) k))), (0, .ref cx), (1, .int (iZ ((bw : Int))))] [0, 3, 4, 5, 6] rfl ?_
              have hcl := vc_c0 (e := lS Z T bw) (k := k) (by rw [← hs1]; exact c79)
              have hh := ih (k + 1) (by omega) (by omega)
              rw [hcl.1, hcl.2] at hh
              exact hh
            · refine w_iload_n C dX0_changesBeyond_82 3 rfl ?_
              refine w_iload_n C dX0_changesBeyond_83 4 rfl ?_
              refine w_iload C dX0_changesBeyond_84 0 rfl ?_
              refine w_ineg C dX0_changesBeyond_86 ?_
              have J3 : ZW p l e ({ frames := 0, cells := 0, slots := 0, locals := 0 }) s m ([.ref cx, .int (iZ ((bw : Int)))] : List Value).toArray below meth c D (va_A ((cx, .inr (0, [.ref rx, .int (iZ ((us : Int))), .ref (P 10), .ref (Q 77), .ref (Q 78), .ref (Q 79), .ref (Q 80), .ref (Q 81), .ref (Q 82), .ref (Q 83)])) :: (rx, .inl (G 5, 10, .inr (.inr (.inr (.inr (fun i => some (P i))))))) :: ((fp G Q P PA T ++ X) ++ pl st) : va_W) sz) 7 0 0 (MQ below (va_Qi (fun (r : Int32) (u : cS) => ∃ (st1 : Nat → va_W) (nn1 : Nat → Nat) (c1 s1 : Nat), r = iZ ((vc (lS Z T bw) us : Nat) : Int) ∧ pAll G Q st1 nn1 (Z) ∧ pG (pC nn) (pS nn) nn1 c1 s1 ∧ u = (((cx, .inr (0, [.ref rx, .int (iZ ((us : Int))), .ref (P 10), .ref (Q 77), .ref (Q 78), .ref (Q 79), .ref (Q 80), .ref (Q 81), .ref (Q 82), .ref (Q 83)])) :: (rx, .inl (G 5, 10, .inr (.inr (.inr (.inr (fun i => some (P i))))))) :: ((fp G Q P PA T ++ X) ++ pl st1) : va_W), c1, s1)) (cAt D G (va_A ((cx, .inr (0, [.ref rx, .int (iZ ((us : Int))), .ref (P 10), .ref (Q 77), .ref (Q 78), .ref (Q 79), .ref (Q 80), .ref (Q 81), .ref (Q 82), .ref (Q 83)])) :: (rx, .inl (G 5, 10, .inr (.inr (.inr (.inr (fun i => some (P i))))))) :: ((fp G Q P PA T ++ X) ++ pl st) : va_W) sz) sz hs) (va_A ((cx, .inr (0, [.ref rx, .int (iZ ((us : Int))), .ref (P 10), .ref (Q 77), .ref (Q 78), .ref (Q 79), .ref (Q 80), .ref (Q 81), .ref (Q 82), .ref (Q 83)])) :: (rx, .inl (G 5, 10, .inr (.inr (.inr (.inr (fun i => some (P i))))))) :: ((fp G Q P PA T ++ X) ++ pl st) : va_W) sz)) ([.ref cx, .int (iZ ((bw : Int)))] : List Value).toArray s 0 0 (va_A ((cx, .inr (0, [.ref rx, .int (iZ ((us : Int))), .ref (P 10), .ref (Q 77), .ref (Q 78), .ref (Q 79), .ref (Q 80), .ref (Q 81), .ref (Q 82), .ref (Q 83)])) :: (rx, .inl (G 5, 10, .inr (.inr (.inr (.inr (fun i => some (P i))))))) :: ((fp G Q P PA T ++ X) ++ pl st) : va_W) sz)) ((cx, .inr (0, [.ref rx, .int (iZ ((us : Int))), .ref (P 10), .ref (Q 77), .ref (Q 78), .ref (Q 79), .ref (Q 80), .ref (Q 81), .ref (Q 82), .ref (Q 83)])) :: (rx, .inl (G 5, 10, .inr (.inr (.inr (.inr (fun i => some (P i))))))) :: ((fp G Q P PA T ++ X) ++ pl st) : va_W) 95 [(6, .int (iZ (s1))), (5, .int (iZ (((T ((k)) : Nat) : Int) - 1))), (4, .int (iZ ((k : Int)))), (2, .int (iZ (((vc (lS Z T bw) k : Nat) : Int)))), (3, .int (iZ (vl (lS Z T bw) k))), (0, .ref cx), (1, .int (iZ ((bw : Int))))] [.int (iZ ((if vl (lS Z T bw) k = -(s1) then 1 else 0))), .int (iZ (((vc (lS Z T bw) k : Nat) : Int)))] := by
                refine w_iadd C dX0_changesBeyond_95 ?_
                refine w_istore_n C [(2, .int (iZ ((((vc (lS Z T bw) k : Nat) : Int)) + ((if vl (lS Z T bw) k = -(s1) then 1 else 0))))), (6, .int (iZ (s1))), (5, .int (iZ (((T ((k)) : Nat) : Int) - 1))), (4, .int (iZ ((k : Int)))), (3, .int (iZ (vl (lS Z T bw) k))), (0, .ref cx), (1, .int (iZ ((bw : Int))))] dX0_changesBeyond_96 rfl (by decide) rfl ?_
                refine w_iload C dX0_changesBeyond_97 1 rfl ?_
                refine w_istore_n C [(3, .int (iZ (s1))), (2, .int (iZ ((((vc (lS Z T bw) k : Nat) : Int)) + ((if vl (lS Z T bw) k = -(s1) then 1 else 0))))), (6, .int (iZ (s1))), (5, .int (iZ (((T ((k)) : Nat) : Int) - 1))), (4, .int (iZ ((k : Int)))), (0, .ref cx), (1, .int (iZ ((bw : Int))))] dX0_changesBeyond_99 rfl (by decide) rfl ?_
                refine w_iinc C (((k + 1 : Nat) : Int)) (by omega) [(4, .int (iZ (((k + 1 : Nat) : Int)))), (3, .int (iZ (s1))), (2, .int (iZ ((((vc (lS Z T bw) k : Nat) : Int)) + ((if vl (lS Z T bw) k = -(s1) then 1 else 0))))), (6, .int (iZ (s1))), (5, .int (iZ (((T ((k)) : Nat) : Int) - 1))), (0, .ref cx), (1, .int (iZ ((bw : Int))))] dX0_changesBeyond_100 4 rfl (by decide) rfl ?_
                refine w_goto C 7 dX0_changesBeyond_103 (by decide) ?_
                refine w_sub [(4, .int (iZ (((k + 1 : Nat) : Int)))), (2, .int (iZ ((((vc (lS Z T bw) k : Nat) : Int)) + ((if vl (lS Z T bw) k = -(s1) then 1 else 0))))), (3, .int (iZ (s1))), (0, .ref cx), (1, .int (iZ ((bw : Int))))] [0, 2, 1, 5, 6] rfl ?_
                have hcl := vc_cl (e := lS Z T bw) (k := k) (by rw [← hs1]; exact hr1) (by rw [← hs1]; exact c79)
                rw [← hs1] at hcl
                have hh := ih (k + 1) (by omega) (by omega)
                rw [hcl.1, hcl.2] at hh
                exact hh
              refine w_icmp_ne C 94 dX0_changesBeyond_87 (by decide) ⟨⟨by omega, by omega⟩, by omega, by omega⟩ (fun c87 => ?_) (fun c87 => ?_)
              · refine w_iconst C dX0_changesBeyond_94 ?_
                refine w_top C ((if vl (lS Z T bw) k = -(s1) then 1 else 0)) (by rw [if_neg (by omega)]) ?_
                exact J3
              · refine w_iconst C dX0_changesBeyond_90 ?_
                refine w_goto C 95 dX0_changesBeyond_91 (by decide) ?_
                refine w_top C ((if vl (lS Z T bw) k = -(s1) then 1 else 0)) (by rw [if_pos (by omega)]) ?_
                exact J3
          refine w_if_eq C 73 dX0_changesBeyond_56 (by decide) ⟨by omega, by omega⟩ (fun c56 => ?_) (fun c56 => ?_)
          · refine w_iload C dX0_changesBeyond_73 0 rfl ?_
            refine w_top C (s1) (lS_zero hs0 hs1 (by omega)) ?_
            exact J2
          · refine w_iload C dX0_changesBeyond_59 1 rfl ?_
            refine w_iconst C dX0_changesBeyond_61 ?_
            refine w_irem C dX0_changesBeyond_62 (by decide) (v := (iZ (tm))) (rem_top htm) ?_
            refine w_iconst C dX0_changesBeyond_63 ?_
            refine w_icmp_ne C 73 dX0_changesBeyond_64 (by decide) ⟨⟨by omega, by omega⟩, by omega, by omega⟩ (fun c64 => ?_) (fun c64 => ?_)
            · refine w_iload C dX0_changesBeyond_73 0 rfl ?_
              refine w_top C (s1) (by first | exact lS_neg hs0 hs1 htm (by omega) c64 | exact lS_pos hs0 hs1 htm c64) ?_
              exact J2
            · refine w_iload C dX0_changesBeyond_67 0 rfl ?_
              refine w_ineg C dX0_changesBeyond_69 ?_
              refine w_goto C 75 dX0_changesBeyond_70 (by decide) ?_
              refine w_top C (s1) (by first | exact lS_neg hs0 hs1 htm (by omega) c64 | exact lS_pos hs0 hs1 htm c64) ?_
              exact J2
        refine w_if_ge C 37 dX0_changesBeyond_30 (by decide) ⟨by omega, by omega⟩ (fun c30 => ?_) (fun c30 => ?_)
        · refine w_aload_n C dX0_changesBeyond_37 4 rfl ?_
          refine w_get (ci := 0) (ref := "RootIsolator$Chain") (T := TX0) (Cn := RX0) (N := 10) C (fun w h => wC_in (inX0 w h)) 0 rfl rfl 0 (by decide) (wC_in fX0_13) rfl rfl dX0_changesBeyond_38 ?_
          refine w_iload C dX0_changesBeyond_41 1 rfl ?_
          refine w_aald (n := 10) (f := (fun i => some (P i))) C 1 5 rfl rfl rfl (k) ⟨by omega, by omega, by omega⟩ (rfl) dX0_changesBeyond_43 ?_
          refine c_parts C ((cx, .inr (0, [.ref rx, .int (iZ ((us : Int))), .ref (P 10), .ref (Q 77), .ref (Q 78), .ref (Q 79), .ref (Q 80), .ref (Q 81), .ref (Q 82), .ref (Q 83)])) :: (rx, .inl (G 5, 10, .inr (.inr (.inr (.inr (fun i => some (P i))))))) :: [] : va_W) X (fun w h => wC_in (inX2 w h)) ((k)) (by omega) hNs.2.2.2.2.1 dX0_changesBeyond_44 ?_
          refine w_iload C dX0_changesBeyond_47 0 rfl ?_
          refine c_elem C ((cx, .inr (0, [.ref rx, .int (iZ ((us : Int))), .ref (P 10), .ref (Q 77), .ref (Q 78), .ref (Q 79), .ref (Q 80), .ref (Q 81), .ref (Q 82), .ref (Q 83)])) :: (rx, .inl (G 5, 10, .inr (.inr (.inr (.inr (fun i => some (P i))))))) :: [] : va_W) X ((k)) (by omega) (T k - 1) ⟨by omega, by omega⟩ dX0_changesBeyond_49 ?_
          refine p_side C ((cx, .inr (0, [.ref rx, .int (iZ ((us : Int))), .ref (P 10), .ref (Q 77), .ref (Q 78), .ref (Q 79), .ref (Q 80), .ref (Q 81), .ref (Q 82), .ref (Q 83)])) :: (rx, .inl (G 5, 10, .inr (.inr (.inr (.inr (fun i => some (P i))))))) :: (fp G Q P PA T ++ X) : va_W) (fun w h => wC_in (inX3 w h)) hZ (pB k + (T k - 1)) (by omega) hNs.2.1 dX0_changesBeyond_50 ?_
          refine w_top C (s0) (by rw [hs0, if_neg (by omega)]) ?_
          exact J1
        · refine w_iconst C dX0_changesBeyond_33 ?_
          refine w_goto C 53 dX0_changesBeyond_34 (by decide) ?_
          refine w_top C (s0) (by rw [hs0, if_pos (by omega)]) ?_
          exact J1
  refine w_iconst C dX0_changesBeyond_0 ?_
  refine w_istore_n C [(2, .int (iZ (0))), (0, .ref cx), (1, .int (iZ ((bw : Int))))] dX0_changesBeyond_1 rfl (by decide) rfl ?_
  refine w_iconst C dX0_changesBeyond_2 ?_
  refine w_istore_n C [(3, .int (iZ (0))), (2, .int (iZ (0))), (0, .ref cx), (1, .int (iZ ((bw : Int))))] dX0_changesBeyond_3 rfl (by decide) rfl ?_
  refine w_iconst C dX0_changesBeyond_4 ?_
  refine w_istore C [(4, .int (iZ (0))), (3, .int (iZ (0))), (2, .int (iZ (0))), (0, .ref cx), (1, .int (iZ ((bw : Int))))] dX0_changesBeyond_5 (by decide) rfl ?_
  refine w_sub [(4, .int (iZ (0))), (2, .int (iZ (0))), (3, .int (iZ (0))), (0, .ref cx), (1, .int (iZ ((bw : Int))))] [0, 2, 1, 3, 4] rfl ?_
  exact lp (us + 1) 0 (by omega) (by omega)
set_option maxHeartbeats 4000000 in
set_option maxRecDepth 100000 in
/-- changesBelowAll -/
theorem cc_changesBelowAll (l : Launch) (D : va_G) (G : Nat → ClassId) (X : va_W) (Q P PA T : Nat → Nat) (st : Nat → va_W) (nn : Nat → Nat) (Z : Nat → Int) (cx rx us : Nat) (hZ : pAll G Q st nn Z) (hus : us ≤ 10) (hT : ∀ k : Nat, k < 12 → T k ≤ pN k) (sz hs : Nat) : Met l yX0_changesBelowAll (wC yX0_changesBelowAll cX0_changesBelowAll 1 (some .int)) ({ frames := 1, cells := 1078, slots := 401408, locals := 26 }) (va_Pc [.ref cx] (cPre nW D G ((cx, .inr (0, [.ref rx, .int (iZ ((us : Int))), .ref (P 10), .ref (Q 77), .ref (Q 78), .ref (Q 79), .ref (Q 80), .ref (Q 81), .ref (Q 82), .ref (Q 83)])) :: (rx, .inl (G 5, 10, .inr (.inr (.inr (.inr (fun i => some (P i))))))) :: ((fp G Q P PA T ++ X) ++ pl st) : va_W) sz hs)) (va_Qi (fun (r : Int32) (u : cS) => ∃ (st1 : Nat → va_W) (nn1 : Nat → Nat) (c1 s1 : Nat), r = iZ ((vc (lS Z T 1) us : Nat) : Int) ∧ pAll G Q st1 nn1 (Z) ∧ pG (pC nn) (pS nn) nn1 c1 s1 ∧ u = (((cx, .inr (0, [.ref rx, .int (iZ ((us : Int))), .ref (P 10), .ref (Q 77), .ref (Q 78), .ref (Q 79), .ref (Q 80), .ref (Q 81), .ref (Q 82), .ref (Q 83)])) :: (rx, .inl (G 5, 10, .inr (.inr (.inr (.inr (fun i => some (P i))))))) :: ((fp G Q P PA T ++ X) ++ pl st1) : va_W), c1, s1)) (cAt D G (va_A ((cx, .inr (0, [.ref rx, .int (iZ ((us : Int))), .ref (P 10), .ref (Q 77), .ref (Q 78), .ref (Q 79), .ref (Q 80), .ref (Q 81), .ref (Q 82), .ref (Q 83)])) :: (rx, .inl (G 5, 10, .inr (.inr (.inr (.inr (fun i => some (P i))))))) :: ((fp G Q P PA T ++ X) ++ pl st) : va_W) sz) sz hs) (va_A ((cx, .inr (0, [.ref rx, .int (iZ ((us : Int))), .ref (P 10), .ref (Q 77), .ref (Q 78), .ref (Q 79), .ref (Q 80), .ref (Q 81), .ref (Q 82), .ref (Q 83)])) :: (rx, .inl (G 5, 10, .inr (.inr (.inr (.inr (fun i => some (P i))))))) :: ((fp G Q P PA T ++ X) ++ pl st) : va_W) sz)) 1078 401408 (va_A ((cx, .inr (0, [.ref rx, .int (iZ ((us : Int))), .ref (P 10), .ref (Q 77), .ref (Q 78), .ref (Q 79), .ref (Q 80), .ref (Q 81), .ref (Q 82), .ref (Q 83)])) :: (rx, .inl (G 5, 10, .inr (.inr (.inr (.inr (fun i => some (P i))))))) :: ((fp G Q P PA T ++ X) ++ pl st) : va_W) sz) := by
  refine g_met (cc := cX0_changesBelowAll) (maxL := 1) (ret := (some .int)) (own := RX0) (by decide) rfl rfl (Nat.le_of_ble_eq_true rfl) ?_
  intro p e s m below meth c hsz hhs hNs hA C hr hlk
  refine w_sub [(0, .ref cx)] [0] rfl ?_
  have hG : pG (pC nn) (pS nn) nn 0 0 := ⟨Nat.le_of_eq (Nat.zero_add _), Nat.le_of_eq (Nat.zero_add _)⟩
  refine w_aload_n C dX0_changesBelowAll_0 0 rfl ?_
  refine w_iconst C dX0_changesBelowAll_1 ?_
  have hle1 := pG_le hZ hG
  refine g_calli (N := nW) [.int (iZ (1))] hA C hNs nW_ok (cc_changesBeyond l D G X Q P PA T st nn Z cx rx us 1 hZ hus (by omega) hT) (cwV 1 C.1.2.2.2.2 (wC_V kX0_138 nX0_changesBeyond slX0_changesBeyond iniX0 cdX0_changesBeyond) rfl rfl rfl (by decide +kernel) ⟨Nat.le_of_ble_eq_true rfl, Nat.le_of_ble_eq_true rfl⟩) (q0 := 0) rfl rfl rfl rfl ⟨by show 0 + 0 ≤ 1078; omega, by show 0 + 0 ≤ 401408; omega⟩ (Nat.le_of_ble_eq_true rfl) dX0_changesBelowAll_2 [.int (iZ (1)), .ref cx] rfl (fun r v1 hv1 => ?_)
  obtain ⟨st1, nn1, e1, f1, rfl, hZ1, hH1, rfl⟩ := hv1
  have hG1 := pG_trans hG hH1
  refine w_cs (0 + e1) (0 + f1) rfl rfl ?_
  have hle := pG_le hZ1 hG1
  exact g_iret hsz hhs C hr hlk ⟨by omega, by omega⟩ (⟨_, _, _, _, rfl, hZ1, hG1, rfl⟩) dX0_changesBelowAll_5
set_option maxHeartbeats 4000000 in
set_option maxRecDepth 100000 in
/-- allRoots -/
theorem cc_allRoots (l : Launch) (D : va_G) (G : Nat → ClassId) (X : va_W) (Q P PA T : Nat → Nat) (st : Nat → va_W) (nn : Nat → Nat) (Z : Nat → Int) (cx rx us : Nat) (hZ : pAll G Q st nn Z) (hus : us ≤ 10) (hT : ∀ k : Nat, k < 12 → T k ≤ pN k) (sz hs : Nat) : Met l yX0_allRoots (wC yX0_allRoots cX0_allRoots 1 (some .int)) ({ frames := 1, cells := 1078, slots := 401408, locals := 26 }) (va_Pc [.ref cx] (cPre nW D G ((cx, .inr (0, [.ref rx, .int (iZ ((us : Int))), .ref (P 10), .ref (Q 77), .ref (Q 78), .ref (Q 79), .ref (Q 80), .ref (Q 81), .ref (Q 82), .ref (Q 83)])) :: (rx, .inl (G 5, 10, .inr (.inr (.inr (.inr (fun i => some (P i))))))) :: ((fp G Q P PA T ++ X) ++ pl st) : va_W) sz hs)) (va_Qi (fun (r : Int32) (u : cS) => ∃ (st1 : Nat → va_W) (nn1 : Nat → Nat) (c1 s1 : Nat), r = iZ (((vc (lS Z T 1) us : Nat) : Int) - ((vc (lS Z T 0) us : Nat) : Int)) ∧ pAll G Q st1 nn1 (Z) ∧ pG (pC nn) (pS nn) nn1 c1 s1 ∧ u = (((cx, .inr (0, [.ref rx, .int (iZ ((us : Int))), .ref (P 10), .ref (Q 77), .ref (Q 78), .ref (Q 79), .ref (Q 80), .ref (Q 81), .ref (Q 82), .ref (Q 83)])) :: (rx, .inl (G 5, 10, .inr (.inr (.inr (.inr (fun i => some (P i))))))) :: ((fp G Q P PA T ++ X) ++ pl st1) : va_W), c1, s1)) (cAt D G (va_A ((cx, .inr (0, [.ref rx, .int (iZ ((us : Int))), .ref (P 10), .ref (Q 77), .ref (Q 78), .ref (Q 79), .ref (Q 80), .ref (Q 81), .ref (Q 82), .ref (Q 83)])) :: (rx, .inl (G 5, 10, .inr (.inr (.inr (.inr (fun i => some (P i))))))) :: ((fp G Q P PA T ++ X) ++ pl st) : va_W) sz) sz hs) (va_A ((cx, .inr (0, [.ref rx, .int (iZ ((us : Int))), .ref (P 10), .ref (Q 77), .ref (Q 78), .ref (Q 79), .ref (Q 80), .ref (Q 81), .ref (Q 82), .ref (Q 83)])) :: (rx, .inl (G 5, 10, .inr (.inr (.inr (.inr (fun i => some (P i))))))) :: ((fp G Q P PA T ++ X) ++ pl st) : va_W) sz)) 1078 401408 (va_A ((cx, .inr (0, [.ref rx, .int (iZ ((us : Int))), .ref (P 10), .ref (Q 77), .ref (Q 78), .ref (Q 79), .ref (Q 80), .ref (Q 81), .ref (Q 82), .ref (Q 83)])) :: (rx, .inl (G 5, 10, .inr (.inr (.inr (.inr (fun i => some (P i))))))) :: ((fp G Q P PA T ++ X) ++ pl st) : va_W) sz) := by
  refine g_met (cc := cX0_allRoots) (maxL := 1) (ret := (some .int)) (own := RX0) (by decide) rfl rfl (Nat.le_of_ble_eq_true rfl) ?_
  intro p e s m below meth c hsz hhs hNs hA C hr hlk
  refine w_sub [(0, .ref cx)] [0] rfl ?_
  have hG : pG (pC nn) (pS nn) nn 0 0 := ⟨Nat.le_of_eq (Nat.zero_add _), Nat.le_of_eq (Nat.zero_add _)⟩
  refine w_aload_n C dX0_allRoots_0 0 rfl ?_
  refine w_iconst C dX0_allRoots_1 ?_
  have hle1 := pG_le hZ hG
  refine g_calli (N := nW) [.int (iZ (1))] hA C hNs nW_ok (cc_changesBeyond l D G X Q P PA T st nn Z cx rx us 1 hZ hus (by omega) hT) (cwV 1 C.1.2.2.2.2 (wC_V kX0_138 nX0_changesBeyond slX0_changesBeyond iniX0 cdX0_changesBeyond) rfl rfl rfl (by decide +kernel) ⟨Nat.le_of_ble_eq_true rfl, Nat.le_of_ble_eq_true rfl⟩) (q0 := 0) rfl rfl rfl rfl ⟨by show 0 + 0 ≤ 1078; omega, by show 0 + 0 ≤ 401408; omega⟩ (Nat.le_of_ble_eq_true rfl) dX0_allRoots_2 [.int (iZ (1)), .ref cx] rfl (fun r v1 hv1 => ?_)
  obtain ⟨st1, nn1, e1, f1, rfl, hZ1, hH1, rfl⟩ := hv1
  have hG1 := pG_trans hG hH1
  refine w_cs (0 + e1) (0 + f1) rfl rfl ?_
  refine w_aload_n C dX0_allRoots_5 0 rfl ?_
  refine w_iconst C dX0_allRoots_6 ?_
  have hle2 := pG_le hZ1 hG1
  refine g_calli (N := nW) [.int (iZ (0))] hA C hNs nW_ok (cc_changesBeyond l D G X Q P PA T st1 nn1 Z cx rx us 0 hZ1 hus (by omega) hT) (cwV 1 C.1.2.2.2.2 (wC_V kX0_138 nX0_changesBeyond slX0_changesBeyond iniX0 cdX0_changesBeyond) rfl rfl rfl (by decide +kernel) ⟨Nat.le_of_ble_eq_true rfl, Nat.le_of_ble_eq_true rfl⟩) (q0 := 0) rfl rfl rfl rfl ⟨by show (0 + e1) + 0 ≤ 1078; omega, by show (0 + f1) + 0 ≤ 401408; omega⟩ (Nat.le_of_ble_eq_true rfl) dX0_allRoots_7 [.int (iZ (0)), .ref cx, .int (iZ (((vc (lS Z T 1) us : Nat) : Int)))] rfl (fun r v2 hv2 => ?_)
  obtain ⟨st2, nn2, e2, f2, rfl, hZ2, hH2, rfl⟩ := hv2
  have hG2 := pG_trans hG1 hH2
  refine w_cs ((0 + e1) + e2) ((0 + f1) + f2) rfl rfl ?_
  refine w_isub C dX0_allRoots_10 ?_
  have hle := pG_le hZ2 hG2
  exact g_iret hsz hhs C hr hlk ⟨by omega, by omega⟩ (⟨_, _, _, _, rfl, hZ2, hG2, rfl⟩) dX0_allRoots_11
