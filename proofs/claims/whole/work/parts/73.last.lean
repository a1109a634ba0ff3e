theorem dp_top {F : Nat → Int} {N n : Nat} (h : tpN F n N) (h2 : 1 ≤ N) : tpN (dp F) (n - 1) (N - 1) := ⟨by have := h.1; omega, fun i h3 h4 => by unfold dp; rw [h.2.1 (i + 1) (by omega) (by omega), Int.zero_mul], fun i hi h9 => by
  unfold dp at h9
  rcases Int.mul_eq_zero.1 h9 with q | q
  · exact h.2.2 (i + 1) (by omega) q
  · omega⟩
theorem lb_dp {F : Nat → Int} {i : Nat} (h : ∀ i : Nat, lb (F i * 16) 4) (hi : i < 9) : lb (dp F i) 4 := by
  have h1 := h (i + 1)
  unfold dp
  have e : i = 0 ∨ i = 1 ∨ i = 2 ∨ i = 3 ∨ i = 4 ∨ i = 5 ∨ i = 6 ∨ i = 7 ∨ i = 8 := by omega
  unfold lb at *
  rcases e with rfl | rfl | rfl | rfl | rfl | rfl | rfl | rfl | rfl <;> omega
theorem lb_d16 {x : Int} (h : lb (x * 16) 4) : lb x 4 := by
  unfold lb at *
  omega
set_option maxHeartbeats 4000000 in
set_option maxRecDepth 100000 in
/-- startLast -/
theorem cc_startLast (l : Launch) (D : va_G) (G : Nat → ClassId) (X : va_W) (Q P PA T : Nat → Nat) (st : Nat → va_W) (nn : Nat → Nat) (Z : Nat → Int) (cx rx us : Nat) (F : Nat → Int) (hZ : pAll G Q st nn Z) (hus : 2 ≤ us) (hch : chn Z T us) (hTL : 2 ≤ T (us - 1)) (hF : ∀ i : Nat, i < T (us - 1) → Z (pB (us - 1) + i) * (Z (pB 0 + (T 0 - 1))) = F i * (Z (pB (us - 1) + (T (us - 1) - 1)))) (hFz : ∀ i : Nat, T (us - 1) ≤ i → F i = 0) (hFb : ∀ i : Nat, lb (F i * 16) 4) (hcl : (Z (pB (us - 1) + (T (us - 1) - 1))) ≠ 0) (sz hs : Nat) : Met l yX0_startLast (wC yX0_startLast cX0_startLast 4 none) ({ frames := 5, cells := 4312, slots := 1605632, locals := 139 }) (va_Pc [.ref cx] (cPre nW D G ((cx, .inr (0, [.ref rx, .int (iZ ((us : Int))), .ref (P 10), .ref (Q 77), .ref (Q 78), .ref (Q 79), .ref (Q 80), .ref (Q 81), .ref (Q 82), .ref (Q 83)])) :: (rx, .inl (G 5, 10, .inr (.inr (.inr (.inr (fun i => some (P i))))))) :: ((fp G Q P PA T ++ X) ++ pl st) : va_W) sz hs)) (va_Qv (fun (u : cS) => ∃ (st1 : Nat → va_W) (nn1 : Nat → Nat) (c1 s1 : Nat) (Z1 : Nat → Int) (T1 : Nat → Nat) (us1 : Nat), (chn Z1 T1 us1 ∧ zr Z1 T1 0 = F ∧ zr Z1 T1 1 = dp F ∧ (∀ q : Nat, 84 ≤ q → Z1 q = Z q) ∧ ∀ j : Nat, 11 ≤ j → T1 j = T j) ∧ pAll G Q st1 nn1 (Z1) ∧ pG (pC nn) (pS nn) nn1 c1 s1 ∧ u = (((cx, .inr (0, [.ref rx, .int (iZ ((us1 : Int))), .ref (P 10), .ref (Q 77), .ref (Q 78), .ref (Q 79), .ref (Q 80), .ref (Q 81), .ref (Q 82), .ref (Q 83)])) :: (rx, .inl (G 5, 10, .inr (.inr (.inr (.inr (fun i => some (P i))))))) :: ((fp G Q P PA T1 ++ X) ++ pl st1) : va_W), c1, s1)) (cAt D G (va_A ((cx, .inr (0, [.ref rx, .int (iZ ((us : Int))), .ref (P 10), .ref (Q 77), .ref (Q 78), .ref (Q 79), .ref (Q 80), .ref (Q 81), .ref (Q 82), .ref (Q 83)])) :: (rx, .inl (G 5, 10, .inr (.inr (.inr (.inr (fun i => some (P i))))))) :: ((fp G Q P PA T ++ X) ++ pl st) : va_W) sz) sz hs) (va_A ((cx, .inr (0, [.ref rx, .int (iZ ((us : Int))), .ref (P 10), .ref (Q 77), .ref (Q 78), .ref (Q 79), .ref (Q 80), .ref (Q 81), .ref (Q 82), .ref (Q 83)])) :: (rx, .inl (G 5, 10, .inr (.inr (.inr (.inr (fun i => some (P i))))))) :: ((fp G Q P PA T ++ X) ++ pl st) : va_W) sz)) 4312 1605632 (va_A ((cx, .inr (0, [.ref rx, .int (iZ ((us : Int))), .ref (P 10), .ref (Q 77), .ref (Q 78), .ref (Q 79), .ref (Q 80), .ref (Q 81), .ref (Q 82), .ref (Q 83)])) :: (rx, .inl (G 5, 10, .inr (.inr (.inr (.inr (fun i => some (P i))))))) :: ((fp G Q P PA T ++ X) ++ pl st) : va_W) sz) := by
  refine g_met (cc := cX0_startLast) (maxL := 4) (ret := none) (own := RX0) (by decide) rfl rfl (Nat.le_of_ble_eq_true rfl) ?_
  intro p e s m below meth c hsz hhs hNs hA C hr hlk
  refine w_sub [(0, .ref cx)] [0] rfl ?_
  have hG : pG (pC nn) (pS nn) nn 0 0 := ⟨Nat.le_of_eq (Nat.zero_add _), Nat.le_of_eq (Nat.zero_add _)⟩
  have hpB0 : pB 0 = 0 := rfl
  obtain ⟨hT, hlnk, hlb95, hus1, hu0, hu1, hT0, hT10, hl0, hl1⟩ := id hch
  have hpL := pB_r (j := us - 1) (by omega)
  have hTLn := hT (us - 1) (by omega)
  have hT016 : T 0 ≤ 16 := hT 0 (by omega)
  have hc0 : (Z (pB 0 + (T 0 - 1))) ≠ 0 := by rw [zr_in (by omega)] at hl0; exact hl0
  have hTL9 : T (us - 1) ≤ 9 := by
    have h9 : ∀ j : Fin 10, 1 ≤ j.val → pN j.val ≤ 9 := by decide
    exact Nat.le_trans hTLn (h9 ⟨us - 1, by omega⟩ (by show 1 ≤ us - 1; omega))
  have hL61 : pB (us - 1) + pN (us - 1) ≤ 61 := by
    have h9 : ∀ j : Fin 10, pB j.val + pN j.val ≤ 61 := by decide
    exact h9 ⟨us - 1, by omega⟩
  have hFl : F (T (us - 1) - 1) = (Z (pB 0 + (T 0 - 1))) := by
    have h9 := hF (T (us - 1) - 1) (by omega)
    rw [Int.mul_comm] at h9
    exact (Int.eq_of_mul_eq_mul_right hcl h9).symm
  have hFtp : ∀ n : Nat, T (us - 1) ≤ n → tpN F n (T (us - 1)) := fun n hn => ⟨hn, fun i h3 _ => hFz i h3, fun i hi => by rw [show i = T (us - 1) - 1 by omega, hFl]; exact hc0⟩
  refine w_aload_n C dX0_startLast_0 0 rfl ?_
  have hle1 := pG_le hZ hG
  refine g_callr (N := nW) [] hA C hNs nW_ok (cc_last l D G X Q P PA T st nn Z cx rx us hZ (by omega)) (cwV 0 C.1.2.2.2.2 (wC_V kX0_53 nX0_last slX0_last iniX0 cdX0_last) rfl rfl rfl (by decide +kernel) ⟨Nat.le_of_ble_eq_true rfl, Nat.le_of_ble_eq_true rfl⟩) (q0 := 0) rfl rfl rfl rfl ⟨by show 0 + 0 ≤ 4312; omega, by show 0 + 0 ≤ 1605632; omega⟩ (Nat.le_of_ble_eq_true rfl) dX0_startLast_1 [.ref cx] rfl (fun v1 hv1 => ?_)
  obtain ⟨st1, nn1, e1, f1, hZ1, hH1, rfl⟩ := hv1
  have hG1 := pG_trans hG hH1
  refine w_cs (0 + e1) (0 + f1) rfl rfl ?_
  refine w_astore_n C [(1, .ref (P (us - 1))), (0, .ref cx)] dX0_startLast_4 rfl (by decide) rfl ?_
  refine w_aload_n C dX0_startLast_5 0 rfl ?_
  refine c_top C ((cx, .inr (0, [.ref rx, .int (iZ ((us : Int))), .ref (P 10), .ref (Q 77), .ref (Q 78), .ref (Q 79), .ref (Q 80), .ref (Q 81), .ref (Q 82), .ref (Q 83)])) :: (rx, .inl (G 5, 10, .inr (.inr (.inr (.inr (fun i => some (P i))))))) :: [] : va_W) X (fun w h => wC_in (inX2 w h)) ((us - 1)) (by omega) hNs.2.2.2.2.2.2.1 dX0_startLast_6 ?_
  refine w_if_lt C 24 dX0_startLast_9 (by decide) ⟨by omega, by omega⟩ (fun c9 => ?_) (fun c9 => ?_)
  · exact absurd c9 (by omega)
  · refine w_aload_n C dX0_startLast_12 1 rfl ?_
    refine w_get (ci := 0) (ref := "RootIsolator$Chain") (T := TX0) (Cn := RX0) (N := 10) C (fun w h => wC_in (inX0 w h)) 0 rfl rfl 0 (by decide) (wC_in fX0_13) rfl rfl dX0_startLast_13 ?_
    refine w_iconst C dX0_startLast_16 ?_
    refine w_aald (n := 10) (f := (fun i => some (P i))) C 1 5 rfl rfl rfl (0) ⟨by omega, by omega, by omega⟩ (rfl) dX0_startLast_17 ?_
    refine c_top C ((cx, .inr (0, [.ref rx, .int (iZ ((us : Int))), .ref (P 10), .ref (Q 77), .ref (Q 78), .ref (Q 79), .ref (Q 80), .ref (Q 81), .ref (Q 82), .ref (Q 83)])) :: (rx, .inl (G 5, 10, .inr (.inr (.inr (.inr (fun i => some (P i))))))) :: [] : va_W) X (fun w h => wC_in (inX2 w h)) (0) (by omega) hNs.2.2.2.2.2.2.1 dX0_startLast_18 ?_
    refine w_if_ge C 25 dX0_startLast_21 (by decide) ⟨by omega, by omega⟩ (fun c21 => ?_) (fun c21 => ?_)
    · refine w_aload_n C dX0_startLast_25 1 rfl ?_
      refine w_get (ci := 0) (ref := "RootIsolator$Chain") (T := TX0) (Cn := RX0) (N := 10) C (fun w h => wC_in (inX0 w h)) 0 rfl rfl 7 (by decide) (wC_in fX0_44) rfl rfl dX0_startLast_26 ?_
      refine w_aload_n C dX0_startLast_29 1 rfl ?_
      refine w_get (ci := 0) (ref := "RootIsolator$Chain") (T := TX0) (Cn := RX0) (N := 10) C (fun w h => wC_in (inX0 w h)) 0 rfl rfl 0 (by decide) (wC_in fX0_13) rfl rfl dX0_startLast_30 ?_
      refine w_iconst C dX0_startLast_33 ?_
      refine w_aald (n := 10) (f := (fun i => some (P i))) C 1 5 rfl rfl rfl (0) ⟨by omega, by omega, by omega⟩ (rfl) dX0_startLast_34 ?_
      refine c_parts C ((cx, .inr (0, [.ref rx, .int (iZ ((us : Int))), .ref (P 10), .ref (Q 77), .ref (Q 78), .ref (Q 79), .ref (Q 80), .ref (Q 81), .ref (Q 82), .ref (Q 83)])) :: (rx, .inl (G 5, 10, .inr (.inr (.inr (.inr (fun i => some (P i))))))) :: [] : va_W) X (fun w h => wC_in (inX2 w h)) (0) (by omega) hNs.2.2.2.2.1 dX0_startLast_35 ?_
      refine w_aload_n C dX0_startLast_38 1 rfl ?_
      refine w_get (ci := 0) (ref := "RootIsolator$Chain") (T := TX0) (Cn := RX0) (N := 10) C (fun w h => wC_in (inX0 w h)) 0 rfl rfl 0 (by decide) (wC_in fX0_13) rfl rfl dX0_startLast_39 ?_
      refine w_iconst C dX0_startLast_42 ?_
      refine w_aald (n := 10) (f := (fun i => some (P i))) C 1 5 rfl rfl rfl (0) ⟨by omega, by omega, by omega⟩ (rfl) dX0_startLast_43 ?_
      refine c_top C ((cx, .inr (0, [.ref rx, .int (iZ ((us : Int))), .ref (P 10), .ref (Q 77), .ref (Q 78), .ref (Q 79), .ref (Q 80), .ref (Q 81), .ref (Q 82), .ref (Q 83)])) :: (rx, .inl (G 5, 10, .inr (.inr (.inr (.inr (fun i => some (P i))))))) :: [] : va_W) X (fun w h => wC_in (inX2 w h)) (0) (by omega) hNs.2.2.2.2.2.2.1 dX0_startLast_44 ?_
      refine c_elem C ((cx, .inr (0, [.ref rx, .int (iZ ((us : Int))), .ref (P 10), .ref (Q 77), .ref (Q 78), .ref (Q 79), .ref (Q 80), .ref (Q 81), .ref (Q 82), .ref (Q 83)])) :: (rx, .inl (G 5, 10, .inr (.inr (.inr (.inr (fun i => some (P i))))))) :: [] : va_W) X (0) (by omega) (T 0 - 1) ⟨by omega, by show _ < 16; omega⟩ dX0_startLast_47 ?_
      refine p_copy hA C ((cx, .inr (0, [.ref rx, .int (iZ ((us : Int))), .ref (P 10), .ref (Q 77), .ref (Q 78), .ref (Q 79), .ref (Q 80), .ref (Q 81), .ref (Q 82), .ref (Q 83)])) :: (rx, .inl (G 5, 10, .inr (.inr (.inr (.inr (fun i => some (P i))))))) :: (fp G Q P PA T ++ X) : va_W) hZ1 hG1 (81) (pB 0 + (T 0 - 1)) (by omega) (by omega) (by omega) (lb_le (hlb95 0 (by omega) _ (by omega)) (by omega)) (cwV 1 C.1.2.2.2.2 (wC_V kX0_93 nX3_copy slX3_copy iniX3 cdX3_copy) rfl rfl rfl (by decide +kernel) ⟨Nat.le_of_ble_eq_true rfl, Nat.le_of_ble_eq_true rfl⟩) ⟨Nat.le_of_ble_eq_true rfl, Nat.le_of_ble_eq_true rfl⟩ (Nat.le_of_ble_eq_true rfl) dX0_startLast_48 (fun st2 nn2 c2 s2 hZ2 hG2 => ?_)
      obtain ⟨Zs, hZs⟩ : ∃ x : Nat → Int, x = (qu Z 81 (Z (pB 0 + (T 0 - 1)))) := ⟨_, rfl⟩
      rw [← hZs] at hZ2
      have hZs81 : Zs 81 = (Z (pB 0 + (T 0 - 1))) := by rw [hZs, qu_same]
      have hZso : ∀ q : Nat, q ≠ 81 → Zs q = Z q := fun q hq => by rw [hZs, qu_other _ _ hq]
      refine w_aload_n C dX0_startLast_51 1 rfl ?_
      refine w_get (ci := 0) (ref := "RootIsolator$Chain") (T := TX0) (Cn := RX0) (N := 10) C (fun w h => wC_in (inX0 w h)) 0 rfl rfl 5 (by decide) (wC_in fX0_38) rfl rfl dX0_startLast_52 ?_
      refine w_aload_n C dX0_startLast_55 0 rfl ?_
      refine c_parts C ((cx, .inr (0, [.ref rx, .int (iZ ((us : Int))), .ref (P 10), .ref (Q 77), .ref (Q 78), .ref (Q 79), .ref (Q 80), .ref (Q 81), .ref (Q 82), .ref (Q 83)])) :: (rx, .inl (G 5, 10, .inr (.inr (.inr (.inr (fun i => some (P i))))))) :: [] : va_W) X (fun w h => wC_in (inX2 w h)) ((us - 1)) (by omega) hNs.2.2.2.2.1 dX0_startLast_56 ?_
      refine w_aload_n C dX0_startLast_59 0 rfl ?_
      refine c_top C ((cx, .inr (0, [.ref rx, .int (iZ ((us : Int))), .ref (P 10), .ref (Q 77), .ref (Q 78), .ref (Q 79), .ref (Q 80), .ref (Q 81), .ref (Q 82), .ref (Q 83)])) :: (rx, .inl (G 5, 10, .inr (.inr (.inr (.inr (fun i => some (P i))))))) :: [] : va_W) X (fun w h => wC_in (inX2 w h)) ((us - 1)) (by omega) hNs.2.2.2.2.2.2.1 dX0_startLast_60 ?_
      refine c_elem C ((cx, .inr (0, [.ref rx, .int (iZ ((us : Int))), .ref (P 10), .ref (Q 77), .ref (Q 78), .ref (Q 79), .ref (Q 80), .ref (Q 81), .ref (Q 82), .ref (Q 83)])) :: (rx, .inl (G 5, 10, .inr (.inr (.inr (.inr (fun i => some (P i))))))) :: [] : va_W) X ((us - 1)) (by omega) (T (us - 1) - 1) ⟨by omega, by omega⟩ dX0_startLast_63 ?_
      refine p_copy hA C ((cx, .inr (0, [.ref rx, .int (iZ ((us : Int))), .ref (P 10), .ref (Q 77), .ref (Q 78), .ref (Q 79), .ref (Q 80), .ref (Q 81), .ref (Q 82), .ref (Q 83)])) :: (rx, .inl (G 5, 10, .inr (.inr (.inr (.inr (fun i => some (P i))))))) :: (fp G Q P PA T ++ X) : va_W) hZ2 hG2 (79) (pB (us - 1) + (T (us - 1) - 1)) (by omega) (by omega) (by omega) (by rw [hZso _ (by omega)]; exact lb_le (hlb95 (us - 1) (by omega) _ (by omega)) (by omega)) (cwV 1 C.1.2.2.2.2 (wC_V kX0_93 nX3_copy slX3_copy iniX3 cdX3_copy) rfl rfl rfl (by decide +kernel) ⟨Nat.le_of_ble_eq_true rfl, Nat.le_of_ble_eq_true rfl⟩) ⟨Nat.le_of_ble_eq_true rfl, Nat.le_of_ble_eq_true rfl⟩ (Nat.le_of_ble_eq_true rfl) dX0_startLast_64 (fun st3 nn3 c3 s3 hZ3 hG3 => ?_)
      rw [show (qu Zs 79 (Zs (pB (us - 1) + (T (us - 1) - 1)))) = (qu Zs 79 (Z (pB (us - 1) + (T (us - 1) - 1)))) from by rw [hZso _ (by omega)]] at hZ3
      refine w_aload_n C dX0_startLast_67 1 rfl ?_
      refine w_get (ci := 0) (ref := "RootIsolator$Chain") (T := TX0) (Cn := RX0) (N := 10) C (fun w h => wC_in (inX0 w h)) 0 rfl rfl 5 (by decide) (wC_in fX0_38) rfl rfl dX0_startLast_68 ?_
      refine p_makeOdd hA C ((cx, .inr (0, [.ref rx, .int (iZ ((us : Int))), .ref (P 10), .ref (Q 77), .ref (Q 78), .ref (Q 79), .ref (Q 80), .ref (Q 81), .ref (Q 82), .ref (Q 83)])) :: (rx, .inl (G 5, 10, .inr (.inr (.inr (.inr (fun i => some (P i))))))) :: (fp G Q P PA T ++ X) : va_W) hZ3 hG3 (79) (by omega)  (cwV 0 C.1.2.2.2.2 (wC_V kX0_97 nX3_makeOdd slX3_makeOdd iniX3 cdX3_makeOdd) rfl rfl rfl (by decide +kernel) ⟨Nat.le_of_ble_eq_true rfl, Nat.le_of_ble_eq_true rfl⟩) ⟨Nat.le_of_ble_eq_true rfl, Nat.le_of_ble_eq_true rfl⟩ (Nat.le_of_ble_eq_true rfl) dX0_startLast_71 (fun st4 nn4 c4 s4 bt y hbt hyv hyo hZ4 hG4 => ?_)
      rw [show (qu (qu Zs 79 (Z (pB (us - 1) + (T (us - 1) - 1)))) 79 y) = (qu Zs 79 y) from qu_qu _ _ _ _] at hZ4
      rw [qu_same] at hyv hyo
      have hyo2 := hyo hcl
      obtain ⟨Zt, hZt⟩ : ∃ x : Nat → Int, x = (qu Zs 79 y) := ⟨_, rfl⟩
      rw [← hZt] at hZ4
      have hZt79 : Zt 79 = y := by rw [hZt, qu_same]
      have hZt81 : Zt 81 = (Z (pB 0 + (T 0 - 1))) := by rw [hZt, qu_other _ _ (by omega), hZs81]
      have hZto : ∀ q : Nat, q ≠ 79 → q ≠ 81 → Zt q = Z q := fun q h3 h4 => by rw [hZt, qu_other _ _ h3, hZso q h4]
      refine w_istore_n C [(2, .int (iZ ((bt : Int)))), (1, .ref (P (us - 1))), (0, .ref cx)] dX0_startLast_74 rfl (by decide) rfl ?_
      refine w_aload_n C dX0_startLast_75 2 rfl ?_
      refine w_get (ci := 0) (ref := "RootIsolator$Chain") (T := TX0) (Cn := RX0) (N := 10) C (fun w h => wC_in (inX0 w h)) 0 rfl rfl 2 (by decide) (wC_in fX0_24) rfl rfl dX0_startLast_76 ?_
      refine w_aload_n C dX0_startLast_79 1 rfl ?_
      refine c_copy hA C hNs ((cx, .inr (0, [.ref rx, .int (iZ ((us : Int))), .ref (P 10), .ref (Q 77), .ref (Q 78), .ref (Q 79), .ref (Q 80), .ref (Q 81), .ref (Q 82), .ref (Q 83)])) :: (rx, .inl (G 5, 10, .inr (.inr (.inr (.inr (fun i => some (P i))))))) :: [] : va_W) X hZ4 hG4 10 (us - 1) (by omega) (by omega) (by omega) ⟨hTLn, by show _ ≤ 16; omega⟩ (fun q hq => by rw [hZto _ (by omega) (by omega)]; exact lb_le (hlb95 (us - 1) (by omega) q hq) (by omega)) (cwV 1 C.1.2.2.2.2 (wC_V kX0_101 nX2_copy slX2_copy iniX2 cdX2_copy) rfl rfl rfl (by decide +kernel) ⟨Nat.le_of_ble_eq_true rfl, Nat.le_of_ble_eq_true rfl⟩) ⟨Nat.le_of_ble_eq_true rfl, Nat.le_of_ble_eq_true rfl⟩ (Nat.le_of_ble_eq_true rfl) dX0_startLast_80 (fun st5 nn5 c5 s5 N5 htp5 hZ5 hG5 => ?_)
      have hN1 : N5 = T (us - 1) := tpN_uniq htp5 (ex_tp (by show _ ≤ 16; omega) (fun i hi => by rw [hZto _ (by omega) (by omega), show i = T (us - 1) - 1 by omega]; exact hcl))
      obtain ⟨Zr, hZr⟩ : ∃ x : Nat → Int, x = (sP Zt (pB 10) (pN 10) (fun q => if q < T (us - 1) then Zt (pB (us - 1) + q) else 0)) := ⟨_, rfl⟩
      rw [← hZr] at hZ5
      obtain ⟨Tr, hTr⟩ : ∃ x : Nat → Nat, x = (qu T 10 N5) := ⟨_, rfl⟩
      rw [← hTr]
      have hTr10 : Tr 10 = T (us - 1) := by rw [hTr, qu_same, hN1]
      have hTro : ∀ j : Nat, j ≠ 10 → Tr j = T j := fun j hj => by rw [hTr, qu_other _ _ hj]
      have hZrr : ∀ i : Nat, i < 16 → Zr (61 + i) = (if i < T (us - 1) then Z (pB (us - 1) + i) else 0) := fun i hi => by
        rw [hZr]
        refine (sP_in _ _ hi).trans ?_
        by_cases q : i < T (us - 1)
        · rw [if_pos q, if_pos q, hZto _ (by omega) (by omega)]
        · rw [if_neg q, if_neg q]
      have hZro : ∀ q : Nat, q < 61 ∨ 77 ≤ q → Zr q = Zt q := fun q hq => by rw [hZr]; exact sP_out _ _ (by show q < 61 ∨ 61 + 16 ≤ q; omega)
      refine w_iconst C dX0_startLast_83 ?_
      refine w_istore_n C [(3, .int (iZ (0))), (2, .int (iZ ((bt : Int)))), (1, .ref (P (us - 1))), (0, .ref cx)] dX0_startLast_84 rfl (by decide) rfl ?_
      have lp : ∀ (d : Nat) (k : Nat) (sti : Nat → va_W) (nni : Nat → Nat) (ci : Nat) (si : Nat), T (us - 1) < k + d → k ≤ T (us - 1) → pAll G Q sti nni (sP Zr 61 16 (fun i => if i < k then F i else Zr (61 + i))) → pG (pC nn) (pS nn) nni ci si → ZW p l e ({ frames := 5, cells := 4312, slots := 1605632, locals := 139 }) s m ([.ref cx] : List Value).toArray below meth c D (va_A ((cx, .inr (0, [.ref rx, .int (iZ ((us : Int))), .ref (P 10), .ref (Q 77), .ref (Q 78), .ref (Q 79), .ref (Q 80), .ref (Q 81), .ref (Q 82), .ref (Q 83)])) :: (rx, .inl (G 5, 10, .inr (.inr (.inr (.inr (fun i => some (P i))))))) :: ((fp G Q P PA T ++ X) ++ pl st) : va_W) sz) 4 ci si (MQ below (va_Qv (fun (u : cS) => ∃ (st1 : Nat → va_W) (nn1 : Nat → Nat) (c1 s1 : Nat) (Z1 : Nat → Int) (T1 : Nat → Nat) (us1 : Nat), (chn Z1 T1 us1 ∧ zr Z1 T1 0 = F ∧ zr Z1 T1 1 = dp F ∧ (∀ q : Nat, 84 ≤ q → Z1 q = Z q) ∧ ∀ j : Nat, 11 ≤ j → T1 j = T j) ∧ pAll G Q st1 nn1 (Z1) ∧ pG (pC nn) (pS nn) nn1 c1 s1 ∧ u = (((cx, .inr (0, [.ref rx, .int (iZ ((us1 : Int))), .ref (P 10), .ref (Q 77), .ref (Q 78), .ref (Q 79), .ref (Q 80), .ref (Q 81), .ref (Q 82), .ref (Q 83)])) :: (rx, .inl (G 5, 10, .inr (.inr (.inr (.inr (fun i => some (P i))))))) :: ((fp G Q P PA T1 ++ X) ++ pl st1) : va_W), c1, s1)) (cAt D G (va_A ((cx, .inr (0, [.ref rx, .int (iZ ((us : Int))), .ref (P 10), .ref (Q 77), .ref (Q 78), .ref (Q 79), .ref (Q 80), .ref (Q 81), .ref (Q 82), .ref (Q 83)])) :: (rx, .inl (G 5, 10, .inr (.inr (.inr (.inr (fun i => some (P i))))))) :: ((fp G Q P PA T ++ X) ++ pl st) : va_W) sz) sz hs) (va_A ((cx, .inr (0, [.ref rx, .int (iZ ((us : Int))), .ref (P 10), .ref (Q 77), .ref (Q 78), .ref (Q 79), .ref (Q 80), .ref (Q 81), .ref (Q 82), .ref (Q 83)])) :: (rx, .inl (G 5, 10, .inr (.inr (.inr (.inr (fun i => some (P i))))))) :: ((fp G Q P PA T ++ X) ++ pl st) : va_W) sz)) ([.ref cx] : List Value).toArray s 4312 1605632 (va_A ((cx, .inr (0, [.ref rx, .int (iZ ((us : Int))), .ref (P 10), .ref (Q 77), .ref (Q 78), .ref (Q 79), .ref (Q 80), .ref (Q 81), .ref (Q 82), .ref (Q 83)])) :: (rx, .inl (G 5, 10, .inr (.inr (.inr (.inr (fun i => some (P i))))))) :: ((fp G Q P PA T ++ X) ++ pl st) : va_W) sz)) ((cx, .inr (0, [.ref rx, .int (iZ ((us : Int))), .ref (P 10), .ref (Q 77), .ref (Q 78), .ref (Q 79), .ref (Q 80), .ref (Q 81), .ref (Q 82), .ref (Q 83)])) :: (rx, .inl (G 5, 10, .inr (.inr (.inr (.inr (fun i => some (P i))))))) :: ((fp G Q P PA Tr ++ X) ++ pl sti) : va_W) 85 [(3, .int (iZ ((k : Int)))), (2, .int (iZ ((bt : Int)))), (0, .ref cx), (1, .ref (P (us - 1)))] [] := by
        intro d
        induction d with
        | zero =>
          intro k sti nni ci si hd hk hZi hGi
          exact absurd hd (by omega)
        | succ d ih2 =>
          intro k sti nni ci si hd hk hZi hGi
          refine w_iload_n C dX0_startLast_85 0 rfl ?_
          refine w_aload_n C dX0_startLast_86 2 rfl ?_
          refine w_get (ci := 0) (ref := "RootIsolator$Chain") (T := TX0) (Cn := RX0) (N := 10) C (fun w h => wC_in (inX0 w h)) 0 rfl rfl 2 (by decide) (wC_in fX0_24) rfl rfl dX0_startLast_87 ?_
          refine c_top C ((cx, .inr (0, [.ref rx, .int (iZ ((us : Int))), .ref (P 10), .ref (Q 77), .ref (Q 78), .ref (Q 79), .ref (Q 80), .ref (Q 81), .ref (Q 82), .ref (Q 83)])) :: (rx, .inl (G 5, 10, .inr (.inr (.inr (.inr (fun i => some (P i))))))) :: [] : va_W) X (fun w h => wC_in (inX2 w h)) (10) (by omega) hNs.2.2.2.2.2.2.1 dX0_startLast_90 ?_
          refine w_icmp_gt C 147 dX0_startLast_93 (by decide) ⟨⟨by omega, by omega⟩, by rw [hTr10]; omega, by rw [hTr10]; omega⟩ (fun c93 => ?_) (fun c93 => ?_)
          · have hkT : k = T (us - 1) := by rw [hTr10] at c93; omega
            refine w_aload_n C dX0_startLast_147 2 rfl ?_
            refine w_get (ci := 0) (ref := "RootIsolator$Chain") (T := TX0) (Cn := RX0) (N := 10) C (fun w h => wC_in (inX0 w h)) 0 rfl rfl 0 (by decide) (wC_in fX0_13) rfl rfl dX0_startLast_148 ?_
            refine w_iconst C dX0_startLast_151 ?_
            refine w_aald (n := 10) (f := (fun i => some (P i))) C 1 5 rfl rfl rfl (0) ⟨by omega, by omega, by omega⟩ (rfl) dX0_startLast_152 ?_
            refine w_aload_n C dX0_startLast_153 2 rfl ?_
            refine w_get (ci := 0) (ref := "RootIsolator$Chain") (T := TX0) (Cn := RX0) (N := 10) C (fun w h => wC_in (inX0 w h)) 0 rfl rfl 2 (by decide) (wC_in fX0_24) rfl rfl dX0_startLast_154 ?_
            rw [hkT] at hZi
            obtain ⟨Zu, hZu⟩ : ∃ x : Nat → Int, x = (sP Zr 61 16 (fun i => if i < (T (us - 1)) then F i else Zr (61 + i))) := ⟨_, rfl⟩
            rw [← hZu] at hZi
            have hZur : ∀ i : Nat, i < T (us - 1) → Zu (61 + i) = F i := fun i hi => by rw [hZu, sP_in _ _ (by omega), if_pos hi]
            have hZuo : ∀ q : Nat, q < 61 ∨ 83 < q → Zu q = Z q := fun q hq => by rw [hZu, sP_out _ _ (by omega), hZro q (by omega), hZto q (by omega) (by omega)]
            refine c_copy hA C hNs ((cx, .inr (0, [.ref rx, .int (iZ ((us : Int))), .ref (P 10), .ref (Q 77), .ref (Q 78), .ref (Q 79), .ref (Q 80), .ref (Q 81), .ref (Q 82), .ref (Q 83)])) :: (rx, .inl (G 5, 10, .inr (.inr (.inr (.inr (fun i => some (P i))))))) :: [] : va_W) X hZi hGi 0 10 (by omega) (by omega) (by omega) ⟨by rw [hTr10]; show _ ≤ 16; omega, by rw [hTr10]; show _ ≤ 16; omega⟩ (fun q hq => by rw [hTr10] at hq; have e9 := hZur q hq; show lb (Zu (61 + q)) 1024; rw [e9]; exact lb_le (lb_d16 (hFb q)) (by omega)) (cwV 1 C.1.2.2.2.2 (wC_V kX0_101 nX2_copy slX2_copy iniX2 cdX2_copy) rfl rfl rfl (by decide +kernel) ⟨Nat.le_of_ble_eq_true rfl, Nat.le_of_ble_eq_true rfl⟩) ⟨Nat.le_of_ble_eq_true rfl, Nat.le_of_ble_eq_true rfl⟩ (Nat.le_of_ble_eq_true rfl) dX0_startLast_157 (fun st206 nn206 c206 s206 N206 htp206 hZ206 hG206 => ?_)
            have hfe : ∀ i : Nat, (if i < Tr 10 then Zu (pB 10 + i) else 0) = F i := fun i => by
              rw [hTr10]
              by_cases q : i < T (us - 1)
              · rw [if_pos q]; exact hZur i q
              · rw [if_neg q, hFz i (by omega)]
            have hN2 : N206 = T (us - 1) := tpN_uniq (tpN_ext htp206 (fun i _ => hfe i)) (hFtp 16 (by omega))
            obtain ⟨Za, hZa⟩ : ∃ x : Nat → Int, x = (sP Zu (pB 0) (pN 0) (fun q => if q < Tr 10 then Zu (pB 10 + q) else 0)) := ⟨_, rfl⟩
            rw [← hZa] at hZ206
            obtain ⟨Ta, hTa⟩ : ∃ x : Nat → Nat, x = (qu Tr 0 N206) := ⟨_, rfl⟩
            rw [← hTa]
            have hTa0 : Ta 0 = T (us - 1) := by rw [hTa, qu_same, hN2]
            have hTao : ∀ j : Nat, j ≠ 0 → j ≠ 10 → Ta j = T j := fun j hj h3 => by rw [hTa, qu_other _ _ hj, hTro j h3]
            have hTa10 : Ta 10 = T (us - 1) := by rw [hTa, qu_other _ _ (by omega), hTr10]
            have hZa0 : ∀ i : Nat, i < 16 → Za (pB 0 + i) = F i := fun i hi => by rw [hZa]; exact (sP_in _ _ hi).trans (hfe i)
            have hZao : ∀ q : Nat, 83 < q → Za q = Z q := fun q hq => by rw [hZa, sP_out _ _ (Or.inr (by show 0 + 16 ≤ q; omega)), hZuo q (by omega)]
            refine w_aload_n C dX0_startLast_160 2 rfl ?_
            refine w_get (ci := 0) (ref := "RootIsolator$Chain") (T := TX0) (Cn := RX0) (N := 10) C (fun w h => wC_in (inX0 w h)) 0 rfl rfl 0 (by decide) (wC_in fX0_13) rfl rfl dX0_startLast_161 ?_
            refine w_iconst C dX0_startLast_164 ?_
            refine w_aald (n := 10) (f := (fun i => some (P i))) C 1 5 rfl rfl rfl (1) ⟨by omega, by omega, by omega⟩ (rfl) dX0_startLast_165 ?_
            refine w_aload_n C dX0_startLast_166 2 rfl ?_
            refine w_get (ci := 0) (ref := "RootIsolator$Chain") (T := TX0) (Cn := RX0) (N := 10) C (fun w h => wC_in (inX0 w h)) 0 rfl rfl 0 (by decide) (wC_in fX0_13) rfl rfl dX0_startLast_167 ?_
            refine w_iconst C dX0_startLast_170 ?_
            refine w_aald (n := 10) (f := (fun i => some (P i))) C 1 5 rfl rfl rfl (0) ⟨by omega, by omega, by omega⟩ (rfl) dX0_startLast_171 ?_
            refine w_aload_n C dX0_startLast_172 2 rfl ?_
            refine w_get (ci := 0) (ref := "RootIsolator$Chain") (T := TX0) (Cn := RX0) (N := 10) C (fun w h => wC_in (inX0 w h)) 0 rfl rfl 9 (by decide) (wC_in fX0_50) rfl rfl dX0_startLast_173 ?_
            refine c_loadDerivative hA C hNs ((cx, .inr (0, [.ref rx, .int (iZ ((us : Int))), .ref (P 10), .ref (Q 77), .ref (Q 78), .ref (Q 79), .ref (Q 80), .ref (Q 81), .ref (Q 82), .ref (Q 83)])) :: (rx, .inl (G 5, 10, .inr (.inr (.inr (.inr (fun i => some (P i))))))) :: [] : va_W) X hZ206 hG206 1 0 83 (by omega) (by omega) (by omega) (by omega) ⟨by rw [hTa0]; show _ ≤ 16; omega, by rw [hTa0]; show _ ≤ 9 + 1; omega⟩ (fun q hq => by rw [hTa0] at hq; rw [hZa0 q (by omega)]; exact lb_le (lb_d16 (hFb q)) (by omega)) (cwV 2 C.1.2.2.2.2 (wC_V kX0_64 nX2_loadDerivative slX2_loadDerivative iniX2 cdX2_loadDerivative) rfl rfl rfl (by decide +kernel) ⟨Nat.le_of_ble_eq_true rfl, Nat.le_of_ble_eq_true rfl⟩) ⟨Nat.le_of_ble_eq_true rfl, Nat.le_of_ble_eq_true rfl⟩ (Nat.le_of_ble_eq_true rfl) dX0_startLast_176 (fun st207 nn207 c207 s207 N207 htp207 hZ207 hG207 => ?_)
            have hde : ∀ i : Nat, i < 9 → (if i + 1 < Ta 0 then Za (pB 0 + (i + 1)) * ((i + 1 : Nat) : Int) else 0) = dp F i := fun i hi => by
              unfold dp
              rw [hTa0]
              by_cases q : i + 1 < T (us - 1)
              · rw [if_pos q, hZa0 _ (by omega)]
              · rw [if_neg q, hFz (i + 1) (by omega), Int.zero_mul]
            have hdt := dp_top (hFtp 10 (by omega)) (by omega)
            have hN3 : N207 = T (us - 1) - 1 := tpN_uniq (tpN_ext htp207 (fun i hi => hde i hi)) hdt
            obtain ⟨Zb, hZb⟩ : ∃ x : Nat → Int, x = (sP (qu Za 83 (if Ta 0 ≤ 1 then Za 83 else ((Ta 0 - 1 : Nat) : Int))) (pB 1) (pN 1) (fun q => if q + 1 < Ta 0 then Za (pB 0 + (q + 1)) * ((q + 1 : Nat) : Int) else 0)) := ⟨_, rfl⟩
            rw [← hZb] at hZ207
            obtain ⟨Tb, hTb⟩ : ∃ x : Nat → Nat, x = (qu Ta 1 N207) := ⟨_, rfl⟩
            rw [← hTb]
            have hTb1 : Tb 1 = T (us - 1) - 1 := by rw [hTb, qu_same, hN3]
            have hTbo : ∀ j : Nat, j ≠ 1 → Tb j = Ta j := fun j hj => by rw [hTb, qu_other _ _ hj]
            have hTb0 : Tb 0 = T (us - 1) := by rw [hTbo 0 (by omega), hTa0]
            have hZb1 : ∀ i : Nat, i < 9 → Zb (pB 1 + i) = dp F i := fun i hi => by rw [hZb]; exact (sP_in _ _ (show i < pN 1 from hi)).trans (hde i hi)
            have hZb0 : ∀ i : Nat, i < 16 → Zb (pB 0 + i) = F i := fun i hi => by rw [hZb, sP_out _ _ (Or.inl (by show 0 + i < 16; omega)), qu_other _ _ (by show 0 + i ≠ 83; omega), hZa0 i hi]
            have hTall : ∀ j : Nat, j < 12 → Tb j ≤ pN j := fun j hj => by
              by_cases c0 : j = 0
              · rw [c0, hTb0]; show _ ≤ 16; omega
              · by_cases c1 : j = 1
                · rw [c1, hTb1]; show _ ≤ 9; omega
                · by_cases c10 : j = 10
                  · rw [c10, hTbo 10 (by omega), hTa10]; show _ ≤ 16; omega
                  · rw [hTbo j c1, hTao j c0 c10]; exact hT j hj
            have hlb4 : ∀ j : Nat, j < 2 → ∀ i : Nat, i < Tb j → lb (Zb (pB j + i)) 4 := fun j hj i hi => by
              have hj2 : j = 0 ∨ j = 1 := by omega
              rcases hj2 with rfl | rfl
              · rw [hZb0 i (by omega)]; exact lb_d16 (hFb i)
              · rw [hZb1 i (by omega)]; exact lb_dp hFb (by omega)
            have hb0 : Zb (pB 0 + (Tb 0 - 1)) ≠ 0 := by rw [hTb0, hZb0 _ (by omega), hFl]; exact hc0
            have hb1 : 1 ≤ Tb 1 → Zb (pB 1 + (Tb 1 - 1)) ≠ 0 := fun h => by rw [hTb1, hZb1 _ (by omega)]; exact hdt.2.2 _ (by omega)
            refine w_aload_n C dX0_startLast_179 2 rfl ?_
            have hle208 := pG_le hZ207 hG207
            refine g_callv (N := nW) [] hA C hNs nW_ok (cc_extend l D G X Q P PA Tb st207 nn207 Zb cx rx (iZ (us : Int)) hZ207 ⟨by omega, by omega, fun _ => by omega⟩ hTall hb0 hb1 hlb4) (cwV 0 C.1.2.2.2.2 (wC_V kX0_68 nX0_extend slX0_extend iniX0 cdX0_extend) rfl rfl rfl (by decide +kernel) ⟨Nat.le_of_ble_eq_true rfl, Nat.le_of_ble_eq_true rfl⟩) (q0 := 0) rfl rfl rfl rfl ⟨by show c207 + 3234 ≤ 4312; omega, by show s207 + 1204224 ≤ 1605632; omega⟩ (Nat.le_of_ble_eq_true rfl) dX0_startLast_180 [.ref cx] rfl (fun v208 hv208 => ?_)
            obtain ⟨st208, nn208, e208, f208, Z1208, T1208, us208, hF208, hZ208, hH208, rfl⟩ := hv208
            have hG208 := pG_trans hG207 hH208
            refine w_cs (c207 + e208) (s207 + f208) rfl rfl ?_
            have hle := pG_le hZ208 hG208
            obtain ⟨k1, k2, k3, k4, k5, k6, k7⟩ := exF_chn hF208 hTall ⟨by omega, by omega⟩ hb0 hb1
            have hr0 : zr Z1208 T1208 0 = F := by rw [k2]; exact zr_tp (by rw [hTb0]; exact hFtp 16 (by omega)) (fun i hi => hFz i (by omega)) hZb0
            have hr1 : zr Z1208 T1208 1 = dp F := by rw [k3]; exact zr_tp (by rw [hTb1]; exact hdt) (fun i hi => by unfold dp; rw [hFz (i + 1) (by omega), Int.zero_mul]) hZb1
            exact g_vret hsz hhs C hr hlk ⟨by omega, by omega⟩ (⟨_, _, _, _, Z1208, T1208, us208, ⟨k1, hr0, hr1, fun q hq => by rw [k6 q hq, hZb, sP_out _ _ (Or.inr (by show 16 + 9 ≤ q; omega)), qu_other _ _ (by omega), hZao q (by omega)], fun j hj => by rw [k7 j hj, hTbo j (by omega), hTao j (by omega) (by omega)]⟩, hZ208, hG208, rfl⟩) dX0_startLast_183
          · rw [hTr10] at c93
            have hv0 : (sP Zr 61 16 (fun i => if i < k then F i else Zr (61 + i))) (61 + k) = Z (pB (us - 1) + k) := by rw [sP_in _ _ (by omega), if_neg (by omega), hZrr k (by omega), if_pos (by omega)]
            have hv81 : (sP Zr 61 16 (fun i => if i < k then F i else Zr (61 + i))) 81 = (Z (pB 0 + (T 0 - 1))) := by rw [sP_out _ _ (by omega), hZro 81 (by omega), hZt81]
            have hFk := hF k (by omega)
            have hzk := hlb95 (us - 1) (by omega) k (by omega)
            have hz0 := hlb95 0 (by omega) (T 0 - 1) (by omega)
            refine w_aload_n C dX0_startLast_96 2 rfl ?_
            refine w_get (ci := 0) (ref := "RootIsolator$Chain") (T := TX0) (Cn := RX0) (N := 10) C (fun w h => wC_in (inX0 w h)) 0 rfl rfl 2 (by decide) (wC_in fX0_24) rfl rfl dX0_startLast_97 ?_
            refine c_parts C ((cx, .inr (0, [.ref rx, .int (iZ ((us : Int))), .ref (P 10), .ref (Q 77), .ref (Q 78), .ref (Q 79), .ref (Q 80), .ref (Q 81), .ref (Q 82), .ref (Q 83)])) :: (rx, .inl (G 5, 10, .inr (.inr (.inr (.inr (fun i => some (P i))))))) :: [] : va_W) X (fun w h => wC_in (inX2 w h)) (10) (by omega) hNs.2.2.2.2.1 dX0_startLast_100 ?_
            refine w_iload_n C dX0_startLast_103 0 rfl ?_
            refine c_elem C ((cx, .inr (0, [.ref rx, .int (iZ ((us : Int))), .ref (P 10), .ref (Q 77), .ref (Q 78), .ref (Q 79), .ref (Q 80), .ref (Q 81), .ref (Q 82), .ref (Q 83)])) :: (rx, .inl (G 5, 10, .inr (.inr (.inr (.inr (fun i => some (P i))))))) :: [] : va_W) X (10) (by omega) (k) ⟨by omega, by show _ < 16; omega⟩ dX0_startLast_104 ?_
            refine w_aload_n C dX0_startLast_105 2 rfl ?_
            refine w_get (ci := 0) (ref := "RootIsolator$Chain") (T := TX0) (Cn := RX0) (N := 10) C (fun w h => wC_in (inX0 w h)) 0 rfl rfl 7 (by decide) (wC_in fX0_44) rfl rfl dX0_startLast_106 ?_
            refine p_multiply hA C ((cx, .inr (0, [.ref rx, .int (iZ ((us : Int))), .ref (P 10), .ref (Q 77), .ref (Q 78), .ref (Q 79), .ref (Q 80), .ref (Q 81), .ref (Q 82), .ref (Q 83)])) :: (rx, .inl (G 5, 10, .inr (.inr (.inr (.inr (fun i => some (P i))))))) :: (fp G Q P PA Tr ++ X) : va_W) hZi hGi (61 + k) (81) (by omega) (by omega) (by omega) 500 500 (by omega) ⟨by rw [hv0]; exact lb_le hzk (by omega), by rw [hv81]; exact lb_le hz0 (by omega)⟩ (cwV 1 C.1.2.2.2.2 (wC_V kX0_104 nX3_multiply slX3_multiply iniX3 cdX3_multiply) rfl rfl rfl (by decide +kernel) ⟨Nat.le_of_ble_eq_true rfl, Nat.le_of_ble_eq_true rfl⟩) ⟨Nat.le_of_ble_eq_true rfl, Nat.le_of_ble_eq_true rfl⟩ (Nat.le_of_ble_eq_true rfl) dX0_startLast_109 (fun st106 nn106 c106 s106 hZ106 hG106 => ?_)
            rw [show (qu (sP Zr 61 16 (fun i => if i < k then F i else Zr (61 + i))) (61 + k) ((sP Zr 61 16 (fun i => if i < k then F i else Zr (61 + i))) (61 + k) * (sP Zr 61 16 (fun i => if i < k then F i else Zr (61 + i))) 81)) = (sP Zr 61 16 (qu (fun i => if i < k then F i else Zr (61 + i)) k (F k * (Z (pB (us - 1) + (T (us - 1) - 1)))))) from by
  rw [hv0, hv81, hFk]
  exact sP_put _ (by omega) (qu_same _ _ _).symm (fun q h3 h4 => qu_other _ _ h4)] at hZ106
            refine w_aload_n C dX0_startLast_112 2 rfl ?_
            refine w_get (ci := 0) (ref := "RootIsolator$Chain") (T := TX0) (Cn := RX0) (N := 10) C (fun w h => wC_in (inX0 w h)) 0 rfl rfl 2 (by decide) (wC_in fX0_24) rfl rfl dX0_startLast_113 ?_
            refine c_parts C ((cx, .inr (0, [.ref rx, .int (iZ ((us : Int))), .ref (P 10), .ref (Q 77), .ref (Q 78), .ref (Q 79), .ref (Q 80), .ref (Q 81), .ref (Q 82), .ref (Q 83)])) :: (rx, .inl (G 5, 10, .inr (.inr (.inr (.inr (fun i => some (P i))))))) :: [] : va_W) X (fun w h => wC_in (inX2 w h)) (10) (by omega) hNs.2.2.2.2.1 dX0_startLast_116 ?_
            refine w_iload_n C dX0_startLast_119 0 rfl ?_
            refine c_elem C ((cx, .inr (0, [.ref rx, .int (iZ ((us : Int))), .ref (P 10), .ref (Q 77), .ref (Q 78), .ref (Q 79), .ref (Q 80), .ref (Q 81), .ref (Q 82), .ref (Q 83)])) :: (rx, .inl (G 5, 10, .inr (.inr (.inr (.inr (fun i => some (P i))))))) :: [] : va_W) X (10) (by omega) (k) ⟨by omega, by show _ < 16; omega⟩ dX0_startLast_120 ?_
            refine w_iload_n C dX0_startLast_121 1 rfl ?_
            refine p_shiftDown hA C ((cx, .inr (0, [.ref rx, .int (iZ ((us : Int))), .ref (P 10), .ref (Q 77), .ref (Q 78), .ref (Q 79), .ref (Q 80), .ref (Q 81), .ref (Q 82), .ref (Q 83)])) :: (rx, .inl (G 5, 10, .inr (.inr (.inr (.inr (fun i => some (P i))))))) :: (fp G Q P PA Tr ++ X) : va_W) hZ106 hG106 (61 + k) (by omega) bt (by omega) (cwV 1 C.1.2.2.2.2 (wC_V kX0_107 nX3_shiftDown slX3_shiftDown iniX3 cdX3_shiftDown) rfl rfl rfl (by decide +kernel) ⟨Nat.le_of_ble_eq_true rfl, Nat.le_of_ble_eq_true rfl⟩) ⟨Nat.le_of_ble_eq_true rfl, Nat.le_of_ble_eq_true rfl⟩ (Nat.le_of_ble_eq_true rfl) dX0_startLast_122 (fun st107 nn107 c107 s107 hZ107 hG107 => ?_)
            rw [show (qu (sP Zr 61 16 (qu (fun i => if i < k then F i else Zr (61 + i)) k (F k * (Z (pB (us - 1) + (T (us - 1) - 1)))))) (61 + k) (((sP Zr 61 16 (qu (fun i => if i < k then F i else Zr (61 + i)) k (F k * (Z (pB (us - 1) + (T (us - 1) - 1)))))) (61 + k)).sign * ((((sP Zr 61 16 (qu (fun i => if i < k then F i else Zr (61 + i)) k (F k * (Z (pB (us - 1) + (T (us - 1) - 1)))))) (61 + k)).natAbs : Int) / 2 ^ bt))) = (sP Zr 61 16 (qu (fun i => if i < k then F i else Zr (61 + i)) k (F k * y))) from by
  rw [sP_in _ _ (by omega), qu_same, shd_val (w := F k * y) (by rw [hyv, Int.mul_assoc])]
  exact sP_put _ (by omega) (qu_same _ _ _).symm (fun q h3 h4 => by rw [qu_other _ _ h4, qu_other _ _ h4])] at hZ107
            refine w_aload_n C dX0_startLast_125 2 rfl ?_
            refine w_get (ci := 0) (ref := "RootIsolator$Chain") (T := TX0) (Cn := RX0) (N := 10) C (fun w h => wC_in (inX0 w h)) 0 rfl rfl 2 (by decide) (wC_in fX0_24) rfl rfl dX0_startLast_126 ?_
            refine c_parts C ((cx, .inr (0, [.ref rx, .int (iZ ((us : Int))), .ref (P 10), .ref (Q 77), .ref (Q 78), .ref (Q 79), .ref (Q 80), .ref (Q 81), .ref (Q 82), .ref (Q 83)])) :: (rx, .inl (G 5, 10, .inr (.inr (.inr (.inr (fun i => some (P i))))))) :: [] : va_W) X (fun w h => wC_in (inX2 w h)) (10) (by omega) hNs.2.2.2.2.1 dX0_startLast_129 ?_
            refine w_iload_n C dX0_startLast_132 0 rfl ?_
            refine c_elem C ((cx, .inr (0, [.ref rx, .int (iZ ((us : Int))), .ref (P 10), .ref (Q 77), .ref (Q 78), .ref (Q 79), .ref (Q 80), .ref (Q 81), .ref (Q 82), .ref (Q 83)])) :: (rx, .inl (G 5, 10, .inr (.inr (.inr (.inr (fun i => some (P i))))))) :: [] : va_W) X (10) (by omega) (k) ⟨by omega, by show _ < 16; omega⟩ dX0_startLast_133 ?_
            refine w_aload_n C dX0_startLast_134 2 rfl ?_
            refine w_get (ci := 0) (ref := "RootIsolator$Chain") (T := TX0) (Cn := RX0) (N := 10) C (fun w h => wC_in (inX0 w h)) 0 rfl rfl 5 (by decide) (wC_in fX0_38) rfl rfl dX0_startLast_135 ?_
            refine p_divideByOdd hA C ((cx, .inr (0, [.ref rx, .int (iZ ((us : Int))), .ref (P 10), .ref (Q 77), .ref (Q 78), .ref (Q 79), .ref (Q 80), .ref (Q 81), .ref (Q 82), .ref (Q 83)])) :: (rx, .inl (G 5, 10, .inr (.inr (.inr (.inr (fun i => some (P i))))))) :: (fp G Q P PA Tr ++ X) : va_W) hZ107 hG107 (61 + k) (79) (by omega) (by omega) (by omega) (F k) (by rw [sP_out _ _ (by omega), hZro 79 (by omega), hZt79]; exact hyo2) (by rw [sP_in _ _ (by omega), qu_same, sP_out _ _ (by omega), hZro 79 (by omega), hZt79]) (cwV 1 C.1.2.2.2.2 (wC_V kX0_110 nX3_divideByOdd slX3_divideByOdd iniX3 cdX3_divideByOdd) rfl rfl rfl (by decide +kernel) ⟨Nat.le_of_ble_eq_true rfl, Nat.le_of_ble_eq_true rfl⟩) ⟨Nat.le_of_ble_eq_true rfl, Nat.le_of_ble_eq_true rfl⟩ (Nat.le_of_ble_eq_true rfl) dX0_startLast_138 (fun st108 nn108 c108 s108 hZ108 hG108 => ?_)
            rw [show (qu (sP Zr 61 16 (qu (fun i => if i < k then F i else Zr (61 + i)) k (F k * y))) (61 + k) (F k)) = (sP Zr 61 16 (fun i => if i < (k + 1) then F i else Zr (61 + i))) from by
  refine sP_put _ (by omega) ?_ (fun q h3 h4 => ?_)
  · rw [if_pos (by omega)]
  · rw [qu_other _ _ h4]
    exact if_lt_same2 (by omega)] at hZ108
            refine w_iinc C (((k + 1 : Nat) : Int)) (by omega) [(3, .int (iZ (((k + 1 : Nat) : Int)))), (2, .int (iZ ((bt : Int)))), (0, .ref cx), (1, .ref (P (us - 1)))] dX0_startLast_141 0 rfl (by decide) rfl ?_
            refine w_goto C 85 dX0_startLast_144 (by decide) ?_
            exact ih2 (k + 1) _ _ _ _ (by omega) (by omega) hZ108 hG108
      refine w_sub [(3, .int (iZ (0))), (2, .int (iZ ((bt : Int)))), (0, .ref cx), (1, .ref (P (us - 1)))] [0, 1, 3, 2] rfl ?_
      exact lp (T (us - 1) + 1) 0 st5 nn5 c5 s5 (by omega) (by omega) (by
        rw [show (sP Zr 61 16 (fun i => if i < 0 then F i else Zr (61 + i))) = Zr from by
          funext q
          by_cases h3 : 61 ≤ q ∧ q < 77
          · obtain ⟨i, rfl⟩ : ∃ i, q = 61 + i := ⟨q - 61, by omega⟩
            rw [sP_in _ _ (by omega), if_neg (by omega)]
          · rw [sP_out _ _ (by omega)]]
        exact hZ5) hG5
    · exact absurd c21 (by omega)
