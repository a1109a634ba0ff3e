theorem ex_move {Z : Nat → Int} {T : Nat → Nat} {Zi : Nat → Int} {Ti : Nat → Nat} {k : Nat} {Z2 : Nat → Int} {T2 : Nat → Nat} (hk : 2 ≤ k ∧ k ≤ 10) (hI : exI Z T Zi Ti k) (u1 : ∀ r : Nat, r < 61 ∨ 84 ≤ r → Z2 r = Zi r) (u2 : ∀ j : Nat, j ≠ 10 → T2 j = Ti j) (u4 : T2 10 ≤ 16) : exI Z T Z2 T2 k ∧ (fnl Zi Ti k → fnl Z2 T2 k) := by
  obtain ⟨i1, i2, i3, i4, i5⟩ := hI
  have hrow : ∀ j : Nat, j < k → ∀ s : Nat, s < Ti j → Z2 (pB j + s) = Zi (pB j + s) := fun j hj s hs => by
    have d3 := i3 j (by omega)
    have d5 : pB j + pN j ≤ 61 := by
      have h9 : ∀ j : Fin 10, pB j.val + pN j.val ≤ 61 := by decide
      exact h9 ⟨j, by omega⟩
    exact u1 _ (Or.inl (by omega))
  have hTj : ∀ j : Nat, j < k → T2 j = Ti j := fun j hj => u2 j (by omega)
  have hzr : ∀ j : Nat, j < k → zr Z2 T2 j = zr Zi Ti j := fun j hj => zr_congr (hTj j hj) (hrow j hj)
  refine ⟨⟨fun r hr => ?_, fun j hj => ?_, fun j hj => ?_, fun i g1 g2 => ?_, fun i hi s hs => ?_⟩, fun hf => ?_⟩
  · rw [u1 r (by omega), i1 r hr]
  · rw [u2 j (by omega), i2 j hj]
  · by_cases c2 : j = 10
    · rw [c2]; exact u4
    · rw [u2 j c2]; exact i3 j hj
  · exact lnk_congr (fun j hj => ⟨hTj j (by omega), hzr j (by omega)⟩) (i4 i g1 g2)
  · rw [hTj i hi] at hs
    rw [hrow i hi s hs]
    exact i5 i hi s hs
  · unfold fnl at *
    rw [hTj (k - 1) (by omega), hTj (k - 2) (by omega), hzr (k - 1) (by omega), hzr (k - 2) (by omega)]
    exact hf
theorem ex_tp {Z : Nat → Int} {T : Nat → Nat} {j n : Nat} (h1 : T j ≤ n) (h2 : ∀ i : Nat, T j = i + 1 → Z (pB j + i) ≠ 0) : tpN (fun q => if q < T j then Z (pB j + q) else 0) n (T j) := ⟨h1, fun i h3 _ => if_neg (by omega), fun i hi => by
  show (if i < T j then Z (pB j + i) else 0) ≠ 0
  rw [if_pos (by omega)]; exact h2 i hi⟩
theorem ex_1 {Z : Nat → Int} {T : Nat → Nat} {Z1 : Nat → Int} {T1 : Nat → Nat} (hT : ∀ j : Nat, j < 12 → T j ≤ pN j) (h0 : T 1 = 0) (hlb : ∀ j : Nat, j < 2 → ∀ i : Nat, i < T j → lb (Z (pB j + i)) 4) (hZ : ∀ q : Nat, q < 25 ∨ 84 ≤ q → Z1 q = Z q) (hT1 : T1 = T) : exF Z T Z1 T1 1 := by
  subst hT1
  refine ⟨⟨hZ, fun j _ => rfl, hT, fun i h3 h4 => absurd h4 (by omega), fun i hi s hs => ?_⟩, by omega, by omega, fun _ => rfl, fun h => absurd h (by omega)⟩
  have : i = 0 := by omega
  subst this
  have t0 : T1 0 ≤ 16 := hT 0 (by omega)
  rw [hZ _ (Or.inl (by show 0 + s < 25; omega))]; exact lb_le (hlb 0 (by omega) s hs) (by omega)
theorem ex_lead2 {Z : Nat → Int} {T : Nat → Nat} {Zi : Nat → Int} {Ti : Nat → Nat} {k : Nat} (hS : exS Z T Zi Ti k) (hk : 2 ≤ k ∧ k < 10) (h0 : Z (pB 0 + (T 0 - 1)) ≠ 0) (h1 : 1 ≤ T 1 → Z (pB 1 + (T 1 - 1)) ≠ 0) (t0 : T 0 ≤ 16) (t1 : T 1 ≤ 9) (i : Nat) (hi : Ti (k - 2) = i + 1) : Zi (pB (k - 2) + i) ≠ 0 := by
  have hI := hS.1
  by_cases c2 : k = 2
  · subst c2
    have e0 : Ti 0 = T 0 := hI.2.1 0 (by omega)
    have hi0 : Ti 0 = i + 1 := hi
    have e2 : i = T 0 - 1 := by omega
    show Zi (pB 0 + i) ≠ 0
    rw [hI.1 _ (Or.inl (by show 0 + i < 25; omega)), e2]
    exact h0
  · by_cases c3 : k = 3
    · subst c3
      have e0 : Ti 1 = T 1 := hI.2.1 1 (by omega)
      have hi0 : Ti 1 = i + 1 := hi
      have e2 : i = T 1 - 1 := by omega
      show Zi (pB 1 + i) ≠ 0
      rw [hI.1 _ (Or.inl (by show 16 + i < 25; omega)), e2]
      exact h1 (by omega)
    · have h9 := (hI.2.2.2.1 (k - 2) (by omega) (by omega)).2.2.1
      rw [zr_in (by omega), show Ti (k - 2) - 1 = i by omega] at h9
      exact h9
set_option maxHeartbeats 4000000 in
set_option maxRecDepth 100000 in
/-- extend -/
theorem cc_extend (l : Launch) (D : va_G) (G : Nat → ClassId) (X : va_W) (Q P PA T : Nat → Nat) (st : Nat → va_W) (nn : Nat → Nat) (Z : Nat → Int) (cx rx : Nat) (us0 : Int32) (hZ : pAll G Q st nn Z) (h1 : T 1 ≤ T 0 ∧ 1 ≤ T 0 ∧ (2 ≤ T 1 → T 0 ≤ T 1 + 7)) (hT : ∀ j : Nat, j < 12 → T j ≤ pN j) (hld0 : Z (pB 0 + (T 0 - 1)) ≠ 0) (hld : 1 ≤ T 1 → Z (pB 1 + (T 1 - 1)) ≠ 0) (hlb : ∀ j : Nat, j < 2 → ∀ i : Nat, i < T j → lb (Z (pB j + i)) 4) (sz hs : Nat) : Met l yX0_extend (wC yX0_extend cX0_extend 3 none) ({ frames := 4, cells := 3234, slots := 1204224, locals := 117 }) (va_Pc [.ref cx] (cPre nW D G ((cx, .inr (0, [.ref rx, .int (us0), .ref (P 10), .ref (Q 77), .ref (Q 78), .ref (Q 79), .ref (Q 80), .ref (Q 81), .ref (Q 82), .ref (Q 83)])) :: (rx, .inl (G 5, 10, .inr (.inr (.inr (.inr (fun i => some (P i))))))) :: ((fp G Q P PA T ++ X) ++ pl st) : va_W) sz hs)) (va_Qv (fun (u : cS) => ∃ (st1 : Nat → va_W) (nn1 : Nat → Nat) (c1 s1 : Nat) (Z1 : Nat → Int) (T1 : Nat → Nat) (us1 : Nat), exF Z T Z1 T1 us1 ∧ pAll G Q st1 nn1 (Z1) ∧ pG (pC nn) (pS nn) nn1 c1 s1 ∧ u = (((cx, .inr (0, [.ref rx, .int (iZ ((us1 : Int))), .ref (P 10), .ref (Q 77), .ref (Q 78), .ref (Q 79), .ref (Q 80), .ref (Q 81), .ref (Q 82), .ref (Q 83)])) :: (rx, .inl (G 5, 10, .inr (.inr (.inr (.inr (fun i => some (P i))))))) :: ((fp G Q P PA T1 ++ X) ++ pl st1) : va_W), c1, s1)) (cAt D G (va_A ((cx, .inr (0, [.ref rx, .int (us0), .ref (P 10), .ref (Q 77), .ref (Q 78), .ref (Q 79), .ref (Q 80), .ref (Q 81), .ref (Q 82), .ref (Q 83)])) :: (rx, .inl (G 5, 10, .inr (.inr (.inr (.inr (fun i => some (P i))))))) :: ((fp G Q P PA T ++ X) ++ pl st) : va_W) sz) sz hs) (va_A ((cx, .inr (0, [.ref rx, .int (us0), .ref (P 10), .ref (Q 77), .ref (Q 78), .ref (Q 79), .ref (Q 80), .ref (Q 81), .ref (Q 82), .ref (Q 83)])) :: (rx, .inl (G 5, 10, .inr (.inr (.inr (.inr (fun i => some (P i))))))) :: ((fp G Q P PA T ++ X) ++ pl st) : va_W) sz)) 3234 1204224 (va_A ((cx, .inr (0, [.ref rx, .int (us0), .ref (P 10), .ref (Q 77), .ref (Q 78), .ref (Q 79), .ref (Q 80), .ref (Q 81), .ref (Q 82), .ref (Q 83)])) :: (rx, .inl (G 5, 10, .inr (.inr (.inr (.inr (fun i => some (P i))))))) :: ((fp G Q P PA T ++ X) ++ pl st) : va_W) sz) := by
  refine g_met (cc := cX0_extend) (maxL := 3) (ret := none) (own := RX0) (by decide) rfl rfl (Nat.le_of_ble_eq_true rfl) ?_
  intro p e s m below meth c hsz hhs hNs hA C hr hlk
  refine w_sub [(0, .ref cx)] [0] rfl ?_
  have hG : pG (pC nn) (pS nn) nn 0 0 := ⟨Nat.le_of_eq (Nat.zero_add _), Nat.le_of_eq (Nat.zero_add _)⟩
  have t0 : T 0 ≤ 16 := hT 0 (by omega)
  have t1 : T 1 ≤ 9 := hT 1 (by omega)
  refine w_aload_n C dX0_extend_0 0 rfl ?_
  refine w_get (ci := 0) (ref := "RootIsolator$Chain") (T := TX0) (Cn := RX0) (N := 10) C (fun w h => wC_in (inX0 w h)) 0 rfl rfl 3 (by decide) (wC_in fX0_31) rfl rfl dX0_extend_1 ?_
  refine w_lconst C 1 dX0_extend_4 rfl ?_
  refine p_put hA C ((cx, .inr (0, [.ref rx, .int (us0), .ref (P 10), .ref (Q 77), .ref (Q 78), .ref (Q 79), .ref (Q 80), .ref (Q 81), .ref (Q 82), .ref (Q 83)])) :: (rx, .inl (G 5, 10, .inr (.inr (.inr (.inr (fun i => some (P i))))))) :: (fp G Q P PA T ++ X) : va_W) hZ hG (77) (by omega) 1 (by omega) (cwV 1 C.1.2.2.2.2 (wC_V kX0_78 nX3_put slX3_put iniX3 cdX3_put) rfl rfl rfl (by decide +kernel) ⟨Nat.le_of_ble_eq_true rfl, Nat.le_of_ble_eq_true rfl⟩) ⟨Nat.le_of_ble_eq_true rfl, Nat.le_of_ble_eq_true rfl⟩ (Nat.le_of_ble_eq_true rfl) dX0_extend_5 (fun st1 nn1 c1 s1 hZ1 hG1 => ?_)
  refine w_aload_n C dX0_extend_8 0 rfl ?_
  refine w_get (ci := 0) (ref := "RootIsolator$Chain") (T := TX0) (Cn := RX0) (N := 10) C (fun w h => wC_in (inX0 w h)) 0 rfl rfl 4 (by decide) (wC_in fX0_35) rfl rfl dX0_extend_9 ?_
  refine w_lconst C 1 dX0_extend_12 rfl ?_
  refine p_put hA C ((cx, .inr (0, [.ref rx, .int (us0), .ref (P 10), .ref (Q 77), .ref (Q 78), .ref (Q 79), .ref (Q 80), .ref (Q 81), .ref (Q 82), .ref (Q 83)])) :: (rx, .inl (G 5, 10, .inr (.inr (.inr (.inr (fun i => some (P i))))))) :: (fp G Q P PA T ++ X) : va_W) hZ1 hG1 (78) (by omega) 1 (by omega) (cwV 1 C.1.2.2.2.2 (wC_V kX0_78 nX3_put slX3_put iniX3 cdX3_put) rfl rfl rfl (by decide +kernel) ⟨Nat.le_of_ble_eq_true rfl, Nat.le_of_ble_eq_true rfl⟩) ⟨Nat.le_of_ble_eq_true rfl, Nat.le_of_ble_eq_true rfl⟩ (Nat.le_of_ble_eq_true rfl) dX0_extend_13 (fun st2 nn2 c2 s2 hZ2 hG2 => ?_)
  obtain ⟨Zg, hZg⟩ : ∃ x : Nat → Int, x = (qu (qu Z 77 1) 78 1) := ⟨_, rfl⟩
  rw [← hZg] at hZ2
  have hZg78 : Zg 78 = 1 := by rw [hZg, qu_same]
  have hZg77 : Zg 77 = 1 := by rw [hZg, qu_other _ _ (by omega), qu_same]
  have hZgo : ∀ q : Nat, q < 25 ∨ 84 ≤ q → Zg q = Z q := fun q hq => by rw [hZg, qu_other _ _ (by omega), qu_other _ _ (by omega)]
  refine w_aload_n C dX0_extend_16 0 rfl ?_
  refine w_aload_n C dX0_extend_17 0 rfl ?_
  refine w_get (ci := 0) (ref := "RootIsolator$Chain") (T := TX0) (Cn := RX0) (N := 10) C (fun w h => wC_in (inX0 w h)) 0 rfl rfl 0 (by decide) (wC_in fX0_13) rfl rfl dX0_extend_18 ?_
  refine w_iconst C dX0_extend_21 ?_
  refine w_aald (n := 10) (f := (fun i => some (P i))) C 1 5 rfl rfl rfl (1) ⟨by omega, by omega, by omega⟩ (rfl) dX0_extend_22 ?_
  refine c_top C ((cx, .inr (0, [.ref rx, .int (us0), .ref (P 10), .ref (Q 77), .ref (Q 78), .ref (Q 79), .ref (Q 80), .ref (Q 81), .ref (Q 82), .ref (Q 83)])) :: (rx, .inl (G 5, 10, .inr (.inr (.inr (.inr (fun i => some (P i))))))) :: [] : va_W) X (fun w h => wC_in (inX2 w h)) (1) (by omega) hNs.2.2.2.2.2.2.1 dX0_extend_23 ?_
  refine w_if_ge C 33 dX0_extend_26 (by decide) ⟨by omega, by omega⟩ (fun c26 => ?_) (fun c26 => ?_)
  · refine w_iconst C dX0_extend_33 ?_
    refine w_put (ci := 0) (ref := "RootIsolator$Chain") (T := TX0) (Cn := RX0) (N := 10) (ty := .int) C ((cx, .inr (0, [.ref rx, .int (iZ (2)), .ref (P 10), .ref (Q 77), .ref (Q 78), .ref (Q 79), .ref (Q 80), .ref (Q 81), .ref (Q 82), .ref (Q 83)])) :: (rx, .inl (G 5, 10, .inr (.inr (.inr (.inr (fun i => some (P i))))))) :: ((fp G Q P PA T ++ X) ++ pl st2) : va_W) (fun w h => wC_in (inX0 w h)) tyX0 tyX0_ok nmX0 0 rfl rfl 1 (by decide) (wC_in fX0_17) rfl rfl (by decide +kernel) rfl rfl (Nat.le_of_ble_eq_true rfl) rfl dX0_extend_34 ?_
    refine w_iconst C dX0_extend_37 ?_
    refine w_istore_n C [(1, .int (iZ (2))), (0, .ref cx)] dX0_extend_38 rfl (by decide) rfl ?_
    have lp : ∀ (d : Nat) (k : Nat) (Zi : Nat → Int) (Ti : Nat → Nat) (sti : Nat → va_W) (nni : Nat → Nat) (ci : Nat) (si : Nat), 10 < k + d → 2 ≤ k ∧ k ≤ 10 → exS Z T Zi Ti k → pAll G Q sti nni Zi → pG (pC nn) (pS nn) nni ci si → ZW p l e ({ frames := 4, cells := 3234, slots := 1204224, locals := 117 }) s m ([.ref cx] : List Value).toArray below meth c D (va_A ((cx, .inr (0, [.ref rx, .int (us0), .ref (P 10), .ref (Q 77), .ref (Q 78), .ref (Q 79), .ref (Q 80), .ref (Q 81), .ref (Q 82), .ref (Q 83)])) :: (rx, .inl (G 5, 10, .inr (.inr (.inr (.inr (fun i => some (P i))))))) :: ((fp G Q P PA T ++ X) ++ pl st) : va_W) sz) 3 ci si (MQ below (va_Qv (fun (u : cS) => ∃ (st1 : Nat → va_W) (nn1 : Nat → Nat) (c1 s1 : Nat) (Z1 : Nat → Int) (T1 : Nat → Nat) (us1 : Nat), exF Z T Z1 T1 us1 ∧ pAll G Q st1 nn1 (Z1) ∧ pG (pC nn) (pS nn) nn1 c1 s1 ∧ u = (((cx, .inr (0, [.ref rx, .int (iZ ((us1 : Int))), .ref (P 10), .ref (Q 77), .ref (Q 78), .ref (Q 79), .ref (Q 80), .ref (Q 81), .ref (Q 82), .ref (Q 83)])) :: (rx, .inl (G 5, 10, .inr (.inr (.inr (.inr (fun i => some (P i))))))) :: ((fp G Q P PA T1 ++ X) ++ pl st1) : va_W), c1, s1)) (cAt D G (va_A ((cx, .inr (0, [.ref rx, .int (us0), .ref (P 10), .ref (Q 77), .ref (Q 78), .ref (Q 79), .ref (Q 80), .ref (Q 81), .ref (Q 82), .ref (Q 83)])) :: (rx, .inl (G 5, 10, .inr (.inr (.inr (.inr (fun i => some (P i))))))) :: ((fp G Q P PA T ++ X) ++ pl st) : va_W) sz) sz hs) (va_A ((cx, .inr (0, [.ref rx, .int (us0), .ref (P 10), .ref (Q 77), .ref (Q 78), .ref (Q 79), .ref (Q 80), .ref (Q 81), .ref (Q 82), .ref (Q 83)])) :: (rx, .inl (G 5, 10, .inr (.inr (.inr (.inr (fun i => some (P i))))))) :: ((fp G Q P PA T ++ X) ++ pl st) : va_W) sz)) ([.ref cx] : List Value).toArray s 3234 1204224 (va_A ((cx, .inr (0, [.ref rx, .int (us0), .ref (P 10), .ref (Q 77), .ref (Q 78), .ref (Q 79), .ref (Q 80), .ref (Q 81), .ref (Q 82), .ref (Q 83)])) :: (rx, .inl (G 5, 10, .inr (.inr (.inr (.inr (fun i => some (P i))))))) :: ((fp G Q P PA T ++ X) ++ pl st) : va_W) sz)) ((cx, .inr (0, [.ref rx, .int (iZ ((k : Int))), .ref (P 10), .ref (Q 77), .ref (Q 78), .ref (Q 79), .ref (Q 80), .ref (Q 81), .ref (Q 82), .ref (Q 83)])) :: (rx, .inl (G 5, 10, .inr (.inr (.inr (.inr (fun i => some (P i))))))) :: ((fp G Q P PA Ti ++ X) ++ pl sti) : va_W) 39 [(1, .int (iZ ((k : Int)))), (0, .ref cx)] [] := by
      intro d
      induction d with
      | zero =>
        intro k Zi Ti sti nni ci si hd hk hS hZi hGi
        exact absurd hd (by omega)
      | succ d ih2 =>
        intro k Zi Ti sti nni ci si hd hk hS hZi hGi
        refine w_iload_n C dX0_extend_39 0 rfl ?_
        refine w_bipush C dX0_extend_40 (by decide) ?_
        refine w_icmp_ge C 172 dX0_extend_42 (by decide) ⟨⟨by omega, by omega⟩, by omega, by omega⟩ (fun c42 => ?_) (fun c42 => ?_)
        · have hle := pG_le hZi hGi
          exact g_vret hsz hhs C hr hlk ⟨by omega, by omega⟩ (⟨_, _, _, _, Zi, Ti, k, ⟨hS.1, by omega, by omega, fun h => absurd h (by omega), fun _ => ⟨by omega, Or.inl (by have h7 := hS.2.2.1.1; have h8 := hS.2.1; omega)⟩⟩, hZi, hGi, rfl⟩) dX0_extend_172
        · have hIT := hS.1.2.2.1
          have hIlb := hS.1.2.2.2.2
          refine w_aload_n C dX0_extend_45 1 rfl ?_
          refine w_get (ci := 0) (ref := "RootIsolator$Chain") (T := TX0) (Cn := RX0) (N := 10) C (fun w h => wC_in (inX0 w h)) 0 rfl rfl 1 (by decide) (wC_in fX0_17) rfl rfl dX0_extend_46 ?_
          refine w_iload_n C dX0_extend_49 0 rfl ?_
          refine w_icmp_ne C 172 dX0_extend_50 (by decide) ⟨⟨by omega, by omega⟩, by omega, by omega⟩ (fun c50 => ?_) (fun c50 => ?_)
          · exact absurd rfl c50
          · refine w_aload_n C dX0_extend_53 1 rfl ?_
            refine w_get (ci := 0) (ref := "RootIsolator$Chain") (T := TX0) (Cn := RX0) (N := 10) C (fun w h => wC_in (inX0 w h)) 0 rfl rfl 0 (by decide) (wC_in fX0_13) rfl rfl dX0_extend_54 ?_
            refine w_iload_n C dX0_extend_57 0 rfl ?_
            refine w_iconst C dX0_extend_58 ?_
            refine w_isub C dX0_extend_59 ?_
            refine w_aald (n := 10) (f := (fun i => some (P i))) C 1 5 rfl rfl rfl (k - 1) ⟨by omega, by omega, by omega⟩ (rfl) dX0_extend_60 ?_
            refine c_top C ((cx, .inr (0, [.ref rx, .int (iZ ((k : Int))), .ref (P 10), .ref (Q 77), .ref (Q 78), .ref (Q 79), .ref (Q 80), .ref (Q 81), .ref (Q 82), .ref (Q 83)])) :: (rx, .inl (G 5, 10, .inr (.inr (.inr (.inr (fun i => some (P i))))))) :: [] : va_W) X (fun w h => wC_in (inX2 w h)) ((k - 1)) (by omega) hNs.2.2.2.2.2.2.1 dX0_extend_61 ?_
            refine w_if_le C 172 dX0_extend_64 (by decide) ⟨by have := hIT (k - 1) (by omega); have := pB_r (j := k - 1) (by omega); omega, by have := hIT (k - 1) (by omega); have := pB_r (j := k - 1) (by omega); omega⟩ (fun c64 => ?_) (fun c64 => ?_)
            · have hle := pG_le hZi hGi
              exact g_vret hsz hhs C hr hlk ⟨by omega, by omega⟩ (⟨_, _, _, _, Zi, Ti, k, ⟨hS.1, by omega, by omega, fun h => absurd h (by omega), fun _ => ⟨by omega, Or.inl (by have h7 := hS.2.2.1.1; have h8 := hS.2.1; omega)⟩⟩, hZi, hGi, rfl⟩) dX0_extend_172
            · have hleadb : zr Zi Ti (k - 1) (Ti (k - 1) - 1) ≠ 0 := hS.2.2.2.2.2.2.2.2.2.1
              have hi12 := hS.2.2.2.1
              have hlead2 := ex_lead2 hS (by omega) hld0 hld t0 t1
              have hi16 := hS.2.2.2.2.1
              have hi7 := hS.2.2.2.2.2.1 (by omega)
              have hlc95 : lb ((zr Zi Ti (k - 1) (Ti (k - 1) - 1)).natAbs : Int) 95 := by
                have h9 := zr_lb (hIlb (k - 1) (by omega)) (Ti (k - 1) - 1)
                unfold lb at *
                rw [Int.natAbs_natCast]; exact h9
              have hrk1 := pB_r (j := k - 1) (by omega)
              have hik1 := hIT (k - 1) (by omega)
              have hp61a : pB (k - 1) + pN (k - 1) ≤ 61 := by
                have h9 : ∀ j : Fin 10, pB j.val + pN j.val ≤ 61 := by decide
                exact h9 ⟨k - 1, by omega⟩
              refine w_aload_n C dX0_extend_67 1 rfl ?_
              refine w_get (ci := 0) (ref := "RootIsolator$Chain") (T := TX0) (Cn := RX0) (N := 10) C (fun w h => wC_in (inX0 w h)) 0 rfl rfl 0 (by decide) (wC_in fX0_13) rfl rfl dX0_extend_68 ?_
              refine w_iload_n C dX0_extend_71 0 rfl ?_
              refine w_iconst C dX0_extend_72 ?_
              refine w_isub C dX0_extend_73 ?_
              refine w_aald (n := 10) (f := (fun i => some (P i))) C 1 5 rfl rfl rfl (k - 2) ⟨by omega, by omega, by omega⟩ (rfl) dX0_extend_74 ?_
              refine c_top C ((cx, .inr (0, [.ref rx, .int (iZ ((k : Int))), .ref (P 10), .ref (Q 77), .ref (Q 78), .ref (Q 79), .ref (Q 80), .ref (Q 81), .ref (Q 82), .ref (Q 83)])) :: (rx, .inl (G 5, 10, .inr (.inr (.inr (.inr (fun i => some (P i))))))) :: [] : va_W) X (fun w h => wC_in (inX2 w h)) ((k - 2)) (by omega) hNs.2.2.2.2.2.2.1 dX0_extend_75 ?_
              refine w_aload_n C dX0_extend_78 1 rfl ?_
              refine w_get (ci := 0) (ref := "RootIsolator$Chain") (T := TX0) (Cn := RX0) (N := 10) C (fun w h => wC_in (inX0 w h)) 0 rfl rfl 0 (by decide) (wC_in fX0_13) rfl rfl dX0_extend_79 ?_
              refine w_iload_n C dX0_extend_82 0 rfl ?_
              refine w_iconst C dX0_extend_83 ?_
              refine w_isub C dX0_extend_84 ?_
              refine w_aald (n := 10) (f := (fun i => some (P i))) C 1 5 rfl rfl rfl (k - 1) ⟨by omega, by omega, by omega⟩ (rfl) dX0_extend_85 ?_
              refine c_top C ((cx, .inr (0, [.ref rx, .int (iZ ((k : Int))), .ref (P 10), .ref (Q 77), .ref (Q 78), .ref (Q 79), .ref (Q 80), .ref (Q 81), .ref (Q 82), .ref (Q 83)])) :: (rx, .inl (G 5, 10, .inr (.inr (.inr (.inr (fun i => some (P i))))))) :: [] : va_W) X (fun w h => wC_in (inX2 w h)) ((k - 1)) (by omega) hNs.2.2.2.2.2.2.1 dX0_extend_86 ?_
              refine w_isub C dX0_extend_89 ?_
              refine w_top C ((((Ti (k - 2) - Ti (k - 1)) : Nat) : Int)) (by omega) ?_
              refine w_istore_n C [(2, .int (iZ ((((Ti (k - 2) - Ti (k - 1)) : Nat) : Int)))), (1, .int (iZ ((k : Int)))), (0, .ref cx)] dX0_extend_90 rfl (by decide) rfl ?_
              refine w_aload_n C dX0_extend_91 2 rfl ?_
              refine w_get (ci := 0) (ref := "RootIsolator$Chain") (T := TX0) (Cn := RX0) (N := 10) C (fun w h => wC_in (inX0 w h)) 0 rfl rfl 2 (by decide) (wC_in fX0_24) rfl rfl dX0_extend_92 ?_
              refine w_aload_n C dX0_extend_95 2 rfl ?_
              refine w_get (ci := 0) (ref := "RootIsolator$Chain") (T := TX0) (Cn := RX0) (N := 10) C (fun w h => wC_in (inX0 w h)) 0 rfl rfl 0 (by decide) (wC_in fX0_13) rfl rfl dX0_extend_96 ?_
              refine w_iload_n C dX0_extend_99 1 rfl ?_
              refine w_iconst C dX0_extend_100 ?_
              refine w_isub C dX0_extend_101 ?_
              refine w_aald (n := 10) (f := (fun i => some (P i))) C 1 5 rfl rfl rfl (k - 2) ⟨by omega, by omega, by omega⟩ (rfl) dX0_extend_102 ?_
              refine c_copy hA C hNs ((cx, .inr (0, [.ref rx, .int (iZ ((k : Int))), .ref (P 10), .ref (Q 77), .ref (Q 78), .ref (Q 79), .ref (Q 80), .ref (Q 81), .ref (Q 82), .ref (Q 83)])) :: (rx, .inl (G 5, 10, .inr (.inr (.inr (.inr (fun i => some (P i))))))) :: [] : va_W) X hZi hGi 10 (k - 2) (by omega) (by omega) (by omega) ⟨hIT _ (by omega), hS.2.2.2.2.1⟩ (fun q hq => lb_le (hIlb (k - 2) (by omega) q hq) (by omega)) (cwV 1 C.1.2.2.2.2 (wC_V kX0_101 nX2_copy slX2_copy iniX2 cdX2_copy) rfl rfl rfl (by decide +kernel) ⟨Nat.le_of_ble_eq_true rfl, Nat.le_of_ble_eq_true rfl⟩) ⟨Nat.le_of_ble_eq_true rfl, Nat.le_of_ble_eq_true rfl⟩ (Nat.le_of_ble_eq_true rfl) dX0_extend_103 (fun st103 nn103 c103 s103 N103 htp103 hZ103 hG103 => ?_)
              have hN1 : N103 = Ti (k - 2) := tpN_uniq htp103 (ex_tp hS.2.2.2.2.1 hlead2)
              obtain ⟨Za, hZa⟩ : ∃ x : Nat → Int, x = (sP Zi (pB 10) (pN 10) (fun q => if q < Ti (k - 2) then Zi (pB (k - 2) + q) else 0)) := ⟨_, rfl⟩
              rw [← hZa] at hZ103
              obtain ⟨Ta, hTa⟩ : ∃ x : Nat → Nat, x = (qu Ti 10 N103) := ⟨_, rfl⟩
              rw [← hTa]
              have hTa10 : Ta 10 = Ti (k - 2) := by rw [hTa, qu_same, hN1]
              have hTao : ∀ j : Nat, j ≠ 10 → Ta j = Ti j := fun j hj => by rw [hTa, qu_other _ _ hj]
              have hTa1 : Ta (k - 1) = Ti (k - 1) := hTao _ (by omega)
              have hZar : ∀ i : Nat, i < 16 → Za (61 + i) = zr Zi Ti (k - 2) i := fun i hi => by rw [hZa]; exact sP_in _ _ hi
              have hZao : ∀ q : Nat, q < 61 ∨ 77 ≤ q → Za q = Zi q := fun q hq => by rw [hZa]; exact sP_out _ _ (by show q < 61 ∨ 61 + 16 ≤ q; omega)
              have hbA : ∀ i : Nat, i < Ti (k - 1) → Za (pB (k - 1) + i) = zr Zi Ti (k - 1) i := fun i hi => by
                rw [zr_in hi, hZao _ (by omega)]
              have hrdA : ∀ t : Nat, t ≤ (Ti (k - 2) - Ti (k - 1)) + 1 → ∀ i : Nat, i < 16 → rdN (fun i => Za (pB (k - 1) + i)) (Ta (k - 1)) (Ta 10) (fun i => Za (61 + i)) t i = rdN (zr Zi Ti (k - 1)) (Ti (k - 1)) (Ti (k - 2)) (zr Zi Ti (k - 2)) t i := fun t ht i hi => by
                rw [hTa1, hTa10]
                exact rdN_congr hbA (by omega) (by omega) (by omega) hZar t ht i hi
              obtain ⟨ρ, hρ⟩ : ∃ ρ : Nat → Int, ρ = rdN (zr Zi Ti (k - 1)) (Ti (k - 1)) (Ti (k - 2)) (zr Zi Ti (k - 2)) ((Ti (k - 2) - Ti (k - 1)) + 1) := ⟨_, rfl⟩
              refine w_aload_n C dX0_extend_106 2 rfl ?_
              refine w_aload_n C dX0_extend_107 2 rfl ?_
              refine w_get (ci := 0) (ref := "RootIsolator$Chain") (T := TX0) (Cn := RX0) (N := 10) C (fun w h => wC_in (inX0 w h)) 0 rfl rfl 0 (by decide) (wC_in fX0_13) rfl rfl dX0_extend_108 ?_
              refine w_iload_n C dX0_extend_111 1 rfl ?_
              refine w_iconst C dX0_extend_112 ?_
              refine w_isub C dX0_extend_113 ?_
              refine w_aald (n := 10) (f := (fun i => some (P i))) C 1 5 rfl rfl rfl (k - 1) ⟨by omega, by omega, by omega⟩ (rfl) dX0_extend_114 ?_
              have hle104 := pG_le hZ103 hG103
              refine g_callv (N := nW) [.ref (P (k - 1))] hA C hNs nW_ok (cc_reduceBy l D G X Q P PA Ta st103 nn103 Za cx rx (k - 1) (iZ (k : Int)) hZ103 (by omega) ⟨by rw [hTao _ (by omega)]; omega, by rw [hTao _ (by omega)]; exact hIT _ (by omega)⟩ (by rw [hTa10]; omega) (by rw [hTao _ (by omega), hbA _ (by omega)]; exact hleadb) (fun i hi => by rw [hTao _ (by omega)] at hi; rw [hZao _ (by omega)]; exact lb_le (hIlb (k - 1) (by omega) i hi) (by omega)) (fun t ht i hi => by rw [hTa1, hTa10] at ht; rw [hrdA t (by omega) i hi]; exact ex_bnd hS (by omega) (by omega) t (by omega) i hi)) (cwV 1 C.1.2.2.2.2 (wC_V kX0_113 nX0_reduceBy slX0_reduceBy iniX0 cdX0_reduceBy) rfl rfl rfl (by decide +kernel) ⟨Nat.le_of_ble_eq_true rfl, Nat.le_of_ble_eq_true rfl⟩) (q0 := 0) rfl rfl rfl rfl ⟨by show c103 + 2156 ≤ 3234; omega, by show s103 + 802816 ≤ 1204224; omega⟩ (Nat.le_of_ble_eq_true rfl) dX0_extend_115 [.ref (P (k - 1)), .ref cx] rfl (fun v104 hv104 => ?_)
              obtain ⟨st104, nn104, e104, f104, sc104, up104, tm104, N104, htp104, hZ104, hH104, rfl⟩ := hv104
              have hG104 := pG_trans hG103 hH104
              refine w_cs (c103 + e104) (s103 + f104) rfl rfl ?_
              have hst : Ta 10 + 1 - Ta (k - 1) = (Ti (k - 2) - Ti (k - 1)) + 1 := by rw [hTa1, hTa10]; omega
              rw [hst] at hZ104 htp104
              have htb : tpN ρ 16 N104 := tpN_ext htp104 (fun i hi => by rw [hρ]; exact hrdA _ (Nat.le_refl _) i hi)
              rw [rZ_congr (ρ' := ρ) (fun i hi => by rw [hρ]; exact hrdA _ (Nat.le_refl _) i hi)] at hZ104
              obtain ⟨Zb, hZb⟩ : ∃ x : Nat → Int, x = (rZ Za sc104 up104 tm104 ρ) := ⟨_, rfl⟩
              rw [← hZb] at hZ104
              obtain ⟨Tb, hTb⟩ : ∃ x : Nat → Nat, x = (qu Ta 10 N104) := ⟨_, rfl⟩
              rw [← hTb]
              have hTb10 : Tb 10 = N104 := by rw [hTb, qu_same]
              have hTbo : ∀ j : Nat, j ≠ 10 → Tb j = Ti j := fun j hj => by rw [hTb, qu_other _ _ hj, hTao j hj]
              have hZbr : ∀ i : Nat, i < 16 → Zb (61 + i) = ρ i := fun i hi => by rw [hZb]; exact rZ_r hi
              have hZbo : ∀ q : Nat, q < 61 ∨ (77 ≤ q ∧ q < 81) ∨ 83 < q → Zb q = Zi q := fun q hq => by rw [hZb, rZ_o hq, hZao q (by omega)]
              rw [← hTb10] at htb
              refine w_aload_n C dX0_extend_118 2 rfl ?_
              refine w_get (ci := 0) (ref := "RootIsolator$Chain") (T := TX0) (Cn := RX0) (N := 10) C (fun w h => wC_in (inX0 w h)) 0 rfl rfl 2 (by decide) (wC_in fX0_24) rfl rfl dX0_extend_119 ?_
              refine c_top C ((cx, .inr (0, [.ref rx, .int (iZ ((k : Int))), .ref (P 10), .ref (Q 77), .ref (Q 78), .ref (Q 79), .ref (Q 80), .ref (Q 81), .ref (Q 82), .ref (Q 83)])) :: (rx, .inl (G 5, 10, .inr (.inr (.inr (.inr (fun i => some (P i))))))) :: [] : va_W) X (fun w h => wC_in (inX2 w h)) (10) (by omega) hNs.2.2.2.2.2.2.1 dX0_extend_122 ?_
              refine w_if_lt C 166 dX0_extend_125 (by decide) ⟨by have := htb.1; omega, by have := htb.1; omega⟩ (fun c125 => ?_) (fun c125 => ?_)
              · refine w_iinc C (((k + 1 : Nat) : Int)) (by omega) [(1, .int (iZ (((k + 1 : Nat) : Int)))), (2, .int (iZ ((((Ti (k - 2) - Ti (k - 1)) : Nat) : Int)))), (0, .ref cx)] dX0_extend_166 1 rfl (by decide) rfl ?_
                refine w_goto C 39 dX0_extend_169 (by decide) ?_
                refine w_sub [(1, .int (iZ (((k + 1 : Nat) : Int)))), (0, .ref cx)] [0, 2] rfl ?_
                have hmv := ex_move (Z2 := Zb) (T2 := Tb) (by omega) hS.1 (fun r hr => hZbo r (by omega)) hTbo htb.1
                have hFz : exF Z T Zb Tb k := ⟨hmv.1, by omega, by omega, fun h => absurd h (by omega), fun _ => ⟨by omega, hmv.2 (ex_zero hS (by omega) (fun i hi => by rw [← hρ]; exact htb.2.1 i (by omega) hi))⟩⟩
                refine w_iload_n C dX0_extend_39 0 rfl ?_
                refine w_bipush C dX0_extend_40 (by decide) ?_
                refine w_icmp_ge C 172 dX0_extend_42 (by decide) ⟨⟨by omega, by omega⟩, by omega, by omega⟩ (fun c42b => ?_) (fun c42b => ?_)
                · have hle := pG_le hZ104 hG104
                  exact g_vret hsz hhs C hr hlk ⟨by omega, by omega⟩ (⟨_, _, _, _, Zb, Tb, k, hFz, hZ104, hG104, rfl⟩) dX0_extend_172
                · refine w_aload_n C dX0_extend_45 1 rfl ?_
                  refine w_get (ci := 0) (ref := "RootIsolator$Chain") (T := TX0) (Cn := RX0) (N := 10) C (fun w h => wC_in (inX0 w h)) 0 rfl rfl 1 (by decide) (wC_in fX0_17) rfl rfl dX0_extend_46 ?_
                  refine w_iload_n C dX0_extend_49 0 rfl ?_
                  refine w_icmp_ne C 172 dX0_extend_50 (by decide) ⟨⟨by omega, by omega⟩, by omega, by omega⟩ (fun c50b => ?_) (fun c50b => ?_)
                  · have hle := pG_le hZ104 hG104
                    exact g_vret hsz hhs C hr hlk ⟨by omega, by omega⟩ (⟨_, _, _, _, Zb, Tb, k, hFz, hZ104, hG104, rfl⟩) dX0_extend_172
                  · exact absurd c50b (by omega)
              · obtain ⟨f, hq, qq, s1, s2, s3, s4, s5, s6, s7, s8, s9, s10, s11, s12⟩ := ex_step hS (by omega) (by omega) ⟨h1.1, t0, t1⟩ hlb hρ htb (by omega)
                have hdd : (Ti (k - 2) - Ti (k - 1)) ≤ 7 := by have := hS.2.2.2.2.2.1 (by omega); omega
                have hg1 : ∀ e9 : Nat, e9 ≤ (Ti (k - 2) - Ti (k - 1)) → lb (Zi 77 * Zi 78 ^ e9) 900 := fun e9 he9 => lb_le (lb_mul hS.2.2.2.2.2.2.1 (lb_pow hS.2.2.2.2.2.2.2.1 e9)) (by omega)
                have hNp : Tb 10 + k ≤ 10 := by have := hS.2.2.1.1; omega
                have hpk := pN_k (k := k) (by omega)
                refine w_aload_n C dX0_extend_128 2 rfl ?_
                refine w_iload_n C dX0_extend_129 0 rfl ?_
                have hle105 := pG_le hZ104 hG104
                refine g_callv (N := nW) [.int (iZ ((((Ti (k - 2) - Ti (k - 1)) : Nat) : Int)))] hA C hNs nW_ok (cc_divideRest l D G X Q P PA Tb st104 nn104 Zb cx rx (Ti (k - 2) - Ti (k - 1)) (iZ (k : Int)) f hZ104 (by omega) htb.1 (fun i hi => by rw [hZbr i (by have := htb.1; omega), hZbo 77 (by omega), hZbo 78 (by omega)]; exact s1 i) (by rw [hZbo 77 (by omega), hZbo 78 (by omega)]; exact Int.ne_of_gt (Int.mul_pos s2 (q_pow_pos s3 _))) (by rw [hZbo 77 (by omega), hZbo 78 (by omega)]; exact ⟨lb_le hS.2.2.2.2.2.2.2.1 (by omega), hg1⟩)) (cwV 1 C.1.2.2.2.2 (wC_V kX0_116 nX0_divideRest slX0_divideRest iniX0 cdX0_divideRest) rfl rfl rfl (by decide +kernel) ⟨Nat.le_of_ble_eq_true rfl, Nat.le_of_ble_eq_true rfl⟩) (q0 := 0) rfl rfl rfl rfl ⟨by show (c103 + e104) + 2156 ≤ 3234; omega, by show (s103 + f104) + 802816 ≤ 1204224; omega⟩ (Nat.le_of_ble_eq_true rfl) dX0_extend_130 [.int (iZ ((((Ti (k - 2) - Ti (k - 1)) : Nat) : Int))), .ref cx] rfl (fun v105 hv105 => ?_)
                obtain ⟨st105, nn105, e105, f105, y105, hZ105, hH105, rfl⟩ := hv105
                have hG105 := pG_trans hG104 hH105
                refine w_cs ((c103 + e104) + e105) ((s103 + f104) + f105) rfl rfl ?_
                obtain ⟨Zc, hZc⟩ : ∃ x : Nat → Int, x = (dZ Zb y105 (fun i => if i < Tb 10 then -(f i) else Zb (61 + i))) := ⟨_, rfl⟩
                rw [← hZc] at hZ105
                have hZcr : ∀ i : Nat, i < Tb 10 → Zc (61 + i) = -(f i) := fun i hi => by rw [hZc, dZ_r (by have := htb.1; omega), if_pos hi]
                have hZco : ∀ q : Nat, q < 61 ∨ q = 77 ∨ q = 78 ∨ 83 < q → Zc q = Zi q := fun q hq => by rw [hZc, dZ_o ⟨by omega, by omega⟩, hZbo q (by omega)]
                refine w_aload_n C dX0_extend_133 2 rfl ?_
                refine w_get (ci := 0) (ref := "RootIsolator$Chain") (T := TX0) (Cn := RX0) (N := 10) C (fun w h => wC_in (inX0 w h)) 0 rfl rfl 0 (by decide) (wC_in fX0_13) rfl rfl dX0_extend_134 ?_
                refine w_iload_n C dX0_extend_137 1 rfl ?_
                refine w_aald (n := 10) (f := (fun i => some (P i))) C 1 5 rfl rfl rfl (k) ⟨by omega, by omega, by omega⟩ (rfl) dX0_extend_138 ?_
                refine w_aload_n C dX0_extend_139 2 rfl ?_
                refine w_get (ci := 0) (ref := "RootIsolator$Chain") (T := TX0) (Cn := RX0) (N := 10) C (fun w h => wC_in (inX0 w h)) 0 rfl rfl 2 (by decide) (wC_in fX0_24) rfl rfl dX0_extend_140 ?_
                refine c_copy hA C hNs ((cx, .inr (0, [.ref rx, .int (iZ ((k : Int))), .ref (P 10), .ref (Q 77), .ref (Q 78), .ref (Q 79), .ref (Q 80), .ref (Q 81), .ref (Q 82), .ref (Q 83)])) :: (rx, .inl (G 5, 10, .inr (.inr (.inr (.inr (fun i => some (P i))))))) :: [] : va_W) X hZ105 hG105 k 10 (by omega) (by omega) (by omega) ⟨htb.1, by omega⟩ (fun q hq => by have e9 := hZcr q hq; show lb (Zc (61 + q)) 1024; rw [e9]; have h9 := s4 q; exact lb_le (N := 95) (by unfold lb at *; omega) (by omega)) (cwV 1 C.1.2.2.2.2 (wC_V kX0_101 nX2_copy slX2_copy iniX2 cdX2_copy) rfl rfl rfl (by decide +kernel) ⟨Nat.le_of_ble_eq_true rfl, Nat.le_of_ble_eq_true rfl⟩) ⟨Nat.le_of_ble_eq_true rfl, Nat.le_of_ble_eq_true rfl⟩ (Nat.le_of_ble_eq_true rfl) dX0_extend_143 (fun st106 nn106 c106 s106 N106 htp106 hZ106 hG106 => ?_)
                have hN2 : N106 = Tb 10 := tpN_uniq htp106 (ex_tp (by omega) (fun i hi => by have e9 := hZcr i (by omega); show Zc (61 + i) ≠ 0; rw [e9]; have h9 := s8; rw [show Tb 10 - 1 = i by omega] at h9; omega))
                obtain ⟨Zd, hZd⟩ : ∃ x : Nat → Int, x = (sP Zc (pB k) (pN k) (fun q => if q < Tb 10 then Zc (pB 10 + q) else 0)) := ⟨_, rfl⟩
                rw [← hZd] at hZ106
                obtain ⟨Td, hTd⟩ : ∃ x : Nat → Nat, x = (qu Tb k N106) := ⟨_, rfl⟩
                rw [← hTd]
                have hTdk : Td k = Tb 10 := by rw [hTd, qu_same, hN2]
                have hTdo : ∀ j : Nat, j ≠ k → Td j = Tb j := fun j hj => by rw [hTd, qu_other _ _ hj]
                have hZdk : ∀ i : Nat, i < Tb 10 → Zd (pB k + i) = -(f i) := fun i hi => by
                  rw [hZd, sP_in _ _ (by omega), if_pos hi]; exact hZcr i hi
                have hZdo : ∀ r : Nat, (r < 61 ∧ (r < pB k ∨ pB k + pN k ≤ r)) ∨ r = 77 ∨ r = 78 ∨ 83 < r → Zd r = Zi r := fun r hr => by rw [hZd, sP_out _ _ (by omega), hZco r (by omega)]
                have hpb1 : pB (k - 1) + pN (k - 1) ≤ pB k ∨ pB k + pN k ≤ pB (k - 1) := pB_d (by omega) (by omega) (by omega)
                have hit1 := hIT (k - 1) (by omega)
                have hp61 : pB (k - 1) + pN (k - 1) ≤ 61 := by
                  have h9 : ∀ j : Fin 10, pB j.val + pN j.val ≤ 61 := by decide
                  exact h9 ⟨k - 1, by omega⟩
                have hleadd : Zd (pB (k - 1) + (Td (k - 1) - 1)) = zr Zi Ti (k - 1) (Ti (k - 1) - 1) := by
                  rw [hTdo _ (by omega), hTbo _ (by omega), zr_in (by omega), hZdo _ (by omega)]
                refine w_aload_n C dX0_extend_146 2 rfl ?_
                refine w_iload_n C dX0_extend_147 1 rfl ?_
                refine w_iconst C dX0_extend_148 ?_
                refine w_iadd C dX0_extend_149 ?_
                refine w_top C (((k + 1 : Nat) : Int)) (by omega) ?_
                refine w_put (ci := 0) (ref := "RootIsolator$Chain") (T := TX0) (Cn := RX0) (N := 10) (ty := .int) C ((cx, .inr (0, [.ref rx, .int (iZ (((k + 1 : Nat) : Int))), .ref (P 10), .ref (Q 77), .ref (Q 78), .ref (Q 79), .ref (Q 80), .ref (Q 81), .ref (Q 82), .ref (Q 83)])) :: (rx, .inl (G 5, 10, .inr (.inr (.inr (.inr (fun i => some (P i))))))) :: ((fp G Q P PA Td ++ X) ++ pl st106) : va_W) (fun w h => wC_in (inX0 w h)) tyX0 tyX0_ok nmX0 0 rfl rfl 1 (by decide) (wC_in fX0_17) rfl rfl (by decide +kernel) rfl rfl (Nat.le_of_ble_eq_true rfl) rfl dX0_extend_150 ?_
                refine w_aload_n C dX0_extend_153 2 rfl ?_
                refine w_aload_n C dX0_extend_154 2 rfl ?_
                refine w_get (ci := 0) (ref := "RootIsolator$Chain") (T := TX0) (Cn := RX0) (N := 10) C (fun w h => wC_in (inX0 w h)) 0 rfl rfl 0 (by decide) (wC_in fX0_13) rfl rfl dX0_extend_155 ?_
                refine w_iload_n C dX0_extend_158 1 rfl ?_
                refine w_iconst C dX0_extend_159 ?_
                refine w_isub C dX0_extend_160 ?_
                refine w_aald (n := 10) (f := (fun i => some (P i))) C 1 5 rfl rfl rfl (k - 1) ⟨by omega, by omega, by omega⟩ (rfl) dX0_extend_161 ?_
                refine w_iload_n C dX0_extend_162 0 rfl ?_
                have hle107 := pG_le hZ106 hG106
                refine g_callv (N := nW) [.ref (P (k - 1)), .int (iZ ((((Ti (k - 2) - Ti (k - 1)) : Nat) : Int)))] hA C hNs nW_ok (cc_nextGauge l D G X Q P PA Td st106 nn106 Zd cx rx (k - 1) (Ti (k - 2) - Ti (k - 1)) (iZ ((k + 1 : Nat) : Int)) hq hZ106 (by omega) (by omega) ⟨by rw [hTdo _ (by omega), hTbo _ (by omega)]; omega, by rw [hTdo _ (by omega), hTbo _ (by omega)]; exact hit1⟩ (by rw [hleadd]; exact s10) (by rw [hZdo 78 (by omega)]; omega) (fun hd9 => by rw [hleadd, hZdo 78 (by omega)]; exact s6 hd9) (by rw [hleadd, hZdo 78 (by omega)]; exact ⟨lb_le hS.2.2.2.2.2.2.2.1 (by omega), fun e9 he9 => ⟨lb_le (lb_pow hlc95 e9) (by omega), lb_le (lb_pow hS.2.2.2.2.2.2.2.1 e9) (by omega)⟩, lb_le s5 (by omega), lb_le hlc95 (by omega)⟩)) (cwV 2 C.1.2.2.2.2 (wC_V kX0_119 nX0_nextGauge slX0_nextGauge iniX0 cdX0_nextGauge) rfl rfl rfl (by decide +kernel) ⟨Nat.le_of_ble_eq_true rfl, Nat.le_of_ble_eq_true rfl⟩) (q0 := 0) rfl rfl rfl rfl ⟨by show c106 + 2156 ≤ 3234; omega, by show s106 + 802816 ≤ 1204224; omega⟩ (Nat.le_of_ble_eq_true rfl) dX0_extend_163 [.int (iZ ((((Ti (k - 2) - Ti (k - 1)) : Nat) : Int))), .ref (P (k - 1)), .ref cx] rfl (fun v107 hv107 => ?_)
                obtain ⟨st107, nn107, e107, f107, x79107, x80107, hZ107, hH107, rfl⟩ := hv107
                have hG107 := pG_trans hG106 hH107
                refine w_cs (c106 + e107) (s106 + f107) rfl rfl ?_
                obtain ⟨Ze, hZe⟩ : ∃ x : Nat → Int, x = (n4 Zd ((Zd (pB (k - 1) + (Td (k - 1) - 1))).natAbs : Int) (if (Ti (k - 2) - Ti (k - 1)) = 0 then Zd 78 else hq) x79107 x80107) := ⟨_, rfl⟩
                rw [← hZe] at hZ107
                refine w_iinc C (((k + 1 : Nat) : Int)) (by omega) [(1, .int (iZ (((k + 1 : Nat) : Int)))), (2, .int (iZ ((((Ti (k - 2) - Ti (k - 1)) : Nat) : Int)))), (0, .ref cx)] dX0_extend_166 1 rfl (by decide) rfl ?_
                refine w_goto C 39 dX0_extend_169 (by decide) ?_
                refine w_sub [(1, .int (iZ (((k + 1 : Nat) : Int)))), (0, .ref cx)] [0, 2] rfl ?_
                refine ih2 (k + 1) Ze Td _ _ _ _ (by omega) (by omega) ?_ hZ107 hG107
                refine ex_next hS (by omega) t1 s1 s2 s3 s4 s5 (by omega) s7 s8 s9 s11 s12 (fun r hr => ?_) (fun j g1 g2 => ?_) hTdk ?_ (fun i hi => ?_) ?_ ?_
                · rw [hZe, n4_o (by omega), hZdo r (by omega)]
                · rw [hTdo j g2, hTbo j g1]
                · rw [hTdo 10 (by omega)]; exact htb.1
                · rw [hZe, n4_o (by omega), hZdk i hi]
                · rw [hZe, n4_77, hleadd]
                · rw [hZe, n4_78, hZdo 78 (by omega)]
    exact lp 9 2 Zg T st2 nn2 c2 s2 (by omega) (by omega) (ex_base h1 hT (hld (by omega)) hlb (by omega) hZgo hZg77 hZg78) hZ2 hG2
  · refine w_iconst C dX0_extend_29 ?_
    refine w_goto C 34 dX0_extend_30 (by decide) ?_
    refine w_put (ci := 0) (ref := "RootIsolator$Chain") (T := TX0) (Cn := RX0) (N := 10) (ty := .int) C ((cx, .inr (0, [.ref rx, .int (iZ (1)), .ref (P 10), .ref (Q 77), .ref (Q 78), .ref (Q 79), .ref (Q 80), .ref (Q 81), .ref (Q 82), .ref (Q 83)])) :: (rx, .inl (G 5, 10, .inr (.inr (.inr (.inr (fun i => some (P i))))))) :: ((fp G Q P PA T ++ X) ++ pl st2) : va_W) (fun w h => wC_in (inX0 w h)) tyX0 tyX0_ok nmX0 0 rfl rfl 1 (by decide) (wC_in fX0_17) rfl rfl (by decide +kernel) rfl rfl (Nat.le_of_ble_eq_true rfl) rfl dX0_extend_34 ?_
    refine w_iconst C dX0_extend_37 ?_
    refine w_istore_n C [(1, .int (iZ (2))), (0, .ref cx)] dX0_extend_38 rfl (by decide) rfl ?_
    refine w_iload_n C dX0_extend_39 0 rfl ?_
    refine w_bipush C dX0_extend_40 (by decide) ?_
    refine w_icmp_ge C 172 dX0_extend_42 (by decide) ⟨⟨by omega, by omega⟩, by omega, by omega⟩ (fun c42a => ?_) (fun c42a => ?_)
    · exact absurd c42a (by omega)
    · refine w_aload_n C dX0_extend_45 1 rfl ?_
      refine w_get (ci := 0) (ref := "RootIsolator$Chain") (T := TX0) (Cn := RX0) (N := 10) C (fun w h => wC_in (inX0 w h)) 0 rfl rfl 1 (by decide) (wC_in fX0_17) rfl rfl dX0_extend_46 ?_
      refine w_iload_n C dX0_extend_49 0 rfl ?_
      refine w_icmp_ne C 172 dX0_extend_50 (by decide) ⟨⟨by omega, by omega⟩, by omega, by omega⟩ (fun c50a => ?_) (fun c50a => ?_)
      · have hle := pG_le hZ2 hG2
        exact g_vret hsz hhs C hr hlk ⟨by omega, by omega⟩ (⟨_, _, _, _, Zg, T, 1, ex_1 hT (by omega) hlb hZgo rfl, hZ2, hG2, rfl⟩) dX0_extend_172
      · exact absurd c50a (by omega)
