/-- a row of whole numbers as a polynomial -/
def gp (g : Nat → Int32) : Nat → Int := fun i => if i < 9 then (g i).toInt else 0
def dp (c : Nat → Int) : Nat → Int := fun i => c (i + 1) * ((i + 1 : Nat) : Int)
/-- a chain stands in the rows -/
def chn (Z : Nat → Int) (T : Nat → Nat) (us : Nat) : Prop := (∀ j : Nat, j < 12 → T j ≤ pN j) ∧ (∀ i : Nat, 2 ≤ i → i < us → lnk Z T i) ∧ (∀ i : Nat, i < us → ∀ s : Nat, s < T i → lb (Z (pB i + s)) 95) ∧ (1 ≤ us ∧ us ≤ 10) ∧ (T 1 = 0 → us = 1) ∧ (1 ≤ T 1 → 2 ≤ us ∧ fnl Z T us) ∧ 1 ≤ T 0 ∧ T 1 ≤ T 0 ∧ zr Z T 0 (T 0 - 1) ≠ 0 ∧ (1 ≤ T 1 → zr Z T 1 (T 1 - 1) ≠ 0)
theorem exF_chn {Z : Nat → Int} {T : Nat → Nat} {Z1 : Nat → Int} {T1 : Nat → Nat} {us : Nat} (h : exF Z T Z1 T1 us) (hT : ∀ j : Nat, j < 12 → T j ≤ pN j) (h01 : T 1 ≤ T 0 ∧ 1 ≤ T 0) (hl0 : Z (pB 0 + (T 0 - 1)) ≠ 0) (hl1 : 1 ≤ T 1 → Z (pB 1 + (T 1 - 1)) ≠ 0) : chn Z1 T1 us ∧ zr Z1 T1 0 = zr Z T 0 ∧ zr Z1 T1 1 = zr Z T 1 ∧ T1 0 = T 0 ∧ T1 1 = T 1 ∧ (∀ q : Nat, 84 ≤ q → Z1 q = Z q) ∧ ∀ j : Nat, 11 ≤ j → T1 j = T j := by
  obtain ⟨⟨i1, i2, i3, i4, i5⟩, a1, a2, a3, a4⟩ := h
  have t0 : T 0 ≤ 16 := hT 0 (by omega)
  have t1 : T 1 ≤ 9 := hT 1 (by omega)
  have e0 := i2 0 (by omega)
  have e1 := i2 1 (by omega)
  have z0 : zr Z1 T1 0 = zr Z T 0 := zr_congr e0 (fun s hs => i1 _ (Or.inl (by show 0 + s < 25; omega)))
  have z1 : zr Z1 T1 1 = zr Z T 1 := zr_congr e1 (fun s hs => i1 _ (Or.inl (by show 16 + s < 25; omega)))
  refine ⟨⟨i3, i4, i5, ⟨a1, a2⟩, by rw [e1]; exact a3, by rw [e1]; exact a4, by rw [e0]; exact h01.2, by rw [e0, e1]; exact h01.1, ?_, fun h => ?_⟩, z0, z1, e0, e1, fun q hq => i1 q (Or.inr hq), fun j hj => i2 j (Or.inr hj)⟩
  · rw [z0, e0, zr_in (by omega)]; exact hl0
  · rw [e1] at h
    rw [z1, e1, zr_in (by omega)]; exact hl1 h
theorem tp9 {g : Nat → Int32} {N n : Nat} (h : tpN (gp g) n N) : N ≤ 9 := by
  rcases Nat.lt_or_ge 9 N with q | q
  · exact absurd (show gp g (N - 1) = 0 from if_neg (by omega)) (h.2.2 (N - 1) (by omega))
  · exact q
theorem gp_lb {g : Nat → Int32} (hg : ∀ i : Nat, i < 9 → ((g i).toInt.natAbs : Int) ≤ 1000000000) (i : Nat) : lb (gp g i) 1 := by
  unfold gp
  rw [lb_1]
  by_cases h : i < 9
  · rw [if_pos h]; have := hg i h; omega
  · rw [if_neg h]; decide
theorem zr_tp {Z : Nat → Int} {T : Nat → Nat} {j n : Nat} {c : Nat → Int} (h : tpN c n (T j)) (hz : ∀ i : Nat, n ≤ i → c i = 0) (hc : ∀ i : Nat, i < n → Z (pB j + i) = c i) : zr Z T j = c := by
  funext s
  by_cases q : s < T j
  · rw [zr_in q, hc s (by have := h.1; omega)]
  · rw [zr_out (by omega)]
    rcases Nat.lt_or_ge s n with r | r
    · exact (h.2.1 s (by omega) r).symm
    · exact (hz s r).symm
set_option maxHeartbeats 4000000 in
set_option maxRecDepth 100000 in
/-- startRoots -/
theorem cc_startRoots (l : Launch) (D : va_G) (G : Nat → ClassId) (X : va_W) (Q P PA T : Nat → Nat) (st : Nat → va_W) (nn : Nat → Nat) (Z : Nat → Int) (cx rx ra : Nat) (us0 : Int32) (g : Nat → Int32) (hZ : pAll G Q st nn Z) (hT : ∀ j : Nat, j < 12 → T j ≤ pN j) (hg : ∀ i : Nat, i < 9 → ((g i).toInt.natAbs : Int) ≤ 1000000000) (hne : ∃ i : Nat, i < 9 ∧ (g i).toInt ≠ 0) (sz hs : Nat) : Met l yX0_startRoots (wC yX0_startRoots cX0_startRoots 2 none) ({ frames := 5, cells := 4312, slots := 1605632, locals := 139 }) (va_Pc [.ref cx, .ref ra] (cPre nW D G ((cx, .inr (0, [.ref rx, .int (us0), .ref (P 10), .ref (Q 77), .ref (Q 78), .ref (Q 79), .ref (Q 80), .ref (Q 81), .ref (Q 82), .ref (Q 83)])) :: (rx, .inl (G 5, 10, .inr (.inr (.inr (.inr (fun i => some (P i))))))) :: (ra, .inl (G 0, 9, .inl g)) :: ((fp G Q P PA T ++ X) ++ pl st) : va_W) sz hs)) (va_Qv (fun (u : cS) => ∃ (st1 : Nat → va_W) (nn1 : Nat → Nat) (c1 s1 : Nat) (Z1 : Nat → Int) (T1 : Nat → Nat) (us1 : Nat), (chn Z1 T1 us1 ∧ zr Z1 T1 0 = gp g ∧ zr Z1 T1 1 = dp (gp g) ∧ (∀ q : Nat, 84 ≤ q → Z1 q = Z q) ∧ ∀ j : Nat, 11 ≤ j → T1 j = T j) ∧ pAll G Q st1 nn1 (Z1) ∧ pG (pC nn) (pS nn) nn1 c1 s1 ∧ u = (((cx, .inr (0, [.ref rx, .int (iZ ((us1 : Int))), .ref (P 10), .ref (Q 77), .ref (Q 78), .ref (Q 79), .ref (Q 80), .ref (Q 81), .ref (Q 82), .ref (Q 83)])) :: (rx, .inl (G 5, 10, .inr (.inr (.inr (.inr (fun i => some (P i))))))) :: (ra, .inl (G 0, 9, .inl g)) :: ((fp G Q P PA T1 ++ X) ++ pl st1) : va_W), c1, s1)) (cAt D G (va_A ((cx, .inr (0, [.ref rx, .int (us0), .ref (P 10), .ref (Q 77), .ref (Q 78), .ref (Q 79), .ref (Q 80), .ref (Q 81), .ref (Q 82), .ref (Q 83)])) :: (rx, .inl (G 5, 10, .inr (.inr (.inr (.inr (fun i => some (P i))))))) :: (ra, .inl (G 0, 9, .inl g)) :: ((fp G Q P PA T ++ X) ++ pl st) : va_W) sz) sz hs) (va_A ((cx, .inr (0, [.ref rx, .int (us0), .ref (P 10), .ref (Q 77), .ref (Q 78), .ref (Q 79), .ref (Q 80), .ref (Q 81), .ref (Q 82), .ref (Q 83)])) :: (rx, .inl (G 5, 10, .inr (.inr (.inr (.inr (fun i => some (P i))))))) :: (ra, .inl (G 0, 9, .inl g)) :: ((fp G Q P PA T ++ X) ++ pl st) : va_W) sz)) 4312 1605632 (va_A ((cx, .inr (0, [.ref rx, .int (us0), .ref (P 10), .ref (Q 77), .ref (Q 78), .ref (Q 79), .ref (Q 80), .ref (Q 81), .ref (Q 82), .ref (Q 83)])) :: (rx, .inl (G 5, 10, .inr (.inr (.inr (.inr (fun i => some (P i))))))) :: (ra, .inl (G 0, 9, .inl g)) :: ((fp G Q P PA T ++ X) ++ pl st) : va_W) sz) := by
  refine g_met (cc := cX0_startRoots) (maxL := 2) (ret := none) (own := RX0) (by decide) rfl rfl (Nat.le_of_ble_eq_true rfl) ?_
  intro p e s m below meth c hsz hhs hNs hA C hr hlk
  refine w_sub [(0, .ref cx), (1, .ref ra)] [0, 1] rfl ?_
  have hG : pG (pC nn) (pS nn) nn 0 0 := ⟨Nat.le_of_eq (Nat.zero_add _), Nat.le_of_eq (Nat.zero_add _)⟩
  refine w_aload_n C dX0_startRoots_0 0 rfl ?_
  refine w_get (ci := 0) (ref := "RootIsolator$Chain") (T := TX0) (Cn := RX0) (N := 10) C (fun w h => wC_in (inX0 w h)) 0 rfl rfl 0 (by decide) (wC_in fX0_13) rfl rfl dX0_startRoots_1 ?_
  refine w_iconst C dX0_startRoots_4 ?_
  refine w_aald (n := 10) (f := (fun i => some (P i))) C 1 5 rfl rfl rfl (0) ⟨by omega, by omega, by omega⟩ (rfl) dX0_startRoots_5 ?_
  refine w_aload_n C dX0_startRoots_6 1 rfl ?_
  refine c_load hA C hNs ((cx, .inr (0, [.ref rx, .int (us0), .ref (P 10), .ref (Q 77), .ref (Q 78), .ref (Q 79), .ref (Q 80), .ref (Q 81), .ref (Q 82), .ref (Q 83)])) :: (rx, .inl (G 5, 10, .inr (.inr (.inr (.inr (fun i => some (P i))))))) :: (ra, .inl (G 0, 9, .inl g)) :: [] : va_W) X hZ hG 0 (by omega) ra g ((cx, .inr (0, [.ref rx, .int (us0), .ref (P 10), .ref (Q 77), .ref (Q 78), .ref (Q 79), .ref (Q 80), .ref (Q 81), .ref (Q 82), .ref (Q 83)])) :: (rx, .inl (G 5, 10, .inr (.inr (.inr (.inr (fun i => some (P i))))))) :: [] : va_W) (List.perm_append_comm (l₁ := ((cx, .inr (0, [.ref rx, .int (us0), .ref (P 10), .ref (Q 77), .ref (Q 78), .ref (Q 79), .ref (Q 80), .ref (Q 81), .ref (Q 82), .ref (Q 83)])) :: (rx, .inl (G 5, 10, .inr (.inr (.inr (.inr (fun i => some (P i))))))) :: [] : va_W)) (l₂ := ((ra, .inl (G 0, 9, .inl g)) :: [] : va_W))) (cwV 1 C.1.2.2.2.2 (wC_V kX0_60 nX2_load slX2_load iniX2 cdX2_load) rfl rfl rfl (by decide +kernel) ⟨Nat.le_of_ble_eq_true rfl, Nat.le_of_ble_eq_true rfl⟩) ⟨Nat.le_of_ble_eq_true rfl, Nat.le_of_ble_eq_true rfl⟩ (Nat.le_of_ble_eq_true rfl) dX0_startRoots_7 (fun st1 nn1 c1 s1 N1 htp1 hZ1 hG1 => ?_)
  have htp0 : tpN (gp g) 16 N1 := htp1
  have hN9 : N1 ≤ 9 := tp9 htp0
  have hN1 : 1 ≤ N1 := by
    obtain ⟨i, hi, hi2⟩ := hne
    rcases Nat.eq_zero_or_pos N1 with q | q
    · exact absurd (htp0.2.1 i (by omega) (by omega)) (by unfold gp; rw [if_pos hi]; exact hi2)
    · exact q
  obtain ⟨Za, hZa⟩ : ∃ x : Nat → Int, x = (sP Z (pB 0) (pN 0) (fun j => if j < 9 then (g j).toInt else 0)) := ⟨_, rfl⟩
  rw [← hZa] at hZ1
  obtain ⟨Ta, hTa⟩ : ∃ x : Nat → Nat, x = (qu T 0 N1) := ⟨_, rfl⟩
  rw [← hTa]
  have hTa0 : Ta 0 = N1 := by rw [hTa, qu_same]
  have hTao : ∀ j : Nat, j ≠ 0 → Ta j = T j := fun j hj => by rw [hTa, qu_other _ _ hj]
  have hZa0 : ∀ i : Nat, i < 16 → Za (pB 0 + i) = gp g i := fun i hi => by rw [hZa]; exact sP_in _ _ hi
  have hZao : ∀ q : Nat, 16 ≤ q → Za q = Z q := fun q hq => by rw [hZa]; exact sP_out _ _ (Or.inr hq)
  rw [← hTa0] at htp0 hN9 hN1
  refine w_aload_n C dX0_startRoots_10 0 rfl ?_
  refine w_get (ci := 0) (ref := "RootIsolator$Chain") (T := TX0) (Cn := RX0) (N := 10) C (fun w h => wC_in (inX0 w h)) 0 rfl rfl 0 (by decide) (wC_in fX0_13) rfl rfl dX0_startRoots_11 ?_
  refine w_iconst C dX0_startRoots_14 ?_
  refine w_aald (n := 10) (f := (fun i => some (P i))) C 1 5 rfl rfl rfl (1) ⟨by omega, by omega, by omega⟩ (rfl) dX0_startRoots_15 ?_
  refine w_aload_n C dX0_startRoots_16 0 rfl ?_
  refine w_get (ci := 0) (ref := "RootIsolator$Chain") (T := TX0) (Cn := RX0) (N := 10) C (fun w h => wC_in (inX0 w h)) 0 rfl rfl 0 (by decide) (wC_in fX0_13) rfl rfl dX0_startRoots_17 ?_
  refine w_iconst C dX0_startRoots_20 ?_
  refine w_aald (n := 10) (f := (fun i => some (P i))) C 1 5 rfl rfl rfl (0) ⟨by omega, by omega, by omega⟩ (rfl) dX0_startRoots_21 ?_
  refine w_aload_n C dX0_startRoots_22 0 rfl ?_
  refine w_get (ci := 0) (ref := "RootIsolator$Chain") (T := TX0) (Cn := RX0) (N := 10) C (fun w h => wC_in (inX0 w h)) 0 rfl rfl 9 (by decide) (wC_in fX0_50) rfl rfl dX0_startRoots_23 ?_
  refine c_loadDerivative hA C hNs ((cx, .inr (0, [.ref rx, .int (us0), .ref (P 10), .ref (Q 77), .ref (Q 78), .ref (Q 79), .ref (Q 80), .ref (Q 81), .ref (Q 82), .ref (Q 83)])) :: (rx, .inl (G 5, 10, .inr (.inr (.inr (.inr (fun i => some (P i))))))) :: (ra, .inl (G 0, 9, .inl g)) :: [] : va_W) X hZ1 hG1 1 0 83 (by omega) (by omega) (by omega) (by omega) ⟨by show _ ≤ 16; omega, by show _ ≤ 9 + 1; omega⟩ (fun q hq => by rw [hZa0 q (by omega)]; exact lb_le (gp_lb hg q) (by omega)) (cwV 2 C.1.2.2.2.2 (wC_V kX0_64 nX2_loadDerivative slX2_loadDerivative iniX2 cdX2_loadDerivative) rfl rfl rfl (by decide +kernel) ⟨Nat.le_of_ble_eq_true rfl, Nat.le_of_ble_eq_true rfl⟩) ⟨Nat.le_of_ble_eq_true rfl, Nat.le_of_ble_eq_true rfl⟩ (Nat.le_of_ble_eq_true rfl) dX0_startRoots_26 (fun st2 nn2 c2 s2 N2 htp2 hZ2 hG2 => ?_)
  obtain ⟨Zb, hZb⟩ : ∃ x : Nat → Int, x = (sP (qu Za 83 (if Ta 0 ≤ 1 then Za 83 else ((Ta 0 - 1 : Nat) : Int))) (pB 1) (pN 1) (fun q => if q + 1 < Ta 0 then Za (pB 0 + (q + 1)) * ((q + 1 : Nat) : Int) else 0)) := ⟨_, rfl⟩
  rw [← hZb] at hZ2
  obtain ⟨Tb, hTb⟩ : ∃ x : Nat → Nat, x = (qu Ta 1 N2) := ⟨_, rfl⟩
  rw [← hTb]
  have hTb1 : Tb 1 = N2 := by rw [hTb, qu_same]
  have hTbo : ∀ j : Nat, j ≠ 1 → Tb j = Ta j := fun j hj => by rw [hTb, qu_other _ _ hj]
  have hZb1 : ∀ i : Nat, i < 9 → Zb (pB 1 + i) = dp (gp g) i := fun i hi => by
    rw [hZb, sP_in _ _ (show i < pN 1 from hi)]
    unfold dp
    by_cases q : i + 1 < Ta 0
    · rw [if_pos q, hZa0 _ (by omega)]
    · rw [if_neg q, htp0.2.1 (i + 1) (by omega) (by omega), Int.zero_mul]
  have hZb0 : ∀ i : Nat, i < 16 → Zb (pB 0 + i) = gp g i := fun i hi => by
    rw [hZb, sP_out _ _ (Or.inl (by show 0 + i < 16; omega)), qu_other _ _ (by show 0 + i ≠ 83; omega), hZa0 i hi]
  have htp1 : tpN (dp (gp g)) 9 N2 := tpN_ext htp2 (fun i hi => by
    have e9 := hZb1 i hi
    rw [hZb, sP_in _ _ (show i < pN 1 from hi)] at e9
    exact e9)
  have hd1 : N2 = Ta 0 - 1 := tpN_uniq htp1 ⟨by omega, fun i g1 g2 => by unfold dp; rw [htp0.2.1 (i + 1) (by omega) (by omega), Int.zero_mul], fun i hi h9 => by
    unfold dp at h9
    rcases Int.mul_eq_zero.1 h9 with q | q
    · exact htp0.2.2 (i + 1) (by omega) q
    · omega⟩
  rw [← hTb1] at htp1 hd1
  have hTb0 : Tb 0 = Ta 0 := hTbo 0 (by omega)
  rw [← hTb0] at htp0 hN9 hN1 hd1
  have hTall : ∀ j : Nat, j < 12 → Tb j ≤ pN j := fun j hj => by
    by_cases c0 : j = 0
    · rw [c0]; exact htp0.1
    · by_cases c1 : j = 1
      · rw [c1]; exact htp1.1
      · rw [hTbo j c1, hTao j c0]; exact hT j hj
  have hlb4 : ∀ j : Nat, j < 2 → ∀ i : Nat, i < Tb j → lb (Zb (pB j + i)) 4 := fun j hj i hi => by
    have hj2 : j = 0 ∨ j = 1 := by omega
    rcases hj2 with rfl | rfl
    · rw [hZb0 i (by have := htp0.1; omega)]; exact lb_le (gp_lb hg i) (by omega)
    · rw [hZb1 i (by have := htp1.1; omega)]
      exact lb_le (lb_mul (gp_lb hg (i + 1)) (lb_nat (k := i + 1) (by have := htp1.1; omega))) (by omega)
  have hl0 : Zb (pB 0 + (Tb 0 - 1)) ≠ 0 := by rw [hZb0 _ (by omega)]; exact htp0.2.2 _ (by omega)
  have hl1 : 1 ≤ Tb 1 → Zb (pB 1 + (Tb 1 - 1)) ≠ 0 := fun h => by rw [hZb1 _ (by have := htp1.1; omega)]; exact htp1.2.2 _ (by omega)
  refine w_aload_n C dX0_startRoots_29 0 rfl ?_
  have hle3 := pG_le hZ2 hG2
  refine w_perm ((cx, .inr (0, [.ref rx, .int (us0), .ref (P 10), .ref (Q 77), .ref (Q 78), .ref (Q 79), .ref (Q 80), .ref (Q 81), .ref (Q 82), .ref (Q 83)])) :: (rx, .inl (G 5, 10, .inr (.inr (.inr (.inr (fun i => some (P i))))))) :: ((fp G Q P PA Tb ++ ((ra, .inl (G 0, 9, .inl g)) :: X : va_W)) ++ pl st2) : va_W) (xp_perm ((cx, .inr (0, [.ref rx, .int (us0), .ref (P 10), .ref (Q 77), .ref (Q 78), .ref (Q 79), .ref (Q 80), .ref (Q 81), .ref (Q 82), .ref (Q 83)])) :: (rx, .inl (G 5, 10, .inr (.inr (.inr (.inr (fun i => some (P i))))))) :: [] : va_W) ((ra, .inl (G 0, 9, .inl g)) :: [] : va_W) (fp G Q P PA Tb) X (pl st2)) ?_
  refine g_callv (N := nW) [] hA C hNs nW_ok (cc_extend l D G ((ra, .inl (G 0, 9, .inl g)) :: X : va_W) Q P PA Tb st2 nn2 Zb cx rx us0 hZ2 ⟨by omega, by omega, fun _ => by omega⟩ hTall hl0 hl1 hlb4) (cwV 0 C.1.2.2.2.2 (wC_V kX0_68 nX0_extend slX0_extend iniX0 cdX0_extend) rfl rfl rfl (by decide +kernel) ⟨Nat.le_of_ble_eq_true rfl, Nat.le_of_ble_eq_true rfl⟩) (q0 := 0) rfl rfl rfl rfl ⟨by show c2 + 3234 ≤ 4312; omega, by show s2 + 1204224 ≤ 1605632; omega⟩ (Nat.le_of_ble_eq_true rfl) dX0_startRoots_30 [.ref cx] rfl (fun v3 hv3 => ?_)
  obtain ⟨st3, nn3, e3, f3, Z13, T13, us3, hF3, hZ3, hH3, rfl⟩ := hv3
  have hG3 := pG_trans hG2 hH3
  refine w_cs (c2 + e3) (s2 + f3) rfl rfl ?_
  refine w_perm ((cx, .inr (0, [.ref rx, .int (iZ ((us3 : Int))), .ref (P 10), .ref (Q 77), .ref (Q 78), .ref (Q 79), .ref (Q 80), .ref (Q 81), .ref (Q 82), .ref (Q 83)])) :: (rx, .inl (G 5, 10, .inr (.inr (.inr (.inr (fun i => some (P i))))))) :: (ra, .inl (G 0, 9, .inl g)) :: ((fp G Q P PA T13 ++ X) ++ pl st3) : va_W) (xp_perm ((cx, .inr (0, [.ref rx, .int (iZ ((us3 : Int))), .ref (P 10), .ref (Q 77), .ref (Q 78), .ref (Q 79), .ref (Q 80), .ref (Q 81), .ref (Q 82), .ref (Q 83)])) :: (rx, .inl (G 5, 10, .inr (.inr (.inr (.inr (fun i => some (P i))))))) :: [] : va_W) ((ra, .inl (G 0, 9, .inl g)) :: [] : va_W) (fp G Q P PA T13) X (pl st3)).symm ?_
  have hle := pG_le hZ3 hG3
  obtain ⟨k1, k2, k3, k4, k5, k6, k7⟩ := exF_chn hF3 hTall ⟨by omega, by omega⟩ hl0 hl1
  have hr0 : zr Z13 T13 0 = gp g := by rw [k2]; exact zr_tp htp0 (fun i hi => if_neg (by omega)) hZb0
  have hr1 : zr Z13 T13 1 = dp (gp g) := by
    rw [k3]
    exact zr_tp htp1 (fun i hi => by unfold dp gp; rw [if_neg (by omega), Int.zero_mul]) hZb1
  exact g_vret hsz hhs C hr hlk ⟨by omega, by omega⟩ (⟨_, _, _, _, Z13, T13, us3, ⟨k1, hr0, hr1, fun q hq => by rw [k6 q hq, hZb, sP_out _ _ (Or.inr (by show 16 + 9 ≤ q; omega)), qu_other _ _ (by omega), hZao q (by omega)], fun j hj => by rw [k7 j hj, hTbo j (by omega), hTao j (by omega)]⟩, hZ3, hG3, rfl⟩) dX0_startRoots_33
