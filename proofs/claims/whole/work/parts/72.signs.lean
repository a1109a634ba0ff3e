/-- a product of the derivative and the other polynomial, sign turned: its summands one after the other -/
def cvt (g g2 : Nat → Int32) (m : Nat) : Int := -((((m / 9 + 1 : Nat) : Int) * (g (m / 9 + 1)).toInt) * (g2 (m % 9)).toInt)
def cvS (g g2 : Nat → Int32) : Nat → (Nat → Int)
  | 0 => fun _ => 0
  | n + 1 => fun s => cvS g g2 n s + (if s = n / 9 + n % 9 then cvt g g2 n else 0)
theorem cvt_r {g g2 : Nat → Int32} (hg : ∀ i : Nat, i < 9 → ((g i).toInt.natAbs : Int) ≤ 1000000000) (hg2 : ∀ i : Nat, i < 9 → ((g2 i).toInt.natAbs : Int) ≤ 1000000000) {m : Nat} (hm : m < 72) : -8000000000000000000 ≤ cvt g g2 m ∧ cvt g g2 m ≤ 8000000000000000000 := by
  have h1 := hg (m / 9 + 1) (by omega)
  have h2 := hg2 (m % 9) (by omega)
  have h3 := q_abs_mul_le (x := ((m / 9 + 1 : Nat) : Int)) (y := (g (m / 9 + 1)).toInt) (A := 8) (B := 1000000000) (by omega) (by omega)
  have h4 := q_abs_mul_le (x := ((m / 9 + 1 : Nat) : Int) * (g (m / 9 + 1)).toInt) (y := (g2 (m % 9)).toInt) (A := 8 * 1000000000) (B := 1000000000) h3 (by omega)
  unfold cvt
  omega
theorem cvS_r {g g2 : Nat → Int32} (hg : ∀ i : Nat, i < 9 → ((g i).toInt.natAbs : Int) ≤ 1000000000) (hg2 : ∀ i : Nat, i < 9 → ((g2 i).toInt.natAbs : Int) ≤ 1000000000) (s : Nat) : ∀ n : Nat, n ≤ 72 → -(8000000000000000000 * (n : Int)) ≤ cvS g g2 n s ∧ cvS g g2 n s ≤ 8000000000000000000 * (n : Int)
  | 0, _ => by show -(8000000000000000000 * ((0 : Nat) : Int)) ≤ (0 : Int) ∧ (0 : Int) ≤ 8000000000000000000 * ((0 : Nat) : Int); omega
  | n + 1, h => by
    have h1 := cvS_r hg hg2 s n (by omega)
    have h2 := cvt_r hg hg2 (m := n) (by omega)
    simp only [cvS]
    split <;> omega
theorem cvS_lb {g g2 : Nat → Int32} (hg : ∀ i : Nat, i < 9 → ((g i).toInt.natAbs : Int) ≤ 1000000000) (hg2 : ∀ i : Nat, i < 9 → ((g2 i).toInt.natAbs : Int) ≤ 1000000000) (s : Nat) {n : Nat} (hn : n ≤ 72) : lb (cvS g g2 n s) 4 := by
  have h := cvS_r hg hg2 s n hn
  unfold lb
  have e : (2 : Int) ^ (30 * 4) = 1329227995784915872903807060280344576 := by decide
  rw [e]; omega
/-- a place where one summand alone counts, or none -/
theorem cvS_one {g g2 : Nat → Int32} {s m0 : Nat} (h : ∀ m : Nat, m < 72 → m / 9 + m % 9 = s → m ≠ m0 → cvt g g2 m = 0) : ∀ n : Nat, n ≤ 72 → cvS g g2 n s = (if m0 < n ∧ s = m0 / 9 + m0 % 9 then cvt g g2 m0 else 0)
  | 0, _ => by rw [if_neg (by omega)]; rfl
  | n + 1, hn => by
    have h1 := cvS_one h n (by omega)
    simp only [cvS]
    rw [h1]
    by_cases c : n = m0
    · subst c
      rw [if_neg (by omega)]
      by_cases c2 : s = n / 9 + n % 9
      · rw [if_pos c2, if_pos ⟨by omega, c2⟩]; omega
      · rw [if_neg c2, if_neg (fun h9 => c2 h9.2)]; rfl
    · have h2 : (if s = n / 9 + n % 9 then cvt g g2 n else 0) = 0 := by
        by_cases c2 : s = n / 9 + n % 9
        · rw [if_pos c2]; exact h n (by omega) c2.symm c
        · rw [if_neg c2]
      rw [h2, Int.add_zero]
      by_cases c3 : m0 < n ∧ s = m0 / 9 + m0 % 9
      · rw [if_pos c3, if_pos ⟨by omega, c3.2⟩]
      · rw [if_neg c3, if_neg (fun h9 => c3 ⟨by omega, h9.2⟩)]
theorem cvt_z {g g2 : Nat → Int32} {m : Nat} (h : (g (m / 9 + 1)).toInt = 0 ∨ (g2 (m % 9)).toInt = 0) : cvt g g2 m = 0 := by
  unfold cvt
  rcases h with h | h <;> rw [h] <;> simp
/-- the degree of the product -/
theorem cv_top {g g2 : Nat → Int32} {da db : Nat} (ha : tpN (gp g) 9 (da + 1)) (hb : tpN (gp g2) 9 (db + 1)) (h1 : 1 ≤ da) : tpN (cvS g g2 72) 16 (da + db) := by
  have ka := ha.1
  have kb := hb.1
  have za : ∀ i : Nat, da < i → i < 9 → (g i).toInt = 0 := fun i h2 h3 => by
    have := ha.2.1 i (by omega) h3
    unfold gp at this
    rw [if_pos h3] at this
    exact this
  have zb : ∀ i : Nat, db < i → i < 9 → (g2 i).toInt = 0 := fun i h2 h3 => by
    have := hb.2.1 i (by omega) h3
    unfold gp at this
    rw [if_pos h3] at this
    exact this
  have na : (g da).toInt ≠ 0 := by
    have := ha.2.2 da rfl
    unfold gp at this
    rw [if_pos (by omega)] at this
    exact this
  have nb : (g2 db).toInt ≠ 0 := by
    have := hb.2.2 db rfl
    unfold gp at this
    rw [if_pos (by omega)] at this
    exact this
  refine ⟨by omega, fun s h2 h3 => ?_, fun s hs => ?_⟩
  · rw [cvS_one (m0 := 72) (fun m h4 h5 _ => cvt_z (by
      rcases Nat.lt_or_ge da (m / 9 + 1) with q | q
      · exact Or.inl (za _ q (by omega))
      · exact Or.inr (zb _ (by omega) (by omega)))) 72 (Nat.le_refl _), if_neg (by omega)]
  · rw [cvS_one (m0 := (da - 1) * 9 + db) (fun m h4 h5 h6 => cvt_z (by
      rcases Nat.lt_or_ge da (m / 9 + 1) with q | q
      · exact Or.inl (za _ q (by omega))
      · rcases Nat.lt_or_ge db (m % 9) with q2 | q2
        · exact Or.inr (zb _ q2 (by omega))
        · exfalso; omega)) 72 (Nat.le_refl _), if_pos ⟨by omega, by omega⟩]
    unfold cvt
    rw [show ((da - 1) * 9 + db) / 9 + 1 = da by omega, show ((da - 1) * 9 + db) % 9 = db by omega]
    intro h
    have h7 : ((da : Int) * (g da).toInt) * (g2 db).toInt = 0 := by omega
    rcases Int.mul_eq_zero.1 h7 with q | q
    · rcases Int.mul_eq_zero.1 q with q2 | q2
      · omega
      · exact na q2
    · exact nb q
set_option maxHeartbeats 4000000 in
set_option maxRecDepth 100000 in
/-- startSigns -/
theorem cc_startSigns (l : Launch) (D : va_G) (G : Nat → ClassId) (X : va_W) (Q P PA T : Nat → Nat) (st : Nat → va_W) (nn : Nat → Nat) (Z : Nat → Int) (cx rx ra rb da db : Nat) (us0 : Int32) (g g2 : Nat → Int32) (hZ : pAll G Q st nn Z) (hT : ∀ j : Nat, j < 12 → T j ≤ pN j) (hg : ∀ i : Nat, i < 9 → ((g i).toInt.natAbs : Int) ≤ 1000000000) (hg2 : ∀ i : Nat, i < 9 → ((g2 i).toInt.natAbs : Int) ≤ 1000000000) (ha : tpN (gp g) 9 (da + 1)) (hb : tpN (gp g2) 9 (db + 1)) (hda : 1 ≤ da) (hdb : 1 ≤ db) (sz hs : Nat) : Met l yX0_startSigns (wC yX0_startSigns cX0_startSigns 5 none) ({ frames := 5, cells := 4312, slots := 1605632, locals := 139 }) (va_Pc [.ref cx, .ref ra, .ref rb] (cPre nW D G ((cx, .inr (0, [.ref rx, .int (us0), .ref (P 10), .ref (Q 77), .ref (Q 78), .ref (Q 79), .ref (Q 80), .ref (Q 81), .ref (Q 82), .ref (Q 83)])) :: (rx, .inl (G 5, 10, .inr (.inr (.inr (.inr (fun i => some (P i))))))) :: (ra, .inl (G 0, 9, .inl g)) :: (rb, .inl (G 0, 9, .inl g2)) :: ((fp G Q P PA T ++ X) ++ pl st) : va_W) sz hs)) (va_Qv (fun (u : cS) => ∃ (st1 : Nat → va_W) (nn1 : Nat → Nat) (c1 s1 : Nat) (Z1 : Nat → Int) (T1 : Nat → Nat) (us1 : Nat), (chn Z1 T1 us1 ∧ zr Z1 T1 0 = cvS g g2 72 ∧ zr Z1 T1 1 = gp g ∧ (∀ q : Nat, 84 ≤ q → Z1 q = Z q) ∧ ∀ j : Nat, 11 ≤ j → T1 j = T j) ∧ pAll G Q st1 nn1 (Z1) ∧ pG (pC nn) (pS nn) nn1 c1 s1 ∧ u = (((cx, .inr (0, [.ref rx, .int (iZ ((us1 : Int))), .ref (P 10), .ref (Q 77), .ref (Q 78), .ref (Q 79), .ref (Q 80), .ref (Q 81), .ref (Q 82), .ref (Q 83)])) :: (rx, .inl (G 5, 10, .inr (.inr (.inr (.inr (fun i => some (P i))))))) :: (ra, .inl (G 0, 9, .inl g)) :: (rb, .inl (G 0, 9, .inl g2)) :: ((fp G Q P PA T1 ++ X) ++ pl st1) : va_W), c1, s1)) (cAt D G (va_A ((cx, .inr (0, [.ref rx, .int (us0), .ref (P 10), .ref (Q 77), .ref (Q 78), .ref (Q 79), .ref (Q 80), .ref (Q 81), .ref (Q 82), .ref (Q 83)])) :: (rx, .inl (G 5, 10, .inr (.inr (.inr (.inr (fun i => some (P i))))))) :: (ra, .inl (G 0, 9, .inl g)) :: (rb, .inl (G 0, 9, .inl g2)) :: ((fp G Q P PA T ++ X) ++ pl st) : va_W) sz) sz hs) (va_A ((cx, .inr (0, [.ref rx, .int (us0), .ref (P 10), .ref (Q 77), .ref (Q 78), .ref (Q 79), .ref (Q 80), .ref (Q 81), .ref (Q 82), .ref (Q 83)])) :: (rx, .inl (G 5, 10, .inr (.inr (.inr (.inr (fun i => some (P i))))))) :: (ra, .inl (G 0, 9, .inl g)) :: (rb, .inl (G 0, 9, .inl g2)) :: ((fp G Q P PA T ++ X) ++ pl st) : va_W) sz)) 4312 1605632 (va_A ((cx, .inr (0, [.ref rx, .int (us0), .ref (P 10), .ref (Q 77), .ref (Q 78), .ref (Q 79), .ref (Q 80), .ref (Q 81), .ref (Q 82), .ref (Q 83)])) :: (rx, .inl (G 5, 10, .inr (.inr (.inr (.inr (fun i => some (P i))))))) :: (ra, .inl (G 0, 9, .inl g)) :: (rb, .inl (G 0, 9, .inl g2)) :: ((fp G Q P PA T ++ X) ++ pl st) : va_W) sz) := by
  refine g_met (cc := cX0_startSigns) (maxL := 5) (ret := none) (own := RX0) (by decide) rfl rfl (Nat.le_of_ble_eq_true rfl) ?_
  intro p e s m below meth c hsz hhs hNs hA C hr hlk
  refine w_sub [(0, .ref cx), (1, .ref ra), (2, .ref rb)] [0, 1, 2] rfl ?_
  have hG : pG (pC nn) (pS nn) nn 0 0 := ⟨Nat.le_of_eq (Nat.zero_add _), Nat.le_of_eq (Nat.zero_add _)⟩
  have ka := ha.1
  have kb := hb.1
  refine w_aload_n C dX0_startSigns_0 0 rfl ?_
  refine w_get (ci := 0) (ref := "RootIsolator$Chain") (T := TX0) (Cn := RX0) (N := 10) C (fun w h => wC_in (inX0 w h)) 0 rfl rfl 0 (by decide) (wC_in fX0_13) rfl rfl dX0_startSigns_1 ?_
  refine w_iconst C dX0_startSigns_4 ?_
  refine w_aald (n := 10) (f := (fun i => some (P i))) C 1 5 rfl rfl rfl (0) ⟨by omega, by omega, by omega⟩ (rfl) dX0_startSigns_5 ?_
  refine c_clear hA C hNs ((cx, .inr (0, [.ref rx, .int (us0), .ref (P 10), .ref (Q 77), .ref (Q 78), .ref (Q 79), .ref (Q 80), .ref (Q 81), .ref (Q 82), .ref (Q 83)])) :: (rx, .inl (G 5, 10, .inr (.inr (.inr (.inr (fun i => some (P i))))))) :: (ra, .inl (G 0, 9, .inl g)) :: (rb, .inl (G 0, 9, .inl g2)) :: [] : va_W) X hZ hG 0 (by omega) (cwV 0 C.1.2.2.2.2 (wC_V kX0_75 nX2_clear slX2_clear iniX2 cdX2_clear) rfl rfl rfl (by decide +kernel) ⟨Nat.le_of_ble_eq_true rfl, Nat.le_of_ble_eq_true rfl⟩) ⟨Nat.le_of_ble_eq_true rfl, Nat.le_of_ble_eq_true rfl⟩ (Nat.le_of_ble_eq_true rfl) dX0_startSigns_6 (fun st1 nn1 c1 s1 hZ1 hG1 => ?_)
  refine w_iconst C dX0_startSigns_9 ?_
  refine w_istore_n C [(3, .int (iZ (1))), (0, .ref cx), (1, .ref ra), (2, .ref rb)] dX0_startSigns_10 rfl (by decide) rfl ?_
  have lp1 : ∀ (d : Nat) (i : Nat) (tv : Int) (sti : Nat → va_W) (nni : Nat → Nat) (ci : Nat) (si : Nat), 8 < i + d → i ≤ 8 → pAll G Q sti nni (sP (qu Z 83 tv) (pB 0) (pN 0) (cvS g g2 (i * 9))) → pG (pC nn) (pS nn) nni ci si → ZW p l e ({ frames := 5, cells := 4312, slots := 1605632, locals := 139 }) s m ([.ref cx, .ref ra, .ref rb] : List Value).toArray below meth c D (va_A ((cx, .inr (0, [.ref rx, .int (us0), .ref (P 10), .ref (Q 77), .ref (Q 78), .ref (Q 79), .ref (Q 80), .ref (Q 81), .ref (Q 82), .ref (Q 83)])) :: (rx, .inl (G 5, 10, .inr (.inr (.inr (.inr (fun i => some (P i))))))) :: (ra, .inl (G 0, 9, .inl g)) :: (rb, .inl (G 0, 9, .inl g2)) :: ((fp G Q P PA T ++ X) ++ pl st) : va_W) sz) 5 ci si (MQ below (va_Qv (fun (u : cS) => ∃ (st1 : Nat → va_W) (nn1 : Nat → Nat) (c1 s1 : Nat) (Z1 : Nat → Int) (T1 : Nat → Nat) (us1 : Nat), (chn Z1 T1 us1 ∧ zr Z1 T1 0 = cvS g g2 72 ∧ zr Z1 T1 1 = gp g ∧ (∀ q : Nat, 84 ≤ q → Z1 q = Z q) ∧ ∀ j : Nat, 11 ≤ j → T1 j = T j) ∧ pAll G Q st1 nn1 (Z1) ∧ pG (pC nn) (pS nn) nn1 c1 s1 ∧ u = (((cx, .inr (0, [.ref rx, .int (iZ ((us1 : Int))), .ref (P 10), .ref (Q 77), .ref (Q 78), .ref (Q 79), .ref (Q 80), .ref (Q 81), .ref (Q 82), .ref (Q 83)])) :: (rx, .inl (G 5, 10, .inr (.inr (.inr (.inr (fun i => some (P i))))))) :: (ra, .inl (G 0, 9, .inl g)) :: (rb, .inl (G 0, 9, .inl g2)) :: ((fp G Q P PA T1 ++ X) ++ pl st1) : va_W), c1, s1)) (cAt D G (va_A ((cx, .inr (0, [.ref rx, .int (us0), .ref (P 10), .ref (Q 77), .ref (Q 78), .ref (Q 79), .ref (Q 80), .ref (Q 81), .ref (Q 82), .ref (Q 83)])) :: (rx, .inl (G 5, 10, .inr (.inr (.inr (.inr (fun i => some (P i))))))) :: (ra, .inl (G 0, 9, .inl g)) :: (rb, .inl (G 0, 9, .inl g2)) :: ((fp G Q P PA T ++ X) ++ pl st) : va_W) sz) sz hs) (va_A ((cx, .inr (0, [.ref rx, .int (us0), .ref (P 10), .ref (Q 77), .ref (Q 78), .ref (Q 79), .ref (Q 80), .ref (Q 81), .ref (Q 82), .ref (Q 83)])) :: (rx, .inl (G 5, 10, .inr (.inr (.inr (.inr (fun i => some (P i))))))) :: (ra, .inl (G 0, 9, .inl g)) :: (rb, .inl (G 0, 9, .inl g2)) :: ((fp G Q P PA T ++ X) ++ pl st) : va_W) sz)) ([.ref cx, .ref ra, .ref rb] : List Value).toArray s 4312 1605632 (va_A ((cx, .inr (0, [.ref rx, .int (us0), .ref (P 10), .ref (Q 77), .ref (Q 78), .ref (Q 79), .ref (Q 80), .ref (Q 81), .ref (Q 82), .ref (Q 83)])) :: (rx, .inl (G 5, 10, .inr (.inr (.inr (.inr (fun i => some (P i))))))) :: (ra, .inl (G 0, 9, .inl g)) :: (rb, .inl (G 0, 9, .inl g2)) :: ((fp G Q P PA T ++ X) ++ pl st) : va_W) sz)) ((cx, .inr (0, [.ref rx, .int (us0), .ref (P 10), .ref (Q 77), .ref (Q 78), .ref (Q 79), .ref (Q 80), .ref (Q 81), .ref (Q 82), .ref (Q 83)])) :: (rx, .inl (G 5, 10, .inr (.inr (.inr (.inr (fun i => some (P i))))))) :: (ra, .inl (G 0, 9, .inl g)) :: (rb, .inl (G 0, 9, .inl g2)) :: ((fp G Q P PA (qu T 0 0) ++ X) ++ pl sti) : va_W) 11 [(3, .int (iZ (((i + 1 : Nat) : Int)))), (0, .ref cx), (1, .ref ra), (2, .ref rb)] [] := by
    intro d
    induction d with
    | zero =>
      intro i tv sti nni ci si hd hi hZi hGi
      exact absurd hd (by omega)
    | succ d ih2 =>
      intro i tv sti nni ci si hd hi hZi hGi
      refine w_iload_n C dX0_startSigns_11 0 rfl ?_
      refine w_bipush C dX0_startSigns_12 (by decide) ?_
      refine w_icmp_gt C 84 dX0_startSigns_14 (by decide) ⟨⟨by omega, by omega⟩, by omega, by omega⟩ (fun c14 => ?_) (fun c14 => ?_)
      · refine w_aload_n C dX0_startSigns_84 1 rfl ?_
        refine w_get (ci := 0) (ref := "RootIsolator$Chain") (T := TX0) (Cn := RX0) (N := 10) C (fun w h => wC_in (inX0 w h)) 0 rfl rfl 0 (by decide) (wC_in fX0_13) rfl rfl dX0_startSigns_85 ?_
        refine w_iconst C dX0_startSigns_88 ?_
        refine w_aald (n := 10) (f := (fun i => some (P i))) C 1 5 rfl rfl rfl (0) ⟨by omega, by omega, by omega⟩ (rfl) dX0_startSigns_89 ?_
        have hi8 : i = 8 := by omega
        rw [hi8] at hZi
        refine c_findTop hA C hNs ((cx, .inr (0, [.ref rx, .int (us0), .ref (P 10), .ref (Q 77), .ref (Q 78), .ref (Q 79), .ref (Q 80), .ref (Q 81), .ref (Q 82), .ref (Q 83)])) :: (rx, .inl (G 5, 10, .inr (.inr (.inr (.inr (fun i => some (P i))))))) :: (ra, .inl (G 0, 9, .inl g)) :: (rb, .inl (G 0, 9, .inl g2)) :: [] : va_W) X hZi hGi 0 (by omega) (cwV 0 C.1.2.2.2.2 (wC_V kX0_90 nX2_findTop slX2_findTop iniX2 cdX2_findTop) rfl rfl rfl (by decide +kernel) ⟨Nat.le_of_ble_eq_true rfl, Nat.le_of_ble_eq_true rfl⟩) ⟨Nat.le_of_ble_eq_true rfl, Nat.le_of_ble_eq_true rfl⟩ (Nat.le_of_ble_eq_true rfl) dX0_startSigns_90 (fun st202 nn202 c202 s202 N202 htp202 hZ202 hG202 => ?_)
        have hN0 : N202 = da + db := tpN_uniq (tpN_ext htp202 (fun q hq => sP_in _ _ hq)) (cv_top ha hb hda)
        obtain ⟨Za, hZa⟩ : ∃ x : Nat → Int, x = ((sP (qu Z 83 tv) (pB 0) (pN 0) (cvS g g2 72))) := ⟨_, rfl⟩
        rw [← hZa] at hZ202
        obtain ⟨Ta, hTa⟩ : ∃ x : Nat → Nat, x = (qu (qu T 0 0) 0 N202) := ⟨_, rfl⟩
        rw [← hTa]
        have hTa0 : Ta 0 = da + db := by rw [hTa, qu_same, hN0]
        have hTao : ∀ j : Nat, j ≠ 0 → Ta j = T j := fun j hj => by rw [hTa, qu_other _ _ hj, qu_other _ _ hj]
        have hZa0 : ∀ i : Nat, i < 16 → Za (pB 0 + i) = cvS g g2 72 i := fun i hi => by rw [hZa]; exact sP_in _ _ hi
        have hZao : ∀ q : Nat, 16 ≤ q → q ≠ 83 → Za q = Z q := fun q hq h3 => by rw [hZa, sP_out _ _ (Or.inr (by show 0 + 16 ≤ q; omega)), qu_other _ _ h3]
        refine w_aload_n C dX0_startSigns_93 1 rfl ?_
        refine w_get (ci := 0) (ref := "RootIsolator$Chain") (T := TX0) (Cn := RX0) (N := 10) C (fun w h => wC_in (inX0 w h)) 0 rfl rfl 0 (by decide) (wC_in fX0_13) rfl rfl dX0_startSigns_94 ?_
        refine w_iconst C dX0_startSigns_97 ?_
        refine w_aald (n := 10) (f := (fun i => some (P i))) C 1 5 rfl rfl rfl (1) ⟨by omega, by omega, by omega⟩ (rfl) dX0_startSigns_98 ?_
        refine w_aload_n C dX0_startSigns_99 2 rfl ?_
        refine c_load hA C hNs ((cx, .inr (0, [.ref rx, .int (us0), .ref (P 10), .ref (Q 77), .ref (Q 78), .ref (Q 79), .ref (Q 80), .ref (Q 81), .ref (Q 82), .ref (Q 83)])) :: (rx, .inl (G 5, 10, .inr (.inr (.inr (.inr (fun i => some (P i))))))) :: (ra, .inl (G 0, 9, .inl g)) :: (rb, .inl (G 0, 9, .inl g2)) :: [] : va_W) X hZ202 hG202 1 (by omega) ra g ((cx, .inr (0, [.ref rx, .int (us0), .ref (P 10), .ref (Q 77), .ref (Q 78), .ref (Q 79), .ref (Q 80), .ref (Q 81), .ref (Q 82), .ref (Q 83)])) :: (rx, .inl (G 5, 10, .inr (.inr (.inr (.inr (fun i => some (P i))))))) :: (rb, .inl (G 0, 9, .inl g2)) :: [] : va_W) (List.perm_middle (l₁ := ((cx, .inr (0, [.ref rx, .int (us0), .ref (P 10), .ref (Q 77), .ref (Q 78), .ref (Q 79), .ref (Q 80), .ref (Q 81), .ref (Q 82), .ref (Q 83)])) :: (rx, .inl (G 5, 10, .inr (.inr (.inr (.inr (fun i => some (P i))))))) :: [] : va_W)) (l₂ := ((rb, .inl (G 0, 9, .inl g2)) :: [] : va_W))) (cwV 1 C.1.2.2.2.2 (wC_V kX0_60 nX2_load slX2_load iniX2 cdX2_load) rfl rfl rfl (by decide +kernel) ⟨Nat.le_of_ble_eq_true rfl, Nat.le_of_ble_eq_true rfl⟩) ⟨Nat.le_of_ble_eq_true rfl, Nat.le_of_ble_eq_true rfl⟩ (Nat.le_of_ble_eq_true rfl) dX0_startSigns_100 (fun st203 nn203 c203 s203 N203 htp203 hZ203 hG203 => ?_)
        have hN1 : N203 = da + 1 := tpN_uniq (show tpN (gp g) 9 N203 from htp203) ha
        obtain ⟨Zb, hZb⟩ : ∃ x : Nat → Int, x = (sP Za (pB 1) (pN 1) (fun j => if j < 9 then (g j).toInt else 0)) := ⟨_, rfl⟩
        rw [← hZb] at hZ203
        obtain ⟨Tb, hTb⟩ : ∃ x : Nat → Nat, x = (qu Ta 1 N203) := ⟨_, rfl⟩
        rw [← hTb]
        have hTb1 : Tb 1 = da + 1 := by rw [hTb, qu_same, hN1]
        have hTbo : ∀ j : Nat, j ≠ 1 → Tb j = Ta j := fun j hj => by rw [hTb, qu_other _ _ hj]
        have hTb0 : Tb 0 = da + db := by rw [hTbo 0 (by omega), hTa0]
        have hZb1 : ∀ i : Nat, i < 9 → Zb (pB 1 + i) = gp g i := fun i hi => by rw [hZb]; exact sP_in _ _ hi
        have hZb0 : ∀ i : Nat, i < 16 → Zb (pB 0 + i) = cvS g g2 72 i := fun i hi => by rw [hZb, sP_out _ _ (Or.inl (by show 0 + i < 16; omega)), hZa0 i hi]
        have hTall : ∀ j : Nat, j < 12 → Tb j ≤ pN j := fun j hj => by
          by_cases c0 : j = 0
          · rw [c0, hTb0]; show _ ≤ 16; omega
          · by_cases c1 : j = 1
            · rw [c1, hTb1]; show _ ≤ 9; omega
            · rw [hTbo j c1, hTao j c0]; exact hT j hj
        have hlb4 : ∀ j : Nat, j < 2 → ∀ i : Nat, i < Tb j → lb (Zb (pB j + i)) 4 := fun j hj i hi => by
          have hj2 : j = 0 ∨ j = 1 := by omega
          rcases hj2 with rfl | rfl
          · rw [hZb0 i (by omega)]; exact cvS_lb hg hg2 i (Nat.le_refl _)
          · rw [hZb1 i (by omega)]; exact lb_le (gp_lb hg i) (by omega)
        have htop := cv_top ha hb hda
        have hl0 : Zb (pB 0 + (Tb 0 - 1)) ≠ 0 := by rw [hTb0, hZb0 _ (by omega)]; exact htop.2.2 _ (by omega)
        have hl1 : 1 ≤ Tb 1 → Zb (pB 1 + (Tb 1 - 1)) ≠ 0 := fun h => by rw [hTb1, hZb1 _ (by omega)]; exact ha.2.2 _ (by omega)
        refine w_aload_n C dX0_startSigns_103 1 rfl ?_
        have hle204 := pG_le hZ203 hG203
        refine w_perm ((cx, .inr (0, [.ref rx, .int (us0), .ref (P 10), .ref (Q 77), .ref (Q 78), .ref (Q 79), .ref (Q 80), .ref (Q 81), .ref (Q 82), .ref (Q 83)])) :: (rx, .inl (G 5, 10, .inr (.inr (.inr (.inr (fun i => some (P i))))))) :: ((fp G Q P PA Tb ++ ((ra, .inl (G 0, 9, .inl g)) :: (rb, .inl (G 0, 9, .inl g2)) :: X : va_W)) ++ pl st203) : va_W) (xp_perm ((cx, .inr (0, [.ref rx, .int (us0), .ref (P 10), .ref (Q 77), .ref (Q 78), .ref (Q 79), .ref (Q 80), .ref (Q 81), .ref (Q 82), .ref (Q 83)])) :: (rx, .inl (G 5, 10, .inr (.inr (.inr (.inr (fun i => some (P i))))))) :: [] : va_W) ((ra, .inl (G 0, 9, .inl g)) :: (rb, .inl (G 0, 9, .inl g2)) :: [] : va_W) (fp G Q P PA Tb) X (pl st203)) ?_
        refine g_callv (N := nW) [] hA C hNs nW_ok (cc_extend l D G ((ra, .inl (G 0, 9, .inl g)) :: (rb, .inl (G 0, 9, .inl g2)) :: X : va_W) Q P PA Tb st203 nn203 Zb cx rx us0 hZ203 ⟨by omega, by omega, fun _ => by omega⟩ hTall hl0 hl1 hlb4) (cwV 0 C.1.2.2.2.2 (wC_V kX0_68 nX0_extend slX0_extend iniX0 cdX0_extend) rfl rfl rfl (by decide +kernel) ⟨Nat.le_of_ble_eq_true rfl, Nat.le_of_ble_eq_true rfl⟩) (q0 := 0) rfl rfl rfl rfl ⟨by show c203 + 3234 ≤ 4312; omega, by show s203 + 1204224 ≤ 1605632; omega⟩ (Nat.le_of_ble_eq_true rfl) dX0_startSigns_104 [.ref cx] rfl (fun v204 hv204 => ?_)
        obtain ⟨st204, nn204, e204, f204, Z1204, T1204, us204, hF204, hZ204, hH204, rfl⟩ := hv204
        have hG204 := pG_trans hG203 hH204
        refine w_cs (c203 + e204) (s203 + f204) rfl rfl ?_
        refine w_perm ((cx, .inr (0, [.ref rx, .int (iZ ((us204 : Int))), .ref (P 10), .ref (Q 77), .ref (Q 78), .ref (Q 79), .ref (Q 80), .ref (Q 81), .ref (Q 82), .ref (Q 83)])) :: (rx, .inl (G 5, 10, .inr (.inr (.inr (.inr (fun i => some (P i))))))) :: (ra, .inl (G 0, 9, .inl g)) :: (rb, .inl (G 0, 9, .inl g2)) :: ((fp G Q P PA T1204 ++ X) ++ pl st204) : va_W) (xp_perm ((cx, .inr (0, [.ref rx, .int (iZ ((us204 : Int))), .ref (P 10), .ref (Q 77), .ref (Q 78), .ref (Q 79), .ref (Q 80), .ref (Q 81), .ref (Q 82), .ref (Q 83)])) :: (rx, .inl (G 5, 10, .inr (.inr (.inr (.inr (fun i => some (P i))))))) :: [] : va_W) ((ra, .inl (G 0, 9, .inl g)) :: (rb, .inl (G 0, 9, .inl g2)) :: [] : va_W) (fp G Q P PA T1204) X (pl st204)).symm ?_
        have hle := pG_le hZ204 hG204
        obtain ⟨k1, k2, k3, k4, k5, k6, k7⟩ := exF_chn hF204 hTall ⟨by omega, by omega⟩ hl0 hl1
        have hr0 : zr Z1204 T1204 0 = cvS g g2 72 := by rw [k2]; exact zr_tp (by rw [hTb0]; exact htop) (fun i hi => by rw [cvS_one (m0 := 72) (fun m h4 h5 _ => by exfalso; omega) 72 (Nat.le_refl _), if_neg (by omega)]) hZb0
        have hr1 : zr Z1204 T1204 1 = gp g := by rw [k3]; exact zr_tp (by rw [hTb1]; exact ha) (fun i hi => if_neg (by omega)) hZb1
        exact g_vret hsz hhs C hr hlk ⟨by omega, by omega⟩ (⟨_, _, _, _, Z1204, T1204, us204, ⟨k1, hr0, hr1, fun q hq => by rw [k6 q hq, hZb, sP_out _ _ (Or.inr (by show 16 + 9 ≤ q; omega)), hZao q (by omega) (by omega)], fun j hj => by rw [k7 j hj, hTbo j (by omega), hTao j (by omega)]⟩, hZ204, hG204, rfl⟩) dX0_startSigns_107
      · refine w_iconst C dX0_startSigns_17 ?_
        refine w_istore C [(4, .int (iZ (0))), (3, .int (iZ (((i + 1 : Nat) : Int)))), (0, .ref cx), (1, .ref ra), (2, .ref rb)] dX0_startSigns_18 (by decide) rfl ?_
        have lp2 : ∀ (d : Nat) (j : Nat) (tv : Int) (sti : Nat → va_W) (nni : Nat → Nat) (ci : Nat) (si : Nat), 9 < j + d → j ≤ 9 → pAll G Q sti nni (sP (qu Z 83 tv) (pB 0) (pN 0) (cvS g g2 (i * 9 + j))) → pG (pC nn) (pS nn) nni ci si → ZW p l e ({ frames := 5, cells := 4312, slots := 1605632, locals := 139 }) s m ([.ref cx, .ref ra, .ref rb] : List Value).toArray below meth c D (va_A ((cx, .inr (0, [.ref rx, .int (us0), .ref (P 10), .ref (Q 77), .ref (Q 78), .ref (Q 79), .ref (Q 80), .ref (Q 81), .ref (Q 82), .ref (Q 83)])) :: (rx, .inl (G 5, 10, .inr (.inr (.inr (.inr (fun i => some (P i))))))) :: (ra, .inl (G 0, 9, .inl g)) :: (rb, .inl (G 0, 9, .inl g2)) :: ((fp G Q P PA T ++ X) ++ pl st) : va_W) sz) 5 ci si (MQ below (va_Qv (fun (u : cS) => ∃ (st1 : Nat → va_W) (nn1 : Nat → Nat) (c1 s1 : Nat) (Z1 : Nat → Int) (T1 : Nat → Nat) (us1 : Nat), (chn Z1 T1 us1 ∧ zr Z1 T1 0 = cvS g g2 72 ∧ zr Z1 T1 1 = gp g ∧ (∀ q : Nat, 84 ≤ q → Z1 q = Z q) ∧ ∀ j : Nat, 11 ≤ j → T1 j = T j) ∧ pAll G Q st1 nn1 (Z1) ∧ pG (pC nn) (pS nn) nn1 c1 s1 ∧ u = (((cx, .inr (0, [.ref rx, .int (iZ ((us1 : Int))), .ref (P 10), .ref (Q 77), .ref (Q 78), .ref (Q 79), .ref (Q 80), .ref (Q 81), .ref (Q 82), .ref (Q 83)])) :: (rx, .inl (G 5, 10, .inr (.inr (.inr (.inr (fun i => some (P i))))))) :: (ra, .inl (G 0, 9, .inl g)) :: (rb, .inl (G 0, 9, .inl g2)) :: ((fp G Q P PA T1 ++ X) ++ pl st1) : va_W), c1, s1)) (cAt D G (va_A ((cx, .inr (0, [.ref rx, .int (us0), .ref (P 10), .ref (Q 77), .ref (Q 78), .ref (Q 79), .ref (Q 80), .ref (Q 81), .ref (Q 82), .ref (Q 83)])) :: (rx, .inl (G 5, 10, .inr (.inr (.inr (.inr (fun i => some (P i))))))) :: (ra, .inl (G 0, 9, .inl g)) :: (rb, .inl (G 0, 9, .inl g2)) :: ((fp G Q P PA T ++ X) ++ pl st) : va_W) sz) sz hs) (va_A ((cx, .inr (0, [.ref rx, .int (us0), .ref (P 10), .ref (Q 77), .ref (Q 78), .ref (Q 79), .ref (Q 80), .ref (Q 81), .ref (Q 82), .ref (Q 83)])) :: (rx, .inl (G 5, 10, .inr (.inr (.inr (.inr (fun i => some (P i))))))) :: (ra, .inl (G 0, 9, .inl g)) :: (rb, .inl (G 0, 9, .inl g2)) :: ((fp G Q P PA T ++ X) ++ pl st) : va_W) sz)) ([.ref cx, .ref ra, .ref rb] : List Value).toArray s 4312 1605632 (va_A ((cx, .inr (0, [.ref rx, .int (us0), .ref (P 10), .ref (Q 77), .ref (Q 78), .ref (Q 79), .ref (Q 80), .ref (Q 81), .ref (Q 82), .ref (Q 83)])) :: (rx, .inl (G 5, 10, .inr (.inr (.inr (.inr (fun i => some (P i))))))) :: (ra, .inl (G 0, 9, .inl g)) :: (rb, .inl (G 0, 9, .inl g2)) :: ((fp G Q P PA T ++ X) ++ pl st) : va_W) sz)) ((cx, .inr (0, [.ref rx, .int (us0), .ref (P 10), .ref (Q 77), .ref (Q 78), .ref (Q 79), .ref (Q 80), .ref (Q 81), .ref (Q 82), .ref (Q 83)])) :: (rx, .inl (G 5, 10, .inr (.inr (.inr (.inr (fun i => some (P i))))))) :: (ra, .inl (G 0, 9, .inl g)) :: (rb, .inl (G 0, 9, .inl g2)) :: ((fp G Q P PA (qu T 0 0) ++ X) ++ pl sti) : va_W) 20 [(4, .int (iZ ((j : Int)))), (3, .int (iZ (((i + 1 : Nat) : Int)))), (0, .ref cx), (1, .ref ra), (2, .ref rb)] [] := by
          intro d
          induction d with
          | zero =>
            intro j tv sti nni ci si hd hj hZi hGi
            exact absurd hd (by omega)
          | succ d ih3 =>
            intro j tv sti nni ci si hd hj hZi hGi
            refine w_iload C dX0_startSigns_20 0 rfl ?_
            refine w_bipush C dX0_startSigns_22 (by decide) ?_
            refine w_icmp_gt C 78 dX0_startSigns_24 (by decide) ⟨⟨by omega, by omega⟩, by omega, by omega⟩ (fun c24 => ?_) (fun c24 => ?_)
            · have hj9 : j = 9 := by omega
              refine w_iinc C (((i + 1 + 1 : Nat) : Int)) (by omega) [(3, .int (iZ (((i + 1 + 1 : Nat) : Int)))), (4, .int (iZ ((j : Int)))), (0, .ref cx), (1, .ref ra), (2, .ref rb)] dX0_startSigns_78 1 rfl (by decide) rfl ?_
              refine w_goto C 11 dX0_startSigns_81 (by decide) ?_
              refine w_sub [(3, .int (iZ (((i + 1 + 1 : Nat) : Int)))), (0, .ref cx), (1, .ref ra), (2, .ref rb)] [0, 2, 3, 4] rfl ?_
              exact ih2 (i + 1) _ _ _ _ _ (by omega) (by omega) (by rw [show (i + 1) * 9 = i * 9 + 9 by omega]; rw [hj9] at hZi; exact hZi) hGi
            · have hm1 : (i * 9 + j) / 9 = i := by omega
              have hm2 : (i * 9 + j) % 9 = j := by omega
              have hgi := hg (i + 1) (by omega)
              have hgj := hg2 j (by omega)
              have hcr := cvt_r hg hg2 (m := i * 9 + j) (by omega)
              refine w_aload_n C dX0_startSigns_27 2 rfl ?_
              refine w_get (ci := 0) (ref := "RootIsolator$Chain") (T := TX0) (Cn := RX0) (N := 10) C (fun w h => wC_in (inX0 w h)) 0 rfl rfl 9 (by decide) (wC_in fX0_50) rfl rfl dX0_startSigns_28 ?_
              refine w_iload_n C dX0_startSigns_31 1 rfl ?_
              refine w_i2l C dX0_startSigns_32 ⟨by omega, by omega⟩ ?_
              refine w_aload_n C dX0_startSigns_33 3 rfl ?_
              refine w_iload_n C dX0_startSigns_34 1 rfl ?_
              refine w_iald C 2 0 rfl rfl (i + 1) ((g (i + 1)).toInt) ⟨by omega, by omega, by omega⟩ ((iZ_self _).symm) dX0_startSigns_35 ?_
              refine w_i2l C dX0_startSigns_36 (i32r _) ?_
              refine w_lmul C dX0_startSigns_37 ?_
              refine w_aload_n C dX0_startSigns_38 4 rfl ?_
              refine w_iload C dX0_startSigns_39 0 rfl ?_
              refine w_iald C 3 0 rfl rfl (j) ((g2 (j)).toInt) ⟨by omega, by omega, by omega⟩ ((iZ_self _).symm) dX0_startSigns_41 ?_
              refine w_i2l C dX0_startSigns_42 (i32r _) ?_
              refine w_lmul C dX0_startSigns_43 ?_
              refine w_lneg C dX0_startSigns_44 ?_
              refine w_topl C (cvt g g2 (i * 9 + j)) (by unfold cvt; rw [hm1, hm2]) ?_
              refine p_put hA C ((cx, .inr (0, [.ref rx, .int (us0), .ref (P 10), .ref (Q 77), .ref (Q 78), .ref (Q 79), .ref (Q 80), .ref (Q 81), .ref (Q 82), .ref (Q 83)])) :: (rx, .inl (G 5, 10, .inr (.inr (.inr (.inr (fun i => some (P i))))))) :: (ra, .inl (G 0, 9, .inl g)) :: (rb, .inl (G 0, 9, .inl g2)) :: (fp G Q P PA (qu T 0 0) ++ X) : va_W) hZi hGi (83) (by omega) (cvt g g2 (i * 9 + j)) (by omega) (cwV 1 C.1.2.2.2.2 (wC_V kX0_78 nX3_put slX3_put iniX3 cdX3_put) rfl rfl rfl (by decide +kernel) ⟨Nat.le_of_ble_eq_true rfl, Nat.le_of_ble_eq_true rfl⟩) ⟨Nat.le_of_ble_eq_true rfl, Nat.le_of_ble_eq_true rfl⟩ (Nat.le_of_ble_eq_true rfl) dX0_startSigns_45 (fun st202 nn202 c202 s202 hZ202 hG202 => ?_)
              rw [show (qu (sP (qu Z 83 tv) (pB 0) (pN 0) (cvS g g2 (i * 9 + j))) 83 (cvt g g2 (i * 9 + j))) = (sP (qu Z 83 (cvt g g2 (i * 9 + j))) (pB 0) (pN 0) (cvS g g2 (i * 9 + j))) from sP_qu _ _ _ _ (Or.inr (by show 0 + 16 ≤ 83; omega))] at hZ202
              refine w_aload_n C dX0_startSigns_48 2 rfl ?_
              refine w_get (ci := 0) (ref := "RootIsolator$Chain") (T := TX0) (Cn := RX0) (N := 10) C (fun w h => wC_in (inX0 w h)) 0 rfl rfl 0 (by decide) (wC_in fX0_13) rfl rfl dX0_startSigns_49 ?_
              refine w_iconst C dX0_startSigns_52 ?_
              refine w_aald (n := 10) (f := (fun i => some (P i))) C 1 5 rfl rfl rfl (0) ⟨by omega, by omega, by omega⟩ (rfl) dX0_startSigns_53 ?_
              refine c_parts C ((cx, .inr (0, [.ref rx, .int (us0), .ref (P 10), .ref (Q 77), .ref (Q 78), .ref (Q 79), .ref (Q 80), .ref (Q 81), .ref (Q 82), .ref (Q 83)])) :: (rx, .inl (G 5, 10, .inr (.inr (.inr (.inr (fun i => some (P i))))))) :: (ra, .inl (G 0, 9, .inl g)) :: (rb, .inl (G 0, 9, .inl g2)) :: [] : va_W) X (fun w h => wC_in (inX2 w h)) (0) (by omega) hNs.2.2.2.2.1 dX0_startSigns_54 ?_
              refine w_iload_n C dX0_startSigns_57 1 rfl ?_
              refine w_iconst C dX0_startSigns_58 ?_
              refine w_isub C dX0_startSigns_59 ?_
              refine w_iload C dX0_startSigns_60 0 rfl ?_
              refine w_iadd C dX0_startSigns_62 ?_
              refine c_elem C ((cx, .inr (0, [.ref rx, .int (us0), .ref (P 10), .ref (Q 77), .ref (Q 78), .ref (Q 79), .ref (Q 80), .ref (Q 81), .ref (Q 82), .ref (Q 83)])) :: (rx, .inl (G 5, 10, .inr (.inr (.inr (.inr (fun i => some (P i))))))) :: (ra, .inl (G 0, 9, .inl g)) :: (rb, .inl (G 0, 9, .inl g2)) :: [] : va_W) X (0) (by omega) (i + j) ⟨by omega, by show _ < 16; omega⟩ dX0_startSigns_63 ?_
              refine w_aload_n C dX0_startSigns_64 2 rfl ?_
              refine w_get (ci := 0) (ref := "RootIsolator$Chain") (T := TX0) (Cn := RX0) (N := 10) C (fun w h => wC_in (inX0 w h)) 0 rfl rfl 9 (by decide) (wC_in fX0_50) rfl rfl dX0_startSigns_65 ?_
              refine w_iconst C dX0_startSigns_68 ?_
              have hp0 : pB 0 = 0 := rfl
              have hcl : lb (cvt g g2 (i * 9 + j)) 4 := by
                unfold lb
                have e : (2 : Int) ^ (30 * 4) = 1329227995784915872903807060280344576 := by decide
                rw [e]; omega
              have hv1 : (sP (qu Z 83 (cvt g g2 (i * 9 + j))) (pB 0) (pN 0) (cvS g g2 (i * 9 + j))) (pB 0 + (i + j)) = cvS g g2 (i * 9 + j) (i + j) := sP_in _ _ (by show i + j < 16; omega)
              have hv2 : (sP (qu Z 83 (cvt g g2 (i * 9 + j))) (pB 0) (pN 0) (cvS g g2 (i * 9 + j))) 83 = (cvt g g2 (i * 9 + j)) := by rw [sP_out _ _ (Or.inr (by show 0 + 16 ≤ 83; omega)), qu_same]
              refine p_add hA C ((cx, .inr (0, [.ref rx, .int (us0), .ref (P 10), .ref (Q 77), .ref (Q 78), .ref (Q 79), .ref (Q 80), .ref (Q 81), .ref (Q 82), .ref (Q 83)])) :: (rx, .inl (G 5, 10, .inr (.inr (.inr (.inr (fun i => some (P i))))))) :: (ra, .inl (G 0, 9, .inl g)) :: (rb, .inl (G 0, 9, .inl g2)) :: (fp G Q P PA (qu T 0 0) ++ X) : va_W) hZ202 hG202 (pB 0 + (i + j)) (83) (by omega) (by omega) (by omega) 1 _ (Or.inl ⟨rfl, rfl⟩) ⟨by rw [hv1]; exact lb_le (cvS_lb hg hg2 _ (by omega)) (by omega), by rw [hv2]; exact lb_le hcl (by omega)⟩ (cwV 2 C.1.2.2.2.2 (wC_V kX0_86 nX3_add slX3_add iniX3 cdX3_add) rfl rfl rfl (by decide +kernel) ⟨Nat.le_of_ble_eq_true rfl, Nat.le_of_ble_eq_true rfl⟩) ⟨Nat.le_of_ble_eq_true rfl, Nat.le_of_ble_eq_true rfl⟩ (Nat.le_of_ble_eq_true rfl) dX0_startSigns_69 (fun st203 nn203 c203 s203 hZ203 hG203 => ?_)
              rw [show (qu (sP (qu Z 83 (cvt g g2 (i * 9 + j))) (pB 0) (pN 0) (cvS g g2 (i * 9 + j))) (pB 0 + (i + j)) ((sP (qu Z 83 (cvt g g2 (i * 9 + j))) (pB 0) (pN 0) (cvS g g2 (i * 9 + j))) (pB 0 + (i + j)) + (sP (qu Z 83 (cvt g g2 (i * 9 + j))) (pB 0) (pN 0) (cvS g g2 (i * 9 + j))) 83)) = (sP (qu Z 83 (cvt g g2 (i * 9 + j))) (pB 0) (pN 0) (cvS g g2 (i * 9 + (j + 1)))) from by
  rw [hv1, hv2]
  refine sP_put _ (by show i + j < 16; omega) ?_ (fun q h3 h4 => ?_)
  · show _ = cvS g g2 (i * 9 + j) (i + j) + (if i + j = (i * 9 + j) / 9 + (i * 9 + j) % 9 then cvt g g2 (i * 9 + j) else 0)
    rw [hm1, hm2, if_pos rfl]
  · show cvS g g2 (i * 9 + j) q + (if q = (i * 9 + j) / 9 + (i * 9 + j) % 9 then cvt g g2 (i * 9 + j) else 0) = _
    rw [hm1, hm2, if_neg h4, Int.add_zero]] at hZ203
              refine w_iinc C (((j + 1 : Nat) : Int)) (by omega) [(4, .int (iZ (((j + 1 : Nat) : Int)))), (3, .int (iZ (((i + 1 : Nat) : Int)))), (0, .ref cx), (1, .ref ra), (2, .ref rb)] dX0_startSigns_72 0 rfl (by decide) rfl ?_
              refine w_goto C 20 dX0_startSigns_75 (by decide) ?_
              exact ih3 (j + 1) _ _ _ _ _ (by omega) (by omega) hZ203 hG203
        exact lp2 10 0 tv sti nni ci si (by omega) (by omega) hZi hGi
  refine w_sub [(3, .int (iZ ((0 + 1 : Nat) : Int))), (0, .ref cx), (1, .ref ra), (2, .ref rb)] [0, 1, 2, 3] rfl ?_
  exact lp1 9 0 (Z 83) st1 nn1 c1 s1 (by omega) (by omega) (by rw [qu_id]; exact hZ1) hG1
