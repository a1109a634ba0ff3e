section SNEST
variable {p : Program} {l : Launch} {e : Env} {R : Room} {s : State} {m : MethodId} {args : Array Value} {below : List Frame} {meth : Method} {c : Code} {D : va_G} {A : Nat → Prop} {nL cells slots : Nat} {Qp : State → Prop}
variable {cc : ByteArray} {Ts : List Cond} {own : String} {ws : va_W} {pc : Nat} {lv : List (Nat × Value)} {rest : List Value} {G : Nat → ClassId} {N : State → Prop} {sz hs mc ms : Nat}
/-- a call of a nest mate's static method -/
theorem g_callSiN {y : MethodName} {bytes : ByteArray} {maxL n index : Nat} {host : String} {ret : Option FieldType} {wsd : List Cond} {rm : Room} {post : Int32 → cS → Prop} (As : List Value) (hA : ∀ q, s.heap.size ≤ q → A q) (C : ZC p s m args c cc nL Ts own D (cty G)) (hN : N s) (hNo : NOK N)
    (hM : ∀ sz hs : Nat, Met l y wsd rm (va_Pc As (cPre N D G ws sz hs)) (va_Qi post (cAt D G (va_A ws sz) sz hs) (va_A ws sz)) mc ms (va_A ws sz)) (cw : va_CN R s args own index y host bytes maxL ret wsd rm mc ms n ∧ (Cond.static y).before args s = true ∧ True) (hn : As.length = n) (hR : cells + mc ≤ R.cells ∧ slots + ms ≤ R.slots) (hW : (rest.map fun v => v.category).sum ≤ 8) (hdg : decode cc pc = .ok (.invokestatic index, 3)) (st : List Value) (hst : st = As.reverse ++ rest)
    (kk : ∀ (r : Int32) (v : cS), post r v → ZW p l e R s m args below meth c D A nL (cells + v.2.1) (slots + v.2.2) Qp v.1 (pc + 3) lv (.int r :: rest)) : ZW p l e R s m args below meth c D A nL cells slots Qp ws pc lv st := by
  intro H locs ls hP hD hS hl T hT X
  have h0 := st_hs X
  rw [hT] at h0
  subst hst
  refine va_calli (va_runSN (As := As) (rest := rest) C.1 (hM H.size (hsum H)) cw ⟨cPre_blind hNo, fun U hU hW => ⟨rfl, by rw [hU], by rw [hU], by rw [hU]; exact hP, va_K.moved hW.alike C.2, hD.weaken (fun _ _ _ _ => trivial), hNo _ _ hW hN⟩⟩ rfl hn hl.1 rfl (lv_room hW) hdg hR) hS (fun q _ h => g_sub hA hD hS q h) (g_sub hA hD hS) (fun r v t H1 locs1 ht hvm hw hB hz1 hk1 hS1 => ?_) T hT X
  obtain ⟨hP1, hK1, hD1, hg1, hg2⟩ := hB
  rw [ht] at hP1 hg1 hg2
  intro T1 hT1 X1
  exact kk r v hw H1 locs1 ls hP1 (hD1.weaken (fun k q _ h => g_sub hA hD hS q.1 h)) hS1 hl T1 hT1 (st_tight X1 (by rw [hT1]; omega) (by rw [hT1]; omega))
end SNEST
theorem wC_self {y0 y : MethodName} {c0 cc : ByteArray} {n0 n : Nat} {r0 r : Option FieldType} (h5 : Cond.code y cc n r ∈ wG) : GoodIn (wC y0 c0 n0 r0) (wC y cc n r) := by
  have k : ∀ w ∈ wC y cc n r, w ∈ wG := by
    intro w hw
    unfold wC at hw
    rcases List.mem_cons.1 hw with rfl | hw
    · exact h5
    · exact hw
  exact wG_good (fun w hw => wC_in (k w hw)) k
theorem gp_zr {g : Nat → Int32} {N n : Nat} (h : tpN (gp g) 9 N) (hn : 9 ≤ n) : tpN (gp g) n N := ⟨Nat.le_trans h.1 hn, fun i h1 h2 => by
  rcases Nat.lt_or_ge i 9 with q | q
  · exact h.2.1 i h1 q
  · exact if_neg (by omega), h.2.2⟩
set_option maxHeartbeats 4000000 in
set_option maxRecDepth 100000 in
/-- startPair -/
theorem cc_startPair (l : Launch) (D : va_G) (G : Nat → ClassId) (X : va_W) (Q P PA T : Nat → Nat) (st : Nat → va_W) (nn : Nat → Nat) (Z : Nat → Int) (cx rx ra rb da db : Nat) (us0 : Int32) (g g2 : Nat → Int32) (hZ : pAll G Q st nn Z) (hT : ∀ j : Nat, j < 12 → T j ≤ pN j) (hg : ∀ i : Nat, i < 9 → ((g i).toInt.natAbs : Int) ≤ 1000000000) (hg2 : ∀ i : Nat, i < 9 → ((g2 i).toInt.natAbs : Int) ≤ 1000000000) (ha : tpN (gp g) 9 (da + 1)) (hb : tpN (gp g2) 9 (db + 1)) (sz hs : Nat) : Met l yX0_startPair (wC yX0_startPair cX0_startPair 4 none) ({ frames := 5, cells := 4312, slots := 1605632, locals := 139 }) (va_Pc [.ref cx, .ref ra, .ref rb] (cPre nW D G ((cx, .inr (0, [.ref rx, .int (us0), .ref (P 10), .ref (Q 77), .ref (Q 78), .ref (Q 79), .ref (Q 80), .ref (Q 81), .ref (Q 82), .ref (Q 83)])) :: (rx, .inl (G 5, 10, .inr (.inr (.inr (.inr (fun i => some (P i))))))) :: (ra, .inl (G 0, 9, .inl g)) :: (rb, .inl (G 0, 9, .inl g2)) :: ((fp G Q P PA T ++ X) ++ pl st) : va_W) sz hs)) (va_Qv (fun (u : cS) => ∃ (st1 : Nat → va_W) (nn1 : Nat → Nat) (c1 s1 : Nat) (Z1 : Nat → Int) (T1 : Nat → Nat) (us1 : Nat), (chn Z1 T1 us1 ∧ ((db ≤ da ∧ zr Z1 T1 0 = gp g ∧ zr Z1 T1 1 = gp g2) ∨ (da < db ∧ zr Z1 T1 0 = gp g2 ∧ zr Z1 T1 1 = gp g)) ∧ (∀ q : Nat, 84 ≤ q → Z1 q = Z q) ∧ ∀ j : Nat, 11 ≤ j → T1 j = T j) ∧ pAll G Q st1 nn1 (Z1) ∧ pG (pC nn) (pS nn) nn1 c1 s1 ∧ u = (((cx, .inr (0, [.ref rx, .int (iZ ((us1 : Int))), .ref (P 10), .ref (Q 77), .ref (Q 78), .ref (Q 79), .ref (Q 80), .ref (Q 81), .ref (Q 82), .ref (Q 83)])) :: (rx, .inl (G 5, 10, .inr (.inr (.inr (.inr (fun i => some (P i))))))) :: (ra, .inl (G 0, 9, .inl g)) :: (rb, .inl (G 0, 9, .inl g2)) :: ((fp G Q P PA T1 ++ X) ++ pl st1) : va_W), c1, s1)) (cAt D G (va_A ((cx, .inr (0, [.ref rx, .int (us0), .ref (P 10), .ref (Q 77), .ref (Q 78), .ref (Q 79), .ref (Q 80), .ref (Q 81), .ref (Q 82), .ref (Q 83)])) :: (rx, .inl (G 5, 10, .inr (.inr (.inr (.inr (fun i => some (P i))))))) :: (ra, .inl (G 0, 9, .inl g)) :: (rb, .inl (G 0, 9, .inl g2)) :: ((fp G Q P PA T ++ X) ++ pl st) : va_W) sz) sz hs) (va_A ((cx, .inr (0, [.ref rx, .int (us0), .ref (P 10), .ref (Q 77), .ref (Q 78), .ref (Q 79), .ref (Q 80), .ref (Q 81), .ref (Q 82), .ref (Q 83)])) :: (rx, .inl (G 5, 10, .inr (.inr (.inr (.inr (fun i => some (P i))))))) :: (ra, .inl (G 0, 9, .inl g)) :: (rb, .inl (G 0, 9, .inl g2)) :: ((fp G Q P PA T ++ X) ++ pl st) : va_W) sz)) 4312 1605632 (va_A ((cx, .inr (0, [.ref rx, .int (us0), .ref (P 10), .ref (Q 77), .ref (Q 78), .ref (Q 79), .ref (Q 80), .ref (Q 81), .ref (Q 82), .ref (Q 83)])) :: (rx, .inl (G 5, 10, .inr (.inr (.inr (.inr (fun i => some (P i))))))) :: (ra, .inl (G 0, 9, .inl g)) :: (rb, .inl (G 0, 9, .inl g2)) :: ((fp G Q P PA T ++ X) ++ pl st) : va_W) sz) := by
  refine g_met (cc := cX0_startPair) (maxL := 4) (ret := none) (own := RX0) (by decide) rfl rfl (Nat.le_of_ble_eq_true rfl) ?_
  intro p e s m below meth c hsz hhs hNs hA C hr hlk
  refine w_sub [(0, .ref cx), (1, .ref ra), (2, .ref rb)] [0, 1, 2] rfl ?_
  have hG : pG (pC nn) (pS nn) nn 0 0 := ⟨Nat.le_of_eq (Nat.zero_add _), Nat.le_of_eq (Nat.zero_add _)⟩
  have ka := ha.1
  have kb := hb.1
  refine w_aload_n C dX0_startPair_0 1 rfl ?_
  have hle1 := pG_le hZ hG
  refine w_perm ((ra, .inl (G 0, 9, .inl g)) :: (cx, .inr (0, [.ref rx, .int (us0), .ref (P 10), .ref (Q 77), .ref (Q 78), .ref (Q 79), .ref (Q 80), .ref (Q 81), .ref (Q 82), .ref (Q 83)])) :: (rx, .inl (G 5, 10, .inr (.inr (.inr (.inr (fun i => some (P i))))))) :: (rb, .inl (G 0, 9, .inl g2)) :: ((fp G Q P PA T ++ X) ++ pl st) : va_W) (List.perm_middle (l₁ := ((cx, .inr (0, [.ref rx, .int (us0), .ref (P 10), .ref (Q 77), .ref (Q 78), .ref (Q 79), .ref (Q 80), .ref (Q 81), .ref (Q 82), .ref (Q 83)])) :: (rx, .inl (G 5, 10, .inr (.inr (.inr (.inr (fun i => some (P i))))))) :: [] : va_W)) (l₂ := ((rb, .inl (G 0, 9, .inl g2)) :: ((fp G Q P PA T ++ X) ++ pl st) : va_W))) ?_
  refine g_callSiN (N := nT) [.ref ra] hA C trivial nT_ok (cw_topPower l D G ((cx, .inr (0, [.ref rx, .int (us0), .ref (P 10), .ref (Q 77), .ref (Q 78), .ref (Q 79), .ref (Q 80), .ref (Q 81), .ref (Q 82), .ref (Q 83)])) :: (rx, .inl (G 5, 10, .inr (.inr (.inr (.inr (fun i => some (P i))))))) :: (rb, .inl (G 0, 9, .inl g2)) :: ((fp G Q P PA T ++ X) ++ pl st) : va_W) ra g) ⟨va_cnB (host := RX4) 1 C.1.2.2.2.2 (wC_self cdX4_topPower) rfl rfl rfl hNs.2.2.2.2.2.2.2.2.2.2.2 (C.1.2.2.2.2 _ (wC_in iniX4)) (by decide +kernel) ⟨Nat.le_of_ble_eq_true rfl, Nat.le_of_ble_eq_true rfl⟩, C.1.2.2.2.2 _ (wC_in stX4_topPower), trivial⟩ rfl ⟨by show 0 + 0 ≤ 4312; omega, by show 0 + 0 ≤ 1605632; omega⟩ (Nat.le_of_ble_eq_true rfl) dX0_startPair_1 [.ref ra] rfl (fun r v1 hv1 => ?_)
  obtain ⟨N1, ht1, rfl, rfl⟩ := hv1
  refine w_cs 0 0 rfl rfl ?_
  refine w_perm ((cx, .inr (0, [.ref rx, .int (us0), .ref (P 10), .ref (Q 77), .ref (Q 78), .ref (Q 79), .ref (Q 80), .ref (Q 81), .ref (Q 82), .ref (Q 83)])) :: (rx, .inl (G 5, 10, .inr (.inr (.inr (.inr (fun i => some (P i))))))) :: (ra, .inl (G 0, 9, .inl g)) :: (rb, .inl (G 0, 9, .inl g2)) :: ((fp G Q P PA T ++ X) ++ pl st) : va_W) (List.perm_middle (l₁ := ((cx, .inr (0, [.ref rx, .int (us0), .ref (P 10), .ref (Q 77), .ref (Q 78), .ref (Q 79), .ref (Q 80), .ref (Q 81), .ref (Q 82), .ref (Q 83)])) :: (rx, .inl (G 5, 10, .inr (.inr (.inr (.inr (fun i => some (P i))))))) :: [] : va_W)) (l₂ := ((rb, .inl (G 0, 9, .inl g2)) :: ((fp G Q P PA T ++ X) ++ pl st) : va_W))).symm ?_
  have hn1 : N1 = da + 1 := tpN_uniq ht1 ha
  refine w_top C ((da : Int)) (by rw [hn1, if_neg (by omega)]; omega) ?_
  refine w_aload_n C dX0_startPair_4 2 rfl ?_
  have hle2 := pG_le hZ hG
  refine w_perm ((rb, .inl (G 0, 9, .inl g2)) :: (cx, .inr (0, [.ref rx, .int (us0), .ref (P 10), .ref (Q 77), .ref (Q 78), .ref (Q 79), .ref (Q 80), .ref (Q 81), .ref (Q 82), .ref (Q 83)])) :: (rx, .inl (G 5, 10, .inr (.inr (.inr (.inr (fun i => some (P i))))))) :: (ra, .inl (G 0, 9, .inl g)) :: ((fp G Q P PA T ++ X) ++ pl st) : va_W) (List.perm_middle (l₁ := ((cx, .inr (0, [.ref rx, .int (us0), .ref (P 10), .ref (Q 77), .ref (Q 78), .ref (Q 79), .ref (Q 80), .ref (Q 81), .ref (Q 82), .ref (Q 83)])) :: (rx, .inl (G 5, 10, .inr (.inr (.inr (.inr (fun i => some (P i))))))) :: (ra, .inl (G 0, 9, .inl g)) :: [] : va_W)) (l₂ := (((fp G Q P PA T ++ X) ++ pl st) : va_W))) ?_
  refine g_callSiN (N := nT) [.ref rb] hA C trivial nT_ok (cw_topPower l D G ((cx, .inr (0, [.ref rx, .int (us0), .ref (P 10), .ref (Q 77), .ref (Q 78), .ref (Q 79), .ref (Q 80), .ref (Q 81), .ref (Q 82), .ref (Q 83)])) :: (rx, .inl (G 5, 10, .inr (.inr (.inr (.inr (fun i => some (P i))))))) :: (ra, .inl (G 0, 9, .inl g)) :: ((fp G Q P PA T ++ X) ++ pl st) : va_W) rb g2) ⟨va_cnB (host := RX4) 1 C.1.2.2.2.2 (wC_self cdX4_topPower) rfl rfl rfl hNs.2.2.2.2.2.2.2.2.2.2.2 (C.1.2.2.2.2 _ (wC_in iniX4)) (by decide +kernel) ⟨Nat.le_of_ble_eq_true rfl, Nat.le_of_ble_eq_true rfl⟩, C.1.2.2.2.2 _ (wC_in stX4_topPower), trivial⟩ rfl ⟨by show 0 + 0 ≤ 4312; omega, by show 0 + 0 ≤ 1605632; omega⟩ (Nat.le_of_ble_eq_true rfl) dX0_startPair_5 [.ref rb, .int (iZ ((da : Int)))] rfl (fun r v2 hv2 => ?_)
  obtain ⟨N2, ht2, rfl, rfl⟩ := hv2
  refine w_cs 0 0 rfl rfl ?_
  refine w_perm ((cx, .inr (0, [.ref rx, .int (us0), .ref (P 10), .ref (Q 77), .ref (Q 78), .ref (Q 79), .ref (Q 80), .ref (Q 81), .ref (Q 82), .ref (Q 83)])) :: (rx, .inl (G 5, 10, .inr (.inr (.inr (.inr (fun i => some (P i))))))) :: (ra, .inl (G 0, 9, .inl g)) :: (rb, .inl (G 0, 9, .inl g2)) :: ((fp G Q P PA T ++ X) ++ pl st) : va_W) (List.perm_middle (l₁ := ((cx, .inr (0, [.ref rx, .int (us0), .ref (P 10), .ref (Q 77), .ref (Q 78), .ref (Q 79), .ref (Q 80), .ref (Q 81), .ref (Q 82), .ref (Q 83)])) :: (rx, .inl (G 5, 10, .inr (.inr (.inr (.inr (fun i => some (P i))))))) :: (ra, .inl (G 0, 9, .inl g)) :: [] : va_W)) (l₂ := (((fp G Q P PA T ++ X) ++ pl st) : va_W))).symm ?_
  have hn2 : N2 = db + 1 := tpN_uniq ht2 hb
  refine w_top C ((db : Int)) (by rw [hn2, if_neg (by omega)]; omega) ?_
  refine w_icmp_lt C 15 dX0_startPair_8 (by decide) ⟨⟨by omega, by omega⟩, by omega, by omega⟩ (fun c8 => ?_) (fun c8 => ?_)
  · refine w_iconst C dX0_startPair_15 ?_
    refine w_istore_n C [(3, .int (iZ (0))), (0, .ref cx), (1, .ref ra), (2, .ref rb)] dX0_startPair_16 rfl (by decide) rfl ?_
    refine w_aload_n C dX0_startPair_17 1 rfl ?_
    refine w_get (ci := 0) (ref := "RootIsolator$Chain") (T := TX0) (Cn := RX0) (N := 10) C (fun w h => wC_in (inX0 w h)) 0 rfl rfl 0 (by decide) (wC_in fX0_13) rfl rfl dX0_startPair_18 ?_
    refine w_iconst C dX0_startPair_21 ?_
    refine w_aald (n := 10) (f := (fun i => some (P i))) C 1 5 rfl rfl rfl (0) ⟨by omega, by omega, by omega⟩ (rfl) dX0_startPair_22 ?_
    refine w_iload_n C dX0_startPair_23 0 rfl ?_
    refine w_if_eq C 31 dX0_startPair_24 (by decide) ⟨by omega, by omega⟩ (fun c24 => ?_) (fun c24 => ?_)
    · refine w_aload_n C dX0_startPair_31 3 rfl ?_
      refine c_load hA C hNs ((cx, .inr (0, [.ref rx, .int (us0), .ref (P 10), .ref (Q 77), .ref (Q 78), .ref (Q 79), .ref (Q 80), .ref (Q 81), .ref (Q 82), .ref (Q 83)])) :: (rx, .inl (G 5, 10, .inr (.inr (.inr (.inr (fun i => some (P i))))))) :: (ra, .inl (G 0, 9, .inl g)) :: (rb, .inl (G 0, 9, .inl g2)) :: [] : va_W) X hZ hG 0 (by omega) rb g2 ((cx, .inr (0, [.ref rx, .int (us0), .ref (P 10), .ref (Q 77), .ref (Q 78), .ref (Q 79), .ref (Q 80), .ref (Q 81), .ref (Q 82), .ref (Q 83)])) :: (rx, .inl (G 5, 10, .inr (.inr (.inr (.inr (fun i => some (P i))))))) :: (ra, .inl (G 0, 9, .inl g)) :: [] : va_W) (List.perm_append_comm (l₁ := ((cx, .inr (0, [.ref rx, .int (us0), .ref (P 10), .ref (Q 77), .ref (Q 78), .ref (Q 79), .ref (Q 80), .ref (Q 81), .ref (Q 82), .ref (Q 83)])) :: (rx, .inl (G 5, 10, .inr (.inr (.inr (.inr (fun i => some (P i))))))) :: (ra, .inl (G 0, 9, .inl g)) :: [] : va_W)) (l₂ := ((rb, .inl (G 0, 9, .inl g2)) :: [] : va_W))) (cwV 1 C.1.2.2.2.2 (wC_V kX0_60 nX2_load slX2_load iniX2 cdX2_load) rfl rfl rfl (by decide +kernel) ⟨Nat.le_of_ble_eq_true rfl, Nat.le_of_ble_eq_true rfl⟩) ⟨Nat.le_of_ble_eq_true rfl, Nat.le_of_ble_eq_true rfl⟩ (Nat.le_of_ble_eq_true rfl) dX0_startPair_32 (fun st3 nn3 c3 s3 N3 htp3 hZ3 hG3 => ?_)
      have hN0 : N3 = db + 1 := tpN_uniq (show tpN (gp g2) 16 N3 from htp3) (gp_zr hb (by omega))
      obtain ⟨Za, hZa⟩ : ∃ x : Nat → Int, x = (sP Z (pB 0) (pN 0) (fun j => if j < 9 then (g2 j).toInt else 0)) := ⟨_, rfl⟩
      rw [← hZa] at hZ3
      obtain ⟨Ta, hTa⟩ : ∃ x : Nat → Nat, x = (qu T 0 N3) := ⟨_, rfl⟩
      rw [← hTa]
      have hTa0 : Ta 0 = db + 1 := by rw [hTa, qu_same, hN0]
      have hTao : ∀ j : Nat, j ≠ 0 → Ta j = T j := fun j hj => by rw [hTa, qu_other _ _ hj]
      have hZa0 : ∀ i : Nat, i < 16 → Za (pB 0 + i) = gp g2 i := fun i hi => by rw [hZa]; exact sP_in _ _ hi
      have hZao : ∀ q : Nat, 16 ≤ q → Za q = Z q := fun q hq => by rw [hZa]; exact sP_out _ _ (Or.inr hq)
      refine w_aload_n C dX0_startPair_35 1 rfl ?_
      refine w_get (ci := 0) (ref := "RootIsolator$Chain") (T := TX0) (Cn := RX0) (N := 10) C (fun w h => wC_in (inX0 w h)) 0 rfl rfl 0 (by decide) (wC_in fX0_13) rfl rfl dX0_startPair_36 ?_
      refine w_iconst C dX0_startPair_39 ?_
      refine w_aald (n := 10) (f := (fun i => some (P i))) C 1 5 rfl rfl rfl (1) ⟨by omega, by omega, by omega⟩ (rfl) dX0_startPair_40 ?_
      refine w_iload_n C dX0_startPair_41 0 rfl ?_
      refine w_if_eq C 49 dX0_startPair_42 (by decide) ⟨by omega, by omega⟩ (fun c42 => ?_) (fun c42 => ?_)
      · refine w_aload_n C dX0_startPair_49 2 rfl ?_
        refine c_load hA C hNs ((cx, .inr (0, [.ref rx, .int (us0), .ref (P 10), .ref (Q 77), .ref (Q 78), .ref (Q 79), .ref (Q 80), .ref (Q 81), .ref (Q 82), .ref (Q 83)])) :: (rx, .inl (G 5, 10, .inr (.inr (.inr (.inr (fun i => some (P i))))))) :: (ra, .inl (G 0, 9, .inl g)) :: (rb, .inl (G 0, 9, .inl g2)) :: [] : va_W) X hZ3 hG3 1 (by omega) ra g ((cx, .inr (0, [.ref rx, .int (us0), .ref (P 10), .ref (Q 77), .ref (Q 78), .ref (Q 79), .ref (Q 80), .ref (Q 81), .ref (Q 82), .ref (Q 83)])) :: (rx, .inl (G 5, 10, .inr (.inr (.inr (.inr (fun i => some (P i))))))) :: (rb, .inl (G 0, 9, .inl g2)) :: [] : va_W) (List.perm_middle (l₁ := ((cx, .inr (0, [.ref rx, .int (us0), .ref (P 10), .ref (Q 77), .ref (Q 78), .ref (Q 79), .ref (Q 80), .ref (Q 81), .ref (Q 82), .ref (Q 83)])) :: (rx, .inl (G 5, 10, .inr (.inr (.inr (.inr (fun i => some (P i))))))) :: [] : va_W)) (l₂ := ((rb, .inl (G 0, 9, .inl g2)) :: [] : va_W))) (cwV 1 C.1.2.2.2.2 (wC_V kX0_60 nX2_load slX2_load iniX2 cdX2_load) rfl rfl rfl (by decide +kernel) ⟨Nat.le_of_ble_eq_true rfl, Nat.le_of_ble_eq_true rfl⟩) ⟨Nat.le_of_ble_eq_true rfl, Nat.le_of_ble_eq_true rfl⟩ (Nat.le_of_ble_eq_true rfl) dX0_startPair_50 (fun st4 nn4 c4 s4 N4 htp4 hZ4 hG4 => ?_)
        have hN1 : N4 = da + 1 := tpN_uniq (show tpN (gp g) 9 N4 from htp4) (gp_zr ha (by omega))
        obtain ⟨Zb, hZb⟩ : ∃ x : Nat → Int, x = (sP Za (pB 1) (pN 1) (fun j => if j < 9 then (g j).toInt else 0)) := ⟨_, rfl⟩
        rw [← hZb] at hZ4
        obtain ⟨Tb, hTb⟩ : ∃ x : Nat → Nat, x = (qu Ta 1 N4) := ⟨_, rfl⟩
        rw [← hTb]
        have hTb1 : Tb 1 = da + 1 := by rw [hTb, qu_same, hN1]
        have hTbo : ∀ j : Nat, j ≠ 1 → Tb j = Ta j := fun j hj => by rw [hTb, qu_other _ _ hj]
        have hTb0 : Tb 0 = db + 1 := by rw [hTbo 0 (by omega), hTa0]
        have hZb1 : ∀ i : Nat, i < 9 → Zb (pB 1 + i) = gp g i := fun i hi => by rw [hZb]; exact sP_in _ _ hi
        have hZb0 : ∀ i : Nat, i < 16 → Zb (pB 0 + i) = gp g2 i := fun i hi => by rw [hZb, sP_out _ _ (Or.inl (by show 0 + i < 16; omega)), hZa0 i hi]
        have hTall : ∀ j : Nat, j < 12 → Tb j ≤ pN j := fun j hj => by
          by_cases c0 : j = 0
          · rw [c0, hTb0]; show _ ≤ 16; omega
          · by_cases c1 : j = 1
            · rw [c1, hTb1]; show _ ≤ 9; omega
            · rw [hTbo j c1, hTao j c0]; exact hT j hj
        have hlb4 : ∀ j : Nat, j < 2 → ∀ i : Nat, i < Tb j → lb (Zb (pB j + i)) 4 := fun j hj i hi => by
          have hj2 : j = 0 ∨ j = 1 := by omega
          rcases hj2 with rfl | rfl
          · rw [hZb0 i (by omega)]; exact lb_le (gp_lb hg2 i) (by omega)
          · rw [hZb1 i (by omega)]; exact lb_le (gp_lb hg i) (by omega)
        have hl0 : Zb (pB 0 + (Tb 0 - 1)) ≠ 0 := by rw [hTb0, hZb0 _ (by omega)]; exact hb.2.2 _ (by omega)
        have hl1 : 1 ≤ Tb 1 → Zb (pB 1 + (Tb 1 - 1)) ≠ 0 := fun h => by rw [hTb1, hZb1 _ (by omega)]; exact ha.2.2 _ (by omega)
        refine w_aload_n C dX0_startPair_53 1 rfl ?_
        have hle5 := pG_le hZ4 hG4
        refine w_perm ((cx, .inr (0, [.ref rx, .int (us0), .ref (P 10), .ref (Q 77), .ref (Q 78), .ref (Q 79), .ref (Q 80), .ref (Q 81), .ref (Q 82), .ref (Q 83)])) :: (rx, .inl (G 5, 10, .inr (.inr (.inr (.inr (fun i => some (P i))))))) :: ((fp G Q P PA Tb ++ ((ra, .inl (G 0, 9, .inl g)) :: (rb, .inl (G 0, 9, .inl g2)) :: X : va_W)) ++ pl st4) : va_W) (xp_perm ((cx, .inr (0, [.ref rx, .int (us0), .ref (P 10), .ref (Q 77), .ref (Q 78), .ref (Q 79), .ref (Q 80), .ref (Q 81), .ref (Q 82), .ref (Q 83)])) :: (rx, .inl (G 5, 10, .inr (.inr (.inr (.inr (fun i => some (P i))))))) :: [] : va_W) ((ra, .inl (G 0, 9, .inl g)) :: (rb, .inl (G 0, 9, .inl g2)) :: [] : va_W) (fp G Q P PA Tb) X (pl st4)) ?_
        refine g_callv (N := nW) [] hA C hNs nW_ok (cc_extend l D G ((ra, .inl (G 0, 9, .inl g)) :: (rb, .inl (G 0, 9, .inl g2)) :: X : va_W) Q P PA Tb st4 nn4 Zb cx rx us0 hZ4 ⟨by omega, by omega, fun _ => by omega⟩ hTall hl0 hl1 hlb4) (cwV 0 C.1.2.2.2.2 (wC_V kX0_68 nX0_extend slX0_extend iniX0 cdX0_extend) rfl rfl rfl (by decide +kernel) ⟨Nat.le_of_ble_eq_true rfl, Nat.le_of_ble_eq_true rfl⟩) (q0 := 0) rfl rfl rfl rfl ⟨by show c4 + 3234 ≤ 4312; omega, by show s4 + 1204224 ≤ 1605632; omega⟩ (Nat.le_of_ble_eq_true rfl) dX0_startPair_54 [.ref cx] rfl (fun v5 hv5 => ?_)
        obtain ⟨st5, nn5, e5, f5, Z15, T15, us5, hF5, hZ5, hH5, rfl⟩ := hv5
        have hG5 := pG_trans hG4 hH5
        refine w_cs (c4 + e5) (s4 + f5) rfl rfl ?_
        refine w_perm ((cx, .inr (0, [.ref rx, .int (iZ ((us5 : Int))), .ref (P 10), .ref (Q 77), .ref (Q 78), .ref (Q 79), .ref (Q 80), .ref (Q 81), .ref (Q 82), .ref (Q 83)])) :: (rx, .inl (G 5, 10, .inr (.inr (.inr (.inr (fun i => some (P i))))))) :: (ra, .inl (G 0, 9, .inl g)) :: (rb, .inl (G 0, 9, .inl g2)) :: ((fp G Q P PA T15 ++ X) ++ pl st5) : va_W) (xp_perm ((cx, .inr (0, [.ref rx, .int (iZ ((us5 : Int))), .ref (P 10), .ref (Q 77), .ref (Q 78), .ref (Q 79), .ref (Q 80), .ref (Q 81), .ref (Q 82), .ref (Q 83)])) :: (rx, .inl (G 5, 10, .inr (.inr (.inr (.inr (fun i => some (P i))))))) :: [] : va_W) ((ra, .inl (G 0, 9, .inl g)) :: (rb, .inl (G 0, 9, .inl g2)) :: [] : va_W) (fp G Q P PA T15) X (pl st5)).symm ?_
        have hle := pG_le hZ5 hG5
        obtain ⟨k1, k2, k3, k4, k5, k6, k7⟩ := exF_chn hF5 hTall ⟨by omega, by omega⟩ hl0 hl1
        have hr0 : zr Z15 T15 0 = gp g2 := by rw [k2]; exact zr_tp (by rw [hTb0]; exact gp_zr hb (by omega)) (fun i hi => if_neg (by omega)) hZb0
        have hr1 : zr Z15 T15 1 = gp g := by rw [k3]; exact zr_tp (by rw [hTb1]; exact ha) (fun i hi => if_neg (by omega)) hZb1
        exact g_vret hsz hhs C hr hlk ⟨by omega, by omega⟩ (⟨_, _, _, _, Z15, T15, us5, ⟨k1, Or.inr ⟨by omega, hr0, hr1⟩, fun q hq => by rw [k6 q hq, hZb, sP_out _ _ (Or.inr (by show 16 + 9 ≤ q; omega)), hZao q (by omega)], fun j hj => by rw [k7 j hj, hTbo j (by omega), hTao j (by omega)]⟩, hZ5, hG5, rfl⟩) dX0_startPair_57
      · exact absurd c42 (by omega)
    · exact absurd c24 (by omega)
  · refine w_iconst C dX0_startPair_11 ?_
    refine w_goto C 16 dX0_startPair_12 (by decide) ?_
    refine w_istore_n C [(3, .int (iZ (1))), (0, .ref cx), (1, .ref ra), (2, .ref rb)] dX0_startPair_16 rfl (by decide) rfl ?_
    refine w_aload_n C dX0_startPair_17 1 rfl ?_
    refine w_get (ci := 0) (ref := "RootIsolator$Chain") (T := TX0) (Cn := RX0) (N := 10) C (fun w h => wC_in (inX0 w h)) 0 rfl rfl 0 (by decide) (wC_in fX0_13) rfl rfl dX0_startPair_18 ?_
    refine w_iconst C dX0_startPair_21 ?_
    refine w_aald (n := 10) (f := (fun i => some (P i))) C 1 5 rfl rfl rfl (0) ⟨by omega, by omega, by omega⟩ (rfl) dX0_startPair_22 ?_
    refine w_iload_n C dX0_startPair_23 0 rfl ?_
    refine w_if_eq C 31 dX0_startPair_24 (by decide) ⟨by omega, by omega⟩ (fun c24 => ?_) (fun c24 => ?_)
    · exact absurd c24 (by omega)
    · refine w_aload_n C dX0_startPair_27 2 rfl ?_
      refine w_goto C 32 dX0_startPair_28 (by decide) ?_
      refine c_load hA C hNs ((cx, .inr (0, [.ref rx, .int (us0), .ref (P 10), .ref (Q 77), .ref (Q 78), .ref (Q 79), .ref (Q 80), .ref (Q 81), .ref (Q 82), .ref (Q 83)])) :: (rx, .inl (G 5, 10, .inr (.inr (.inr (.inr (fun i => some (P i))))))) :: (ra, .inl (G 0, 9, .inl g)) :: (rb, .inl (G 0, 9, .inl g2)) :: [] : va_W) X hZ hG 0 (by omega) ra g ((cx, .inr (0, [.ref rx, .int (us0), .ref (P 10), .ref (Q 77), .ref (Q 78), .ref (Q 79), .ref (Q 80), .ref (Q 81), .ref (Q 82), .ref (Q 83)])) :: (rx, .inl (G 5, 10, .inr (.inr (.inr (.inr (fun i => some (P i))))))) :: (rb, .inl (G 0, 9, .inl g2)) :: [] : va_W) (List.perm_middle (l₁ := ((cx, .inr (0, [.ref rx, .int (us0), .ref (P 10), .ref (Q 77), .ref (Q 78), .ref (Q 79), .ref (Q 80), .ref (Q 81), .ref (Q 82), .ref (Q 83)])) :: (rx, .inl (G 5, 10, .inr (.inr (.inr (.inr (fun i => some (P i))))))) :: [] : va_W)) (l₂ := ((rb, .inl (G 0, 9, .inl g2)) :: [] : va_W))) (cwV 1 C.1.2.2.2.2 (wC_V kX0_60 nX2_load slX2_load iniX2 cdX2_load) rfl rfl rfl (by decide +kernel) ⟨Nat.le_of_ble_eq_true rfl, Nat.le_of_ble_eq_true rfl⟩) ⟨Nat.le_of_ble_eq_true rfl, Nat.le_of_ble_eq_true rfl⟩ (Nat.le_of_ble_eq_true rfl) dX0_startPair_32 (fun st6 nn6 c6 s6 N6 htp6 hZ6 hG6 => ?_)
      have hN0 : N6 = da + 1 := tpN_uniq (show tpN (gp g) 16 N6 from htp6) (gp_zr ha (by omega))
      obtain ⟨Za, hZa⟩ : ∃ x : Nat → Int, x = (sP Z (pB 0) (pN 0) (fun j => if j < 9 then (g j).toInt else 0)) := ⟨_, rfl⟩
      rw [← hZa] at hZ6
      obtain ⟨Ta, hTa⟩ : ∃ x : Nat → Nat, x = (qu T 0 N6) := ⟨_, rfl⟩
      rw [← hTa]
      have hTa0 : Ta 0 = da + 1 := by rw [hTa, qu_same, hN0]
      have hTao : ∀ j : Nat, j ≠ 0 → Ta j = T j := fun j hj => by rw [hTa, qu_other _ _ hj]
      have hZa0 : ∀ i : Nat, i < 16 → Za (pB 0 + i) = gp g i := fun i hi => by rw [hZa]; exact sP_in _ _ hi
      have hZao : ∀ q : Nat, 16 ≤ q → Za q = Z q := fun q hq => by rw [hZa]; exact sP_out _ _ (Or.inr hq)
      refine w_aload_n C dX0_startPair_35 1 rfl ?_
      refine w_get (ci := 0) (ref := "RootIsolator$Chain") (T := TX0) (Cn := RX0) (N := 10) C (fun w h => wC_in (inX0 w h)) 0 rfl rfl 0 (by decide) (wC_in fX0_13) rfl rfl dX0_startPair_36 ?_
      refine w_iconst C dX0_startPair_39 ?_
      refine w_aald (n := 10) (f := (fun i => some (P i))) C 1 5 rfl rfl rfl (1) ⟨by omega, by omega, by omega⟩ (rfl) dX0_startPair_40 ?_
      refine w_iload_n C dX0_startPair_41 0 rfl ?_
      refine w_if_eq C 49 dX0_startPair_42 (by decide) ⟨by omega, by omega⟩ (fun c42 => ?_) (fun c42 => ?_)
      · exact absurd c42 (by omega)
      · refine w_aload_n C dX0_startPair_45 3 rfl ?_
        refine w_goto C 50 dX0_startPair_46 (by decide) ?_
        refine c_load hA C hNs ((cx, .inr (0, [.ref rx, .int (us0), .ref (P 10), .ref (Q 77), .ref (Q 78), .ref (Q 79), .ref (Q 80), .ref (Q 81), .ref (Q 82), .ref (Q 83)])) :: (rx, .inl (G 5, 10, .inr (.inr (.inr (.inr (fun i => some (P i))))))) :: (ra, .inl (G 0, 9, .inl g)) :: (rb, .inl (G 0, 9, .inl g2)) :: [] : va_W) X hZ6 hG6 1 (by omega) rb g2 ((cx, .inr (0, [.ref rx, .int (us0), .ref (P 10), .ref (Q 77), .ref (Q 78), .ref (Q 79), .ref (Q 80), .ref (Q 81), .ref (Q 82), .ref (Q 83)])) :: (rx, .inl (G 5, 10, .inr (.inr (.inr (.inr (fun i => some (P i))))))) :: (ra, .inl (G 0, 9, .inl g)) :: [] : va_W) (List.perm_append_comm (l₁ := ((cx, .inr (0, [.ref rx, .int (us0), .ref (P 10), .ref (Q 77), .ref (Q 78), .ref (Q 79), .ref (Q 80), .ref (Q 81), .ref (Q 82), .ref (Q 83)])) :: (rx, .inl (G 5, 10, .inr (.inr (.inr (.inr (fun i => some (P i))))))) :: (ra, .inl (G 0, 9, .inl g)) :: [] : va_W)) (l₂ := ((rb, .inl (G 0, 9, .inl g2)) :: [] : va_W))) (cwV 1 C.1.2.2.2.2 (wC_V kX0_60 nX2_load slX2_load iniX2 cdX2_load) rfl rfl rfl (by decide +kernel) ⟨Nat.le_of_ble_eq_true rfl, Nat.le_of_ble_eq_true rfl⟩) ⟨Nat.le_of_ble_eq_true rfl, Nat.le_of_ble_eq_true rfl⟩ (Nat.le_of_ble_eq_true rfl) dX0_startPair_50 (fun st7 nn7 c7 s7 N7 htp7 hZ7 hG7 => ?_)
        have hN1 : N7 = db + 1 := tpN_uniq (show tpN (gp g2) 9 N7 from htp7) (gp_zr hb (by omega))
        obtain ⟨Zb, hZb⟩ : ∃ x : Nat → Int, x = (sP Za (pB 1) (pN 1) (fun j => if j < 9 then (g2 j).toInt else 0)) := ⟨_, rfl⟩
        rw [← hZb] at hZ7
        obtain ⟨Tb, hTb⟩ : ∃ x : Nat → Nat, x = (qu Ta 1 N7) := ⟨_, rfl⟩
        rw [← hTb]
        have hTb1 : Tb 1 = db + 1 := by rw [hTb, qu_same, hN1]
        have hTbo : ∀ j : Nat, j ≠ 1 → Tb j = Ta j := fun j hj => by rw [hTb, qu_other _ _ hj]
        have hTb0 : Tb 0 = da + 1 := by rw [hTbo 0 (by omega), hTa0]
        have hZb1 : ∀ i : Nat, i < 9 → Zb (pB 1 + i) = gp g2 i := fun i hi => by rw [hZb]; exact sP_in _ _ hi
        have hZb0 : ∀ i : Nat, i < 16 → Zb (pB 0 + i) = gp g i := fun i hi => by rw [hZb, sP_out _ _ (Or.inl (by show 0 + i < 16; omega)), hZa0 i hi]
        have hTall : ∀ j : Nat, j < 12 → Tb j ≤ pN j := fun j hj => by
          by_cases c0 : j = 0
          · rw [c0, hTb0]; show _ ≤ 16; omega
          · by_cases c1 : j = 1
            · rw [c1, hTb1]; show _ ≤ 9; omega
            · rw [hTbo j c1, hTao j c0]; exact hT j hj
        have hlb4 : ∀ j : Nat, j < 2 → ∀ i : Nat, i < Tb j → lb (Zb (pB j + i)) 4 := fun j hj i hi => by
          have hj2 : j = 0 ∨ j = 1 := by omega
          rcases hj2 with rfl | rfl
          · rw [hZb0 i (by omega)]; exact lb_le (gp_lb hg i) (by omega)
          · rw [hZb1 i (by omega)]; exact lb_le (gp_lb hg2 i) (by omega)
        have hl0 : Zb (pB 0 + (Tb 0 - 1)) ≠ 0 := by rw [hTb0, hZb0 _ (by omega)]; exact ha.2.2 _ (by omega)
        have hl1 : 1 ≤ Tb 1 → Zb (pB 1 + (Tb 1 - 1)) ≠ 0 := fun h => by rw [hTb1, hZb1 _ (by omega)]; exact hb.2.2 _ (by omega)
        refine w_aload_n C dX0_startPair_53 1 rfl ?_
        have hle8 := pG_le hZ7 hG7
        refine w_perm ((cx, .inr (0, [.ref rx, .int (us0), .ref (P 10), .ref (Q 77), .ref (Q 78), .ref (Q 79), .ref (Q 80), .ref (Q 81), .ref (Q 82), .ref (Q 83)])) :: (rx, .inl (G 5, 10, .inr (.inr (.inr (.inr (fun i => some (P i))))))) :: ((fp G Q P PA Tb ++ ((ra, .inl (G 0, 9, .inl g)) :: (rb, .inl (G 0, 9, .inl g2)) :: X : va_W)) ++ pl st7) : va_W) (xp_perm ((cx, .inr (0, [.ref rx, .int (us0), .ref (P 10), .ref (Q 77), .ref (Q 78), .ref (Q 79), .ref (Q 80), .ref (Q 81), .ref (Q 82), .ref (Q 83)])) :: (rx, .inl (G 5, 10, .inr (.inr (.inr (.inr (fun i => some (P i))))))) :: [] : va_W) ((ra, .inl (G 0, 9, .inl g)) :: (rb, .inl (G 0, 9, .inl g2)) :: [] : va_W) (fp G Q P PA Tb) X (pl st7)) ?_
        refine g_callv (N := nW) [] hA C hNs nW_ok (cc_extend l D G ((ra, .inl (G 0, 9, .inl g)) :: (rb, .inl (G 0, 9, .inl g2)) :: X : va_W) Q P PA Tb st7 nn7 Zb cx rx us0 hZ7 ⟨by omega, by omega, fun _ => by omega⟩ hTall hl0 hl1 hlb4) (cwV 0 C.1.2.2.2.2 (wC_V kX0_68 nX0_extend slX0_extend iniX0 cdX0_extend) rfl rfl rfl (by decide +kernel) ⟨Nat.le_of_ble_eq_true rfl, Nat.le_of_ble_eq_true rfl⟩) (q0 := 0) rfl rfl rfl rfl ⟨by show c7 + 3234 ≤ 4312; omega, by show s7 + 1204224 ≤ 1605632; omega⟩ (Nat.le_of_ble_eq_true rfl) dX0_startPair_54 [.ref cx] rfl (fun v8 hv8 => ?_)
        obtain ⟨st8, nn8, e8, f8, Z18, T18, us8, hF8, hZ8, hH8, rfl⟩ := hv8
        have hG8 := pG_trans hG7 hH8
        refine w_cs (c7 + e8) (s7 + f8) rfl rfl ?_
        refine w_perm ((cx, .inr (0, [.ref rx, .int (iZ ((us8 : Int))), .ref (P 10), .ref (Q 77), .ref (Q 78), .ref (Q 79), .ref (Q 80), .ref (Q 81), .ref (Q 82), .ref (Q 83)])) :: (rx, .inl (G 5, 10, .inr (.inr (.inr (.inr (fun i => some (P i))))))) :: (ra, .inl (G 0, 9, .inl g)) :: (rb, .inl (G 0, 9, .inl g2)) :: ((fp G Q P PA T18 ++ X) ++ pl st8) : va_W) (xp_perm ((cx, .inr (0, [.ref rx, .int (iZ ((us8 : Int))), .ref (P 10), .ref (Q 77), .ref (Q 78), .ref (Q 79), .ref (Q 80), .ref (Q 81), .ref (Q 82), .ref (Q 83)])) :: (rx, .inl (G 5, 10, .inr (.inr (.inr (.inr (fun i => some (P i))))))) :: [] : va_W) ((ra, .inl (G 0, 9, .inl g)) :: (rb, .inl (G 0, 9, .inl g2)) :: [] : va_W) (fp G Q P PA T18) X (pl st8)).symm ?_
        have hle := pG_le hZ8 hG8
        obtain ⟨k1, k2, k3, k4, k5, k6, k7⟩ := exF_chn hF8 hTall ⟨by omega, by omega⟩ hl0 hl1
        have hr0 : zr Z18 T18 0 = gp g := by rw [k2]; exact zr_tp (by rw [hTb0]; exact gp_zr ha (by omega)) (fun i hi => if_neg (by omega)) hZb0
        have hr1 : zr Z18 T18 1 = gp g2 := by rw [k3]; exact zr_tp (by rw [hTb1]; exact hb) (fun i hi => if_neg (by omega)) hZb1
        exact g_vret hsz hhs C hr hlk ⟨by omega, by omega⟩ (⟨_, _, _, _, Z18, T18, us8, ⟨k1, Or.inl ⟨by omega, hr0, hr1⟩, fun q hq => by rw [k6 q hq, hZb, sP_out _ _ (Or.inr (by show 16 + 9 ≤ q; omega)), hZao q (by omega)], fun j hj => by rw [k7 j hj, hTbo j (by omega), hTao j (by omega)]⟩, hZ8, hG8, rfl⟩) dX0_startPair_57
