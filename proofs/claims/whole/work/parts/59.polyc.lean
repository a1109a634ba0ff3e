theorem lb_le {z : Int} {N N' : Nat} (h : lb z N) (hN : N ≤ N') : lb z N' := by
  have h1 := pow30_le hN
  unfold lb at *
  omega
theorem lb_nat {k : Nat} (h : k < 1073741824) : lb (k : Int) 1 := by
  show ((k : Int).natAbs : Int) < 1073741824
  omega
theorem qu_qu {α : Type} (Z : Nat → α) (w : Nat) (a b : α) : qu (qu Z w a) w b = qu Z w b := by
  funext i
  by_cases q : i = w
  · rw [q, qu_same, qu_same]
  · rw [qu_other _ _ q, qu_other _ _ q, qu_other _ _ q]
set_option maxHeartbeats 4000000 in
set_option maxRecDepth 100000 in
/-- copy -/
theorem cp_copy (l : Launch) (D : va_G) (G : Nat → ClassId) (X : va_W) (Q : Nat → Nat) (st : Nat → va_W) (nn : Nat → Nat) (Z : Nat → Int) (pa pp n bs : Nat) (t0 : Int32) (pa2 pp2 n2 bs2 N2 : Nat) (hZ : pAll G Q st nn Z) (hn : 1 ≤ n ∧ n ≤ 16) (hb : bs + n ≤ 97) (hb2 : bs2 + n2 ≤ 97 ∧ n2 ≤ 16) (hdj : bs + n ≤ bs2 ∨ bs2 + n2 ≤ bs) (hN2 : N2 ≤ n2 ∧ N2 ≤ n) (hlb : ∀ i : Nat, i < N2 → lb (Z (bs2 + i)) 1024) (sz hs : Nat) : Met l yX2_copy (wC yX2_copy cX2_copy 3 none) ({ frames := 3, cells := 2156, slots := 802816, locals := 83 }) (va_Pc [.ref pa, .ref pa2] (cPre nW D G ((pa, .inr (2, [.ref pp, .int (t0)])) :: (pp, .inl (G 4, n, .inr (.inr (.inr (.inr (fun i => some (Q (bs + i)))))))) :: (pa2, .inr (2, [.ref pp2, .int (iZ ((N2 : Int) - 1))])) :: (pp2, .inl (G 4, n2, .inr (.inr (.inr (.inr (fun i => some (Q (bs2 + i)))))))) :: (X ++ pl st) : va_W) sz hs)) (va_Qv (fun (u : cS) => ∃ (st1 : Nat → va_W) (nn1 : Nat → Nat) (c1 s1 : Nat) (N : Nat), tpN (fun j => if j < N2 then Z (bs2 + j) else 0) n N ∧ pAll G Q st1 nn1 (sP Z bs n (fun j => if j < N2 then Z (bs2 + j) else 0)) ∧ pG (pC nn) (pS nn) nn1 c1 s1 ∧ u = (((pa, .inr (2, [.ref pp, .int (iZ ((N : Int) - 1))])) :: (pp, .inl (G 4, n, .inr (.inr (.inr (.inr (fun i => some (Q (bs + i)))))))) :: (pa2, .inr (2, [.ref pp2, .int (iZ ((N2 : Int) - 1))])) :: (pp2, .inl (G 4, n2, .inr (.inr (.inr (.inr (fun i => some (Q (bs2 + i)))))))) :: (X ++ pl st1) : va_W), c1, s1)) (cAt D G (va_A ((pa, .inr (2, [.ref pp, .int (t0)])) :: (pp, .inl (G 4, n, .inr (.inr (.inr (.inr (fun i => some (Q (bs + i)))))))) :: (pa2, .inr (2, [.ref pp2, .int (iZ ((N2 : Int) - 1))])) :: (pp2, .inl (G 4, n2, .inr (.inr (.inr (.inr (fun i => some (Q (bs2 + i)))))))) :: (X ++ pl st) : va_W) sz) sz hs) (va_A ((pa, .inr (2, [.ref pp, .int (t0)])) :: (pp, .inl (G 4, n, .inr (.inr (.inr (.inr (fun i => some (Q (bs + i)))))))) :: (pa2, .inr (2, [.ref pp2, .int (iZ ((N2 : Int) - 1))])) :: (pp2, .inl (G 4, n2, .inr (.inr (.inr (.inr (fun i => some (Q (bs2 + i)))))))) :: (X ++ pl st) : va_W) sz)) 2156 802816 (va_A ((pa, .inr (2, [.ref pp, .int (t0)])) :: (pp, .inl (G 4, n, .inr (.inr (.inr (.inr (fun i => some (Q (bs + i)))))))) :: (pa2, .inr (2, [.ref pp2, .int (iZ ((N2 : Int) - 1))])) :: (pp2, .inl (G 4, n2, .inr (.inr (.inr (.inr (fun i => some (Q (bs2 + i)))))))) :: (X ++ pl st) : va_W) sz) := by
  refine g_met (cc := cX2_copy) (maxL := 3) (ret := none) (own := RX2) (by decide) rfl rfl (Nat.le_of_ble_eq_true rfl) ?_
  intro p e s m below meth c hsz hhs hNs hA C hr hlk
  refine w_sub [(0, .ref pa), (1, .ref pa2)] [0, 1] rfl ?_
  have hG : pG (pC nn) (pS nn) nn 0 0 := ⟨Nat.le_of_eq (Nat.zero_add _), Nat.le_of_eq (Nat.zero_add _)⟩
  have lp : ∀ (d : Nat) (i : Nat) (sti : Nat → va_W) (nni : Nat → Nat) (ci : Nat) (si : Nat), N2 < i + d → i ≤ N2 → pAll G Q sti nni (sP Z bs n (fun j => if j < i then Z (bs2 + j) else 0)) → pG (pC nn) (pS nn) nni ci si → ZW p l e ({ frames := 3, cells := 2156, slots := 802816, locals := 83 }) s m ([.ref pa, .ref pa2] : List Value).toArray below meth c D (va_A ((pa, .inr (2, [.ref pp, .int (t0)])) :: (pp, .inl (G 4, n, .inr (.inr (.inr (.inr (fun i => some (Q (bs + i)))))))) :: (pa2, .inr (2, [.ref pp2, .int (iZ ((N2 : Int) - 1))])) :: (pp2, .inl (G 4, n2, .inr (.inr (.inr (.inr (fun i => some (Q (bs2 + i)))))))) :: (X ++ pl st) : va_W) sz) 3 ci si (MQ below (va_Qv (fun (u : cS) => ∃ (st1 : Nat → va_W) (nn1 : Nat → Nat) (c1 s1 : Nat) (N : Nat), tpN (fun j => if j < N2 then Z (bs2 + j) else 0) n N ∧ pAll G Q st1 nn1 (sP Z bs n (fun j => if j < N2 then Z (bs2 + j) else 0)) ∧ pG (pC nn) (pS nn) nn1 c1 s1 ∧ u = (((pa, .inr (2, [.ref pp, .int (iZ ((N : Int) - 1))])) :: (pp, .inl (G 4, n, .inr (.inr (.inr (.inr (fun i => some (Q (bs + i)))))))) :: (pa2, .inr (2, [.ref pp2, .int (iZ ((N2 : Int) - 1))])) :: (pp2, .inl (G 4, n2, .inr (.inr (.inr (.inr (fun i => some (Q (bs2 + i)))))))) :: (X ++ pl st1) : va_W), c1, s1)) (cAt D G (va_A ((pa, .inr (2, [.ref pp, .int (t0)])) :: (pp, .inl (G 4, n, .inr (.inr (.inr (.inr (fun i => some (Q (bs + i)))))))) :: (pa2, .inr (2, [.ref pp2, .int (iZ ((N2 : Int) - 1))])) :: (pp2, .inl (G 4, n2, .inr (.inr (.inr (.inr (fun i => some (Q (bs2 + i)))))))) :: (X ++ pl st) : va_W) sz) sz hs) (va_A ((pa, .inr (2, [.ref pp, .int (t0)])) :: (pp, .inl (G 4, n, .inr (.inr (.inr (.inr (fun i => some (Q (bs + i)))))))) :: (pa2, .inr (2, [.ref pp2, .int (iZ ((N2 : Int) - 1))])) :: (pp2, .inl (G 4, n2, .inr (.inr (.inr (.inr (fun i => some (Q (bs2 + i)))))))) :: (X ++ pl st) : va_W) sz)) ([.ref pa, .ref pa2] : List Value).toArray s 2156 802816 (va_A ((pa, .inr (2, [.ref pp, .int (t0)])) :: (pp, .inl (G 4, n, .inr (.inr (.inr (.inr (fun i => some (Q (bs + i)))))))) :: (pa2, .inr (2, [.ref pp2, .int (iZ ((N2 : Int) - 1))])) :: (pp2, .inl (G 4, n2, .inr (.inr (.inr (.inr (fun i => some (Q (bs2 + i)))))))) :: (X ++ pl st) : va_W) sz)) ((pa, .inr (2, [.ref pp, .int (iZ (-1))])) :: (pp, .inl (G 4, n, .inr (.inr (.inr (.inr (fun i => some (Q (bs + i)))))))) :: (pa2, .inr (2, [.ref pp2, .int (iZ ((N2 : Int) - 1))])) :: (pp2, .inl (G 4, n2, .inr (.inr (.inr (.inr (fun i => some (Q (bs2 + i)))))))) :: (X ++ pl sti) : va_W) 6 [(2, .int (iZ ((i : Int)))), (0, .ref pa), (1, .ref pa2)] [] := by
    intro d
    induction d with
    | zero =>
      intro i sti nni ci si hd hi hZi hGi
      exact absurd hd (by omega)
    | succ d ih =>
      intro i sti nni ci si hd hi hZi hGi
      refine w_iload_n C dX2_copy_6 0 rfl ?_
      refine w_aload_n C dX2_copy_7 2 rfl ?_
      refine w_get (ci := 2) (ref := "RootIsolator$Poly") (T := TX2) (Cn := RX2) (N := 2) C (fun w h => wC_in (inX2 w h)) 2 rfl rfl 1 (by decide) (wC_in fX2_7) rfl rfl dX2_copy_8 ?_
      refine w_icmp_gt C 44 dX2_copy_11 (by decide) ⟨⟨by omega, by omega⟩, by omega, by omega⟩ (fun c11 => ?_) (fun c11 => ?_)
      · rw [show (sP Z bs n (fun j => if j < i then Z (bs2 + j) else 0)) = sP Z bs n (fun j => if j < N2 then Z (bs2 + j) else 0) from sP_congr _ _ _ (fun j hj => if_lt_same (by omega))] at hZi
        refine w_aload_n C dX2_copy_44 1 rfl ?_
        have hle1 := pG_le hZi hGi
        refine g_callv (N := nW) [] hA C hNs nW_ok (cp_findTop l D G ((pa2, .inr (2, [.ref pp2, .int (iZ ((N2 : Int) - 1))])) :: (pp2, .inl (G 4, n2, .inr (.inr (.inr (.inr (fun i => some (Q (bs2 + i)))))))) :: X : va_W) Q sti nni (sP Z bs n (fun j => if j < N2 then Z (bs2 + j) else 0)) pa pp n bs (iZ (-1)) hZi hn hb) (cwV 0 C.1.2.2.2.2 (wC_V kX2_27 nX2_findTop slX2_findTop iniX2 cdX2_findTop) rfl rfl rfl (by decide +kernel) ⟨Nat.le_of_ble_eq_true rfl, Nat.le_of_ble_eq_true rfl⟩) (q0 := 0) rfl rfl rfl rfl ⟨by show ci + 0 ≤ 2156; omega, by show si + 0 ≤ 802816; omega⟩ (Nat.le_of_ble_eq_true rfl) dX2_copy_45 [.ref pa] rfl (fun v1 hv1 => ?_)
        obtain ⟨st1, nn1, e1, f1, N1, htp1, hZ1, hH1, rfl⟩ := hv1
        have hG1 := pG_trans hGi hH1
        refine w_cs (ci + e1) (si + f1) rfl rfl ?_
        have hle := pG_le hZ1 hG1
        exact g_vret hsz hhs C hr hlk ⟨by omega, by omega⟩ (⟨_, _, _, _, N1, (tpN_ext htp1 (fun j hj => sP_in _ _ hj)), hZ1, hG1, rfl⟩) dX2_copy_48
      · refine w_iload_n C dX2_copy_14 0 rfl ?_
        refine w_aload_n C dX2_copy_15 1 rfl ?_
        refine w_get (ci := 2) (ref := "RootIsolator$Poly") (T := TX2) (Cn := RX2) (N := 2) C (fun w h => wC_in (inX2 w h)) 0 rfl rfl 0 (by decide) (wC_in fX2_15) rfl rfl dX2_copy_16 ?_
        refine w_alen C 1 4 rfl rfl dX2_copy_19 ?_
        refine w_icmp_ge C 44 dX2_copy_20 (by decide) ⟨⟨by omega, by omega⟩, by omega, by omega⟩ (fun c20 => ?_) (fun c20 => ?_)
        · exact absurd c20 (by omega)
        · refine w_aload_n C dX2_copy_23 1 rfl ?_
          refine w_get (ci := 2) (ref := "RootIsolator$Poly") (T := TX2) (Cn := RX2) (N := 2) C (fun w h => wC_in (inX2 w h)) 0 rfl rfl 0 (by decide) (wC_in fX2_15) rfl rfl dX2_copy_24 ?_
          refine w_iload_n C dX2_copy_27 0 rfl ?_
          refine w_aald (n := n) (f := (fun i => some (Q (bs + i)))) C 1 4 rfl rfl rfl (i) ⟨by omega, by omega, by omega⟩ (rfl) dX2_copy_28 ?_
          refine w_aload_n C dX2_copy_29 2 rfl ?_
          refine w_get (ci := 2) (ref := "RootIsolator$Poly") (T := TX2) (Cn := RX2) (N := 2) C (fun w h => wC_in (inX2 w h)) 2 rfl rfl 0 (by decide) (wC_in fX2_15) rfl rfl dX2_copy_30 ?_
          refine w_iload_n C dX2_copy_33 0 rfl ?_
          have hvo : sP Z bs n (fun j => if j < i then Z (bs2 + j) else 0) (bs2 + i) = Z (bs2 + i) := sP_out _ _ (by omega)
          refine w_aald (n := n2) (f := (fun i => some (Q (bs2 + i)))) C 3 4 rfl rfl rfl (i) ⟨by omega, by omega, by omega⟩ (rfl) dX2_copy_34 ?_
          refine p_copy hA C ((pa, .inr (2, [.ref pp, .int (iZ (-1))])) :: (pp, .inl (G 4, n, .inr (.inr (.inr (.inr (fun i => some (Q (bs + i)))))))) :: (pa2, .inr (2, [.ref pp2, .int (iZ ((N2 : Int) - 1))])) :: (pp2, .inl (G 4, n2, .inr (.inr (.inr (.inr (fun i => some (Q (bs2 + i)))))))) :: X : va_W) hZi hGi (bs + i) (bs2 + i) (by omega) (by omega) (by omega) (by rw [hvo]; exact hlb i (by omega)) (cwV 1 C.1.2.2.2.2 (wC_V kX2_30 nX3_copy slX3_copy iniX3 cdX3_copy) rfl rfl rfl (by decide +kernel) ⟨Nat.le_of_ble_eq_true rfl, Nat.le_of_ble_eq_true rfl⟩) ⟨Nat.le_of_ble_eq_true rfl, Nat.le_of_ble_eq_true rfl⟩ (Nat.le_of_ble_eq_true rfl) dX2_copy_35 (fun st2 nn2 c2 s2 hZ2 hG2 => ?_)
          rw [show (qu (sP Z bs n (fun j => if j < i then Z (bs2 + j) else 0)) (bs + i) ((sP Z bs n (fun j => if j < i then Z (bs2 + j) else 0)) (bs2 + i))) = (sP Z bs n (fun j => if j < i + 1 then Z (bs2 + j) else 0)) from by rw [hvo]; exact sP_put Z (by omega) (by rw [if_pos (by omega)]) (fun j h1 h2 => if_lt_same (by omega))] at hZ2
          refine w_iinc C (((i + 1 : Nat) : Int)) (by omega) [(2, .int (iZ (((i + 1 : Nat) : Int)))), (0, .ref pa), (1, .ref pa2)] dX2_copy_38 0 rfl (by decide) rfl ?_
          refine w_goto C 6 dX2_copy_41 (by decide) ?_
          exact ih (i + 1) _ _ _ _ (by omega) (by omega) hZ2 hG2
  refine w_aload_n C dX2_copy_0 0 rfl ?_
  have hle3 := pG_le hZ hG
  refine g_callv (N := nW) [] hA C hNs nW_ok (cp_clear l D G ((pa2, .inr (2, [.ref pp2, .int (iZ ((N2 : Int) - 1))])) :: (pp2, .inl (G 4, n2, .inr (.inr (.inr (.inr (fun i => some (Q (bs2 + i)))))))) :: X : va_W) Q st nn Z pa pp n bs t0 hZ hn hb) (cwV 0 C.1.2.2.2.2 (wC_V kX2_20 nX2_clear slX2_clear iniX2 cdX2_clear) rfl rfl rfl (by decide +kernel) ⟨Nat.le_of_ble_eq_true rfl, Nat.le_of_ble_eq_true rfl⟩) (q0 := 0) rfl rfl rfl rfl ⟨by show 0 + 1078 ≤ 2156; omega, by show 0 + 401408 ≤ 802816; omega⟩ (Nat.le_of_ble_eq_true rfl) dX2_copy_1 [.ref pa] rfl (fun v3 hv3 => ?_)
  obtain ⟨st3, nn3, e3, f3, hZ3, hH3, rfl⟩ := hv3
  have hG3 := pG_trans hG hH3
  refine w_cs (0 + e3) (0 + f3) rfl rfl ?_
  refine w_iconst C dX2_copy_4 ?_
  refine w_istore_n C [(2, .int (iZ (0))), (0, .ref pa), (1, .ref pa2)] dX2_copy_5 rfl (by decide) rfl ?_
  exact lp (N2 + 1) 0 st3 nn3 (0 + e3) (0 + f3) (by omega) (by omega) (by rw [sP_congr (c := fun j => if j < 0 then Z (bs2 + j) else 0) (c' := fun _ => 0) _ _ _ (fun j hj => if_neg (by omega))]; exact hZ3) hG3
set_option maxHeartbeats 4000000 in
set_option maxRecDepth 100000 in
/-- loadDerivative -/
theorem cp_loadDerivative (l : Launch) (D : va_G) (G : Nat → ClassId) (X : va_W) (Q : Nat → Nat) (st : Nat → va_W) (nn : Nat → Nat) (Z : Nat → Int) (pa pp n bs : Nat) (t0 : Int32) (pa2 pp2 n2 bs2 N2 : Nat) (fi : Nat) (hZ : pAll G Q st nn Z) (hn : 1 ≤ n ∧ n ≤ 16) (hb : bs + n ≤ 97) (hb2 : bs2 + n2 ≤ 97 ∧ n2 ≤ 16) (hdj : bs + n ≤ bs2 ∨ bs2 + n2 ≤ bs) (hfi : fi < 97 ∧ (fi < bs ∨ bs + n ≤ fi) ∧ (fi < bs2 ∨ bs2 + n2 ≤ fi)) (hN2 : N2 ≤ n2 ∧ N2 ≤ n + 1) (hlb : ∀ i : Nat, i < N2 → lb (Z (bs2 + i)) 1000) (sz hs : Nat) : Met l yX2_loadDerivative (wC yX2_loadDerivative cX2_loadDerivative 4 none) ({ frames := 3, cells := 2156, slots := 802816, locals := 92 }) (va_Pc [.ref pa, .ref pa2, .ref (Q fi)] (cPre nW D G ((pa, .inr (2, [.ref pp, .int (t0)])) :: (pp, .inl (G 4, n, .inr (.inr (.inr (.inr (fun i => some (Q (bs + i)))))))) :: (pa2, .inr (2, [.ref pp2, .int (iZ ((N2 : Int) - 1))])) :: (pp2, .inl (G 4, n2, .inr (.inr (.inr (.inr (fun i => some (Q (bs2 + i)))))))) :: (X ++ pl st) : va_W) sz hs)) (va_Qv (fun (u : cS) => ∃ (st1 : Nat → va_W) (nn1 : Nat → Nat) (c1 s1 : Nat) (N : Nat), tpN (fun j => if j + 1 < N2 then Z (bs2 + (j + 1)) * ((j + 1 : Nat) : Int) else 0) n N ∧ pAll G Q st1 nn1 (sP (qu Z fi (if N2 ≤ 1 then Z fi else ((N2 - 1 : Nat) : Int))) bs n (fun j => if j + 1 < N2 then Z (bs2 + (j + 1)) * ((j + 1 : Nat) : Int) else 0)) ∧ pG (pC nn) (pS nn) nn1 c1 s1 ∧ u = (((pa, .inr (2, [.ref pp, .int (iZ ((N : Int) - 1))])) :: (pp, .inl (G 4, n, .inr (.inr (.inr (.inr (fun i => some (Q (bs + i)))))))) :: (pa2, .inr (2, [.ref pp2, .int (iZ ((N2 : Int) - 1))])) :: (pp2, .inl (G 4, n2, .inr (.inr (.inr (.inr (fun i => some (Q (bs2 + i)))))))) :: (X ++ pl st1) : va_W), c1, s1)) (cAt D G (va_A ((pa, .inr (2, [.ref pp, .int (t0)])) :: (pp, .inl (G 4, n, .inr (.inr (.inr (.inr (fun i => some (Q (bs + i)))))))) :: (pa2, .inr (2, [.ref pp2, .int (iZ ((N2 : Int) - 1))])) :: (pp2, .inl (G 4, n2, .inr (.inr (.inr (.inr (fun i => some (Q (bs2 + i)))))))) :: (X ++ pl st) : va_W) sz) sz hs) (va_A ((pa, .inr (2, [.ref pp, .int (t0)])) :: (pp, .inl (G 4, n, .inr (.inr (.inr (.inr (fun i => some (Q (bs + i)))))))) :: (pa2, .inr (2, [.ref pp2, .int (iZ ((N2 : Int) - 1))])) :: (pp2, .inl (G 4, n2, .inr (.inr (.inr (.inr (fun i => some (Q (bs2 + i)))))))) :: (X ++ pl st) : va_W) sz)) 2156 802816 (va_A ((pa, .inr (2, [.ref pp, .int (t0)])) :: (pp, .inl (G 4, n, .inr (.inr (.inr (.inr (fun i => some (Q (bs + i)))))))) :: (pa2, .inr (2, [.ref pp2, .int (iZ ((N2 : Int) - 1))])) :: (pp2, .inl (G 4, n2, .inr (.inr (.inr (.inr (fun i => some (Q (bs2 + i)))))))) :: (X ++ pl st) : va_W) sz) := by
  refine g_met (cc := cX2_loadDerivative) (maxL := 4) (ret := none) (own := RX2) (by decide) rfl rfl (Nat.le_of_ble_eq_true rfl) ?_
  intro p e s m below meth c hsz hhs hNs hA C hr hlk
  refine w_sub [(0, .ref pa), (1, .ref pa2), (2, .ref (Q fi))] [0, 1, 2] rfl ?_
  have hG : pG (pC nn) (pS nn) nn 0 0 := ⟨Nat.le_of_eq (Nat.zero_add _), Nat.le_of_eq (Nat.zero_add _)⟩
  have lp : ∀ (d : Nat) (k : Nat) (sti : Nat → va_W) (nni : Nat → Nat) (ci : Nat) (si : Nat), N2 + 1 < k + d → 1 ≤ k ∧ (k ≤ N2 ∨ k = 1) → pAll G Q sti nni (sP (qu Z fi (if k ≤ 1 then Z fi else ((k - 1 : Nat) : Int))) bs n (fun j => if j + 1 < k then Z (bs2 + (j + 1)) * ((j + 1 : Nat) : Int) else 0)) → pG (pC nn) (pS nn) nni ci si → ZW p l e ({ frames := 3, cells := 2156, slots := 802816, locals := 92 }) s m ([.ref pa, .ref pa2, .ref (Q fi)] : List Value).toArray below meth c D (va_A ((pa, .inr (2, [.ref pp, .int (t0)])) :: (pp, .inl (G 4, n, .inr (.inr (.inr (.inr (fun i => some (Q (bs + i)))))))) :: (pa2, .inr (2, [.ref pp2, .int (iZ ((N2 : Int) - 1))])) :: (pp2, .inl (G 4, n2, .inr (.inr (.inr (.inr (fun i => some (Q (bs2 + i)))))))) :: (X ++ pl st) : va_W) sz) 4 ci si (MQ below (va_Qv (fun (u : cS) => ∃ (st1 : Nat → va_W) (nn1 : Nat → Nat) (c1 s1 : Nat) (N : Nat), tpN (fun j => if j + 1 < N2 then Z (bs2 + (j + 1)) * ((j + 1 : Nat) : Int) else 0) n N ∧ pAll G Q st1 nn1 (sP (qu Z fi (if N2 ≤ 1 then Z fi else ((N2 - 1 : Nat) : Int))) bs n (fun j => if j + 1 < N2 then Z (bs2 + (j + 1)) * ((j + 1 : Nat) : Int) else 0)) ∧ pG (pC nn) (pS nn) nn1 c1 s1 ∧ u = (((pa, .inr (2, [.ref pp, .int (iZ ((N : Int) - 1))])) :: (pp, .inl (G 4, n, .inr (.inr (.inr (.inr (fun i => some (Q (bs + i)))))))) :: (pa2, .inr (2, [.ref pp2, .int (iZ ((N2 : Int) - 1))])) :: (pp2, .inl (G 4, n2, .inr (.inr (.inr (.inr (fun i => some (Q (bs2 + i)))))))) :: (X ++ pl st1) : va_W), c1, s1)) (cAt D G (va_A ((pa, .inr (2, [.ref pp, .int (t0)])) :: (pp, .inl (G 4, n, .inr (.inr (.inr (.inr (fun i => some (Q (bs + i)))))))) :: (pa2, .inr (2, [.ref pp2, .int (iZ ((N2 : Int) - 1))])) :: (pp2, .inl (G 4, n2, .inr (.inr (.inr (.inr (fun i => some (Q (bs2 + i)))))))) :: (X ++ pl st) : va_W) sz) sz hs) (va_A ((pa, .inr (2, [.ref pp, .int (t0)])) :: (pp, .inl (G 4, n, .inr (.inr (.inr (.inr (fun i => some (Q (bs + i)))))))) :: (pa2, .inr (2, [.ref pp2, .int (iZ ((N2 : Int) - 1))])) :: (pp2, .inl (G 4, n2, .inr (.inr (.inr (.inr (fun i => some (Q (bs2 + i)))))))) :: (X ++ pl st) : va_W) sz)) ([.ref pa, .ref pa2, .ref (Q fi)] : List Value).toArray s 2156 802816 (va_A ((pa, .inr (2, [.ref pp, .int (t0)])) :: (pp, .inl (G 4, n, .inr (.inr (.inr (.inr (fun i => some (Q (bs + i)))))))) :: (pa2, .inr (2, [.ref pp2, .int (iZ ((N2 : Int) - 1))])) :: (pp2, .inl (G 4, n2, .inr (.inr (.inr (.inr (fun i => some (Q (bs2 + i)))))))) :: (X ++ pl st) : va_W) sz)) ((pa, .inr (2, [.ref pp, .int (iZ (-1))])) :: (pp, .inl (G 4, n, .inr (.inr (.inr (.inr (fun i => some (Q (bs + i)))))))) :: (pa2, .inr (2, [.ref pp2, .int (iZ ((N2 : Int) - 1))])) :: (pp2, .inl (G 4, n2, .inr (.inr (.inr (.inr (fun i => some (Q (bs2 + i)))))))) :: (X ++ pl sti) : va_W) 6 [(3, .int (iZ ((k : Int)))), (0, .ref pa), (1, .ref pa2), (2, .ref (Q fi))] [] := by
    intro d
    induction d with
    | zero =>
      intro k sti nni ci si hd hk hZi hGi
      exact absurd hd (by omega)
    | succ d ih =>
      intro k sti nni ci si hd hk hZi hGi
      refine w_iload_n C dX2_loadDerivative_6 0 rfl ?_
      refine w_aload_n C dX2_loadDerivative_7 2 rfl ?_
      refine w_get (ci := 2) (ref := "RootIsolator$Poly") (T := TX2) (Cn := RX2) (N := 2) C (fun w h => wC_in (inX2 w h)) 2 rfl rfl 1 (by decide) (wC_in fX2_7) rfl rfl dX2_loadDerivative_8 ?_
      refine w_icmp_gt C 64 dX2_loadDerivative_11 (by decide) ⟨⟨by omega, by omega⟩, by omega, by omega⟩ (fun c11 => ?_) (fun c11 => ?_)
      · rw [show (sP (qu Z fi (if k ≤ 1 then Z fi else ((k - 1 : Nat) : Int))) bs n (fun j => if j + 1 < k then Z (bs2 + (j + 1)) * ((j + 1 : Nat) : Int) else 0)) = sP (qu Z fi (if N2 ≤ 1 then Z fi else ((N2 - 1 : Nat) : Int))) bs n (fun j => if j + 1 < N2 then Z (bs2 + (j + 1)) * ((j + 1 : Nat) : Int) else 0) from by
          rw [show (if k ≤ 1 then Z fi else ((k - 1 : Nat) : Int)) = (if N2 ≤ 1 then Z fi else ((N2 - 1 : Nat) : Int)) from by
            by_cases q : N2 ≤ 1
            · rw [if_pos q, if_pos (by omega)]
            · rw [if_neg q, if_neg (by omega)]; congr 1; omega]
          exact sP_congr _ _ _ (fun j hj => if_lt_same (by omega))] at hZi
        refine w_aload_n C dX2_loadDerivative_64 1 rfl ?_
        have hle1 := pG_le hZi hGi
        refine g_callv (N := nW) [] hA C hNs nW_ok (cp_findTop l D G ((pa2, .inr (2, [.ref pp2, .int (iZ ((N2 : Int) - 1))])) :: (pp2, .inl (G 4, n2, .inr (.inr (.inr (.inr (fun i => some (Q (bs2 + i)))))))) :: X : va_W) Q sti nni (sP (qu Z fi (if N2 ≤ 1 then Z fi else ((N2 - 1 : Nat) : Int))) bs n (fun j => if j + 1 < N2 then Z (bs2 + (j + 1)) * ((j + 1 : Nat) : Int) else 0)) pa pp n bs (iZ (-1)) hZi hn hb) (cwV 0 C.1.2.2.2.2 (wC_V kX2_27 nX2_findTop slX2_findTop iniX2 cdX2_findTop) rfl rfl rfl (by decide +kernel) ⟨Nat.le_of_ble_eq_true rfl, Nat.le_of_ble_eq_true rfl⟩) (q0 := 0) rfl rfl rfl rfl ⟨by show ci + 0 ≤ 2156; omega, by show si + 0 ≤ 802816; omega⟩ (Nat.le_of_ble_eq_true rfl) dX2_loadDerivative_65 [.ref pa] rfl (fun v1 hv1 => ?_)
        obtain ⟨st1, nn1, e1, f1, N1, htp1, hZ1, hH1, rfl⟩ := hv1
        have hG1 := pG_trans hGi hH1
        refine w_cs (ci + e1) (si + f1) rfl rfl ?_
        have hle := pG_le hZ1 hG1
        exact g_vret hsz hhs C hr hlk ⟨by omega, by omega⟩ (⟨_, _, _, _, N1, (tpN_ext htp1 (fun j hj => sP_in _ _ hj)), hZ1, hG1, rfl⟩) dX2_loadDerivative_68
      · refine w_iload_n C dX2_loadDerivative_14 0 rfl ?_
        refine w_aload_n C dX2_loadDerivative_15 1 rfl ?_
        refine w_get (ci := 2) (ref := "RootIsolator$Poly") (T := TX2) (Cn := RX2) (N := 2) C (fun w h => wC_in (inX2 w h)) 0 rfl rfl 0 (by decide) (wC_in fX2_15) rfl rfl dX2_loadDerivative_16 ?_
        refine w_alen C 1 4 rfl rfl dX2_loadDerivative_19 ?_
        refine w_icmp_gt C 64 dX2_loadDerivative_20 (by decide) ⟨⟨by omega, by omega⟩, by omega, by omega⟩ (fun c20 => ?_) (fun c20 => ?_)
        · exact absurd c20 (by omega)
        · refine w_aload_n C dX2_loadDerivative_23 3 rfl ?_
          refine w_iload_n C dX2_loadDerivative_24 0 rfl ?_
          refine w_i2l C dX2_loadDerivative_25 ⟨by omega, by omega⟩ ?_
          refine p_put hA C ((pa, .inr (2, [.ref pp, .int (iZ (-1))])) :: (pp, .inl (G 4, n, .inr (.inr (.inr (.inr (fun i => some (Q (bs + i)))))))) :: (pa2, .inr (2, [.ref pp2, .int (iZ ((N2 : Int) - 1))])) :: (pp2, .inl (G 4, n2, .inr (.inr (.inr (.inr (fun i => some (Q (bs2 + i)))))))) :: X : va_W) hZi hGi (fi) (by omega) (k : Int) (by omega) (cwV 1 C.1.2.2.2.2 (wC_V kX2_23 nX3_put slX3_put iniX3 cdX3_put) rfl rfl rfl (by decide +kernel) ⟨Nat.le_of_ble_eq_true rfl, Nat.le_of_ble_eq_true rfl⟩) ⟨Nat.le_of_ble_eq_true rfl, Nat.le_of_ble_eq_true rfl⟩ (Nat.le_of_ble_eq_true rfl) dX2_loadDerivative_26 (fun st2 nn2 c2 s2 hZ2 hG2 => ?_)
          rw [show (qu (sP (qu Z fi (if k ≤ 1 then Z fi else ((k - 1 : Nat) : Int))) bs n (fun j => if j + 1 < k then Z (bs2 + (j + 1)) * ((j + 1 : Nat) : Int) else 0)) fi (k : Int)) = (sP (qu Z fi (k : Int)) bs n (fun j => if j + 1 < k then Z (bs2 + (j + 1)) * ((j + 1 : Nat) : Int) else 0)) from sP_qu _ _ _ _ (by omega)] at hZ2
          refine w_aload_n C dX2_loadDerivative_29 1 rfl ?_
          refine w_get (ci := 2) (ref := "RootIsolator$Poly") (T := TX2) (Cn := RX2) (N := 2) C (fun w h => wC_in (inX2 w h)) 0 rfl rfl 0 (by decide) (wC_in fX2_15) rfl rfl dX2_loadDerivative_30 ?_
          refine w_iload_n C dX2_loadDerivative_33 0 rfl ?_
          refine w_iconst C dX2_loadDerivative_34 ?_
          refine w_isub C dX2_loadDerivative_35 ?_
          refine w_aald (n := n) (f := (fun i => some (Q (bs + i)))) C 1 4 rfl rfl rfl (k - 1) ⟨by omega, by omega, by omega⟩ (rfl) dX2_loadDerivative_36 ?_
          refine w_aload_n C dX2_loadDerivative_37 2 rfl ?_
          refine w_get (ci := 2) (ref := "RootIsolator$Poly") (T := TX2) (Cn := RX2) (N := 2) C (fun w h => wC_in (inX2 w h)) 2 rfl rfl 0 (by decide) (wC_in fX2_15) rfl rfl dX2_loadDerivative_38 ?_
          refine w_iload_n C dX2_loadDerivative_41 0 rfl ?_
          have hvo : (sP (qu Z fi (k : Int)) bs n (fun j => if j + 1 < k then Z (bs2 + (j + 1)) * ((j + 1 : Nat) : Int) else 0)) (bs2 + k) = Z (bs2 + k) := by rw [sP_out _ _ (by omega), qu_other _ _ (by omega)]
          refine w_aald (n := n2) (f := (fun i => some (Q (bs2 + i)))) C 3 4 rfl rfl rfl (k) ⟨by omega, by omega, by omega⟩ (rfl) dX2_loadDerivative_42 ?_
          refine p_copy hA C ((pa, .inr (2, [.ref pp, .int (iZ (-1))])) :: (pp, .inl (G 4, n, .inr (.inr (.inr (.inr (fun i => some (Q (bs + i)))))))) :: (pa2, .inr (2, [.ref pp2, .int (iZ ((N2 : Int) - 1))])) :: (pp2, .inl (G 4, n2, .inr (.inr (.inr (.inr (fun i => some (Q (bs2 + i)))))))) :: X : va_W) hZ2 hG2 (bs + (k - 1)) (bs2 + k) (by omega) (by omega) (by omega) (by rw [hvo]; exact lb_le (hlb k (by omega)) (by omega)) (cwV 1 C.1.2.2.2.2 (wC_V kX2_30 nX3_copy slX3_copy iniX3 cdX3_copy) rfl rfl rfl (by decide +kernel) ⟨Nat.le_of_ble_eq_true rfl, Nat.le_of_ble_eq_true rfl⟩) ⟨Nat.le_of_ble_eq_true rfl, Nat.le_of_ble_eq_true rfl⟩ (Nat.le_of_ble_eq_true rfl) dX2_loadDerivative_43 (fun st3 nn3 c3 s3 hZ3 hG3 => ?_)
          rw [show (qu (sP (qu Z fi (k : Int)) bs n (fun j => if j + 1 < k then Z (bs2 + (j + 1)) * ((j + 1 : Nat) : Int) else 0)) (bs + (k - 1)) ((sP (qu Z fi (k : Int)) bs n (fun j => if j + 1 < k then Z (bs2 + (j + 1)) * ((j + 1 : Nat) : Int) else 0)) (bs2 + k))) = (qu (sP (qu Z fi (k : Int)) bs n (fun j => if j + 1 < k then Z (bs2 + (j + 1)) * ((j + 1 : Nat) : Int) else 0)) (bs + (k - 1)) (Z (bs2 + k))) from by rw [hvo]] at hZ3
          refine w_aload_n C dX2_loadDerivative_46 1 rfl ?_
          refine w_get (ci := 2) (ref := "RootIsolator$Poly") (T := TX2) (Cn := RX2) (N := 2) C (fun w h => wC_in (inX2 w h)) 0 rfl rfl 0 (by decide) (wC_in fX2_15) rfl rfl dX2_loadDerivative_47 ?_
          refine w_iload_n C dX2_loadDerivative_50 0 rfl ?_
          refine w_iconst C dX2_loadDerivative_51 ?_
          refine w_isub C dX2_loadDerivative_52 ?_
          have hv1 : (qu (sP (qu Z fi (k : Int)) bs n (fun j => if j + 1 < k then Z (bs2 + (j + 1)) * ((j + 1 : Nat) : Int) else 0)) (bs + (k - 1)) (Z (bs2 + k))) (bs + (k - 1)) = Z (bs2 + k) := qu_same _ _ _
          have hv2 : (qu (sP (qu Z fi (k : Int)) bs n (fun j => if j + 1 < k then Z (bs2 + (j + 1)) * ((j + 1 : Nat) : Int) else 0)) (bs + (k - 1)) (Z (bs2 + k))) fi = (k : Int) := by rw [qu_other _ _ (by omega), sP_out _ _ (by omega), qu_same]
          refine w_aald (n := n) (f := (fun i => some (Q (bs + i)))) C 1 4 rfl rfl rfl (k - 1) ⟨by omega, by omega, by omega⟩ (rfl) dX2_loadDerivative_53 ?_
          refine w_aload_n C dX2_loadDerivative_54 3 rfl ?_
          refine p_multiply hA C ((pa, .inr (2, [.ref pp, .int (iZ (-1))])) :: (pp, .inl (G 4, n, .inr (.inr (.inr (.inr (fun i => some (Q (bs + i)))))))) :: (pa2, .inr (2, [.ref pp2, .int (iZ ((N2 : Int) - 1))])) :: (pp2, .inl (G 4, n2, .inr (.inr (.inr (.inr (fun i => some (Q (bs2 + i)))))))) :: X : va_W) hZ3 hG3 (bs + (k - 1)) (fi) (by omega) (by omega) (by omega) 1000 1 (by omega) ⟨by rw [hv1]; exact hlb k (by omega), by rw [hv2]; exact lb_nat (by omega)⟩ (cwV 1 C.1.2.2.2.2 (wC_V kX2_34 nX3_multiply slX3_multiply iniX3 cdX3_multiply) rfl rfl rfl (by decide +kernel) ⟨Nat.le_of_ble_eq_true rfl, Nat.le_of_ble_eq_true rfl⟩) ⟨Nat.le_of_ble_eq_true rfl, Nat.le_of_ble_eq_true rfl⟩ (Nat.le_of_ble_eq_true rfl) dX2_loadDerivative_55 (fun st4 nn4 c4 s4 hZ4 hG4 => ?_)
          rw [show (qu (qu (sP (qu Z fi (k : Int)) bs n (fun j => if j + 1 < k then Z (bs2 + (j + 1)) * ((j + 1 : Nat) : Int) else 0)) (bs + (k - 1)) (Z (bs2 + k))) (bs + (k - 1)) ((qu (sP (qu Z fi (k : Int)) bs n (fun j => if j + 1 < k then Z (bs2 + (j + 1)) * ((j + 1 : Nat) : Int) else 0)) (bs + (k - 1)) (Z (bs2 + k))) (bs + (k - 1)) * (qu (sP (qu Z fi (k : Int)) bs n (fun j => if j + 1 < k then Z (bs2 + (j + 1)) * ((j + 1 : Nat) : Int) else 0)) (bs + (k - 1)) (Z (bs2 + k))) fi)) = (sP (qu Z fi (if (k + 1) ≤ 1 then Z fi else (((k + 1) - 1 : Nat) : Int))) bs n (fun j => if j + 1 < (k + 1) then Z (bs2 + (j + 1)) * ((j + 1 : Nat) : Int) else 0)) from by
  rw [hv1, hv2, qu_qu]
  rw [show (if k + 1 ≤ 1 then Z fi else ((k + 1 - 1 : Nat) : Int)) = (k : Int) from by rw [if_neg (by omega)]; congr 1]
  exact sP_put _ (by omega) (by rw [if_pos (by omega), show k - 1 + 1 = k by omega]) (fun j h1 h2 => if_lt_same (by omega))] at hZ4
          refine w_iinc C (((k + 1 : Nat) : Int)) (by omega) [(3, .int (iZ (((k + 1 : Nat) : Int)))), (0, .ref pa), (1, .ref pa2), (2, .ref (Q fi))] dX2_loadDerivative_58 0 rfl (by decide) rfl ?_
          refine w_goto C 6 dX2_loadDerivative_61 (by decide) ?_
          exact ih (k + 1) _ _ _ _ (by omega) (by omega) hZ4 hG4
  refine w_aload_n C dX2_loadDerivative_0 0 rfl ?_
  have hle5 := pG_le hZ hG
  refine g_callv (N := nW) [] hA C hNs nW_ok (cp_clear l D G ((pa2, .inr (2, [.ref pp2, .int (iZ ((N2 : Int) - 1))])) :: (pp2, .inl (G 4, n2, .inr (.inr (.inr (.inr (fun i => some (Q (bs2 + i)))))))) :: X : va_W) Q st nn Z pa pp n bs t0 hZ hn hb) (cwV 0 C.1.2.2.2.2 (wC_V kX2_20 nX2_clear slX2_clear iniX2 cdX2_clear) rfl rfl rfl (by decide +kernel) ⟨Nat.le_of_ble_eq_true rfl, Nat.le_of_ble_eq_true rfl⟩) (q0 := 0) rfl rfl rfl rfl ⟨by show 0 + 1078 ≤ 2156; omega, by show 0 + 401408 ≤ 802816; omega⟩ (Nat.le_of_ble_eq_true rfl) dX2_loadDerivative_1 [.ref pa] rfl (fun v5 hv5 => ?_)
  obtain ⟨st5, nn5, e5, f5, hZ5, hH5, rfl⟩ := hv5
  have hG5 := pG_trans hG hH5
  refine w_cs (0 + e5) (0 + f5) rfl rfl ?_
  refine w_iconst C dX2_loadDerivative_4 ?_
  refine w_istore_n C [(3, .int (iZ (1))), (0, .ref pa), (1, .ref pa2), (2, .ref (Q fi))] dX2_loadDerivative_5 rfl (by decide) rfl ?_
  exact lp (N2 + 2) 1 st5 nn5 (0 + e5) (0 + f5) (by omega) (by omega) (by
    rw [show sP (qu Z fi (if 1 ≤ 1 then Z fi else ((1 - 1 : Nat) : Int))) bs n (fun j => if j + 1 < 1 then Z (bs2 + (j + 1)) * ((j + 1 : Nat) : Int) else 0) = sP Z bs n (fun _ => 0) from by
      rw [if_pos (Nat.le_refl 1), qu_id]
      exact sP_congr _ _ _ (fun j hj => if_neg (by omega))]
    exact hZ5) hG5
