section LAWL
variable {p : Program} {l : Launch} {e : Env} {R : Room} {s : State} {m : MethodId} {args : Array Value} {below : List Frame} {meth : Method} {c : Code} {D : va_G} {A : Nat → Prop} {nL cells slots : Nat} {Qp : State → Prop}
variable {cc : ByteArray} {Ts : List Cond} {own : String} {tys : List (ClassId × FieldType)} {ws : va_W} {pc : Nat} {lv : List (Nat × Value)} {rest : List Value}
theorem w_tabIn (C : ZC p s m args c cc nL Ts own D tys) {dflt lo hi : Int} {offs : Array Int} {len : Nat} {x : Int32} {off : Int} (tgt : Nat) (hdg : decode cc pc = .ok (.tableswitch dflt lo hi offs, len)) (h1 : ¬ x.toInt < lo) (h2 : ¬ hi < x.toInt) (ho : offs[(x.toInt - lo).toNat]? = some off) (ht : (pc : Int) + off = (tgt : Int)) (kk : ZW p l e R s m args below meth c D A nL cells slots Qp ws tgt lv rest) : ZW p l e R s m args below meth c D A nL cells slots Qp ws pc lv (.int x :: rest) := fun H locs ls hP hD hS hl => lv_tableIn C.1.1 C.1.2.1 hdg h1 h2 ho ht (kk H locs ls hP hD hS hl)
theorem w_tabOut (C : ZC p s m args c cc nL Ts own D tys) {dflt lo hi : Int} {offs : Array Int} {len : Nat} {x : Int32} (tgt : Nat) (hdg : decode cc pc = .ok (.tableswitch dflt lo hi offs, len)) (h : x.toInt < lo ∨ hi < x.toInt) (ht : (pc : Int) + dflt = (tgt : Int)) (kk : ZW p l e R s m args below meth c D A nL cells slots Qp ws tgt lv rest) : ZW p l e R s m args below meth c D A nL cells slots Qp ws pc lv (.int x :: rest) := fun H locs ls hP hD hS hl => lv_tableOut C.1.1 C.1.2.1 hdg h ht (kk H locs ls hP hD hS hl)
end LAWL
theorem and31_r (x : Int32) : 0 ≤ (x &&& 31).toInt ∧ (x &&& 31).toInt ≤ 31 := by
  have h : (x &&& 31).toBitVec.toNat ≤ 31 := by
    rw [Int32.toBitVec_and, BitVec.toNat_and]
    exact Nat.and_le_right
  have e : (x &&& 31).toInt = ((x &&& 31).toBitVec.toNat : Int) := by
    show BitVec.toInt _ = _
    exact BitVec.toInt_eq_toNat_of_lt (by omega)
  omega
theorem law_end {p : Program} {l : Launch} {e : Env} {s : State} {m : MethodId} {below : List Frame} {meth : Method} {c : Code} {D : va_G} {cells slots b : Nat} {G : Nat → ClassId} {ws : va_W} {lv : List (Nat × Value)} (C : ZC p s m #[Value.ref b] c code 4 lw_tbl RL D (cty G)) (hr : meth.sig.returnType = ret) (hlocks : meth.locks = false) (h1 : cells ≤ 600000) (h2 : slots ≤ 7302250) : ZW p l e room_1 s m #[Value.ref b] below meth c D (fun q : Nat => s.heap.size ≤ q) 4 cells slots (lw_Z below #[Value.ref b] s) ws 685 lv [] := by
  refine w_wide 600000 7302250 h1 h2 ?_
  refine w_iconst C dL_law_685 ?_
  intro H locs ls hP hD hS hl
  exact va_forget (fun q hq => hS.2.2 q hq) (lw_ret C.1.1 C.1.2.1 hr hlocks dL_law_686)
set_option maxHeartbeats 4000000 in
set_option maxRecDepth 100000 in
theorem law_loop {p : Program} {l : Launch} {e : Env} {s : State} {m : MethodId} {below : List Frame} {meth : Method} {c : Code} {D : va_G} {G : Nat → ClassId} {b L ri mq : Nat} {xs : Nat → Int32} (C : ZC p s m #[Value.ref b] c code 4 lw_tbl RL D (cty G)) (hr : meth.sig.returnType = ret) (hlocks : meth.locks = false) (hN : nW s) (hX : va_X b L xs s s.heap) (hbl : b < s.heap.size) (hL : L ≤ 4096) : ∀ (n i : Nat) (g g2 : Nat → Int32) (fd : Int) (gl : Nat → Int32) (gc : Nat → Int64) (ge gr : Nat → Int32) (cells slots : Nat) (Wf : va_W → va_W) (Wm : va_W), L ≤ i + n → i ≤ L → isC G ri g g2 fd gl gc ge gr cells slots Wf → isM G mq g g2 fd gl gc Wm → aI g g2 fd gl gc ge gr → ZW p l e room_1 s m #[Value.ref b] below meth c D (fun q : Nat => s.heap.size ≤ q) 4 cells slots (lw_Z below #[Value.ref b] s) (Wf Wm) 18 [(0, .ref b), (1, .ref ri), (2, .ref mq), (3, .int (iZ (i : Int)))] [] := by
  have hA : ∀ q : Nat, s.heap.size ≤ q → (fun q : Nat => s.heap.size ≤ q) q := fun _ h => h
  have hbA : ¬ (fun q : Nat => s.heap.size ≤ q) b := Nat.not_le.mpr hbl
  intro n
  induction n with
  | zero =>
    intro i g g2 fd gl gc ge gr cells slots Wf Wm hn hi hC hM ha
    have hroom := isC_room hC
    refine w_iload_n C dL_law_18 3 rfl ?_
    refine w_aload_n C dL_law_19 0 rfl ?_
    refine w_slen C hX hbl hbA dL_law_20 ?_
    refine w_bipush C dL_law_21 (by decide) ?_
    refine w_isub C dL_law_23 ?_
    refine w_icmp_gt C 685 dL_law_24 (by decide) ⟨⟨by omega, by omega⟩, by omega, by omega⟩ (fun _ => law_end C hr hlocks (by omega) (by omega)) (fun h => absurd h (by omega))
  | succ n ih =>
    intro i g g2 fd gl gc ge gr cells slots Wf Wm hn hi hC hM ha
    have hroom := isC_room hC
    refine w_iload_n C dL_law_18 3 rfl ?_
    refine w_aload_n C dL_law_19 0 rfl ?_
    refine w_slen C hX hbl hbA dL_law_20 ?_
    refine w_bipush C dL_law_21 (by decide) ?_
    refine w_isub C dL_law_23 ?_
    refine w_icmp_gt C 685 dL_law_24 (by decide) ⟨⟨by omega, by omega⟩, by omega, by omega⟩ (fun _ => law_end C hr hlocks (by omega) (by omega)) (fun h8 => ?_)
    have back : ∀ (g g2 : Nat → Int32) (fd : Int) (gl : Nat → Int32) (gc : Nat → Int64) (ge gr : Nat → Int32) (cells slots : Nat) (Wf : va_W → va_W) (Wm : va_W), isC G ri g g2 fd gl gc ge gr cells slots Wf → isM G mq g g2 fd gl gc Wm → aI g g2 fd gl gc ge gr → ZW p l e room_1 s m #[Value.ref b] below meth c D (fun q : Nat => s.heap.size ≤ q) 4 cells slots (lw_Z below #[Value.ref b] s) (Wf Wm) 679 [(0, .ref b), (1, .ref ri), (2, .ref mq), (3, .int (iZ (i : Int)))] [] := by
      intro g g2 fd gl gc ge gr cells slots Wf Wm hC hM ha
      refine w_iinc C (((i + 8 : Nat) : Int)) (by omega) [(3, .int (iZ (((i + 8 : Nat) : Int)))), (0, .ref b), (1, .ref ri), (2, .ref mq)] dL_law_679 3 rfl (by decide) rfl ?_
      refine w_goto C 18 dL_law_682 (by decide) ?_
      refine w_sub [(0, .ref b), (1, .ref ri), (2, .ref mq), (3, .int (iZ (((i + 8 : Nat) : Int))))] [1, 2, 3, 0] rfl ?_
      exact ih (i + 8) g g2 fd gl gc ge gr cells slots Wf Wm (by omega) (by omega) hC hM ha
    refine w_aload_n C dL_law_27 0 rfl ?_
    refine w_iload_n C dL_law_28 3 rfl ?_
    refine w_sld C hX hbl hbA i ⟨rfl, by omega, hL⟩ dL_law_29 ?_
    refine w_bipush C dL_law_30 (by decide) ?_
    obtain ⟨v, hv⟩ : ∃ v : Int32, iZ (xs i).toInt &&& iZ 31 = v := ⟨_, rfl⟩
    refine w_iand C dL_law_32 hv ?_
    have hv31 : 0 ≤ v.toInt ∧ v.toInt ≤ 31 := by rw [← hv]; exact and31_r _
    rcases (show v.toInt = 0 ∨ v.toInt = 1 ∨ v.toInt = 2 ∨ v.toInt = 3 ∨ v.toInt = 4 ∨ v.toInt = 5 ∨ v.toInt = 6 ∨ v.toInt = 7 ∨ v.toInt = 8 ∨ v.toInt = 9 ∨ v.toInt = 10 ∨ v.toInt = 11 ∨ v.toInt = 12 ∨ v.toInt = 13 ∨ v.toInt = 14 ∨ v.toInt = 15 ∨ v.toInt = 16 ∨ v.toInt = 17 ∨ 18 ≤ v.toInt by omega) with h | h | h | h | h | h | h | h | h | h | h | h | h | h | h | h | h | h | h
    · refine w_tabIn C 120 dL_law_33 (by omega) (by omega) (by rw [h]; rfl) (by decide) ?_
      exact la_set hA C hN hX hbl hbA ⟨by omega, hL⟩ hC hM ha back
    · refine w_tabIn C 163 dL_law_33 (by omega) (by omega) (by rw [h]; rfl) (by decide) ?_
      exact la_get hA C hN hX hbl hbA ⟨by omega, hL⟩ hC hM ha back
    · refine w_tabIn C 196 dL_law_33 (by omega) (by omega) (by rw [h]; rfl) (by decide) ?_
      exact la_degree hA C hN hX hbl hbA ⟨by omega, hL⟩ hC hM ha back
    · refine w_tabIn C 219 dL_law_33 (by omega) (by omega) (by rw [h]; rfl) (by decide) ?_
      exact la_sign hA C hN hX hbl hbA ⟨by omega, hL⟩ hC hM ha back
    · refine w_tabIn C 292 dL_law_33 (by omega) (by omega) (by rw [h]; rfl) (by decide) ?_
      exact la_between hA C hN hX hbl hbA ⟨by omega, hL⟩ hC hM ha back
    · refine w_tabIn C 419 dL_law_33 (by omega) (by omega) (by rw [h]; rfl) (by decide) ?_
      exact la_roots hA C hN hX hbl hbA ⟨by omega, hL⟩ hC hM ha back
    · refine w_tabIn C 442 dL_law_33 (by omega) (by omega) (by rw [h]; rfl) (by decide) ?_
      exact la_isolate hA C hN hX hbl hbA ⟨by omega, hL⟩ hC hM ha back
    · refine w_tabIn C 465 dL_law_33 (by omega) (by omega) (by rw [h]; rfl) (by decide) ?_
      exact la_level hA C hN hX hbl hbA ⟨by omega, hL⟩ hC hM ha back
    · refine w_tabIn C 488 dL_law_33 (by omega) (by omega) (by rw [h]; rfl) (by decide) ?_
      exact la_cell hA C hN hX hbl hbA ⟨by omega, hL⟩ hC hM ha back
    · refine w_tabIn C 512 dL_law_33 (by omega) (by omega) (by rw [h]; rfl) (by decide) ?_
      exact la_exact hA C hN hX hbl hbA ⟨by omega, hL⟩ hC hM ha back
    · refine w_tabIn C 535 dL_law_33 (by omega) (by omega) (by rw [h]; rfl) (by decide) ?_
      exact la_multiplicity hA C hN hX hbl hbA ⟨by omega, hL⟩ hC hM ha back
    · refine w_tabIn C 558 dL_law_33 (by omega) (by omega) (by rw [h]; rfl) (by decide) ?_
      exact la_signAt hA C hN hX hbl hbA ⟨by omega, hL⟩ hC hM ha back
    · refine w_tabIn C 581 dL_law_33 (by omega) (by omega) (by rw [h]; rfl) (by decide) ?_
      exact la_common hA C hN hX hbl hbA ⟨by omega, hL⟩ hC hM ha back
    · refine w_tabIn C 594 dL_law_33 (by omega) (by omega) (by rw [h]; rfl) (by decide) ?_
      exact la_divisor hA C hN hX hbl hbA ⟨by omega, hL⟩ hC hM ha back
    · refine w_tabIn C 607 dL_law_33 (by omega) (by omega) (by rw [h]; rfl) (by decide) ?_
      exact la_derive hA C hN hX hbl hbA ⟨by omega, hL⟩ hC hM ha back
    · refine w_tabIn C 620 dL_law_33 (by omega) (by omega) (by rw [h]; rfl) (by decide) ?_
      exact la_times hA C hN hX hbl hbA ⟨by omega, hL⟩ hC hM ha back
    · refine w_tabIn C 643 dL_law_33 (by omega) (by omega) (by rw [h]; rfl) (by decide) ?_
      exact la_shift hA C hN hX hbl hbA ⟨by omega, hL⟩ hC hM ha back
    · refine w_tabIn C 666 dL_law_33 (by omega) (by omega) (by rw [h]; rfl) (by decide) ?_
      exact la_swap hA C hN hX hbl hbA ⟨by omega, hL⟩ hC hM ha back
    · refine w_tabOut C 679 dL_law_33 (Or.inr (by omega)) (by decide) ?_
      exact back _ _ _ _ _ _ _ _ _ _ _ hC hM ha
theorem mAll_zero : mAll (fun _ => 0) (fun _ => 0) (fun _ => 0) (fun _ => 0) := fun a _ => ⟨0, by omega, rfl, fun k hk => absurd hk (by omega), fun i hi => absurd hi (by omega), rfl, rfl⟩
theorem pmM (M F S : va_W) : (M ++ ((F ++ []) ++ S)).Perm ((F ++ M) ++ S) := by
  rw [List.append_nil, ← List.append_assoc]
  exact List.Perm.append_right S List.perm_append_comm
set_option maxHeartbeats 4000000 in
set_option maxRecDepth 100000 in
/-- THE LAW, from its entry -/
theorem whole_start {p : Program} {e : Env} {s : State} {m : MethodId} {below : List Frame} {meth : Method} {c : Code} (l : Launch) {b L : Nat} {xs : Nat → Int32} (hL : L ≤ 4096) (C0 : lw_At p s m meth c b L xs) : W p l e room_1 s m #[Value.ref b] below meth c s.heap [] 0 0 (lw_Z below #[Value.ref b] s) (entryFrame m ([Value.ref b] : List Value).toArray 4) := by
  obtain ⟨hx, hb, hr, hml, hown, hts, hX, hbl, hlocks, hgv⟩ := C0
  obtain ⟨D, G, hK⟩ := law_K hts
  have C : ZC p s m #[Value.ref b] c code 4 lw_tbl RL D (cty G) := ⟨⟨hx, hb, hml, hown, hts⟩, hK⟩
  have hA : ∀ q : Nat, s.heap.size ≤ q → (fun q : Nat => s.heap.size ≤ q) q := fun _ h => h
  have start : ZW p l e room_1 s m #[Value.ref b] below meth c D (fun q : Nat => s.heap.size ≤ q) 4 0 0 (lw_Z below #[Value.ref b] s) [] 0 [(0, .ref b)] [] := by
    refine w_new (ci := 4) (Cn := RX4) (T := TX4) (K := 14) C hA (fun w h => wL_in (inX4 w h)) tyX4 tyX4_ok (wL_in clL_7) (wL_in isX4) (wL_in iniX4) rfl [.null, .null, .int 0, .null, .null, .null, .null, .null, .int 0, .null, .null, .null, .null, .null] (by decide +kernel) ⟨Nat.le_of_ble_eq_true rfl, Nat.le_of_ble_eq_true rfl⟩ dL_law_0 (fun ri => ?_)
    refine w_dup C dL_law_3 rfl ?_
    refine g_callI (N := nC) (mc := 300) (ms := 1000) [] hA C (law_nC hts) nC_ok (ci_X4 l D G [] ri) (cwI 0 C.1.2.2.2.2 (wL_self cdX4_init) rfl rfl rfl (hts _ (wL_in iniX4)) (hts _ (wL_in kL_9)) (hts _ (wL_in nX4_init)) rfl (by decide +kernel) ⟨Nat.le_of_ble_eq_true rfl, Nat.le_of_ble_eq_true rfl⟩) rfl ⟨Nat.le_of_ble_eq_true rfl, Nat.le_of_ble_eq_true rfl⟩ (rest := [.ref ri]) (Nat.le_of_ble_eq_true rfl) dL_law_4 [.ref ri, .ref ri] rfl (fun v hv => ?_)
    obtain ⟨ra, rb, lv, ce, en, re, cx, rx, px, fx, lo, hi, Q, P, PA, st, hZ, rfl⟩ := hv
    refine w_cs (0 + 1 + 230) (0 + 14 + 889) rfl rfl ?_
    refine w_astore_n C [(1, .ref ri), (0, .ref b)] dL_law_7 rfl (by decide) rfl ?_
    refine w_new (ci := 5) (Cn := RX5) (T := TX5) (K := 10) C hA (fun w h => wL_in (inX5 w h)) tyX5 tyX5_ok (wL_in clL_10) (wL_in isX5) (wL_in iniX5) rfl [.null, .null, .null, .null, .null, .int 0, .int 0, .null, .null, .null] (by decide +kernel) ⟨Nat.le_of_ble_eq_true rfl, Nat.le_of_ble_eq_true rfl⟩ dL_law_8 (fun mq => ?_)
    refine w_dup C dL_law_11 rfl ?_
    refine g_callI (N := nM) (mc := 10) (ms := 94573) [] hA C (law_nM hts) nM_ok (ci_X5 l D G ((ri, .inr (4, [.ref ra, .ref rb, .int (iZ (-1)), .ref lv, .ref ce, .ref en, .ref re, .ref cx, .int (iZ (-1)), .ref px, .ref (P 11), .ref fx, .ref lo, .ref hi])) :: (ra, .inl (G 0, 9, .inl (fun _ => 0))) :: (rb, .inl (G 0, 9, .inl (fun _ => 0))) :: (lv, .inl (G 0, 8, .inl (fun _ => 0))) :: (ce, .inl (G 1, 8, .inr (.inl (fun _ => 0)))) :: (en, .inl (G 0, 8, .inl (fun _ => 0))) :: (re, .inl (G 0, 8, .inl (fun _ => 0))) :: (cx, .inr (0, [.ref rx, .int (iZ ((0 : Nat) : Int)), .ref (P 10), .ref (Q 77), .ref (Q 78), .ref (Q 79), .ref (Q 80), .ref (Q 81), .ref (Q 82), .ref (Q 83)])) :: (rx, .inl (G 5, 10, .inr (.inr (.inr (.inr (fun i => some (P i))))))) :: (px, .inr (1, [.ref (Q 84), .int (iZ 0), .ref (Q 85), .ref (Q 86), .ref (Q 87)])) :: (fx, .inl (G 1, 9, .inr (.inl (fun _ => 0)))) :: (lo, .inl (G 1, 8, .inr (.inl (fun _ => 0)))) :: (hi, .inl (G 1, 8, .inr (.inl (fun _ => 0)))) :: ((fp G Q P PA (fun _ => 0) ++ []) ++ pl st) : va_W) mq) (cwI 0 C.1.2.2.2.2 (wL_self cdX5_init) rfl rfl rfl (hts _ (wL_in iniX5)) (hts _ (wL_in kL_12)) (hts _ (wL_in nX5_init)) rfl (by decide +kernel) ⟨Nat.le_of_ble_eq_true rfl, Nat.le_of_ble_eq_true rfl⟩) rfl ⟨Nat.le_of_ble_eq_true rfl, Nat.le_of_ble_eq_true rfl⟩ (rest := [.ref mq]) (Nat.le_of_ble_eq_true rfl) dL_law_12 [.ref mq, .ref mq] rfl (fun v hv => ?_)
    obtain ⟨li, sz0, sg, dg, gi, le, c9, se, r0, r1, rfl⟩ := hv
    refine w_cs 242 95486 rfl rfl ?_
    refine w_astore_n C [(2, .ref mq), (1, .ref ri), (0, .ref b)] dL_law_15 rfl (by decide) rfl ?_
    refine w_iconst C dL_law_16 ?_
    refine w_istore_n C [(3, .int (iZ 0)), (2, .ref mq), (1, .ref ri), (0, .ref b)] dL_law_17 rfl (by decide) rfl ?_
    refine w_sub [(0, .ref b), (1, .ref ri), (2, .ref mq), (3, .int (iZ 0))] [3, 2, 1, 0] rfl ?_
    refine w_perm ((cx, .inr (0, [.ref rx, .int (iZ ((0 : Nat) : Int)), .ref (P 10), .ref (Q 77), .ref (Q 78), .ref (Q 79), .ref (Q 80), .ref (Q 81), .ref (Q 82), .ref (Q 83)])) :: (rx, .inl (G 5, 10, .inr (.inr (.inr (.inr (fun i => some (P i))))))) :: (px, .inr (1, [.ref (Q 84), .int (iZ 0), .ref (Q 85), .ref (Q 86), .ref (Q 87)])) :: (ra, .inl (G 0, 9, .inl (fun _ => 0))) :: (rb, .inl (G 0, 9, .inl (fun _ => 0))) :: (ri, .inr (4, [.ref ra, .ref rb, .int (iZ (-1)), .ref lv, .ref ce, .ref en, .ref re, .ref cx, .int (iZ (-1)), .ref px, .ref (P 11), .ref fx, .ref lo, .ref hi])) :: (lv, .inl (G 0, 8, .inl (fun _ => 0))) :: (ce, .inl (G 1, 8, .inr (.inl (fun _ => 0)))) :: (en, .inl (G 0, 8, .inl (fun _ => 0))) :: (re, .inl (G 0, 8, .inl (fun _ => 0))) :: (fx, .inl (G 1, 9, .inr (.inl (fun _ => 0)))) :: (lo, .inl (G 1, 8, .inr (.inl (fun _ => 0)))) :: (hi, .inl (G 1, 8, .inr (.inl (fun _ => 0)))) :: ((fp G Q P PA (fun _ => 0) ++ mU (fun k => [mq, li, sz0, sg, dg, gi, le, c9, se, r0, r1].getD k 0) G (fun _ => 0, fun _ => 0, fun _ => 0, fun _ => 0, 0, iZ 0, fun _ => 0, fun _ => 0, fun _ => 0, fun _ => 0, fun _ => 0)) ++ pl st) : va_W) ((List.perm_append_comm_assoc (mU (fun k => [mq, li, sz0, sg, dg, gi, le, c9, se, r0, r1].getD k 0) G (fun _ => 0, fun _ => 0, fun _ => 0, fun _ => 0, 0, iZ 0, fun _ => 0, fun _ => 0, fun _ => 0, fun _ => 0, fun _ => 0)) ([(ri, .inr (4, [.ref ra, .ref rb, .int (iZ (-1)), .ref lv, .ref ce, .ref en, .ref re, .ref cx, .int (iZ (-1)), .ref px, .ref (P 11), .ref fx, .ref lo, .ref hi])), (ra, .inl (G 0, 9, .inl (fun _ => 0))), (rb, .inl (G 0, 9, .inl (fun _ => 0))), (lv, .inl (G 0, 8, .inl (fun _ => 0))), (ce, .inl (G 1, 8, .inr (.inl (fun _ => 0)))), (en, .inl (G 0, 8, .inl (fun _ => 0))), (re, .inl (G 0, 8, .inl (fun _ => 0))), (cx, .inr (0, [.ref rx, .int (iZ ((0 : Nat) : Int)), .ref (P 10), .ref (Q 77), .ref (Q 78), .ref (Q 79), .ref (Q 80), .ref (Q 81), .ref (Q 82), .ref (Q 83)])), (rx, .inl (G 5, 10, .inr (.inr (.inr (.inr (fun i => some (P i))))))), (px, .inr (1, [.ref (Q 84), .int (iZ 0), .ref (Q 85), .ref (Q 86), .ref (Q 87)])), (fx, .inl (G 1, 9, .inr (.inl (fun _ => 0)))), (lo, .inl (G 1, 8, .inr (.inl (fun _ => 0)))), (hi, .inl (G 1, 8, .inr (.inl (fun _ => 0))))] : va_W) ((fp G Q P PA (fun _ => 0) ++ []) ++ pl st)).trans ((List.Perm.append_left ([(ri, .inr (4, [.ref ra, .ref rb, .int (iZ (-1)), .ref lv, .ref ce, .ref en, .ref re, .ref cx, .int (iZ (-1)), .ref px, .ref (P 11), .ref fx, .ref lo, .ref hi])), (ra, .inl (G 0, 9, .inl (fun _ => 0))), (rb, .inl (G 0, 9, .inl (fun _ => 0))), (lv, .inl (G 0, 8, .inl (fun _ => 0))), (ce, .inl (G 1, 8, .inr (.inl (fun _ => 0)))), (en, .inl (G 0, 8, .inl (fun _ => 0))), (re, .inl (G 0, 8, .inl (fun _ => 0))), (cx, .inr (0, [.ref rx, .int (iZ ((0 : Nat) : Int)), .ref (P 10), .ref (Q 77), .ref (Q 78), .ref (Q 79), .ref (Q 80), .ref (Q 81), .ref (Q 82), .ref (Q 83)])), (rx, .inl (G 5, 10, .inr (.inr (.inr (.inr (fun i => some (P i))))))), (px, .inr (1, [.ref (Q 84), .int (iZ 0), .ref (Q 85), .ref (Q 86), .ref (Q 87)])), (fx, .inl (G 1, 9, .inr (.inl (fun _ => 0)))), (lo, .inl (G 1, 8, .inr (.inl (fun _ => 0)))), (hi, .inl (G 1, 8, .inr (.inl (fun _ => 0))))] : va_W) (pmM (mU (fun k => [mq, li, sz0, sg, dg, gi, le, c9, se, r0, r1].getD k 0) G (fun _ => 0, fun _ => 0, fun _ => 0, fun _ => 0, 0, iZ 0, fun _ => 0, fun _ => 0, fun _ => 0, fun _ => 0, fun _ => 0)) (fp G Q P PA (fun _ => 0)) (pl st))).trans (pm [[(ri, .inr (4, [.ref ra, .ref rb, .int (iZ (-1)), .ref lv, .ref ce, .ref en, .ref re, .ref cx, .int (iZ (-1)), .ref px, .ref (P 11), .ref fx, .ref lo, .ref hi]))], [(ra, .inl (G 0, 9, .inl (fun _ => 0)))], [(rb, .inl (G 0, 9, .inl (fun _ => 0)))], [(lv, .inl (G 0, 8, .inl (fun _ => 0)))], [(ce, .inl (G 1, 8, .inr (.inl (fun _ => 0))))], [(en, .inl (G 0, 8, .inl (fun _ => 0)))], [(re, .inl (G 0, 8, .inl (fun _ => 0)))], [(cx, .inr (0, [.ref rx, .int (iZ ((0 : Nat) : Int)), .ref (P 10), .ref (Q 77), .ref (Q 78), .ref (Q 79), .ref (Q 80), .ref (Q 81), .ref (Q 82), .ref (Q 83)]))], [(rx, .inl (G 5, 10, .inr (.inr (.inr (.inr (fun i => some (P i)))))))], [(px, .inr (1, [.ref (Q 84), .int (iZ 0), .ref (Q 85), .ref (Q 86), .ref (Q 87)]))], [(fx, .inl (G 1, 9, .inr (.inl (fun _ => 0))))], [(lo, .inl (G 1, 8, .inr (.inl (fun _ => 0))))], [(hi, .inl (G 1, 8, .inr (.inl (fun _ => 0))))]] ((fp G Q P PA (fun _ => 0) ++ mU (fun k => [mq, li, sz0, sg, dg, gi, le, c9, se, r0, r1].getD k 0) G (fun _ => 0, fun _ => 0, fun _ => 0, fun _ => 0, 0, iZ 0, fun _ => 0, fun _ => 0, fun _ => 0, fun _ => 0, fun _ => 0)) ++ pl st) [7, 8, 9, 1, 2, 0, 3, 4, 5, 6, 10, 11, 12] 13 rfl (by decide)))) ?_
    refine law_loop C hr hlocks (law_nW hts) hX hbl hL L 0 (fun _ => 0) (fun _ => 0) (-1) (fun _ => 0) (fun _ => 0) (fun _ => 0) (fun _ => 0) 242 95486 (cW G ri ra rb lv ce en re cx rx px fx lo hi 0 Q P PA (fun _ => 0) st (iZ 0) (fun _ => 0) (fun _ => 0) (-1) (-1) (fun _ => 0) (fun _ => 0) (fun _ => 0) (fun _ => 0) (fun _ => 0) (fun _ => 0) (fun _ => 0)) (mU (fun k => [mq, li, sz0, sg, dg, gi, le, c9, se, r0, r1].getD k 0) G (fun _ => 0, fun _ => 0, fun _ => 0, fun _ => 0, 0, iZ 0, fun _ => 0, fun _ => 0, fun _ => 0, fun _ => 0, fun _ => 0)) (by omega) (by omega) ?_ ?_ ?_
    · exact ⟨ra, rb, lv, ce, en, re, cx, rx, px, fx, lo, hi, 0, Q, P, PA, fun _ => 0, st, fun _ => 4, fun _ => 0, iZ 0, -1, fun _ => 0, fun _ => 0, fun _ => 0, hZ, fun j _ => Nat.zero_le _, hI_none _ _ _ _ _, ⟨by omega, by omega⟩, rfl⟩
    · exact ⟨(fun k => [mq, li, sz0, sg, dg, gi, le, c9, se, r0, r1].getD k 0), fun _ => 0, fun _ => 0, fun _ => 0, fun _ => 0, fun _ => 0, 0, iZ 0, fun _ => 0, fun _ => 0, fun _ => 0, rfl, mAll_zero, rfl, Or.inl ⟨rfl, rfl, rfl⟩⟩
    · exact ⟨fun i _ => (show ((0 : Int32).toInt.natAbs : Int) ≤ 1000000000 by decide), fun i _ => (show ((0 : Int32).toInt.natAbs : Int) ≤ 1000000000 by decide), Or.inl rfl⟩
  have hl := lv_entry ([.ref b]) (n := 4) (Nat.le_of_ble_eq_true rfl)
  rw [lg_entry_eq]
  generalize (lg_sl ([.ref b]) ++ List.replicate (4 - (lg_sl ([.ref b])).length) Slot.unset).toArray = ls at hl ⊢
  exact start s.heap [] ls (fun k q h => by simp at h) ⟨fun i j p q h => by simp at h, fun k q h => by simp at h⟩ va_S.rf hl
