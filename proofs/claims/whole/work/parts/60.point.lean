section RRET
variable {p : Program} {l : Launch} {e : Env} {R : Room} {s : State} {m : MethodId} {args : Array Value} {below : List Frame} {meth : Method} {c : Code} {D : va_G} {A : Nat → Prop} {nL cells slots : Nat} {Qp : State → Prop}
variable {cc : ByteArray} {Ts : List Cond} {own : String} {ws : va_W} {pc : Nat} {lv : List (Nat × Value)} {rest : List Value} {G : Nat → ClassId} {N : State → Prop} {sz hs mc ms : Nat}
/-- a known reference is given back -/
theorem g_rret {post : cS → Prop} {ad : Nat} {rt : FieldType} (hsz : s.heap.size = sz) (hhs : hsum s.heap = hs) (C : ZC p s m args c cc nL Ts own D (cty G)) (hr : meth.sig.returnType = some rt) (hrt : (∃ n, rt = .object n) ∨ ∃ t, rt = .array t) (hlocks : meth.locks = false) (hR : cells ≤ mc ∧ slots ≤ ms) (hp : post (ws, cells, slots)) (hdg : decode cc pc = .ok (.areturn, 1)) : ZW p l e R s m args below meth c D A nL cells slots (MQ below (va_Qr post (fun u a t => a = ad ∧ cAt D G A sz hs u t) A) args s mc ms A) ws pc lv [.ref ad] := by
  intro H locs ls hP hD hS hl T hT X
  have h0 := st_hs X
  rw [hT] at h0
  have hw : W p l e R s m args below meth c H locs mc ms (MQ below (va_Qr post (fun u a t => a = ad ∧ cAt D G A sz hs u t) A) args s mc ms A) (F0 m pc ls [.ref ad]) := W.aret (v := .ref ad) C.1.1 C.1.2.1 hr hrt (Or.inr ⟨ad, rfl⟩) (fun t ht hW => ⟨⟨(ws, cells, slots), ad, rfl, hp, rfl, by rw [ht]; exact hP, va_K.moved hW.alike C.2, hD, by rw [ht, ← hsz]; exact h0.1, by rw [ht, ← hhs]; exact h0.2⟩, hS.F ht⟩) hS.2.2 hdg hlocks
  exact hw T hT (st_tight X (by rw [hT]; omega) (by rw [hT]; omega))
theorem g_callr {y : MethodName} {bytes : ByteArray} {maxL n index ad : Nat} {ret : Option FieldType} {wsd : List Cond} {rm : Room} {post : cS → Prop} (As : List Value) {b q0 ci : Nat} {fs : List Value} {r0 : vw_C} {Cn : String} (hA : ∀ q, s.heap.size ≤ q → A q) (C : ZC p s m args c cc nL Ts own D (cty G)) (hN : N s) (hNo : NOK N)
    (hM : ∀ sz hs : Nat, Met l y wsd rm (va_Pc (.ref b :: As) (cPre N D G ws sz hs)) (va_Qr post (fun u a t => a = ad ∧ cAt D G (va_A ws sz) sz hs u t) (va_A ws sz)) mc ms (va_A ws sz)) (cw : CallW R s args own Cn index y bytes maxL ret wsd rm mc ms n) (he : ws[q0]? = some (b, .inr (ci, fs))) (hc : vwCl[ci]? = some r0) (hcn : r0.1 = Cn) (hn : As.length = n) (hR : cells + mc ≤ R.cells ∧ slots + ms ≤ R.slots) (hW : (rest.map fun v => v.category).sum ≤ 8) (hdg : decode cc pc = .ok (.invokevirtual index, 3)) (st : List Value) (hst : st = As.reverse ++ .ref b :: rest)
    (kk : ∀ (v : cS), post v → ZW p l e R s m args below meth c D A nL (cells + v.2.1) (slots + v.2.2) Qp v.1 (pc + 3) lv (.ref ad :: rest)) : ZW p l e R s m args below meth c D A nL cells slots Qp ws pc lv st := by
  intro H locs ls hP hD hS hl T hT X
  have h0 := st_hs X
  rw [hT] at h0
  subst hst
  refine va_callr (va_runV (As := As) (rest := rest) C.1 (hM H.size (hsum H)) cw ⟨cPre_blind hNo, (by rw [← hcn]; exact va_recv C.2 hP hc he), fun U hU hW => ⟨rfl, by rw [hU], by rw [hU], by rw [hU]; exact hP, va_K.moved hW.alike C.2, hD.weaken (fun _ _ _ _ => trivial), hNo _ _ hW hN⟩⟩ rfl hn hl.1 rfl (lv_room hW) hdg hR) hS (fun q _ h => g_sub hA hD hS q h) (g_sub hA hD hS) (fun v ra t H1 locs1 ht hvm hw hB hz1 hk1 hS1 => ?_) T hT X
  obtain ⟨rfl, hP1, hK1, hD1, hg1, hg2⟩ := hB
  rw [ht] at hP1 hg1 hg2
  intro T1 hT1 X1
  exact kk v hw H1 locs1 ls hP1 (hD1.weaken (fun k q _ h => g_sub hA hD hS q.1 h)) hS1 hl T1 hT1 (st_tight X1 (by rw [hT1]; omega) (by rw [hT1]; omega))
end RRET
theorem lZ_div {a b : Int} (ha : 0 ≤ a ∧ a < 9223372036854775808) (hb : 0 < b ∧ b < 9223372036854775808) : lZ a / lZ b = lZ (a / b) := by
  apply Int64.toInt_inj.1
  have h1 : 0 ≤ a / b := Int.ediv_nonneg ha.1 (by omega)
  have h2 : a / b ≤ a := Int.ediv_le_self _ ha.1
  rw [Int64.toInt_div, lZ_toInt (by omega) (by omega), lZ_toInt (by omega) (by omega), lZ_toInt (by omega) (by omega), Int.tdiv_eq_ediv_of_nonneg ha.1]
  exact Int.bmod_eq_of_le (by omega) (by omega)
/-- binomials, as the loop counts them -/
def chq (k : Nat) : Nat → Int
  | 0 => 1
  | i + 1 => chq k i * ((k : Int) - (i : Int)) / ((i : Int) + 1)
theorem chq_r {k i : Nat} (hk : k < 16) (hi : i ≤ k) : 0 ≤ chq k i ∧ chq k i < 10000 := by
  have h : ∀ k : Fin 16, ∀ i : Fin 16, i.val ≤ k.val → 0 ≤ chq k.val i.val ∧ chq k.val i.val < 10000 := by decide +kernel
  exact h ⟨k, hk⟩ ⟨i, by omega⟩ hi
/-- three numbers of the point set -/
def q3 (Z : Nat → Int) (a b c : Int) : Nat → Int := qu (qu (qu Z 86 a) 87 b) 85 c
theorem q3_85 {Z : Nat → Int} {a b c : Int} : q3 Z a b c 85 = c := qu_same _ _ _
theorem q3_86 {Z : Nat → Int} {a b c : Int} : q3 Z a b c 86 = a := rfl
theorem q3_87 {Z : Nat → Int} {a b c : Int} : q3 Z a b c 87 = b := rfl
theorem q3_o {Z : Nat → Int} {a b c : Int} {q : Nat} (h : q < 85 ∨ 87 < q) : q3 Z a b c q = Z q := by
  unfold q3
  rw [qu_other _ _ (by omega), qu_other _ _ (by omega), qu_other _ _ (by omega)]
theorem q3_s85 (Z : Nat → Int) (a b c x : Int) : qu (q3 Z a b c) 85 x = q3 Z a b x := qu_qu _ _ _ _
theorem q3_s86 (Z : Nat → Int) (a b c x : Int) : qu (q3 Z a b c) 86 x = q3 Z x b c := by
  funext q
  by_cases h : q = 86
  · rw [h, qu_same]; rfl
  · rw [qu_other _ _ h]
    unfold q3 qu
    by_cases h1 : q = 85
    · rw [if_pos h1, if_pos h1]
    · rw [if_neg h1, if_neg h1]
      by_cases h2 : q = 87
      · rw [if_pos h2, if_pos h2]
      · rw [if_neg h2, if_neg h2, if_neg h, if_neg h]
theorem q3_s87 (Z : Nat → Int) (a b c x : Int) : qu (q3 Z a b c) 87 x = q3 Z a x c := by
  funext q
  by_cases h : q = 87
  · rw [h, qu_same]; rfl
  · rw [qu_other _ _ h]
    unfold q3 qu
    by_cases h1 : q = 85
    · rw [if_pos h1, if_pos h1]
    · rw [if_neg h1, if_neg h1, if_neg h, if_neg h]
theorem q3_self (Z : Nat → Int) (x : Int) : qu Z 85 x = q3 Z (Z 86) (Z 87) x := by
  unfold q3
  rw [qu_id, qu_id]
/-- the coefficient of order od about nu / 2 ^ ex, times a power of two: j steps of it -/
def tyl (c : Nat → Int) (N od : Nat) (nu : Int) (ex : Nat) : Nat → Int
  | 0 => 0
  | j + 1 => tyl c N od nu ex j * nu + c (N - 1 - j) * (if od = 0 then 1 else chq (N - 1 - j) od) * 2 ^ (ex * j)
theorem lb_mul {x y : Int} {N1 N2 : Nat} (h1 : lb x N1) (h2 : lb y N2) : lb (x * y) (N1 + N2) := by
  unfold lb at *
  rw [Int.natAbs_mul, Int.natCast_mul, Nat.mul_add, Int.pow_add]
  have a1 : (0 : Int) < 2 ^ (30 * N2) := p30_pos N2
  have a2 : (x.natAbs : Int) * (y.natAbs : Int) ≤ (x.natAbs : Int) * 2 ^ (30 * N2) := Int.mul_le_mul_of_nonneg_left (Int.le_of_lt h2) (by omega)
  have a3 : (x.natAbs : Int) * 2 ^ (30 * N2) < 2 ^ (30 * N1) * 2 ^ (30 * N2) := Int.mul_lt_mul_of_pos_right h1 a1
  omega
theorem lb_add {x y : Int} {N : Nat} (h1 : lb x N) (h2 : lb y N) : lb (x + y) (N + 1) := by
  unfold lb at *
  rw [p30]
  have := p30_pos N
  omega
theorem lb_shl {x : Int} {N b : Nat} (h : lb x N) : lb (x * 2 ^ b) (N + b / 30 + 1) := by
  rw [Nat.add_assoc]
  refine lb_mul h ?_
  unfold lb
  have e : ((((2 : Int) ^ b).natAbs : Nat) : Int) = 2 ^ b := by
    have : (0 : Int) < 2 ^ b := Int.pow_pos (by omega)
    omega
  rw [e]
  have h9 : (2 : Nat) ^ b < 2 ^ (30 * (b / 30 + 1)) := Nat.pow_lt_pow_right (by omega) (by omega)
  have e1 : ((2 ^ b : Nat) : Int) = 2 ^ b := by simp
  have e2 : ((2 ^ (30 * (b / 30 + 1)) : Nat) : Int) = 2 ^ (30 * (b / 30 + 1)) := by simp
  rw [← e1, ← e2]
  exact Int.ofNat_lt.2 h9
theorem lb_0 : lb 0 0 := by
  show ((0 : Int).natAbs : Int) < 2 ^ (30 * 0)
  decide
theorem lb_chq {k od : Nat} (hk : k < 16) (ho : od ≤ k) : lb (if od = 0 then 1 else chq k od) 1 := by
  rw [lb_1]
  by_cases h : od = 0
  · rw [if_pos h]; decide
  · rw [if_neg h]
    have := chq_r hk ho
    omega
theorem tyl_term {c : Nat → Int} {N od ex j : Nat} (hN : N ≤ 16) (hex : ex ≤ 30) (hc : ∀ i : Nat, i < N → lb (c i) 400) (hj : j + od < N) : lb (c (N - 1 - j) * (if od = 0 then 1 else chq (N - 1 - j) od) * 2 ^ (ex * j)) 417 := by
  have h1 := hc (N - 1 - j) (by omega)
  have h2 := lb_chq (k := N - 1 - j) (od := od) (by omega) (by omega)
  have h3 : ex * j ≤ 30 * 15 := Nat.mul_le_mul hex (by omega)
  exact lb_le (lb_shl (b := ex * j) (lb_mul h1 h2)) (by omega)
theorem tyl_lb {c : Nat → Int} {N od ex : Nat} {nu : Int} (hN : N ≤ 16) (hex : ex ≤ 30) (hnu : lb nu 3) (hc : ∀ i : Nat, i < N → lb (c i) 400) : ∀ j : Nat, j + od ≤ N → lb (tyl c N od nu ex j) (420 + 4 * j) := by
  intro j
  induction j with
  | zero => intro _; exact lb_le lb_0 (by omega)
  | succ j ih =>
    intro hj
    have h1 := lb_mul (ih (by omega)) hnu
    have h2 := lb_add h1 (lb_le (tyl_term (c := c) (od := od) (ex := ex) (j := j) hN hex hc (by omega)) (show 417 ≤ 420 + 4 * j + 3 by omega))
    exact lb_le (N := 420 + 4 * j + 3 + 1) h2 (by omega)
set_option maxHeartbeats 4000000 in
set_option maxRecDepth 100000 in
/-- choose -/
theorem cw_choose (l : Launch) (D : va_G) (G : Nat → ClassId) (X : va_W) (k od : Nat) (hk : k < 16) (ho : od ≤ k) (sz hs : Nat) : Met l yX1_choose (wC yX1_choose cX1_choose 5 (some .long)) ({ frames := 0, cells := 0, slots := 0, locals := 0 }) (va_Pc [.int (iZ ((k : Int))), .int (iZ ((od : Int)))] (cPre nT D G (X : va_W) sz hs)) (va_Ql (fun (r : Int64) (u : cS) => r = lZ (chq k od) ∧ u = ((X : va_W), 0, 0)) (cAt D G (va_A (X : va_W) sz) sz hs) (va_A (X : va_W) sz)) 0 0 (va_A (X : va_W) sz) := by
  refine g_met (cc := cX1_choose) (maxL := 5) (ret := (some .long)) (own := RX1) (by decide) rfl rfl (Nat.le_of_ble_eq_true rfl) ?_
  intro p e s m below meth c hsz hhs hNs hA C hr hlk
  refine w_sub [(0, .int (iZ ((k : Int)))), (1, .int (iZ ((od : Int))))] [0, 1] rfl ?_
  have lp : ∀ (d : Nat) (i : Nat), od < i + d → i ≤ od → ZW p l e ({ frames := 0, cells := 0, slots := 0, locals := 0 }) s m ([.int (iZ ((k : Int))), .int (iZ ((od : Int)))] : List Value).toArray below meth c D (va_A (X : va_W) sz) 5 0 0 (MQ below (va_Ql (fun (r : Int64) (u : cS) => r = lZ (chq k od) ∧ u = ((X : va_W), 0, 0)) (cAt D G (va_A (X : va_W) sz) sz hs) (va_A (X : va_W) sz)) ([.int (iZ ((k : Int))), .int (iZ ((od : Int)))] : List Value).toArray s 0 0 (va_A (X : va_W) sz)) (X : va_W) 5 [(4, .int (iZ ((i : Int)))), (2, .long (lZ (chq k i))), (0, .int (iZ ((k : Int)))), (1, .int (iZ ((od : Int))))] [] := by
    intro d
    induction d with
    | zero =>
      intro i hd hi
      exact absurd hd (by omega)
    | succ d ih =>
      intro i hd hi
      refine w_iload C dX1_choose_5 0 rfl ?_
      refine w_iload_n C dX1_choose_7 3 rfl ?_
      refine w_icmp_ge C 31 dX1_choose_8 (by decide) ⟨⟨by omega, by omega⟩, by omega, by omega⟩ (fun c8 => ?_) (fun c8 => ?_)
      · obtain rfl : i = od := by omega
        refine w_lload_n C dX1_choose_31 1 rfl ?_
        exact g_lret hsz hhs C hr hlk ⟨by omega, by omega⟩ (⟨rfl, rfl⟩) dX1_choose_32
      · refine w_lload_n C dX1_choose_11 1 rfl ?_
        refine w_iload_n C dX1_choose_12 2 rfl ?_
        refine w_iload C dX1_choose_13 0 rfl ?_
        refine w_isub C dX1_choose_15 ?_
        refine w_i2l C dX1_choose_16 ⟨by omega, by omega⟩ ?_
        refine w_lmul C dX1_choose_17 ?_
        refine w_iload C dX1_choose_18 0 rfl ?_
        refine w_iconst C dX1_choose_20 ?_
        refine w_iadd C dX1_choose_21 ?_
        refine w_i2l C dX1_choose_22 ⟨by omega, by omega⟩ ?_
        refine w_ldiv C dX1_choose_23 (fun h => absurd (congrArg Int64.toInt h) (by rw [lZ_toInt (by omega) (by omega)]; show (i : Int) + 1 ≠ 0; omega)) (v := (lZ (chq k (i + 1)))) (lZ_div (by have h1 := chq_r (i := i) hk (by omega); have h2 := Int.mul_nonneg h1.1 (show (0 : Int) ≤ (k : Int) - (i : Int) by omega); have h3 : chq k i * ((k : Int) - (i : Int)) ≤ 10000 * 16 := Int.mul_le_mul (by omega) (by omega) (by omega) (by omega); omega) (by omega)) ?_
        refine w_lstore_n C [(2, .long (lZ (chq k (i + 1)))), (4, .int (iZ ((i : Int)))), (0, .int (iZ ((k : Int)))), (1, .int (iZ ((od : Int))))] dX1_choose_24 rfl (by decide) rfl ?_
        refine w_iinc C (((i + 1 : Nat) : Int)) (by omega) [(4, .int (iZ (((i + 1 : Nat) : Int)))), (2, .long (lZ (chq k (i + 1)))), (0, .int (iZ ((k : Int)))), (1, .int (iZ ((od : Int))))] dX1_choose_25 1 rfl (by decide) rfl ?_
        refine w_goto C 5 dX1_choose_28 (by decide) ?_
        exact ih (i + 1) (by omega) (by omega)
  refine w_lconst C 1 dX1_choose_0 rfl ?_
  refine w_lstore_n C [(2, .long (lZ (1))), (0, .int (iZ ((k : Int)))), (1, .int (iZ ((od : Int))))] dX1_choose_1 rfl (by decide) rfl ?_
  refine w_iconst C dX1_choose_2 ?_
  refine w_istore C [(4, .int (iZ (0))), (2, .long (lZ (1))), (0, .int (iZ ((k : Int)))), (1, .int (iZ ((od : Int))))] dX1_choose_3 (by decide) rfl ?_
  exact lp (od + 1) 0 (by omega) (by omega)
set_option maxHeartbeats 4000000 in
set_option maxRecDepth 100000 in
/-- moveTo -/
theorem cp_moveTo (l : Launch) (D : va_G) (G : Nat → ClassId) (X : va_W) (Q : Nat → Nat) (st : Nat → va_W) (nn : Nat → Nat) (Z : Nat → Int) (px : Nat) (e0 : Int32) (nv ex : Int) (hZ : pAll G Q st nn Z) (hnv : -9223372036854775808 ≤ nv ∧ nv < 9223372036854775808) (sz hs : Nat) : Met l yX1_moveTo (wC yX1_moveTo cX1_moveTo 4 none) ({ frames := 1, cells := 1078, slots := 401408, locals := 25 }) (va_Pc [.ref px, .long (lZ (nv)), .int (iZ (ex))] (cPre nW D G ((px, .inr (1, [.ref (Q 84), .int (e0), .ref (Q 85), .ref (Q 86), .ref (Q 87)])) :: (X ++ pl st) : va_W) sz hs)) (va_Qv (fun (u : cS) => ∃ (st1 : Nat → va_W) (nn1 : Nat → Nat) (c1 s1 : Nat), pAll G Q st1 nn1 (qu Z 84 nv) ∧ pG (pC nn) (pS nn) nn1 c1 s1 ∧ u = (((px, .inr (1, [.ref (Q 84), .int (iZ (ex)), .ref (Q 85), .ref (Q 86), .ref (Q 87)])) :: (X ++ pl st1) : va_W), c1, s1)) (cAt D G (va_A ((px, .inr (1, [.ref (Q 84), .int (e0), .ref (Q 85), .ref (Q 86), .ref (Q 87)])) :: (X ++ pl st) : va_W) sz) sz hs) (va_A ((px, .inr (1, [.ref (Q 84), .int (e0), .ref (Q 85), .ref (Q 86), .ref (Q 87)])) :: (X ++ pl st) : va_W) sz)) 1078 401408 (va_A ((px, .inr (1, [.ref (Q 84), .int (e0), .ref (Q 85), .ref (Q 86), .ref (Q 87)])) :: (X ++ pl st) : va_W) sz) := by
  refine g_met (cc := cX1_moveTo) (maxL := 4) (ret := none) (own := RX1) (by decide) rfl rfl (Nat.le_of_ble_eq_true rfl) ?_
  intro p e s m below meth c hsz hhs hNs hA C hr hlk
  refine w_sub [(0, .ref px), (1, .long (lZ (nv))), (3, .int (iZ (ex)))] [0, 1, 2] rfl ?_
  have hG : pG (pC nn) (pS nn) nn 0 0 := ⟨Nat.le_of_eq (Nat.zero_add _), Nat.le_of_eq (Nat.zero_add _)⟩
  refine w_aload_n C dX1_moveTo_0 0 rfl ?_
  refine w_get (ci := 1) (ref := "RootIsolator$Point") (T := TX1) (Cn := RX1) (N := 5) C (fun w h => wC_in (inX1 w h)) 0 rfl rfl 0 (by decide) (wC_in fX1_10) rfl rfl dX1_moveTo_1 ?_
  refine w_lload_n C dX1_moveTo_4 1 rfl ?_
  refine p_put hA C ((px, .inr (1, [.ref (Q 84), .int (e0), .ref (Q 85), .ref (Q 86), .ref (Q 87)])) :: X : va_W) hZ hG (84) (by omega) nv hnv (cwV 1 C.1.2.2.2.2 (wC_V kX1_29 nX3_put slX3_put iniX3 cdX3_put) rfl rfl rfl (by decide +kernel) ⟨Nat.le_of_ble_eq_true rfl, Nat.le_of_ble_eq_true rfl⟩) ⟨Nat.le_of_ble_eq_true rfl, Nat.le_of_ble_eq_true rfl⟩ (Nat.le_of_ble_eq_true rfl) dX1_moveTo_5 (fun st1 nn1 c1 s1 hZ1 hG1 => ?_)
  refine w_aload_n C dX1_moveTo_8 0 rfl ?_
  refine w_iload_n C dX1_moveTo_9 2 rfl ?_
  refine w_put (ci := 1) (ref := "RootIsolator$Point") (T := TX1) (Cn := RX1) (N := 5) (ty := .int) C ((px, .inr (1, [.ref (Q 84), .int (iZ (ex)), .ref (Q 85), .ref (Q 86), .ref (Q 87)])) :: (X ++ pl st1) : va_W) (fun w h => wC_in (inX1 w h)) tyX1 tyX1_ok nmX1 0 rfl rfl 1 (by decide) (wC_in fX1_16) rfl rfl (by decide +kernel) rfl rfl (Nat.le_of_ble_eq_true rfl) rfl dX1_moveTo_10 ?_
  have hle := pG_le hZ1 hG1
  exact g_vret hsz hhs C hr hlk ⟨by omega, by omega⟩ (⟨_, _, _, _, hZ1, hG1, rfl⟩) dX1_moveTo_13
set_option maxHeartbeats 4000000 in
set_option maxRecDepth 100000 in
/-- taylor -/
theorem cp_taylor (l : Launch) (D : va_G) (G : Nat → ClassId) (X : va_W) (Q : Nat → Nat) (st : Nat → va_W) (nn : Nat → Nat) (Z : Nat → Int) (px pa pp n bs N od ex : Nat) (hZ : pAll G Q st nn Z) (hn : n ≤ 16 ∧ N ≤ n) (hb : bs + n ≤ 97 ∧ (bs + n ≤ 84 ∨ 88 ≤ bs)) (hex : ex ≤ 30) (hod : od ≤ 16) (hnu : lb (Z 84) 3) (hc : ∀ i : Nat, i < N → lb (Z (bs + i)) 400) (sz hs : Nat) : Met l yX1_taylor (wC yX1_taylor cX1_taylor 4 (some (.object "RootIsolator$Whole"))) ({ frames := 3, cells := 1078, slots := 401408, locals := 92 }) (va_Pc [.ref px, .ref pa, .int (iZ ((od : Int)))] (cPre nW D G ((px, .inr (1, [.ref (Q 84), .int (iZ ((ex : Int))), .ref (Q 85), .ref (Q 86), .ref (Q 87)])) :: (pa, .inr (2, [.ref pp, .int (iZ ((N : Int) - 1))])) :: (pp, .inl (G 4, n, .inr (.inr (.inr (.inr (fun i => some (Q (bs + i)))))))) :: (X ++ pl st) : va_W) sz hs)) (va_Qr (fun (u : cS) => ∃ (st1 : Nat → va_W) (nn1 : Nat → Nat) (c1 s1 : Nat) (z86 z87 : Int), pAll G Q st1 nn1 (q3 Z z86 z87 (tyl (fun i => Z (bs + i)) N od (Z 84) ex (N - od))) ∧ pG (pC nn) (pS nn) nn1 c1 s1 ∧ u = (((px, .inr (1, [.ref (Q 84), .int (iZ ((ex : Int))), .ref (Q 85), .ref (Q 86), .ref (Q 87)])) :: (pa, .inr (2, [.ref pp, .int (iZ ((N : Int) - 1))])) :: (pp, .inl (G 4, n, .inr (.inr (.inr (.inr (fun i => some (Q (bs + i)))))))) :: (X ++ pl st1) : va_W), c1, s1)) (fun u a t => a = (Q 85) ∧ cAt D G (va_A ((px, .inr (1, [.ref (Q 84), .int (iZ ((ex : Int))), .ref (Q 85), .ref (Q 86), .ref (Q 87)])) :: (pa, .inr (2, [.ref pp, .int (iZ ((N : Int) - 1))])) :: (pp, .inl (G 4, n, .inr (.inr (.inr (.inr (fun i => some (Q (bs + i)))))))) :: (X ++ pl st) : va_W) sz) sz hs u t) (va_A ((px, .inr (1, [.ref (Q 84), .int (iZ ((ex : Int))), .ref (Q 85), .ref (Q 86), .ref (Q 87)])) :: (pa, .inr (2, [.ref pp, .int (iZ ((N : Int) - 1))])) :: (pp, .inl (G 4, n, .inr (.inr (.inr (.inr (fun i => some (Q (bs + i)))))))) :: (X ++ pl st) : va_W) sz)) 1078 401408 (va_A ((px, .inr (1, [.ref (Q 84), .int (iZ ((ex : Int))), .ref (Q 85), .ref (Q 86), .ref (Q 87)])) :: (pa, .inr (2, [.ref pp, .int (iZ ((N : Int) - 1))])) :: (pp, .inl (G 4, n, .inr (.inr (.inr (.inr (fun i => some (Q (bs + i)))))))) :: (X ++ pl st) : va_W) sz) := by
  refine g_met (cc := cX1_taylor) (maxL := 4) (ret := (some (.object "RootIsolator$Whole"))) (own := RX1) (by decide) rfl rfl (Nat.le_of_ble_eq_true rfl) ?_
  intro p e s m below meth c hsz hhs hNs hA C hr hlk
  refine w_sub [(0, .ref px), (1, .ref pa), (2, .int (iZ ((od : Int))))] [0, 1, 2] rfl ?_
  have hG : pG (pC nn) (pS nn) nn 0 0 := ⟨Nat.le_of_eq (Nat.zero_add _), Nat.le_of_eq (Nat.zero_add _)⟩
  have lp : ∀ (d : Nat) (j : Nat) (z86 : Int) (z87 : Int) (sti : Nat → va_W) (nni : Nat → Nat) (ci : Nat) (si : Nat), N < j + d → j + od ≤ N ∨ j = 0 → pAll G Q sti nni (q3 Z z86 z87 (tyl (fun i => Z (bs + i)) N od (Z 84) ex j)) → pG (pC nn) (pS nn) nni ci si → ZW p l e ({ frames := 3, cells := 1078, slots := 401408, locals := 92 }) s m ([.ref px, .ref pa, .int (iZ ((od : Int)))] : List Value).toArray below meth c D (va_A ((px, .inr (1, [.ref (Q 84), .int (iZ ((ex : Int))), .ref (Q 85), .ref (Q 86), .ref (Q 87)])) :: (pa, .inr (2, [.ref pp, .int (iZ ((N : Int) - 1))])) :: (pp, .inl (G 4, n, .inr (.inr (.inr (.inr (fun i => some (Q (bs + i)))))))) :: (X ++ pl st) : va_W) sz) 4 ci si (MQ below (va_Qr (fun (u : cS) => ∃ (st1 : Nat → va_W) (nn1 : Nat → Nat) (c1 s1 : Nat) (z86 z87 : Int), pAll G Q st1 nn1 (q3 Z z86 z87 (tyl (fun i => Z (bs + i)) N od (Z 84) ex (N - od))) ∧ pG (pC nn) (pS nn) nn1 c1 s1 ∧ u = (((px, .inr (1, [.ref (Q 84), .int (iZ ((ex : Int))), .ref (Q 85), .ref (Q 86), .ref (Q 87)])) :: (pa, .inr (2, [.ref pp, .int (iZ ((N : Int) - 1))])) :: (pp, .inl (G 4, n, .inr (.inr (.inr (.inr (fun i => some (Q (bs + i)))))))) :: (X ++ pl st1) : va_W), c1, s1)) (fun u a t => a = (Q 85) ∧ cAt D G (va_A ((px, .inr (1, [.ref (Q 84), .int (iZ ((ex : Int))), .ref (Q 85), .ref (Q 86), .ref (Q 87)])) :: (pa, .inr (2, [.ref pp, .int (iZ ((N : Int) - 1))])) :: (pp, .inl (G 4, n, .inr (.inr (.inr (.inr (fun i => some (Q (bs + i)))))))) :: (X ++ pl st) : va_W) sz) sz hs u t) (va_A ((px, .inr (1, [.ref (Q 84), .int (iZ ((ex : Int))), .ref (Q 85), .ref (Q 86), .ref (Q 87)])) :: (pa, .inr (2, [.ref pp, .int (iZ ((N : Int) - 1))])) :: (pp, .inl (G 4, n, .inr (.inr (.inr (.inr (fun i => some (Q (bs + i)))))))) :: (X ++ pl st) : va_W) sz)) ([.ref px, .ref pa, .int (iZ ((od : Int)))] : List Value).toArray s 1078 401408 (va_A ((px, .inr (1, [.ref (Q 84), .int (iZ ((ex : Int))), .ref (Q 85), .ref (Q 86), .ref (Q 87)])) :: (pa, .inr (2, [.ref pp, .int (iZ ((N : Int) - 1))])) :: (pp, .inl (G 4, n, .inr (.inr (.inr (.inr (fun i => some (Q (bs + i)))))))) :: (X ++ pl st) : va_W) sz)) ((px, .inr (1, [.ref (Q 84), .int (iZ ((ex : Int))), .ref (Q 85), .ref (Q 86), .ref (Q 87)])) :: (pa, .inr (2, [.ref pp, .int (iZ ((N : Int) - 1))])) :: (pp, .inl (G 4, n, .inr (.inr (.inr (.inr (fun i => some (Q (bs + i)))))))) :: (X ++ pl sti) : va_W) 13 [(3, .int (iZ ((N : Int) - 1 - (j : Int)))), (0, .ref px), (1, .ref pa), (2, .int (iZ ((od : Int))))] [] := by
    intro d
    induction d with
    | zero =>
      intro j z86 z87 sti nni ci si hd hj hZi hGi
      exact absurd hd (by omega)
    | succ d ih =>
      intro j z86 z87 sti nni ci si hd hj hZi hGi
      refine w_iload_n C dX1_taylor_13 0 rfl ?_
      refine w_iload_n C dX1_taylor_14 3 rfl ?_
      refine w_icmp_lt C 109 dX1_taylor_15 (by decide) ⟨⟨by omega, by omega⟩, by omega, by omega⟩ (fun c15 => ?_) (fun c15 => ?_)
      · have hjN : j = N - od := by omega
        rw [hjN] at hZi
        refine w_aload_n C dX1_taylor_109 1 rfl ?_
        refine w_get (ci := 1) (ref := "RootIsolator$Point") (T := TX1) (Cn := RX1) (N := 5) C (fun w h => wC_in (inX1 w h)) 0 rfl rfl 2 (by decide) (wC_in fX1_20) rfl rfl dX1_taylor_110 ?_
        have hle := pG_le hZi hGi
        exact g_rret hsz hhs C hr (Or.inl ⟨_, rfl⟩) hlk ⟨by omega, by omega⟩ (⟨_, _, _, _, z86, z87, hZi, hGi, rfl⟩) dX1_taylor_113
      · refine w_iload_n C dX1_taylor_18 0 rfl ?_
        refine w_if_lt C 109 dX1_taylor_19 (by decide) ⟨by omega, by omega⟩ (fun c19 => ?_) (fun c19 => ?_)
        · have hjN : j = N - od := by omega
          rw [hjN] at hZi
          refine w_aload_n C dX1_taylor_109 1 rfl ?_
          refine w_get (ci := 1) (ref := "RootIsolator$Point") (T := TX1) (Cn := RX1) (N := 5) C (fun w h => wC_in (inX1 w h)) 0 rfl rfl 2 (by decide) (wC_in fX1_20) rfl rfl dX1_taylor_110 ?_
          have hle := pG_le hZi hGi
          exact g_rret hsz hhs C hr (Or.inl ⟨_, rfl⟩) hlk ⟨by omega, by omega⟩ (⟨_, _, _, _, z86, z87, hZi, hGi, rfl⟩) dX1_taylor_113
        · obtain ⟨k, hk⟩ : ∃ k : Nat, k = N - 1 - j := ⟨_, rfl⟩
          have hkz : (N : Int) - 1 - (j : Int) = (k : Int) := by omega
          refine w_sub [(3, .int (iZ ((k : Int)))), (0, .ref px), (1, .ref pa), (2, .int (iZ ((od : Int))))] [0, 1, 2, 3] (by rw [hkz]; rfl) ?_
          have hex2 : ex * j ≤ 30 * 15 := Nat.mul_le_mul hex (by omega)
          have hty := tyl_lb (od := od) (ex := ex) (nu := Z 84) (c := fun i => Z (bs + i)) (by omega) hex hnu hc j (by omega)
          have hck := hc k (by omega)
          refine w_aload_n C dX1_taylor_22 1 rfl ?_
          refine w_get (ci := 1) (ref := "RootIsolator$Point") (T := TX1) (Cn := RX1) (N := 5) C (fun w h => wC_in (inX1 w h)) 0 rfl rfl 2 (by decide) (wC_in fX1_20) rfl rfl dX1_taylor_23 ?_
          refine w_aload_n C dX1_taylor_26 1 rfl ?_
          refine w_get (ci := 1) (ref := "RootIsolator$Point") (T := TX1) (Cn := RX1) (N := 5) C (fun w h => wC_in (inX1 w h)) 0 rfl rfl 0 (by decide) (wC_in fX1_10) rfl rfl dX1_taylor_27 ?_
          refine p_multiply hA C ((px, .inr (1, [.ref (Q 84), .int (iZ ((ex : Int))), .ref (Q 85), .ref (Q 86), .ref (Q 87)])) :: (pa, .inr (2, [.ref pp, .int (iZ ((N : Int) - 1))])) :: (pp, .inl (G 4, n, .inr (.inr (.inr (.inr (fun i => some (Q (bs + i)))))))) :: X : va_W) hZi hGi (85) (84) (by omega) (by omega) (by omega) (420 + 4 * j) 3 (by omega) ⟨by rw [q3_85]; exact hty, by rw [q3_o (by omega)]; exact hnu⟩ (cwV 1 C.1.2.2.2.2 (wC_V kX1_38 nX3_multiply slX3_multiply iniX3 cdX3_multiply) rfl rfl rfl (by decide +kernel) ⟨Nat.le_of_ble_eq_true rfl, Nat.le_of_ble_eq_true rfl⟩) ⟨Nat.le_of_ble_eq_true rfl, Nat.le_of_ble_eq_true rfl⟩ (Nat.le_of_ble_eq_true rfl) dX1_taylor_30 (fun st1 nn1 c1 s1 hZ1 hG1 => ?_)
          rw [show (qu (q3 Z z86 z87 (tyl (fun i => Z (bs + i)) N od (Z 84) ex j)) 85 ((q3 Z z86 z87 (tyl (fun i => Z (bs + i)) N od (Z 84) ex j)) 85 * (q3 Z z86 z87 (tyl (fun i => Z (bs + i)) N od (Z 84) ex j)) 84)) = (q3 Z z86 z87 ((tyl (fun i => Z (bs + i)) N od (Z 84) ex j) * Z 84)) from by rw [q3_85, q3_o (by omega), q3_s85]] at hZ1
          refine w_aload_n C dX1_taylor_33 1 rfl ?_
          refine w_get (ci := 1) (ref := "RootIsolator$Point") (T := TX1) (Cn := RX1) (N := 5) C (fun w h => wC_in (inX1 w h)) 0 rfl rfl 3 (by decide) (wC_in fX1_23) rfl rfl dX1_taylor_34 ?_
          refine w_aload_n C dX1_taylor_37 2 rfl ?_
          refine w_getN (ci := 2) (ref := RX2) (T := TX2) (Cn := RX2) (N := 2) C (fun w h => wC_in (inX2 w h)) 1 rfl rfl 0 (by decide) hNs.2.2.2.1 rfl rfl dX1_taylor_38 ?_
          refine w_iload_n C dX1_taylor_41 0 rfl ?_
          refine w_aald (n := n) (f := (fun i => some (Q (bs + i)))) C 2 4 rfl rfl rfl (k) ⟨by omega, by omega, by omega⟩ (rfl) dX1_taylor_42 ?_
          refine p_copy hA C ((px, .inr (1, [.ref (Q 84), .int (iZ ((ex : Int))), .ref (Q 85), .ref (Q 86), .ref (Q 87)])) :: (pa, .inr (2, [.ref pp, .int (iZ ((N : Int) - 1))])) :: (pp, .inl (G 4, n, .inr (.inr (.inr (.inr (fun i => some (Q (bs + i)))))))) :: X : va_W) hZ1 hG1 (86) (bs + k) (by omega) (by omega) (by omega) (by rw [q3_o (by omega)]; exact lb_le hck (by omega)) (cwV 1 C.1.2.2.2.2 (wC_V kX1_46 nX3_copy slX3_copy iniX3 cdX3_copy) rfl rfl rfl (by decide +kernel) ⟨Nat.le_of_ble_eq_true rfl, Nat.le_of_ble_eq_true rfl⟩) ⟨Nat.le_of_ble_eq_true rfl, Nat.le_of_ble_eq_true rfl⟩ (Nat.le_of_ble_eq_true rfl) dX1_taylor_43 (fun st2 nn2 c2 s2 hZ2 hG2 => ?_)
          rw [show (qu (q3 Z z86 z87 ((tyl (fun i => Z (bs + i)) N od (Z 84) ex j) * Z 84)) 86 ((q3 Z z86 z87 ((tyl (fun i => Z (bs + i)) N od (Z 84) ex j) * Z 84)) (bs + k))) = (q3 Z (Z (bs + k)) z87 ((tyl (fun i => Z (bs + i)) N od (Z 84) ex j) * Z 84)) from by rw [q3_o (by omega), q3_s86]] at hZ2
          refine w_iload_n C dX1_taylor_46 3 rfl ?_
          refine w_if_le C 73 dX1_taylor_47 (by decide) ⟨by omega, by omega⟩ (fun c47 => ?_) (fun c47 => ?_)
          · refine w_aload_n C dX1_taylor_73 1 rfl ?_
            refine w_get (ci := 1) (ref := "RootIsolator$Point") (T := TX1) (Cn := RX1) (N := 5) C (fun w h => wC_in (inX1 w h)) 0 rfl rfl 3 (by decide) (wC_in fX1_23) rfl rfl dX1_taylor_74 ?_
            refine w_aload_n C dX1_taylor_77 1 rfl ?_
            refine w_get (ci := 1) (ref := "RootIsolator$Point") (T := TX1) (Cn := RX1) (N := 5) C (fun w h => wC_in (inX1 w h)) 0 rfl rfl 1 (by decide) (wC_in fX1_16) rfl rfl dX1_taylor_78 ?_
            refine w_aload_n C dX1_taylor_81 2 rfl ?_
            refine w_getN (ci := 2) (ref := RX2) (T := TX2) (Cn := RX2) (N := 2) C (fun w h => wC_in (inX2 w h)) 1 rfl rfl 1 (by decide) hNs.2.2.2.2.2.1 rfl rfl dX1_taylor_82 ?_
            refine w_iload_n C dX1_taylor_85 0 rfl ?_
            refine w_isub C dX1_taylor_86 ?_
            refine w_imul C dX1_taylor_87 ?_
            refine w_top C (((ex * j : Nat) : Int)) (by rw [show (N : Int) - 1 - (k : Int) = (j : Int) by omega]; exact (Int.natCast_mul ex j).symm) ?_
            refine p_shiftUp hA C ((px, .inr (1, [.ref (Q 84), .int (iZ ((ex : Int))), .ref (Q 85), .ref (Q 86), .ref (Q 87)])) :: (pa, .inr (2, [.ref pp, .int (iZ ((N : Int) - 1))])) :: (pp, .inl (G 4, n, .inr (.inr (.inr (.inr (fun i => some (Q (bs + i)))))))) :: X : va_W) hZ2 hG2 (86) (by omega) (ex * j) 400 (by omega) (by rw [q3_86]; exact hck) (cwV 1 C.1.2.2.2.2 (wC_V kX1_53 nX3_shiftUp slX3_shiftUp iniX3 cdX3_shiftUp) rfl rfl rfl (by decide +kernel) ⟨Nat.le_of_ble_eq_true rfl, Nat.le_of_ble_eq_true rfl⟩) ⟨Nat.le_of_ble_eq_true rfl, Nat.le_of_ble_eq_true rfl⟩ (Nat.le_of_ble_eq_true rfl) dX1_taylor_88 (fun st3 nn3 c3 s3 hZ3 hG3 => ?_)
            rw [show (qu (q3 Z (Z (bs + k)) z87 ((tyl (fun i => Z (bs + i)) N od (Z 84) ex j) * Z 84)) 86 ((q3 Z (Z (bs + k)) z87 ((tyl (fun i => Z (bs + i)) N od (Z 84) ex j) * Z 84)) 86 * 2 ^ (ex * j))) = (q3 Z ((Z (bs + k)) * 2 ^ (ex * j)) z87 ((tyl (fun i => Z (bs + i)) N od (Z 84) ex j) * Z 84)) from by rw [q3_86, q3_s86]] at hZ3
            refine w_aload_n C dX1_taylor_91 1 rfl ?_
            refine w_get (ci := 1) (ref := "RootIsolator$Point") (T := TX1) (Cn := RX1) (N := 5) C (fun w h => wC_in (inX1 w h)) 0 rfl rfl 2 (by decide) (wC_in fX1_20) rfl rfl dX1_taylor_92 ?_
            refine w_aload_n C dX1_taylor_95 1 rfl ?_
            refine w_get (ci := 1) (ref := "RootIsolator$Point") (T := TX1) (Cn := RX1) (N := 5) C (fun w h => wC_in (inX1 w h)) 0 rfl rfl 3 (by decide) (wC_in fX1_23) rfl rfl dX1_taylor_96 ?_
            refine w_iconst C dX1_taylor_99 ?_
            have hterm := tyl_term (c := fun i => Z (bs + i)) (od := od) (j := j) (by omega) hex hc (by omega)
            rw [if_pos (by omega), Int.mul_one, ← hk] at hterm
            refine p_add hA C ((px, .inr (1, [.ref (Q 84), .int (iZ ((ex : Int))), .ref (Q 85), .ref (Q 86), .ref (Q 87)])) :: (pa, .inr (2, [.ref pp, .int (iZ ((N : Int) - 1))])) :: (pp, .inl (G 4, n, .inr (.inr (.inr (.inr (fun i => some (Q (bs + i)))))))) :: X : va_W) hZ3 hG3 (85) (86) (by omega) (by omega) (by omega) 1 _ (Or.inl ⟨rfl, rfl⟩) ⟨by rw [q3_85]; exact lb_le (lb_mul hty hnu) (by omega), by rw [q3_86]; exact lb_le hterm (by omega)⟩ (cwV 2 C.1.2.2.2.2 (wC_V kX1_57 nX3_add slX3_add iniX3 cdX3_add) rfl rfl rfl (by decide +kernel) ⟨Nat.le_of_ble_eq_true rfl, Nat.le_of_ble_eq_true rfl⟩) ⟨Nat.le_of_ble_eq_true rfl, Nat.le_of_ble_eq_true rfl⟩ (Nat.le_of_ble_eq_true rfl) dX1_taylor_100 (fun st4 nn4 c4 s4 hZ4 hG4 => ?_)
            rw [show (qu (q3 Z ((Z (bs + k)) * 2 ^ (ex * j)) z87 ((tyl (fun i => Z (bs + i)) N od (Z 84) ex j) * Z 84)) 85 ((q3 Z ((Z (bs + k)) * 2 ^ (ex * j)) z87 ((tyl (fun i => Z (bs + i)) N od (Z 84) ex j) * Z 84)) 85 + (q3 Z ((Z (bs + k)) * 2 ^ (ex * j)) z87 ((tyl (fun i => Z (bs + i)) N od (Z 84) ex j) * Z 84)) 86)) = (q3 Z ((Z (bs + k)) * 2 ^ (ex * j)) z87 (tyl (fun i => Z (bs + i)) N od (Z 84) ex (j + 1))) from by rw [q3_85, q3_86, q3_s85]; show _ = q3 Z _ _ (tyl _ _ _ _ _ j * Z 84 + _ * _ * _); rw [← hk, if_pos (by omega), Int.mul_one]] at hZ4
            refine w_iinc C ((N : Int) - 1 - ((j + 1 : Nat) : Int)) (by omega) [(3, .int (iZ ((N : Int) - 1 - ((j + 1 : Nat) : Int)))), (0, .ref px), (1, .ref pa), (2, .int (iZ ((od : Int))))] dX1_taylor_103 0 rfl (by decide) rfl ?_
            refine w_goto C 13 dX1_taylor_106 (by decide) ?_
            exact ih (j + 1) _ _ _ _ _ _ (by omega) (by omega) hZ4 hG4
          · refine w_aload_n C dX1_taylor_50 1 rfl ?_
            refine w_get (ci := 1) (ref := "RootIsolator$Point") (T := TX1) (Cn := RX1) (N := 5) C (fun w h => wC_in (inX1 w h)) 0 rfl rfl 4 (by decide) (wC_in fX1_26) rfl rfl dX1_taylor_51 ?_
            refine w_iload_n C dX1_taylor_54 0 rfl ?_
            refine w_iload_n C dX1_taylor_55 3 rfl ?_
            refine g_callSl [.int (iZ ((k : Int))), .int (iZ ((od : Int)))] hA C trivial nT_ok (cw_choose l D G ((px, .inr (1, [.ref (Q 84), .int (iZ ((ex : Int))), .ref (Q 85), .ref (Q 86), .ref (Q 87)])) :: (pa, .inr (2, [.ref pp, .int (iZ ((N : Int) - 1))])) :: (pp, .inl (G 4, n, .inr (.inr (.inr (.inr (fun i => some (Q (bs + i)))))))) :: (X ++ pl st2) : va_W) k od (by omega) (by omega)) (cwS 2 C.1.2.2.2.2 (wC_S kX1_49 stX1_choose iniX1 cdX1_choose) rfl rfl rfl (by decide +kernel) ⟨Nat.le_of_ble_eq_true rfl, Nat.le_of_ble_eq_true rfl⟩) rfl ⟨by have hle := pG_le hZ2 hG2; show c2 + 0 ≤ 1078; omega, by have hle := pG_le hZ2 hG2; show s2 + 0 ≤ 401408; omega⟩ (Nat.le_of_ble_eq_true rfl) dX1_taylor_56 [.int (iZ ((od : Int))), .int (iZ ((k : Int))), .ref (Q 87)] rfl (fun r v5 hv5 => ?_)
            obtain ⟨rfl, rfl⟩ := hv5
            refine w_cs c2 s2 rfl rfl ?_
            refine p_put hA C ((px, .inr (1, [.ref (Q 84), .int (iZ ((ex : Int))), .ref (Q 85), .ref (Q 86), .ref (Q 87)])) :: (pa, .inr (2, [.ref pp, .int (iZ ((N : Int) - 1))])) :: (pp, .inl (G 4, n, .inr (.inr (.inr (.inr (fun i => some (Q (bs + i)))))))) :: X : va_W) hZ2 hG2 (87) (by omega) (chq k od) (by have := chq_r (k := k) (i := od) (by omega) (by omega); omega) (cwV 1 C.1.2.2.2.2 (wC_V kX1_29 nX3_put slX3_put iniX3 cdX3_put) rfl rfl rfl (by decide +kernel) ⟨Nat.le_of_ble_eq_true rfl, Nat.le_of_ble_eq_true rfl⟩) ⟨Nat.le_of_ble_eq_true rfl, Nat.le_of_ble_eq_true rfl⟩ (Nat.le_of_ble_eq_true rfl) dX1_taylor_59 (fun st6 nn6 c6 s6 hZ6 hG6 => ?_)
            rw [show (qu (q3 Z (Z (bs + k)) z87 ((tyl (fun i => Z (bs + i)) N od (Z 84) ex j) * Z 84)) 87 (chq k od)) = (q3 Z (Z (bs + k)) (chq k od) ((tyl (fun i => Z (bs + i)) N od (Z 84) ex j) * Z 84)) from by rw [q3_s87]] at hZ6
            refine w_aload_n C dX1_taylor_62 1 rfl ?_
            refine w_get (ci := 1) (ref := "RootIsolator$Point") (T := TX1) (Cn := RX1) (N := 5) C (fun w h => wC_in (inX1 w h)) 0 rfl rfl 3 (by decide) (wC_in fX1_23) rfl rfl dX1_taylor_63 ?_
            refine w_aload_n C dX1_taylor_66 1 rfl ?_
            refine w_get (ci := 1) (ref := "RootIsolator$Point") (T := TX1) (Cn := RX1) (N := 5) C (fun w h => wC_in (inX1 w h)) 0 rfl rfl 4 (by decide) (wC_in fX1_26) rfl rfl dX1_taylor_67 ?_
            refine p_multiply hA C ((px, .inr (1, [.ref (Q 84), .int (iZ ((ex : Int))), .ref (Q 85), .ref (Q 86), .ref (Q 87)])) :: (pa, .inr (2, [.ref pp, .int (iZ ((N : Int) - 1))])) :: (pp, .inl (G 4, n, .inr (.inr (.inr (.inr (fun i => some (Q (bs + i)))))))) :: X : va_W) hZ6 hG6 (86) (87) (by omega) (by omega) (by omega) 400 1 (by omega) ⟨by rw [q3_86]; exact hck, by rw [q3_87, lb_1]; have := chq_r (k := k) (i := od) (by omega) (by omega); omega⟩ (cwV 1 C.1.2.2.2.2 (wC_V kX1_38 nX3_multiply slX3_multiply iniX3 cdX3_multiply) rfl rfl rfl (by decide +kernel) ⟨Nat.le_of_ble_eq_true rfl, Nat.le_of_ble_eq_true rfl⟩) ⟨Nat.le_of_ble_eq_true rfl, Nat.le_of_ble_eq_true rfl⟩ (Nat.le_of_ble_eq_true rfl) dX1_taylor_70 (fun st7 nn7 c7 s7 hZ7 hG7 => ?_)
            rw [show (qu (q3 Z (Z (bs + k)) (chq k od) ((tyl (fun i => Z (bs + i)) N od (Z 84) ex j) * Z 84)) 86 ((q3 Z (Z (bs + k)) (chq k od) ((tyl (fun i => Z (bs + i)) N od (Z 84) ex j) * Z 84)) 86 * (q3 Z (Z (bs + k)) (chq k od) ((tyl (fun i => Z (bs + i)) N od (Z 84) ex j) * Z 84)) 87)) = (q3 Z (Z (bs + k) * chq k od) (chq k od) ((tyl (fun i => Z (bs + i)) N od (Z 84) ex j) * Z 84)) from by rw [q3_86, q3_87, q3_s86]] at hZ7
            refine w_aload_n C dX1_taylor_73 1 rfl ?_
            refine w_get (ci := 1) (ref := "RootIsolator$Point") (T := TX1) (Cn := RX1) (N := 5) C (fun w h => wC_in (inX1 w h)) 0 rfl rfl 3 (by decide) (wC_in fX1_23) rfl rfl dX1_taylor_74 ?_
            refine w_aload_n C dX1_taylor_77 1 rfl ?_
            refine w_get (ci := 1) (ref := "RootIsolator$Point") (T := TX1) (Cn := RX1) (N := 5) C (fun w h => wC_in (inX1 w h)) 0 rfl rfl 1 (by decide) (wC_in fX1_16) rfl rfl dX1_taylor_78 ?_
            refine w_aload_n C dX1_taylor_81 2 rfl ?_
            refine w_getN (ci := 2) (ref := RX2) (T := TX2) (Cn := RX2) (N := 2) C (fun w h => wC_in (inX2 w h)) 1 rfl rfl 1 (by decide) hNs.2.2.2.2.2.1 rfl rfl dX1_taylor_82 ?_
            refine w_iload_n C dX1_taylor_85 0 rfl ?_
            refine w_isub C dX1_taylor_86 ?_
            refine w_imul C dX1_taylor_87 ?_
            refine w_top C (((ex * j : Nat) : Int)) (by rw [show (N : Int) - 1 - (k : Int) = (j : Int) by omega]; exact (Int.natCast_mul ex j).symm) ?_
            refine p_shiftUp hA C ((px, .inr (1, [.ref (Q 84), .int (iZ ((ex : Int))), .ref (Q 85), .ref (Q 86), .ref (Q 87)])) :: (pa, .inr (2, [.ref pp, .int (iZ ((N : Int) - 1))])) :: (pp, .inl (G 4, n, .inr (.inr (.inr (.inr (fun i => some (Q (bs + i)))))))) :: X : va_W) hZ7 hG7 (86) (by omega) (ex * j) 401 (by omega) (by rw [q3_86]; exact lb_mul (N1 := 400) (N2 := 1) hck (by rw [lb_1]; have := chq_r (k := k) (i := od) (by omega) (by omega); omega)) (cwV 1 C.1.2.2.2.2 (wC_V kX1_53 nX3_shiftUp slX3_shiftUp iniX3 cdX3_shiftUp) rfl rfl rfl (by decide +kernel) ⟨Nat.le_of_ble_eq_true rfl, Nat.le_of_ble_eq_true rfl⟩) ⟨Nat.le_of_ble_eq_true rfl, Nat.le_of_ble_eq_true rfl⟩ (Nat.le_of_ble_eq_true rfl) dX1_taylor_88 (fun st8 nn8 c8 s8 hZ8 hG8 => ?_)
            rw [show (qu (q3 Z (Z (bs + k) * chq k od) (chq k od) ((tyl (fun i => Z (bs + i)) N od (Z 84) ex j) * Z 84)) 86 ((q3 Z (Z (bs + k) * chq k od) (chq k od) ((tyl (fun i => Z (bs + i)) N od (Z 84) ex j) * Z 84)) 86 * 2 ^ (ex * j))) = (q3 Z ((Z (bs + k) * chq k od) * 2 ^ (ex * j)) (chq k od) ((tyl (fun i => Z (bs + i)) N od (Z 84) ex j) * Z 84)) from by rw [q3_86, q3_s86]] at hZ8
            refine w_aload_n C dX1_taylor_91 1 rfl ?_
            refine w_get (ci := 1) (ref := "RootIsolator$Point") (T := TX1) (Cn := RX1) (N := 5) C (fun w h => wC_in (inX1 w h)) 0 rfl rfl 2 (by decide) (wC_in fX1_20) rfl rfl dX1_taylor_92 ?_
            refine w_aload_n C dX1_taylor_95 1 rfl ?_
            refine w_get (ci := 1) (ref := "RootIsolator$Point") (T := TX1) (Cn := RX1) (N := 5) C (fun w h => wC_in (inX1 w h)) 0 rfl rfl 3 (by decide) (wC_in fX1_23) rfl rfl dX1_taylor_96 ?_
            refine w_iconst C dX1_taylor_99 ?_
            have hterm := tyl_term (c := fun i => Z (bs + i)) (od := od) (j := j) (by omega) hex hc (by omega)
            rw [if_neg (by omega), ← hk] at hterm
            refine p_add hA C ((px, .inr (1, [.ref (Q 84), .int (iZ ((ex : Int))), .ref (Q 85), .ref (Q 86), .ref (Q 87)])) :: (pa, .inr (2, [.ref pp, .int (iZ ((N : Int) - 1))])) :: (pp, .inl (G 4, n, .inr (.inr (.inr (.inr (fun i => some (Q (bs + i)))))))) :: X : va_W) hZ8 hG8 (85) (86) (by omega) (by omega) (by omega) 1 _ (Or.inl ⟨rfl, rfl⟩) ⟨by rw [q3_85]; exact lb_le (lb_mul hty hnu) (by omega), by rw [q3_86]; exact lb_le hterm (by omega)⟩ (cwV 2 C.1.2.2.2.2 (wC_V kX1_57 nX3_add slX3_add iniX3 cdX3_add) rfl rfl rfl (by decide +kernel) ⟨Nat.le_of_ble_eq_true rfl, Nat.le_of_ble_eq_true rfl⟩) ⟨Nat.le_of_ble_eq_true rfl, Nat.le_of_ble_eq_true rfl⟩ (Nat.le_of_ble_eq_true rfl) dX1_taylor_100 (fun st9 nn9 c9 s9 hZ9 hG9 => ?_)
            rw [show (qu (q3 Z ((Z (bs + k) * chq k od) * 2 ^ (ex * j)) (chq k od) ((tyl (fun i => Z (bs + i)) N od (Z 84) ex j) * Z 84)) 85 ((q3 Z ((Z (bs + k) * chq k od) * 2 ^ (ex * j)) (chq k od) ((tyl (fun i => Z (bs + i)) N od (Z 84) ex j) * Z 84)) 85 + (q3 Z ((Z (bs + k) * chq k od) * 2 ^ (ex * j)) (chq k od) ((tyl (fun i => Z (bs + i)) N od (Z 84) ex j) * Z 84)) 86)) = (q3 Z ((Z (bs + k) * chq k od) * 2 ^ (ex * j)) (chq k od) (tyl (fun i => Z (bs + i)) N od (Z 84) ex (j + 1))) from by rw [q3_85, q3_86, q3_s85]; show _ = q3 Z _ _ (tyl _ _ _ _ _ j * Z 84 + _ * _ * _); rw [← hk, if_neg (by omega)]] at hZ9
            refine w_iinc C ((N : Int) - 1 - ((j + 1 : Nat) : Int)) (by omega) [(3, .int (iZ ((N : Int) - 1 - ((j + 1 : Nat) : Int)))), (0, .ref px), (1, .ref pa), (2, .int (iZ ((od : Int))))] dX1_taylor_103 0 rfl (by decide) rfl ?_
            refine w_goto C 13 dX1_taylor_106 (by decide) ?_
            exact ih (j + 1) _ _ _ _ _ _ (by omega) (by omega) hZ9 hG9
  refine w_aload_n C dX1_taylor_0 0 rfl ?_
  refine w_get (ci := 1) (ref := "RootIsolator$Point") (T := TX1) (Cn := RX1) (N := 5) C (fun w h => wC_in (inX1 w h)) 0 rfl rfl 2 (by decide) (wC_in fX1_20) rfl rfl dX1_taylor_1 ?_
  refine w_lconst C 0 dX1_taylor_4 rfl ?_
  refine p_put hA C ((px, .inr (1, [.ref (Q 84), .int (iZ ((ex : Int))), .ref (Q 85), .ref (Q 86), .ref (Q 87)])) :: (pa, .inr (2, [.ref pp, .int (iZ ((N : Int) - 1))])) :: (pp, .inl (G 4, n, .inr (.inr (.inr (.inr (fun i => some (Q (bs + i)))))))) :: X : va_W) hZ hG (85) (by omega) 0 (by omega) (cwV 1 C.1.2.2.2.2 (wC_V kX1_29 nX3_put slX3_put iniX3 cdX3_put) rfl rfl rfl (by decide +kernel) ⟨Nat.le_of_ble_eq_true rfl, Nat.le_of_ble_eq_true rfl⟩) ⟨Nat.le_of_ble_eq_true rfl, Nat.le_of_ble_eq_true rfl⟩ (Nat.le_of_ble_eq_true rfl) dX1_taylor_5 (fun st10 nn10 c10 s10 hZ10 hG10 => ?_)
  rw [show (qu Z 85 0) = (q3 Z (Z 86) (Z 87) 0) from q3_self Z 0] at hZ10
  refine w_aload_n C dX1_taylor_8 1 rfl ?_
  refine w_getN (ci := 2) (ref := RX2) (T := TX2) (Cn := RX2) (N := 2) C (fun w h => wC_in (inX2 w h)) 1 rfl rfl 1 (by decide) hNs.2.2.2.2.2.1 rfl rfl dX1_taylor_9 ?_
  refine w_istore_n C [(3, .int (iZ ((N : Int) - 1))), (0, .ref px), (1, .ref pa), (2, .int (iZ ((od : Int))))] dX1_taylor_12 rfl (by decide) rfl ?_
  refine w_sub [(3, .int (iZ ((N : Int) - 1 - ((0 : Nat) : Int)))), (0, .ref px), (1, .ref pa), (2, .int (iZ (od : Int)))] [0, 1, 2, 3] (by rw [show (N : Int) - 1 - ((0 : Nat) : Int) = (N : Int) - 1 by omega]; rfl) ?_
  exact lp (N + 1) 0 (Z 86) (Z 87) st10 nn10 c10 s10 (by omega) (by omega) hZ10 hG10
