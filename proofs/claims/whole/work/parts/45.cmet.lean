section CMET
/-- what holds of the tables beside the words: it stays as they warm -/
def NOK (N : State → Prop) : Prop := ∀ s U : State, s.WarmedH U.vm → N s → N U
def nT : State → Prop := fun _ => True
theorem nT_ok : NOK nT := fun _ _ _ _ => trivial
def cPre (N : State → Prop) (D : va_G) (G : Nat → ClassId) (wd : va_W) (sz hs : Nat) : State → Prop := fun U => U.heap.size = sz ∧ hsum U.heap = hs ∧ va_P D vwCl wd U.heap ∧ va_K D vwCl (cty G) U ∧ va_D (fun _ => True) wd ∧ N U
/-- behind a call: the world, and by how much the heap has grown at most -/
abbrev cS : Type := va_W × Nat × Nat
def cAt (D : va_G) (G : Nat → ClassId) (A : Nat → Prop) (sz hs : Nat) : cS → State → Prop := fun u t => va_P D vwCl u.1 t.heap ∧ va_K D vwCl (cty G) t ∧ va_D A u.1 ∧ t.heap.size ≤ sz + u.2.1 ∧ hsum t.heap ≤ hs + u.2.2
theorem cPre_blind {N : State → Prop} (hN : NOK N) {D : va_G} {G : Nat → ClassId} {wd : va_W} {sz hs : Nat} {as : List Value} : FrameBlind (va_Pc as (cPre N D G wd sz hs)) := fun a U g mk q => by
  obtain ⟨q0, q1, q2, qP, qK, qD, qN⟩ := q
  exact ⟨q0, q1, q2, qP, va_K.moved (u := U) (U := U.calling g mk a) (Vm.Alike.refl U.vm) qK, qD, hN U _ (State.WarmedH.refl U) qN⟩
theorem g_met {l : Launch} {y : MethodName} {ws ws' : List Cond} {rm : Room} {as : List Value} {N : State → Prop} {D : va_G} {G : Nat → ClassId} {wd : va_W} {sz hs mc ms : Nat} {Qc : Array Value → State → Outcome → State → Prop} {free : Addr → Prop} {cc : ByteArray} {maxL : Nat} {ret : Option FieldType} {own : String}
    (hy : plainName y.cls = true) (hc : y.cls = own) (hw : ws = Cond.code y cc maxL ret :: ws') (hlen : (lg_sl as).length ≤ maxL)
    (body : ∀ (p : Program) (e : Env) (s : State) (m : MethodId) (below : List Frame) (meth : Method) (c : Code), s.heap.size = sz → hsum s.heap = hs → N s → (∀ q, s.heap.size ≤ q → va_A wd sz q) → ZC p s m as.toArray c cc maxL ws own D (cty G) → meth.sig.returnType = ret → meth.locks = false →
      ZW p l e rm s m as.toArray below meth c D (va_A wd sz) maxL 0 0 (MQ below Qc as.toArray s mc ms free) wd 0 (lv_args 0 as) []) : Met l y ws rm (va_Pc as (cPre N D G wd sz hs)) Qc mc ms free := by
  refine Met.ofW (cc := cc) (maxL := maxL) (ret := ret) hy hw ?_
  intro p e s m args below meth c s₁ B hml hv
  obtain ⟨rfl, hsz, hhs, hP, hK, hD, hN⟩ := hv
  have hown : s.vm.findClass own = some m.cls := by rw [← hc]; exact findClass_of_methodNamed B.named
  have hts := atoms_spec (ws := ws) B.pre
  have hl := lv_entry as (n := maxL) hlen
  rw [lg_entry_eq]
  generalize (lg_sl as ++ List.replicate (maxL - (lg_sl as).length) Slot.unset).toArray = ls at hl ⊢
  exact body p e s m below meth c hsz hhs hN (fun q h => Or.inr (by omega)) ⟨⟨B.exec, B.bytes, hml, hown, hts⟩, hK⟩ B.returns B.notSynchronized s.heap [] ls hP hD.self va_S.rf hl
variable {p : Program} {l : Launch} {e : Env} {R : Room} {s : State} {m : MethodId} {args : Array Value} {below : List Frame} {meth : Method} {c : Code} {D : va_G} {A : Nat → Prop} {nL cells slots : Nat} {Qp : State → Prop}
variable {cc : ByteArray} {Ts : List Cond} {own : String} {ws : va_W} {pc : Nat} {lv : List (Nat × Value)} {rest : List Value} {G : Nat → ClassId} {N : State → Prop} {sz hs mc ms : Nat}
theorem g_sub {H : Heap} {locs : List Loc} (hA : ∀ q, s.heap.size ≤ q → A q) (hD : va_D A ws) (hS : va_S A s.heap H locs) : ∀ q, va_A ws H.size q → A q := fun q h => by
  rcases h with ⟨k, e, h⟩ | h
  · exact hD.2 k _ h
  · exact hA q (Nat.le_trans hS.1 h)
theorem g_callv {y : MethodName} {bytes : ByteArray} {maxL n index : Nat} {ret : Option FieldType} {wsd : List Cond} {rm : Room} {post : cS → Prop} (As : List Value) {b q0 ci : Nat} {fs : List Value} {r0 : vw_C} {Cn : String} (hA : ∀ q, s.heap.size ≤ q → A q) (C : ZC p s m args c cc nL Ts own D (cty G)) (hN : N s) (hNo : NOK N)
    (hM : ∀ sz hs : Nat, Met l y wsd rm (va_Pc (.ref b :: As) (cPre N D G ws sz hs)) (va_Qv post (cAt D G (va_A ws sz) sz hs) (va_A ws sz)) mc ms (va_A ws sz)) (cw : CallW R s args own Cn index y bytes maxL ret wsd rm mc ms n) (he : ws[q0]? = some (b, .inr (ci, fs))) (hc : vwCl[ci]? = some r0) (hcn : r0.1 = Cn) (hn : As.length = n) (hR : cells + mc ≤ R.cells ∧ slots + ms ≤ R.slots) (hW : (rest.map fun v => v.category).sum ≤ 8) (hdg : decode cc pc = .ok (.invokevirtual index, 3)) (st : List Value) (hst : st = As.reverse ++ .ref b :: rest)
    (kk : ∀ (v : cS), post v → ZW p l e R s m args below meth c D A nL (cells + v.2.1) (slots + v.2.2) Qp v.1 (pc + 3) lv rest) : ZW p l e R s m args below meth c D A nL cells slots Qp ws pc lv st := by
  intro H locs ls hP hD hS hl T hT X
  have h0 := st_hs X
  rw [hT] at h0
  subst hst
  refine va_callv (va_runV (As := As) (rest := rest) C.1 (hM H.size (hsum H)) cw ⟨cPre_blind hNo, (by rw [← hcn]; exact va_recv C.2 hP hc he), fun U hU hW => ⟨rfl, by rw [hU], by rw [hU], by rw [hU]; exact hP, va_K.moved hW.alike C.2, hD.weaken (fun _ _ _ _ => trivial), hNo _ _ hW hN⟩⟩ rfl hn hl.1 rfl (lv_room hW) hdg hR) hS (fun q _ h => g_sub hA hD hS q h) (g_sub hA hD hS) (fun v t H1 locs1 ht hvm hw hB hz1 hk1 hS1 => ?_) T hT X
  obtain ⟨hP1, hK1, hD1, hg1, hg2⟩ := hB
  rw [ht] at hP1 hg1 hg2
  intro T1 hT1 X1
  exact kk v hw H1 locs1 ls hP1 (hD1.weaken (fun k q _ h => g_sub hA hD hS q.1 h)) hS1 hl T1 hT1 (st_tight X1 (by rw [hT1]; omega) (by rw [hT1]; omega))
theorem g_calli {y : MethodName} {bytes : ByteArray} {maxL n index : Nat} {ret : Option FieldType} {wsd : List Cond} {rm : Room} {post : Int32 → cS → Prop} (As : List Value) {b q0 ci : Nat} {fs : List Value} {r0 : vw_C} {Cn : String} (hA : ∀ q, s.heap.size ≤ q → A q) (C : ZC p s m args c cc nL Ts own D (cty G)) (hN : N s) (hNo : NOK N)
    (hM : ∀ sz hs : Nat, Met l y wsd rm (va_Pc (.ref b :: As) (cPre N D G ws sz hs)) (va_Qi post (cAt D G (va_A ws sz) sz hs) (va_A ws sz)) mc ms (va_A ws sz)) (cw : CallW R s args own Cn index y bytes maxL ret wsd rm mc ms n) (he : ws[q0]? = some (b, .inr (ci, fs))) (hc : vwCl[ci]? = some r0) (hcn : r0.1 = Cn) (hn : As.length = n) (hR : cells + mc ≤ R.cells ∧ slots + ms ≤ R.slots) (hW : (rest.map fun v => v.category).sum ≤ 8) (hdg : decode cc pc = .ok (.invokevirtual index, 3)) (st : List Value) (hst : st = As.reverse ++ .ref b :: rest)
    (kk : ∀ (r : Int32) (v : cS), post r v → ZW p l e R s m args below meth c D A nL (cells + v.2.1) (slots + v.2.2) Qp v.1 (pc + 3) lv (.int r :: rest)) : ZW p l e R s m args below meth c D A nL cells slots Qp ws pc lv st := by
  intro H locs ls hP hD hS hl T hT X
  have h0 := st_hs X
  rw [hT] at h0
  subst hst
  refine va_calli (va_runV (As := As) (rest := rest) C.1 (hM H.size (hsum H)) cw ⟨cPre_blind hNo, (by rw [← hcn]; exact va_recv C.2 hP hc he), fun U hU hW => ⟨rfl, by rw [hU], by rw [hU], by rw [hU]; exact hP, va_K.moved hW.alike C.2, hD.weaken (fun _ _ _ _ => trivial), hNo _ _ hW hN⟩⟩ rfl hn hl.1 rfl (lv_room hW) hdg hR) hS (fun q _ h => g_sub hA hD hS q h) (g_sub hA hD hS) (fun r v t H1 locs1 ht hvm hw hB hz1 hk1 hS1 => ?_) T hT X
  obtain ⟨hP1, hK1, hD1, hg1, hg2⟩ := hB
  rw [ht] at hP1 hg1 hg2
  intro T1 hT1 X1
  exact kk r v hw H1 locs1 ls hP1 (hD1.weaken (fun k q _ h => g_sub hA hD hS q.1 h)) hS1 hl T1 hT1 (st_tight X1 (by rw [hT1]; omega) (by rw [hT1]; omega))
theorem g_calll {y : MethodName} {bytes : ByteArray} {maxL n index : Nat} {ret : Option FieldType} {wsd : List Cond} {rm : Room} {post : Int64 → cS → Prop} (As : List Value) {b q0 ci : Nat} {fs : List Value} {r0 : vw_C} {Cn : String} (hA : ∀ q, s.heap.size ≤ q → A q) (C : ZC p s m args c cc nL Ts own D (cty G)) (hN : N s) (hNo : NOK N)
    (hM : ∀ sz hs : Nat, Met l y wsd rm (va_Pc (.ref b :: As) (cPre N D G ws sz hs)) (va_Ql post (cAt D G (va_A ws sz) sz hs) (va_A ws sz)) mc ms (va_A ws sz)) (cw : CallW R s args own Cn index y bytes maxL ret wsd rm mc ms n) (he : ws[q0]? = some (b, .inr (ci, fs))) (hc : vwCl[ci]? = some r0) (hcn : r0.1 = Cn) (hn : As.length = n) (hR : cells + mc ≤ R.cells ∧ slots + ms ≤ R.slots) (hW : (rest.map fun v => v.category).sum ≤ 8) (hdg : decode cc pc = .ok (.invokevirtual index, 3)) (st : List Value) (hst : st = As.reverse ++ .ref b :: rest)
    (kk : ∀ (r : Int64) (v : cS), post r v → ZW p l e R s m args below meth c D A nL (cells + v.2.1) (slots + v.2.2) Qp v.1 (pc + 3) lv (.long r :: rest)) : ZW p l e R s m args below meth c D A nL cells slots Qp ws pc lv st := by
  intro H locs ls hP hD hS hl T hT X
  have h0 := st_hs X
  rw [hT] at h0
  subst hst
  refine va_calll (va_runV (As := As) (rest := rest) C.1 (hM H.size (hsum H)) cw ⟨cPre_blind hNo, (by rw [← hcn]; exact va_recv C.2 hP hc he), fun U hU hW => ⟨rfl, by rw [hU], by rw [hU], by rw [hU]; exact hP, va_K.moved hW.alike C.2, hD.weaken (fun _ _ _ _ => trivial), hNo _ _ hW hN⟩⟩ rfl hn hl.1 rfl (lv_room hW) hdg hR) hS (fun q _ h => g_sub hA hD hS q h) (g_sub hA hD hS) (fun r v t H1 locs1 ht hvm hw hB hz1 hk1 hS1 => ?_) T hT X
  obtain ⟨hP1, hK1, hD1, hg1, hg2⟩ := hB
  rw [ht] at hP1 hg1 hg2
  intro T1 hT1 X1
  exact kk r v hw H1 locs1 ls hP1 (hD1.weaken (fun k q _ h => g_sub hA hD hS q.1 h)) hS1 hl T1 hT1 (st_tight X1 (by rw [hT1]; omega) (by rw [hT1]; omega))
theorem g_callSi {y : MethodName} {bytes : ByteArray} {maxL n index : Nat} {ret : Option FieldType} {wsd : List Cond} {rm : Room} {post : Int32 → cS → Prop} (As : List Value) (hA : ∀ q, s.heap.size ≤ q → A q) (C : ZC p s m args c cc nL Ts own D (cty G)) (hN : N s) (hNo : NOK N)
    (hM : ∀ sz hs : Nat, Met l y wsd rm (va_Pc As (cPre N D G ws sz hs)) (va_Qi post (cAt D G (va_A ws sz) sz hs) (va_A ws sz)) mc ms (va_A ws sz)) (cw : CallB R s args own index y bytes maxL ret wsd rm mc ms n ∧ (Cond.static y).before args s = true) (hn : As.length = n) (hR : cells + mc ≤ R.cells ∧ slots + ms ≤ R.slots) (hW : (rest.map fun v => v.category).sum ≤ 8) (hdg : decode cc pc = .ok (.invokestatic index, 3)) (st : List Value) (hst : st = As.reverse ++ rest)
    (kk : ∀ (r : Int32) (v : cS), post r v → ZW p l e R s m args below meth c D A nL (cells + v.2.1) (slots + v.2.2) Qp v.1 (pc + 3) lv (.int r :: rest)) : ZW p l e R s m args below meth c D A nL cells slots Qp ws pc lv st := by
  intro H locs ls hP hD hS hl T hT X
  have h0 := st_hs X
  rw [hT] at h0
  subst hst
  refine va_calli (va_runS (As := As) (rest := rest) C.1 (hM H.size (hsum H)) cw ⟨cPre_blind hNo, fun U hU hW => ⟨rfl, by rw [hU], by rw [hU], by rw [hU]; exact hP, va_K.moved hW.alike C.2, hD.weaken (fun _ _ _ _ => trivial), hNo _ _ hW hN⟩⟩ rfl hn hl.1 rfl (lv_room hW) hdg hR) hS (fun q _ h => g_sub hA hD hS q h) (g_sub hA hD hS) (fun r v t H1 locs1 ht hvm hw hB hz1 hk1 hS1 => ?_) T hT X
  obtain ⟨hP1, hK1, hD1, hg1, hg2⟩ := hB
  rw [ht] at hP1 hg1 hg2
  intro T1 hT1 X1
  exact kk r v hw H1 locs1 ls hP1 (hD1.weaken (fun k q _ h => g_sub hA hD hS q.1 h)) hS1 hl T1 hT1 (st_tight X1 (by rw [hT1]; omega) (by rw [hT1]; omega))
theorem g_callSl {y : MethodName} {bytes : ByteArray} {maxL n index : Nat} {ret : Option FieldType} {wsd : List Cond} {rm : Room} {post : Int64 → cS → Prop} (As : List Value) (hA : ∀ q, s.heap.size ≤ q → A q) (C : ZC p s m args c cc nL Ts own D (cty G)) (hN : N s) (hNo : NOK N)
    (hM : ∀ sz hs : Nat, Met l y wsd rm (va_Pc As (cPre N D G ws sz hs)) (va_Ql post (cAt D G (va_A ws sz) sz hs) (va_A ws sz)) mc ms (va_A ws sz)) (cw : CallB R s args own index y bytes maxL ret wsd rm mc ms n ∧ (Cond.static y).before args s = true) (hn : As.length = n) (hR : cells + mc ≤ R.cells ∧ slots + ms ≤ R.slots) (hW : (rest.map fun v => v.category).sum ≤ 8) (hdg : decode cc pc = .ok (.invokestatic index, 3)) (st : List Value) (hst : st = As.reverse ++ rest)
    (kk : ∀ (r : Int64) (v : cS), post r v → ZW p l e R s m args below meth c D A nL (cells + v.2.1) (slots + v.2.2) Qp v.1 (pc + 3) lv (.long r :: rest)) : ZW p l e R s m args below meth c D A nL cells slots Qp ws pc lv st := by
  intro H locs ls hP hD hS hl T hT X
  have h0 := st_hs X
  rw [hT] at h0
  subst hst
  refine va_calll (va_runS (As := As) (rest := rest) C.1 (hM H.size (hsum H)) cw ⟨cPre_blind hNo, fun U hU hW => ⟨rfl, by rw [hU], by rw [hU], by rw [hU]; exact hP, va_K.moved hW.alike C.2, hD.weaken (fun _ _ _ _ => trivial), hNo _ _ hW hN⟩⟩ rfl hn hl.1 rfl (lv_room hW) hdg hR) hS (fun q _ h => g_sub hA hD hS q h) (g_sub hA hD hS) (fun r v t H1 locs1 ht hvm hw hB hz1 hk1 hS1 => ?_) T hT X
  obtain ⟨hP1, hK1, hD1, hg1, hg2⟩ := hB
  rw [ht] at hP1 hg1 hg2
  intro T1 hT1 X1
  exact kk r v hw H1 locs1 ls hP1 (hD1.weaken (fun k q _ h => g_sub hA hD hS q.1 h)) hS1 hl T1 hT1 (st_tight X1 (by rw [hT1]; omega) (by rw [hT1]; omega))
theorem g_vret {post : cS → Prop} (hsz : s.heap.size = sz) (hhs : hsum s.heap = hs) (C : ZC p s m args c cc nL Ts own D (cty G)) (hr : meth.sig.returnType = none) (hlocks : meth.locks = false) (hR : cells ≤ mc ∧ slots ≤ ms) (hp : post (ws, cells, slots)) (hdg : decode cc pc = .ok (.return_, 1)) : ZW p l e R s m args below meth c D A nL cells slots (MQ below (va_Qv post (cAt D G A sz hs) A) args s mc ms A) ws pc lv [] := by
  intro H locs ls hP hD hS hl T hT X
  have h0 := st_hs X
  rw [hT] at h0
  have hw : W p l e R s m args below meth c H locs mc ms (MQ below (va_Qv post (cAt D G A sz hs) A) args s mc ms A) (F0 m pc ls []) := W.vret C.1.1 C.1.2.1 hr (fun t ht hW => ⟨⟨(ws, cells, slots), rfl, hp, by rw [ht]; exact hP, va_K.moved hW.alike C.2, hD, by rw [ht, ← hsz]; exact h0.1, by rw [ht, ← hhs]; exact h0.2⟩, hS.F ht⟩) hS.2.2 hdg hlocks
  exact hw T hT (st_tight X (by rw [hT]; omega) (by rw [hT]; omega))
theorem g_iret {post : Int32 → cS → Prop} {v : Int32} (hsz : s.heap.size = sz) (hhs : hsum s.heap = hs) (C : ZC p s m args c cc nL Ts own D (cty G)) (hr : meth.sig.returnType = some .int) (hlocks : meth.locks = false) (hR : cells ≤ mc ∧ slots ≤ ms) (hp : post v (ws, cells, slots)) (hdg : decode cc pc = .ok (.ireturn, 1)) : ZW p l e R s m args below meth c D A nL cells slots (MQ below (va_Qi post (cAt D G A sz hs) A) args s mc ms A) ws pc lv [.int v] := by
  intro H locs ls hP hD hS hl T hT X
  have h0 := st_hs X
  rw [hT] at h0
  have hw : W p l e R s m args below meth c H locs mc ms (MQ below (va_Qi post (cAt D G A sz hs) A) args s mc ms A) (F0 m pc ls [.int v]) := W.iret (v := v) C.1.1 C.1.2.1 hr (fun t ht hW => ⟨⟨v, (ws, cells, slots), rfl, hp, by rw [ht]; exact hP, va_K.moved hW.alike C.2, hD, by rw [ht, ← hsz]; exact h0.1, by rw [ht, ← hhs]; exact h0.2⟩, hS.F ht⟩) hS.2.2 hdg hlocks
  exact hw T hT (st_tight X (by rw [hT]; omega) (by rw [hT]; omega))
theorem g_zret {post : Int32 → cS → Prop} {v : Int32} (hsz : s.heap.size = sz) (hhs : hsum s.heap = hs) (C : ZC p s m args c cc nL Ts own D (cty G)) (hr : meth.sig.returnType = some .boolean) (hn : narrow .boolean (.int v) = .int v) (hlocks : meth.locks = false) (hR : cells ≤ mc ∧ slots ≤ ms) (hp : post v (ws, cells, slots)) (hdg : decode cc pc = .ok (.ireturn, 1)) : ZW p l e R s m args below meth c D A nL cells slots (MQ below (va_Qi post (cAt D G A sz hs) A) args s mc ms A) ws pc lv [.int v] := by
  intro H locs ls hP hD hS hl T hT X
  have h0 := st_hs X
  rw [hT] at h0
  have hw : W p l e R s m args below meth c H locs mc ms (MQ below (va_Qi post (cAt D G A sz hs) A) args s mc ms A) (F0 m pc ls [.int v]) := W.zret (v := v) C.1.1 C.1.2.1 hr hn (fun t ht hW => ⟨⟨v, (ws, cells, slots), rfl, hp, by rw [ht]; exact hP, va_K.moved hW.alike C.2, hD, by rw [ht, ← hsz]; exact h0.1, by rw [ht, ← hhs]; exact h0.2⟩, hS.F ht⟩) hS.2.2 hdg hlocks
  exact hw T hT (st_tight X (by rw [hT]; omega) (by rw [hT]; omega))
theorem g_lret {post : Int64 → cS → Prop} {v : Int64} (hsz : s.heap.size = sz) (hhs : hsum s.heap = hs) (C : ZC p s m args c cc nL Ts own D (cty G)) (hr : meth.sig.returnType = some .long) (hlocks : meth.locks = false) (hR : cells ≤ mc ∧ slots ≤ ms) (hp : post v (ws, cells, slots)) (hdg : decode cc pc = .ok (.lreturn, 1)) : ZW p l e R s m args below meth c D A nL cells slots (MQ below (va_Ql post (cAt D G A sz hs) A) args s mc ms A) ws pc lv [.long v] := by
  intro H locs ls hP hD hS hl T hT X
  have h0 := st_hs X
  rw [hT] at h0
  have hw : W p l e R s m args below meth c H locs mc ms (MQ below (va_Ql post (cAt D G A sz hs) A) args s mc ms A) (F0 m pc ls [.long v]) := W.lret (v := v) C.1.1 C.1.2.1 hr (fun t ht hW => ⟨⟨v, (ws, cells, slots), rfl, hp, by rw [ht]; exact hP, va_K.moved hW.alike C.2, hD, by rw [ht, ← hsz]; exact h0.1, by rw [ht, ← hhs]; exact h0.2⟩, hS.F ht⟩) hS.2.2 hdg hlocks
  exact hw T hT (st_tight X (by rw [hT]; omega) (by rw [hT]; omega))
/-- System.arraycopy from the beginning to the beginning -/
theorem w_copyi (C : ZC p s m args c cc nL Ts own D (cty G)) (ws' : va_W) {index : Nat} (hlink : Cond.methodLink own index arraycopyName ∈ Ts) (hnat : Cond.native arraycopyName ∈ Ts) (hstat : Cond.static arraycopyName ∈ Ts) (hini : Cond.initialized "java/lang/System" ∈ Ts) (q0 q1 : Nat) {a0 a1 n0 n1 : Nat} {f g : Nat → Int32} (ha0 : ws[q0]? = some (a0, .inl (G 0, n0, .inl f))) (ha1 : ws[q1]? = some (a1, .inl (G 0, n1, .inl g))) {z : Int} (n : Nat) (hz : z = n ∧ n ≤ n0 ∧ n ≤ n1 ∧ n < 2147483648) (hframes : 1 ≤ R.frames) (hlocals : (rest.map fun v => v.category).sum + (nativeFrameWords "java/lang/System" "arraycopy" 5 + 11) ≤ R.locals) (hw : ws.set q1 (a1, .inl (G 0, n1, .inl (va_cpy f g 0 0 n))) = ws') (hdg : decode cc pc = .ok (.invokestatic index, 3))
    (kk : ZW p l e R s m args below meth c D A nL cells slots Qp ws' (pc + 3) lv rest) : ZW p l e R s m args below meth c D A nL cells slots Qp ws pc lv (.int (iZ z) :: .int (iZ 0) :: .ref a1 :: .int (iZ 0) :: .ref a0 :: rest) := fun H locs ls hP hD hS hl => by
  have e1 : (iZ z).toNatClampNeg = n := iZ_ix n hz.1 (by omega)
  have e0 : (iZ 0).toNatClampNeg = 0 := rfl
  refine va_copyi (ty := .int) C.1.1 C.1.2.1 (C.1.2.2.1.trans hl.1.symm) C.1.2.2.2.1 (C.1.2.2.2.2 _ hlink) (C.1.2.2.2.2 _ hnat) (C.1.2.2.2.2 _ hstat) (C.1.2.2.2.2 _ hini) C.2 hP hD hS q0 q1 0 0 ha0 ha1 rfl rfl rfl (by decide) (by decide) (fun h => ?_) (by rw [e1, e0]; omega) (by rw [e1, e0]; omega) (fun i hi => rfl) hframes hlocals hdg (fun H1 locs1 hP1 hD1 hS1 => ?_)
  · have := (iZ_lt (a := z) (b := 0) ⟨⟨by omega, by omega⟩, by omega, by omega⟩).1 h
    omega
  · rw [e1, e0, hw] at hP1 hD1
    exact kk H1 locs1 ls hP1 hD1 hS1 hl
end CMET
