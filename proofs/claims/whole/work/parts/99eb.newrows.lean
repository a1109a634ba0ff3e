section NEWR
/-- what the constructors need of the tables beside the words -/
def nC (U : State) : Prop := nW U ∧ va_AO RX2 U ∧ va_AO RX3 U
theorem nC_ok : NOK nC := fun s U hW h => ⟨nW_ok s U hW h.1, va_AO.moved hW.alike h.2.1, va_AO.moved hW.alike h.2.2⟩
variable {p : Program} {l : Launch} {e : Env} {R : Room} {s : State} {m : MethodId} {args : Array Value} {below : List Frame} {meth : Method} {c : Code} {D : va_G} {A : Nat → Prop} {nL cells slots : Nat} {Qp : State → Prop}
variable {cc : ByteArray} {Ts : List Cond} {own : String} {ws : va_W} {pc : Nat} {lv : List (Nat × Value)} {rest : List Value} {G : Nat → ClassId} {N : State → Prop} {sz hs mc ms : Nat}
/-- a new object -/
theorem w_new (C : ZC p s m args c cc nL Ts own D (cty G)) (hA : ∀ q, s.heap.size ≤ q → A q) {Cn : String} {T : u_T} {K ci index : Nat} (hin : ∀ w ∈ u_ws Cn T K, w ∈ Ts) (ty : Nat → FieldType) (hty : ∀ k, k < K → parseFieldDescriptor (T k).2.2.1 = some (ty k)) (hcl : Cond.classLink own index Cn ∈ Ts) (hinst : Cond.instantiable Cn K ∈ Ts) (hini : Cond.initialized Cn ∈ Ts) (hc : vwCl[ci]? = some (Cn, T, K)) (fs : List Value) (hfs : ∀ j, j < K → defaultValue (ty j) = vp_V fs j) (hR : cells + 1 ≤ R.cells ∧ slots + K ≤ R.slots) (hdg : decode cc pc = .ok (.new index, 3))
    (kk : ∀ q : Nat, ZW p l e R s m args below meth c D A nL (cells + 1) (slots + K) Qp ((q, .inr (ci, fs)) :: ws) (pc + 3) lv (.ref q :: rest)) : ZW p l e R s m args below meth c D A nL cells slots Qp ws pc lv rest := fun H locs ls hP hD hS hl =>
  va_new C.1.1 C.1.2.1 C.1.2.2.2.2 hin ty hty C.1.2.2.2.1 (C.1.2.2.2.2 _ hcl) (C.1.2.2.2.2 _ hinst) (C.1.2.2.2.2 _ hini) C.2 hP hD hS hA hc hfs hR.1 hR.2 hdg (fun q H1 hP1 hD1 hS1 => kk q H1 locs ls (va_P_perm (List.perm_append_singleton _ _) hP1) (va_D_perm (List.perm_append_singleton _ _) hD1) hS1 hl)
/-- a new array of longs -/
theorem w_newl (C : ZC p s m args c cc nL Ts own D (cty G)) (hA : ∀ q, s.heap.size ≤ q → A q) (harr : Cond.arrayClass .long ∈ Ts) {z : Int} (n : Nat) (hz : z = n ∧ n ≤ 1000000) (hR : cells + 1 ≤ R.cells ∧ slots + n ≤ R.slots) (hdg : decode cc pc = .ok (.newarray .long, 2)) (kk : ∀ q : Nat, ZW p l e R s m args below meth c D A nL (cells + 1) (slots + n) Qp ((q, .inl (G 1, n, .inr (.inl (fun _ => 0)))) :: ws) (pc + 2) lv (.ref q :: rest)) : ZW p l e R s m args below meth c D A nL cells slots Qp ws pc lv (.int (iZ z) :: rest) := fun H locs ls hP hD hS hl => by
  refine va_newa (N' := n) (a0 := (n, .inr (.inl (fun _ => 0)))) C.1.1 C.1.2.1 (atype := .long) (C.1.2.2.2.2 _ harr) (ty := .long) rfl C.2 hP hD hS hA (fun cA => rfl) (fun h => ?_) (iZ_ix n hz.1 (by omega)) (by show n * 8 ≤ 536870912; omega) hR.1 hR.2 hdg (fun q cA H1 hK1 hP1 hD1 hS1 => ?_)
  · have := (iZ_lt (a := z) (b := 0) ⟨⟨by omega, by omega⟩, by omega, by omega⟩).1 h
    omega
  · have e1 := (hK1.2 6 (cA, .long) rfl).2
    have e2 := (hK1.2 1 (G 1, .long) rfl).2
    have e3 : cA = G 1 := Option.some.inj ((show s.vm.findClass _ = some cA from e1).symm.trans e2)
    subst e3
    exact kk q H1 locs ls (va_P_perm (List.perm_append_singleton _ _) hP1) (va_D_perm (List.perm_append_singleton _ _) hD1) hS1 hl
/-- a new array of booleans -/
theorem w_newz (C : ZC p s m args c cc nL Ts own D (cty G)) (hA : ∀ q, s.heap.size ≤ q → A q) (harr : Cond.arrayClass .boolean ∈ Ts) {z : Int} (n : Nat) (hz : z = n ∧ n ≤ 1000000) (hR : cells + 1 ≤ R.cells ∧ slots + n ≤ R.slots) (hdg : decode cc pc = .ok (.newarray .boolean, 2)) (kk : ∀ q : Nat, ZW p l e R s m args below meth c D A nL (cells + 1) (slots + n) Qp ((q, .inl (G 2, n, .inl (fun _ => 0))) :: ws) (pc + 2) lv (.ref q :: rest)) : ZW p l e R s m args below meth c D A nL cells slots Qp ws pc lv (.int (iZ z) :: rest) := fun H locs ls hP hD hS hl => by
  refine va_newa (N' := n) (a0 := (n, .inl (fun _ => 0))) C.1.1 C.1.2.1 (atype := .boolean) (C.1.2.2.2.2 _ harr) (ty := .boolean) rfl C.2 hP hD hS hA (fun cA => rfl) (fun h => ?_) (iZ_ix n hz.1 (by omega)) (by show n * 1 ≤ 536870912; omega) hR.1 hR.2 hdg (fun q cA H1 hK1 hP1 hD1 hS1 => ?_)
  · have := (iZ_lt (a := z) (b := 0) ⟨⟨by omega, by omega⟩, by omega, by omega⟩).1 h
    omega
  · have e1 := (hK1.2 6 (cA, .boolean) rfl).2
    have e2 := (hK1.2 2 (G 2, .boolean) rfl).2
    have e3 : cA = G 2 := Option.some.inj ((show s.vm.findClass _ = some cA from e1).symm.trans e2)
    subst e3
    exact kk q H1 locs ls (va_P_perm (List.perm_append_singleton _ _) hP1) (va_D_perm (List.perm_append_singleton _ _) hD1) hS1 hl
/-- a new array of objects: t0 is 4 (Whole) or 5 (Poly) -/
theorem w_anew (C : ZC p s m args c cc nL Ts own D (cty G)) (hA : ∀ q, s.heap.size ≤ q → A q) {Cn : String} {index : Nat} (hcl : Cond.classLink own index Cn ∈ Ts) (hover : va_AO Cn s) (t0 : Nat) (ht : (cty G)[t0]? = some (G t0, .object Cn)) {z : Int} (n : Nat) (hz : z = n ∧ n ≤ 1000000) (hR : cells + 1 ≤ R.cells ∧ slots + n ≤ R.slots) (hdg : decode cc pc = .ok (.anewarray index, 3)) (kk : ∀ q : Nat, ZW p l e R s m args below meth c D A nL (cells + 1) (slots + n) Qp ((q, .inl (G t0, n, .inr (.inr (.inr (.inr (fun _ => none)))))) :: ws) (pc + 3) lv (.ref q :: rest)) : ZW p l e R s m args below meth c D A nL cells slots Qp ws pc lv (.int (iZ z) :: rest) := fun H locs ls hP hD hS hl => by
  refine va_newq (N' := n) C.1.1 C.1.2.1 C.1.2.2.2.1 (C.1.2.2.2.2 _ hcl) hover C.2 hP hD hS hA (fun h => ?_) (iZ_ix n hz.1 (by omega)) (by omega) hR.1 hR.2 hdg (fun q cA H1 hK1 hP1 hD1 hS1 => ?_)
  · have := (iZ_lt (a := z) (b := 0) ⟨⟨by omega, by omega⟩, by omega, by omega⟩).1 h
    omega
  · obtain ⟨_, _, _, _, _, e1⟩ := (hK1.2 6 (cA, .object Cn) rfl).2
    obtain ⟨_, _, _, _, _, e2⟩ := (C.2.2 t0 (G t0, .object Cn) ht).2
    have e3 : cA = G t0 := Option.some.inj (e1.symm.trans e2)
    subst e3
    exact kk q H1 locs ls (va_P_perm (List.perm_append_singleton _ _) hP1) (va_D_perm (List.perm_append_singleton _ _) hD1) hS1 hl
/-- an object into an array of objects -/
theorem w_aast (C : ZC p s m args c cc nL Ts own D (cty G)) (ws' : va_W) (q0 t0 qk ci : Nat) {cA : ClassId} {r : vw_C} {ad n v : Nat} {vs : List Value} {f : Nat → Option Nat} (ha : ws[q0]? = some (ad, .inl (cA, n, .inr (.inr (.inr (.inr f)))))) (ht : (cty G)[t0]? = some (cA, .object r.1)) (hv : ws[qk]? = some (v, .inr (ci, vs))) (hc : vwCl[ci]? = some r) {i : Int} (ix : Nat) (hi : i = ix ∧ ix < n ∧ n < 2147483648) (hw : ws.set q0 (ad, .inl (cA, n, .inr (.inr (.inr (.inr (va_up f ix (some v))))))) = ws') (hdg : decode cc pc = .ok (.aastore, 1)) (kk : ZW p l e R s m args below meth c D A nL cells slots Qp ws' (pc + 1) lv rest) : ZW p l e R s m args below meth c D A nL cells slots Qp ws pc lv (.ref v :: .int (iZ i) :: .ref ad :: rest) := fun H locs ls hP hD hS hl =>
  va_astq C.1.1 C.1.2.1 C.2 hP hD hS q0 t0 qk ci ha ht hv hc (iZ_in (by omega) (by omega) hi.2.2) hdg (by rw [iZ_ix ix hi.1 (by omega)]; exact fun H1 locs1 hP1 hD1 hS1 => kk H1 locs1 ls (hw ▸ hP1) (hw ▸ hD1) hS1 hl)
/-- Object's constructor -/
theorem w_objI (C : ZC p s m args c cc nL Ts own D (cty G)) {index ad : Nat} (hlink : Cond.methodLink own index objectInit ∈ Ts) (hinst : Cond.instanceMethod objectInit ∈ Ts) (hcode : Cond.code objectInit ⟨#[0xb1]⟩ 1 none ∈ Ts) (hf : 1 ≤ R.frames) (hlo : (rest.map fun v => v.category).sum + 12 ≤ R.locals) (hdg : decode cc pc = .ok (.invokespecial index, 3)) (kk : ZW p l e R s m args below meth c D A nL cells slots Qp ws (pc + 3) lv rest) : ZW p l e R s m args below meth c D A nL cells slots Qp ws pc lv (.ref ad :: rest) := fun H locs ls hP hD hS hl => by
  refine W.objInit C.1.1 C.1.2.1 C.1.2.2.2.1 (C.1.2.2.2.2 _ hlink) (C.1.2.2.2.2 _ hinst) (C.1.2.2.2.2 _ hcode) rfl (by rw [C.1.2.2.1]; exact hl.1) rfl hdg hf (by show 2 * (F0 m pc ls _).monitorRoom + _ + 12 ≤ _; have e0 : (F0 m pc ls (.ref ad :: rest)).monitorRoom = 0 := rfl; omega) ?_
  exact kk H locs ls hP hD hS hl
/-- a final field, in its constructor -/
theorem w_putF (C : ZC p s m args c cc nL Ts own D (cty G)) (hname : meth.name = "<init>") (ws' : va_W) {Cn : String} {T : u_T} {K ci index ad : Nat} (hin : ∀ w ∈ u_ws Cn T K, w ∈ Ts) (ty0 : Nat → FieldType) (hty : ∀ k, k < K → parseFieldDescriptor (T k).2.2.1 = some (ty0 k)) (hnm : ∀ a, a < K → ∀ b, b < K → a ≠ b → (T a).2.1 ≠ (T b).2.1) (q0 : Nat) {fs : List Value} (he : ws[q0]? = some (ad, .inr (ci, fs))) (hc : vwCl[ci]? = some (Cn, T, K)) (k : Nat) (hk : k < K) (hlink : Cond.fieldLink own index own (T k).2.1 (T k).2.2.1 ∈ Ts) (hsame : (T k).1 = own) (hfin : (T k).2.2.2 = true) {ty : FieldType} {v : Value} (hd : parseFieldDescriptor (T k).2.2.1 = some ty) (hn : narrow ty v = v) (hfit : fits ty v = true) (hl : k < fs.length) (hw : ws.set q0 (ad, .inr (ci, fs.set k v)) = ws') (hdg : decode cc pc = .ok (.putfield index, 3)) (kk : ZW p l e R s m args below meth c D A nL cells slots Qp ws' (pc + 3) lv rest) : ZW p l e R s m args below meth c D A nL cells slots Qp ws pc lv (v :: .ref ad :: rest) := fun H locs ls hP hD hS hl2 =>
  va_putF C.1.1 C.1.2.1 C.1.2.2.2.2 hin ty0 hty hnm C.1.2.2.2.1 C.2 hP hD hS q0 he hc k hk (C.1.2.2.2.2 _ hlink) (fun _ h9 => hsame ▸ h9) hfin hname hsame hd hn hfit hl hdg (fun H1 locs1 hP1 hD1 hS1 => kk H1 locs1 ls (hw ▸ hP1) (hw ▸ hD1) hS1 hl2)
/-- an array's function matters below its length only -/
theorem vp_same (cA : ClassId) (n : Nat) {f g : Nat → Option Nat} (h : ∀ i : Nat, i < n → f i = g i) : vp_cell cA (n, .inr (.inr (.inr (.inr f)))) = vp_cell cA (n, .inr (.inr (.inr (.inr g)))) := by
  rw [vp_cell_q, vp_cell_q]
  unfold arrV
  congr 2
  funext j
  show va_rf (f j.val) = va_rf (g j.val)
  rw [h j.val j.isLt]
theorem w_acg {x : Nat} {cA : ClassId} {n : Nat} {f g : Nat → Option Nat} (h : ∀ i : Nat, i < n → f i = g i) (kk : ZW p l e R s m args below meth c D A nL cells slots Qp ((x, .inl (cA, n, .inr (.inr (.inr (.inr g))))) :: ws) pc lv rest) : ZW p l e R s m args below meth c D A nL cells slots Qp ((x, .inl (cA, n, .inr (.inr (.inr (.inr f))))) :: ws) pc lv rest := fun H locs ls hP hD hS hl => by
  refine kk H locs ls (fun k q hq => ?_) ?_ hS hl
  · cases k with
    | zero =>
      cases hq
      have := hP 0 _ rfl
      show H[x]? = some (vp_cell cA _)
      rw [← vp_same cA n h]
      exact this
    | succ k => exact hP (k + 1) q hq
  · rw [va_D_nd] at hD ⊢
    refine ⟨hD.1, fun q hq => ?_⟩
    rcases List.mem_cons.1 hq with u | u
    · rw [u]; exact hD.2 (x, .inl (cA, n, .inr (.inr (.inr (.inr f))))) List.mem_cons_self
    · exact hD.2 q (List.mem_cons_of_mem _ u)
/-- a constructor, from its entry -/
theorem g_metI {y : MethodName} {ws0 ws' : List Cond} {rm : Room} {as : List Value} {wd : va_W} {Qc : Array Value → State → Outcome → State → Prop} {free : Addr → Prop} {cc : ByteArray} {maxL : Nat} {ret : Option FieldType}
    (hy : plainName y.cls = true) (hc : y.cls = own) (hyn : y.name = "<init>") (hw : ws0 = Cond.code y cc maxL ret :: ws') (hlen : (lg_sl as).length ≤ maxL)
    (body : ∀ (p : Program) (e : Env) (s : State) (m : MethodId) (below : List Frame) (meth : Method) (c : Code), s.heap.size = sz → hsum s.heap = hs → N s → (∀ q, s.heap.size ≤ q → va_A wd sz q) → ZC p s m as.toArray c cc maxL ws0 own D (cty G) → meth.sig.returnType = ret → meth.locks = false → meth.name = "<init>" →
      ZW p l e rm s m as.toArray below meth c D (va_A wd sz) maxL 0 0 (MQ below Qc as.toArray s mc ms free) wd 0 (lv_args 0 as) []) : Met l y ws0 rm (va_Pc as (cPre N D G wd sz hs)) Qc mc ms free := by
  refine Met.ofW (cc := cc) (maxL := maxL) (ret := ret) hy hw ?_
  intro p e s m args below meth c s₁ B hml hv
  obtain ⟨rfl, hsz, hhs, hP, hK, hD, hN⟩ := hv
  have hown : s.vm.findClass own = some m.cls := by rw [← hc]; exact findClass_of_methodNamed B.named
  have hts := atoms_spec (ws := ws0) B.pre
  have hl := lv_entry as (n := maxL) hlen
  have hnm : meth.name = "<init>" := by rw [← hyn]; exact (name_of_methodNamed B.named B.method).1
  rw [lg_entry_eq]
  generalize (lg_sl as ++ List.replicate (maxL - (lg_sl as).length) Slot.unset).toArray = ls at hl ⊢
  exact body p e s m below meth c hsz hhs hN (fun q h => Or.inr (by omega)) ⟨⟨B.exec, B.bytes, hml, hown, hts⟩, hK⟩ B.returns B.notSynchronized hnm s.heap [] ls hP hD.self va_S.rf hl
/-- a constructor's call, of a nest mate -/
theorem g_callN {y : MethodName} {bytes : ByteArray} {maxL n index : Nat} {host : String} {wsd : List Cond} {rm : Room} {post : cS → Prop} (As : List Value) {b : Nat} (hA : ∀ q, s.heap.size ≤ q → A q) (C : ZC p s m args c cc nL Ts own D (cty G)) (hN : N s) (hNo : NOK N)
    (hM : ∀ sz hs : Nat, Met l y wsd rm (va_Pc (.ref b :: As) (cPre N D G ws sz hs)) (va_Qv post (cAt D G (va_A ws sz) sz hs) (va_A ws sz)) mc ms (va_A ws sz)) (cw : va_CN R s args own index y host bytes maxL none wsd rm mc ms n ∧ y.name = "<init>" ∧ (Cond.instanceMethod y).before args s = true) (hn : As.length = n) (hR : cells + mc ≤ R.cells ∧ slots + ms ≤ R.slots) (hW : (rest.map fun v => v.category).sum ≤ 8) (hdg : decode cc pc = .ok (.invokespecial index, 3)) (st : List Value) (hst : st = As.reverse ++ .ref b :: rest)
    (kk : ∀ (v : cS), post v → ZW p l e R s m args below meth c D A nL (cells + v.2.1) (slots + v.2.2) Qp v.1 (pc + 3) lv rest) : ZW p l e R s m args below meth c D A nL cells slots Qp ws pc lv st := by
  intro H locs ls hP hD hS hl T hT X
  have h0 := st_hs X
  rw [hT] at h0
  subst hst
  refine va_callv (va_runIN (As := As) (rest := rest) C.1 (hM H.size (hsum H)) cw ⟨cPre_blind hNo, fun U hU hW => ⟨rfl, by rw [hU], by rw [hU], by rw [hU]; exact hP, va_K.moved hW.alike C.2, hD.weaken (fun _ _ _ _ => trivial), hNo _ _ hW hN⟩⟩ rfl hn hl.1 rfl (lv_room hW) hdg hR) hS (fun q _ h => g_sub hA hD hS q h) (g_sub hA hD hS) (fun v t H1 locs1 ht hvm hw hB hz1 hk1 hS1 => ?_) T hT X
  obtain ⟨hP1, hK1, hD1, hg1, hg2⟩ := hB
  rw [ht] at hP1 hg1 hg2
  intro T1 hT1 X1
  exact kk v hw H1 locs1 ls hP1 (hD1.weaken (fun k q _ h => g_sub hA hD hS q.1 h)) hS1 hl T1 hT1 (st_tight X1 (by rw [hT1]; omega) (by rw [hT1]; omega))
/-- a constructor's call -/
theorem g_callI {y : MethodName} {bytes : ByteArray} {maxL n index : Nat} {wsd : List Cond} {rm : Room} {post : cS → Prop} (As : List Value) {b : Nat} (hA : ∀ q, s.heap.size ≤ q → A q) (C : ZC p s m args c cc nL Ts own D (cty G)) (hN : N s) (hNo : NOK N)
    (hM : ∀ sz hs : Nat, Met l y wsd rm (va_Pc (.ref b :: As) (cPre N D G ws sz hs)) (va_Qv post (cAt D G (va_A ws sz) sz hs) (va_A ws sz)) mc ms (va_A ws sz)) (cw : CallB R s args own index y bytes maxL none wsd rm mc ms n ∧ y.name = "<init>" ∧ (Cond.instanceMethod y).before args s = true) (hn : As.length = n) (hR : cells + mc ≤ R.cells ∧ slots + ms ≤ R.slots) (hW : (rest.map fun v => v.category).sum ≤ 8) (hdg : decode cc pc = .ok (.invokespecial index, 3)) (st : List Value) (hst : st = As.reverse ++ .ref b :: rest)
    (kk : ∀ (v : cS), post v → ZW p l e R s m args below meth c D A nL (cells + v.2.1) (slots + v.2.2) Qp v.1 (pc + 3) lv rest) : ZW p l e R s m args below meth c D A nL cells slots Qp ws pc lv st := by
  intro H locs ls hP hD hS hl T hT X
  have h0 := st_hs X
  rw [hT] at h0
  subst hst
  refine va_callv (va_runI (As := As) (rest := rest) C.1 (hM H.size (hsum H)) cw ⟨cPre_blind hNo, fun U hU hW => ⟨rfl, by rw [hU], by rw [hU], by rw [hU]; exact hP, va_K.moved hW.alike C.2, hD.weaken (fun _ _ _ _ => trivial), hNo _ _ hW hN⟩⟩ rfl hn hl.1 rfl (lv_room hW) hdg hR) hS (fun q _ h => g_sub hA hD hS q h) (g_sub hA hD hS) (fun v t H1 locs1 ht hvm hw hB hz1 hk1 hS1 => ?_) T hT X
  obtain ⟨hP1, hK1, hD1, hg1, hg2⟩ := hB
  rw [ht] at hP1 hg1 hg2
  intro T1 hT1 X1
  exact kk v hw H1 locs1 ls hP1 (hD1.weaken (fun k q _ h => g_sub hA hD hS q.1 h)) hS1 hl T1 hT1 (st_tight X1 (by rw [hT1]; omega) (by rw [hT1]; omega))
end NEWR
