section MWORLD
/-- what the reference holds beside its numbers: isFound, many, levels, cells, second, the two given rows -/
abbrev mX : Type := Int32 × Int32 × (Nat → Int32) × (Nat → Int64) × (Nat → Int32) × (Nat → Int32) × (Nat → Int32)
abbrev mT : Type := (Nat → Int32) × (Nat → Int32) × (Nat → Int32) × (Nat → Int32) × mX
/-- the reference's cells: the object, limbs, sizes, signs, degrees, given, levels, cells, second, the two rows of given -/
def mW (Q : Nat → Nat) (G : Nat → ClassId) (fL fS fN fD : Nat → Int32) (X : mX) : va_W :=
  [(Q 0, .inr (5, [.ref (Q 5), .ref (Q 1), .ref (Q 2), .ref (Q 3), .ref (Q 4), .int X.1, .int X.2.1, .ref (Q 6), .ref (Q 7), .ref (Q 8)])),
   (Q 1, .inl (G 0, 90240, .inl fL)), (Q 2, .inl (G 0, 141, .inl fS)), (Q 3, .inl (G 0, 141, .inl fN)), (Q 4, .inl (G 0, 15, .inl fD)),
   (Q 5, .inl (G 3, 2, .inr (.inr (.inr (.inr (fun j => some (Q (9 + j)))))))),
   (Q 6, .inl (G 0, 8, .inl X.2.2.1)), (Q 7, .inl (G 1, 8, .inr (.inl X.2.2.2.1))), (Q 8, .inl (G 2, 4000, .inl X.2.2.2.2.1)),
   (Q 9, .inl (G 0, 9, .inl X.2.2.2.2.2.1)), (Q 10, .inl (G 0, 9, .inl X.2.2.2.2.2.2))]
def mU (Q : Nat → Nat) (G : Nat → ClassId) (u : mT) : va_W := mW Q G u.1 u.2.1 u.2.2.1 u.2.2.2.1 u.2.2.2.2
abbrev mty (G : Nat → ClassId) : List (ClassId × FieldType) := [(G 0, .int), (G 1, .long), (G 2, .boolean), (G 3, .array .int)]
/-- the reference's addresses, and all that come later -/
def mA (Q : Nat → Nat) (sz : Nat) : Nat → Prop := fun q => (∃ k : Nat, k < 11 ∧ q = Q k) ∨ sz ≤ q
def mPre (D : va_G) (Q : Nat → Nat) (G : Nat → ClassId) (u : mT) (sz : Nat) : State → Prop := fun U => U.heap.size = sz ∧ va_P D vwCl (mU Q G u) U.heap ∧ va_K D vwCl (mty G) U ∧ va_D (fun _ => True) (mU Q G u)
def mAt (D : va_G) (Q : Nat → Nat) (G : Nat → ClassId) (A : Nat → Prop) : mT → State → Prop := fun u t => va_P D vwCl (mU Q G u) t.heap ∧ va_K D vwCl (mty G) t ∧ va_D A (mU Q G u)
theorem mU_in {Q : Nat → Nat} {G : Nat → ClassId} {u : mT} {k : Nat} {q : Nat × va_E} (h : (mU Q G u)[k]? = some q) : ∃ k : Nat, k < 11 ∧ q.1 = Q k := by
  unfold mU mW at h
  match k, h with
  | 0, h => cases h; exact ⟨0, by omega, rfl⟩
  | 1, h => cases h; exact ⟨1, by omega, rfl⟩
  | 2, h => cases h; exact ⟨2, by omega, rfl⟩
  | 3, h => cases h; exact ⟨3, by omega, rfl⟩
  | 4, h => cases h; exact ⟨4, by omega, rfl⟩
  | 5, h => cases h; exact ⟨5, by omega, rfl⟩
  | 6, h => cases h; exact ⟨6, by omega, rfl⟩
  | 7, h => cases h; exact ⟨7, by omega, rfl⟩
  | 8, h => cases h; exact ⟨8, by omega, rfl⟩
  | 9, h => cases h; exact ⟨9, by omega, rfl⟩
  | 10, h => cases h; exact ⟨10, by omega, rfl⟩
  | k + 11, h => simp at h
theorem mPre_blind {D : va_G} {Q : Nat → Nat} {G : Nat → ClassId} {u : mT} {sz : Nat} {as : List Value} : FrameBlind (va_Pc as (mPre D Q G u sz)) := fun a U g mk q => by
  obtain ⟨q0, q1, qP, qK, qD⟩ := q
  exact ⟨q0, q1, qP, va_K.moved (u := U) (U := U.calling g mk a) (Vm.Alike.refl U.vm) qK, qD⟩
/-- a method of the reference, from its entry -/
theorem m_met {l : Launch} {y : MethodName} {ws ws' : List Cond} {rm : Room} {as : List Value} {D : va_G} {Q : Nat → Nat} {G : Nat → ClassId} {u : mT} {sz mc ms : Nat} {Qc : Array Value → State → Outcome → State → Prop} {free : Addr → Prop} {cc : ByteArray} {maxL : Nat} {ret : Option FieldType}
    (hy : plainName y.cls = true) (hc : y.cls = RX5) (hw : ws = Cond.code y cc maxL ret :: ws') (hlen : (lg_sl as).length ≤ maxL)
    (body : ∀ (p : Program) (e : Env) (s : State) (m : MethodId) (below : List Frame) (meth : Method) (c : Code), s.heap.size = sz → ZC p s m as.toArray c cc maxL ws RX5 D (mty G) → meth.sig.returnType = ret → meth.locks = false →
      ZW p l e rm s m as.toArray below meth c D (mA Q sz) maxL 0 0 (MQ below Qc as.toArray s mc ms free) (mU Q G u) 0 (lv_args 0 as) []) : Met l y ws rm (va_Pc as (mPre D Q G u sz)) Qc mc ms free := by
  refine Met.ofW (cc := cc) (maxL := maxL) (ret := ret) hy hw ?_
  intro p e s m args below meth c s₁ B hml hv
  obtain ⟨rfl, hsz, hP, hK, hD⟩ := hv
  have hown : s.vm.findClass RX5 = some m.cls := by rw [← hc]; exact findClass_of_methodNamed B.named
  have hts := atoms_spec (ws := ws) B.pre
  have hl := lv_entry as (n := maxL) hlen
  rw [lg_entry_eq]
  generalize (lg_sl as ++ List.replicate (maxL - (lg_sl as).length) Slot.unset).toArray = ls at hl ⊢
  exact body p e s m below meth c hsz ⟨⟨B.exec, B.bytes, hml, hown, hts⟩, hK⟩ B.returns B.notSynchronized s.heap [] ls hP (hD.weaken (fun k q h _ => Or.inl (mU_in h))) va_S.rf hl
variable {p : Program} {l : Launch} {e : Env} {R : Room} {s : State} {m : MethodId} {args : Array Value} {below : List Frame} {meth : Method} {c : Code} {D : va_G} {nL cells slots : Nat} {Qp : State → Prop}
variable {cc : ByteArray} {Ts : List Cond} {pc : Nat} {lv : List (Nat × Value)} {rest : List Value} {Q : Nat → Nat} {G : Nat → ClassId} {u : mT} {sz : Nat}
theorem mA_sub {H : Heap} {locs : List Loc} (hsz : s.heap.size = sz) (hS : va_S (mA Q sz) s.heap H locs) : ∀ q, mA Q H.size q → mA Q sz q := fun q h => by
  rcases h with h | h
  · exact Or.inl h
  · have := hS.1
    exact Or.inr (by omega)
/-- a call of a method of the reference's own that gives nothing back -/
theorem m_callv {y : MethodName} {bytes : ByteArray} {maxL n index : Nat} {ret : Option FieldType} {ws : List Cond} {rm : Room} {post : mT → Prop} (As : List Value) (hsz : s.heap.size = sz) (C : ZC p s m args c cc nL Ts RX5 D (mty G))
    (hM : ∀ z : Nat, Met l y ws rm (va_Pc (.ref (Q 0) :: As) (mPre D Q G u z)) (va_Qv post (mAt D Q G (mA Q z)) (mA Q z)) 0 0 (mA Q z)) (cw : CallW R s args RX5 RX5 index y bytes maxL ret ws rm 0 0 n) (hn : As.length = n) (hR : cells ≤ R.cells ∧ slots ≤ R.slots) (hW : (rest.map fun v => v.category).sum ≤ 8) (hdg : decode cc pc = .ok (.invokevirtual index, 3)) (st : List Value) (hst : st = As.reverse ++ .ref (Q 0) :: rest)
    (kk : ∀ v : mT, post v → ZW p l e R s m args below meth c D (mA Q sz) nL cells slots Qp (mU Q G v) (pc + 3) lv rest) : ZW p l e R s m args below meth c D (mA Q sz) nL cells slots Qp (mU Q G u) pc lv st := by
  intro H locs ls hP hD hS hl
  subst hst
  refine va_callv (va_runV (As := As) (rest := rest) C.1 (hM H.size) cw ⟨mPre_blind, va_recv C.2 hP (ci := 5) (q0 := 0) rfl rfl, fun U hU hW => ⟨rfl, by rw [hU], by rw [hU]; exact hP, va_K.moved hW.alike C.2, hD.weaken (fun _ _ _ _ => trivial)⟩⟩ rfl hn hl.1 rfl (lv_room hW) hdg hR) hS (fun q _ h => mA_sub hsz hS q h) (mA_sub hsz hS) (fun v t H1 locs1 ht hvm hw hB hz1 hk1 hS1 => ?_)
  obtain ⟨hP1, hK1, hD1⟩ := hB
  rw [ht] at hP1
  exact kk v hw H1 locs1 ls hP1 (hD1.weaken (fun k q _ h => mA_sub hsz hS q.1 h)) hS1 hl
theorem m_calli {y : MethodName} {bytes : ByteArray} {maxL n index : Nat} {ret : Option FieldType} {ws : List Cond} {rm : Room} {post : Int32 → mT → Prop} (As : List Value) (hsz : s.heap.size = sz) (C : ZC p s m args c cc nL Ts RX5 D (mty G))
    (hM : ∀ z : Nat, Met l y ws rm (va_Pc (.ref (Q 0) :: As) (mPre D Q G u z)) (va_Qi post (mAt D Q G (mA Q z)) (mA Q z)) 0 0 (mA Q z)) (cw : CallW R s args RX5 RX5 index y bytes maxL ret ws rm 0 0 n) (hn : As.length = n) (hR : cells ≤ R.cells ∧ slots ≤ R.slots) (hW : (rest.map fun v => v.category).sum ≤ 8) (hdg : decode cc pc = .ok (.invokevirtual index, 3)) (st : List Value) (hst : st = As.reverse ++ .ref (Q 0) :: rest)
    (kk : ∀ (r : Int32) (v : mT), post r v → ZW p l e R s m args below meth c D (mA Q sz) nL cells slots Qp (mU Q G v) (pc + 3) lv (.int r :: rest)) : ZW p l e R s m args below meth c D (mA Q sz) nL cells slots Qp (mU Q G u) pc lv st := by
  intro H locs ls hP hD hS hl
  subst hst
  refine va_calli (va_runV (As := As) (rest := rest) C.1 (hM H.size) cw ⟨mPre_blind, va_recv C.2 hP (ci := 5) (q0 := 0) rfl rfl, fun U hU hW => ⟨rfl, by rw [hU], by rw [hU]; exact hP, va_K.moved hW.alike C.2, hD.weaken (fun _ _ _ _ => trivial)⟩⟩ rfl hn hl.1 rfl (lv_room hW) hdg hR) hS (fun q _ h => mA_sub hsz hS q h) (mA_sub hsz hS) (fun r v t H1 locs1 ht hvm hw hB hz1 hk1 hS1 => ?_)
  obtain ⟨hP1, hK1, hD1⟩ := hB
  rw [ht] at hP1
  exact kk r v hw H1 locs1 ls hP1 (hD1.weaken (fun k q _ h => mA_sub hsz hS q.1 h)) hS1 hl
/-- the ends -/
theorem m_vret {post : mT → Prop} (hsz : s.heap.size = sz) (C : ZC p s m args c cc nL Ts RX5 D (mty G)) (hr : meth.sig.returnType = none) (hlocks : meth.locks = false) (hp : post u) (hdg : decode cc pc = .ok (.return_, 1)) : ZW p l e R s m args below meth c D (mA Q sz) nL cells slots (MQ below (va_Qv post (mAt D Q G (mA Q sz)) (mA Q sz)) args s cells slots (mA Q sz)) (mU Q G u) pc lv [] := by
  intro H locs ls hP hD hS hl
  exact W.vret C.1.1 C.1.2.1 hr (fun t ht hW => ⟨⟨u, rfl, hp, by rw [ht]; exact hP, va_K.moved hW.alike C.2, hD⟩, hS.F ht⟩) hS.2.2 hdg
theorem m_iret {post : Int32 → mT → Prop} {v : Int32} (hsz : s.heap.size = sz) (C : ZC p s m args c cc nL Ts RX5 D (mty G)) (hr : meth.sig.returnType = some .int) (hlocks : meth.locks = false) (hp : post v u) (hdg : decode cc pc = .ok (.ireturn, 1)) : ZW p l e R s m args below meth c D (mA Q sz) nL cells slots (MQ below (va_Qi post (mAt D Q G (mA Q sz)) (mA Q sz)) args s cells slots (mA Q sz)) (mU Q G u) pc lv [.int v] := by
  intro H locs ls hP hD hS hl
  exact W.iret (v := v) C.1.1 C.1.2.1 hr (fun t ht hW => ⟨⟨v, u, rfl, hp, by rw [ht]; exact hP, va_K.moved hW.alike C.2, hD⟩, hS.F ht⟩) hS.2.2 hdg
theorem m_zret {post : Int32 → mT → Prop} {v : Int32} (hsz : s.heap.size = sz) (C : ZC p s m args c cc nL Ts RX5 D (mty G)) (hr : meth.sig.returnType = some .boolean) (hn : narrow .boolean (.int v) = .int v) (hlocks : meth.locks = false) (hp : post v u) (hdg : decode cc pc = .ok (.ireturn, 1)) : ZW p l e R s m args below meth c D (mA Q sz) nL cells slots (MQ below (va_Qi post (mAt D Q G (mA Q sz)) (mA Q sz)) args s cells slots (mA Q sz)) (mU Q G u) pc lv [.int v] := by
  intro H locs ls hP hD hS hl
  exact W.zret (v := v) C.1.1 C.1.2.1 hr hn (fun t ht hW => ⟨⟨v, u, rfl, hp, by rw [ht]; exact hP, va_K.moved hW.alike C.2, hD⟩, hS.F ht⟩) hS.2.2 hdg
end MWORLD
