section MSTAT
variable {p : Program} {l : Launch} {e : Env} {R : Room} {s : State} {m : MethodId} {args : Array Value} {below : List Frame} {meth : Method} {c : Code} {D : va_G} {nL cells slots : Nat} {Qp : State → Prop}
variable {cc : ByteArray} {Ts : List Cond} {pc : Nat} {lv : List (Nat × Value)} {rest : List Value} {Q : Nat → Nat} {G : Nat → ClassId} {u : mT} {sz : Nat}
/-- a call of a static method of the reference's own -/
theorem m_callSi {y : MethodName} {bytes : ByteArray} {maxL n index : Nat} {ret : Option FieldType} {ws : List Cond} {rm : Room} {post : Int32 → mT → Prop} (As : List Value) (hsz : s.heap.size = sz) (C : ZC p s m args c cc nL Ts RX5 D (mty G))
    (hM : ∀ z : Nat, Met l y ws rm (va_Pc As (mPre D Q G u z)) (va_Qi post (mAt D Q G (mA Q z)) (mA Q z)) 0 0 (mA Q z)) (cw : CallB R s args RX5 index y bytes maxL ret ws rm 0 0 n ∧ (Cond.static y).before args s = true) (hn : As.length = n) (hR : cells ≤ R.cells ∧ slots ≤ R.slots) (hW : (rest.map fun v => v.category).sum ≤ 8) (hdg : decode cc pc = .ok (.invokestatic index, 3)) (st : List Value) (hst : st = As.reverse ++ rest)
    (kk : ∀ (r : Int32) (v : mT), post r v → ZW p l e R s m args below meth c D (mA Q sz) nL cells slots Qp (mU Q G v) (pc + 3) lv (.int r :: rest)) : ZW p l e R s m args below meth c D (mA Q sz) nL cells slots Qp (mU Q G u) pc lv st := by
  intro H locs ls hP hD hS hl
  subst hst
  refine va_calli (va_runS (As := As) (rest := rest) C.1 (hM H.size) cw ⟨mPre_blind, fun U hU hW => ⟨rfl, by rw [hU], by rw [hU]; exact hP, va_K.moved hW.alike C.2, hD.weaken (fun _ _ _ _ => trivial)⟩⟩ rfl hn hl.1 rfl (lv_room hW) hdg hR) hS (fun q _ h => mA_sub hsz hS q h) (mA_sub hsz hS) (fun r v t H1 locs1 ht hvm hw hB hz1 hk1 hS1 => ?_)
  obtain ⟨hP1, hK1, hD1⟩ := hB
  rw [ht] at hP1
  exact kk r v hw H1 locs1 ls hP1 (hD1.weaken (fun k q _ h => mA_sub hsz hS q.1 h)) hS1 hl
theorem m_callSl {y : MethodName} {bytes : ByteArray} {maxL n index : Nat} {ret : Option FieldType} {ws : List Cond} {rm : Room} {post : Int64 → mT → Prop} (As : List Value) (hsz : s.heap.size = sz) (C : ZC p s m args c cc nL Ts RX5 D (mty G))
    (hM : ∀ z : Nat, Met l y ws rm (va_Pc As (mPre D Q G u z)) (va_Ql post (mAt D Q G (mA Q z)) (mA Q z)) 0 0 (mA Q z)) (cw : CallB R s args RX5 index y bytes maxL ret ws rm 0 0 n ∧ (Cond.static y).before args s = true) (hn : As.length = n) (hR : cells ≤ R.cells ∧ slots ≤ R.slots) (hW : (rest.map fun v => v.category).sum ≤ 8) (hdg : decode cc pc = .ok (.invokestatic index, 3)) (st : List Value) (hst : st = As.reverse ++ rest)
    (kk : ∀ (r : Int64) (v : mT), post r v → ZW p l e R s m args below meth c D (mA Q sz) nL cells slots Qp (mU Q G v) (pc + 3) lv (.long r :: rest)) : ZW p l e R s m args below meth c D (mA Q sz) nL cells slots Qp (mU Q G u) pc lv st := by
  intro H locs ls hP hD hS hl
  subst hst
  refine va_calll (va_runS (As := As) (rest := rest) C.1 (hM H.size) cw ⟨mPre_blind, fun U hU hW => ⟨rfl, by rw [hU], by rw [hU]; exact hP, va_K.moved hW.alike C.2, hD.weaken (fun _ _ _ _ => trivial)⟩⟩ rfl hn hl.1 rfl (lv_room hW) hdg hR) hS (fun q _ h => mA_sub hsz hS q h) (mA_sub hsz hS) (fun r v t H1 locs1 ht hvm hw hB hz1 hk1 hS1 => ?_)
  obtain ⟨hP1, hK1, hD1⟩ := hB
  rw [ht] at hP1
  exact kk r v hw H1 locs1 ls hP1 (hD1.weaken (fun k q _ h => mA_sub hsz hS q.1 h)) hS1 hl
theorem m_lret {post : Int64 → mT → Prop} {v : Int64} (hsz : s.heap.size = sz) (C : ZC p s m args c cc nL Ts RX5 D (mty G)) (hr : meth.sig.returnType = some .long) (hlocks : meth.locks = false) (hp : post v u) (hdg : decode cc pc = .ok (.lreturn, 1)) : ZW p l e R s m args below meth c D (mA Q sz) nL cells slots (MQ below (va_Ql post (mAt D Q G (mA Q sz)) (mA Q sz)) args s cells slots (mA Q sz)) (mU Q G u) pc lv [.long v] := by
  intro H locs ls hP hD hS hl
  exact W.lret (v := v) C.1.1 C.1.2.1 hr (fun t ht hW => ⟨⟨v, u, rfl, hp, by rw [ht]; exact hP, va_K.moved hW.alike C.2, hD⟩, hS.F ht⟩) hS.2.2 hdg
end MSTAT
