section CWORLD
/-- the class's kinds of arrays -/
abbrev cty (G : Nat → ClassId) : List (ClassId × FieldType) := [(G 0, .int), (G 1, .long), (G 2, .boolean), (G 3, .array .int), (G 4, .object RX3), (G 5, .object RX2)]
/-- all slots of a heap -/
def hsum (H : Heap) : Nat := H.foldl (fun n c => n + c.slots.size) 0
variable {p : Program} {l : Launch} {e : Env} {R : Room} {s : State} {m : MethodId} {args : Array Value} {below : List Frame} {meth : Method} {c : Code} {D : va_G} {A : Nat → Prop} {nL cells slots : Nat} {Qp : State → Prop}
variable {cc : ByteArray} {Ts : List Cond} {own : String} {tys : List (ClassId × FieldType)} {ws : va_W} {pc : Nat} {lv : List (Nat × Value)} {rest : List Value} {G : Nat → ClassId}
theorem st_hs {T : State} {locs : List Loc} (X : Stand p l e R s m args below meth c T locs cells slots) : T.heap.size ≤ s.heap.size + cells ∧ hsum T.heap ≤ hsum s.heap + slots := by
  have h0 : s.slotsTrue = true := by
    have h := X.room
    simp only [State.hasRoom, Bool.and_eq_true] at h
    exact h.2
  have h1 : s.slotsUsed = hsum s.heap := eq_of_beq h0
  have h2 : T.slotsUsed = hsum T.heap := eq_of_beq X.book
  have h3 := X.used
  exact ⟨X.heapSize, by rw [← h1, ← h2]; exact h3⟩
/-- cells and slots of a walk are upper bounds only: any other that hold of the heap serve as well -/
theorem st_tight {T : State} {locs : List Loc} {c' n' : Nat} (X : Stand p l e R s m args below meth c T locs cells slots) (h1 : T.heap.size ≤ s.heap.size + c') (h2 : hsum T.heap ≤ hsum s.heap + n') : Stand p l e R s m args below meth c T locs c' n' := by
  have h0 : s.slotsTrue = true := by
    have h := X.room
    simp only [State.hasRoom, Bool.and_eq_true] at h
    exact h.2
  have h3 : s.slotsUsed = hsum s.heap := eq_of_beq h0
  have h4 : T.slotsUsed = hsum T.heap := eq_of_beq X.book
  obtain ⟨a1, a2, a3, a4, a5, a6, a7, a8, a9, a10, a11, a12, a13, b1, b2, b3, b4, b5, b6⟩ := X
  refine ⟨a1, a2, a3, a4, a5, a6, a7, a8, a9, a10, a11, a12, a13, b1, b2, h1, b4, ?_, b6⟩
  have b4' : T.slotsUsed = s.slotsUsed + (((T.setVm s.vm).heap.toList.drop s.heap.size).map (·.slots.size)).sum := b4
  omega
/-- the order of a world's cells is free -/
theorem va_P_perm {D : va_G} {cl : List vw_C} {w1 w2 : va_W} {H : Heap} (h : w1.Perm w2) (hP : va_P D cl w1 H) : va_P D cl w2 H := fun k q hq => by
  have h1 : q ∈ w1 := h.mem_iff.2 (List.mem_of_getElem? hq)
  obtain ⟨i, hi⟩ := List.getElem?_of_mem h1
  exact hP i q hi
theorem va_D_nd {A : Nat → Prop} {ws : va_W} : va_D A ws ↔ (ws.map (·.1)).Nodup ∧ ∀ q ∈ ws, A q.1 := by
  constructor
  · intro h
    refine ⟨?_, fun q hq => ?_⟩
    · rw [List.nodup_iff_pairwise_ne, List.pairwise_iff_getElem]
      intro i j hi hj hij e
      rw [List.length_map] at hi hj
      rw [List.getElem_map, List.getElem_map] at e
      have := h.1 i j ws[i] ws[j] (List.getElem?_eq_getElem hi) (List.getElem?_eq_getElem hj) e
      omega
    · obtain ⟨i, hi⟩ := List.getElem?_of_mem hq
      exact h.2 i q hi
  · intro h
    refine ⟨fun i j p q hp hq e => ?_, fun k q hk => h.2 q (List.mem_of_getElem? hk)⟩
    have hi : i < (ws.map (·.1)).length := by
      rw [List.length_map]; exact (List.getElem?_eq_some_iff.1 hp).1
    exact (List.getElem?_inj hi h.1).1 (by rw [List.getElem?_map, List.getElem?_map, hp, hq]; exact congrArg some e)
theorem va_D_perm {A : Nat → Prop} {w1 w2 : va_W} (h : w1.Perm w2) (hD : va_D A w1) : va_D A w2 := by
  rw [va_D_nd] at hD ⊢
  exact ⟨(h.map _).nodup_iff.1 hD.1, fun q hq => hD.2 q (h.mem_iff.2 hq)⟩
theorem w_perm (ws' : va_W) (h : ws.Perm ws') (kk : ZW p l e R s m args below meth c D A nL cells slots Qp ws' pc lv rest) : ZW p l e R s m args below meth c D A nL cells slots Qp ws pc lv rest := fun H locs ls hP hD hS hl => kk H locs ls (va_P_perm h hP) (va_D_perm h hD) hS hl
theorem w_drop {x : Nat × va_E} (kk : ZW p l e R s m args below meth c D A nL cells slots Qp ws pc lv rest) : ZW p l e R s m args below meth c D A nL cells slots Qp (x :: ws) pc lv rest := fun H locs ls hP hD hS hl => kk H locs ls (fun k q hq => hP (k + 1) q hq) (by
  rw [va_D_nd] at hD ⊢
  exact ⟨(List.nodup_cons.1 hD.1).2, fun q hq => hD.2 q (List.mem_cons_of_mem _ hq)⟩) hS hl
/-- what a walk may know of its growth -/
theorem w_facts (kk : cells ≤ R.cells → slots ≤ R.slots → ZW p l e R s m args below meth c D A nL cells slots Qp ws pc lv rest) (h1 : cells ≤ R.cells) (h2 : slots ≤ R.slots) : ZW p l e R s m args below meth c D A nL cells slots Qp ws pc lv rest := kk h1 h2
theorem w_alen (C : ZC p s m args c cc nL Ts own D tys) (q0 t0 : Nat) {ad : Nat} {cA : ClassId} {x : vp_A} (ha : ws[q0]? = some (ad, .inl (cA, x))) {ty : FieldType} (ht : tys[t0]? = some (cA, ty)) (hdg : decode cc pc = .ok (.arraylength, 1)) (kk : ZW p l e R s m args below meth c D A nL cells slots Qp ws (pc + 1) lv (.int (iZ (x.1 : Int)) :: rest)) : ZW p l e R s m args below meth c D A nL cells slots Qp ws pc lv (.ref ad :: rest) := fun H locs ls hP hD hS hl => va_alen C.1.1 C.1.2.1 C.2 hP q0 t0 ha ht (v := iZ (x.1 : Int)) (iZ_nI _) hdg (kk H locs ls hP hD hS hl)
theorem w_iushr (C : ZC p s m args c cc nL Ts own D tys) {x y v : Int32} (hdg : decode cc pc = .ok (.iushr, 1)) (hv : (x.toUInt32 >>> (y.toUInt32 &&& Int32.toUInt32 31)).toInt32 = v) (kk : ZW p l e R s m args below meth c D A nL cells slots Qp ws (pc + 1) lv (.int v :: rest)) : ZW p l e R s m args below meth c D A nL cells slots Qp ws pc lv (.int y :: .int x :: rest) := fun H locs ls hP hD hS hl => lv_iushr C.1.1 C.1.2.1 hdg hv (kk H locs ls hP hD hS hl)
theorem w_lushr (C : ZC p s m args c cc nL Ts own D tys) {x v : Int64} {y : Int32} (hdg : decode cc pc = .ok (.lushr, 1)) (hv : (x.toUInt64 >>> (y.toInt64.toUInt64 &&& Int64.toUInt64 63)).toInt64 = v) (kk : ZW p l e R s m args below meth c D A nL cells slots Qp ws (pc + 1) lv (.long v :: rest)) : ZW p l e R s m args below meth c D A nL cells slots Qp ws pc lv (.int y :: .long x :: rest) := fun H locs ls hP hD hS hl => lv_lushr C.1.1 C.1.2.1 hdg hv (kk H locs ls hP hD hS hl)
/-- a new array of ints -/
theorem w_newi (C : ZC p s m args c cc nL Ts own D (cty G)) (hA : ∀ q, s.heap.size ≤ q → A q) (harr : Cond.arrayClass .int ∈ Ts) {z : Int} (n : Nat) (hz : z = n ∧ n ≤ 100000000) (hR : cells + 1 ≤ R.cells ∧ slots + n ≤ R.slots) (hdg : decode cc pc = .ok (.newarray .int, 2)) (kk : ∀ q : Nat, ZW p l e R s m args below meth c D A nL (cells + 1) (slots + n) Qp ((q, .inl (G 0, n, .inl (fun _ => 0))) :: ws) (pc + 2) lv (.ref q :: rest)) : ZW p l e R s m args below meth c D A nL cells slots Qp ws pc lv (.int (iZ z) :: rest) := fun H locs ls hP hD hS hl => by
  refine va_newa (N' := n) (a0 := (n, .inl (fun _ => 0))) C.1.1 C.1.2.1 (atype := .int) (C.1.2.2.2.2 _ harr) (ty := .int) rfl C.2 hP hD hS hA (fun cA => rfl) (fun h => ?_) (iZ_ix n hz.1 (by omega)) (by show n * 4 ≤ 536870912; omega) hR.1 hR.2 hdg (fun q cA H1 hK1 hP1 hD1 hS1 => ?_)
  · have := (iZ_lt (a := z) (b := 0) ⟨⟨by omega, by omega⟩, by omega, by omega⟩).1 h
    omega
  · have e1 := (hK1.2 6 (cA, .int) rfl).2
    have e2 := (hK1.2 0 (G 0, .int) rfl).2
    have e3 : cA = G 0 := Option.some.inj ((show s.vm.findClass _ = some cA from e1).symm.trans e2)
    subst e3
    exact kk q H1 locs ls (va_P_perm (List.perm_append_singleton _ _) hP1) (va_D_perm (List.perm_append_singleton _ _) hD1) hS1 hl
end CWORLD
