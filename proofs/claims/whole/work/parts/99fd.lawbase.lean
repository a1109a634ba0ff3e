section LAWB
variable {p : Program} {l : Launch} {e : Env} {R : Room} {s : State} {m : MethodId} {args : Array Value} {below : List Frame} {meth : Method} {c : Code} {D : va_G} {A : Nat → Prop} {nL cells slots : Nat} {Qp : State → Prop}
variable {cc : ByteArray} {Ts : List Cond} {own : String} {ws : va_W} {pc : Nat} {lv : List (Nat × Value)} {rest : List Value} {G : Nat → ClassId} {b L : Nat} {xs : Nat → Int32}
/-- an int of the script -/
theorem w_sld (C : ZC p s m args c cc nL Ts own D (cty G)) (hX : va_X b L xs s s.heap) (hbl : b < s.heap.size) (hbA : ¬ A b) {z : Int} (n : Nat) (hz : z = n ∧ n < L ∧ L ≤ 4096) (hdg : decode cc pc = .ok (.iaload, 1)) (kk : ZW p l e R s m args below meth c D A nL cells slots Qp ws (pc + 1) lv (.int (iZ (xs n).toInt) :: rest)) : ZW p l e R s m args below meth c D A nL cells slots Qp ws pc lv (.int (iZ z) :: .ref b :: rest) := fun H locs ls hP hD hS hl =>
  va_sld C.1.1 C.1.2.1 hX hbl hbA hS (iZ_in (N := L) (by omega) (by omega) (by omega)) hdg (by
    rw [iZ_ix n hz.1 (by omega), ← iZ_self (xs n)]
    exact kk H locs ls hP hD hS hl)
theorem w_slen (C : ZC p s m args c cc nL Ts own D (cty G)) (hX : va_X b L xs s s.heap) (hbl : b < s.heap.size) (hbA : ¬ A b) (hdg : decode cc pc = .ok (.arraylength, 1)) (kk : ZW p l e R s m args below meth c D A nL cells slots Qp ws (pc + 1) lv (.int (iZ (L : Int)) :: rest)) : ZW p l e R s m args below meth c D A nL cells slots Qp ws pc lv (.ref b :: rest) := fun H locs ls hP hD hS hl =>
  va_slen C.1.1 C.1.2.1 hX hbl hbA hS hdg (by
    have e : Int32.ofNat L = iZ (L : Int) := (Int32.ofInt_eq_ofNat (n := L)).symm
    rw [e]
    exact kk H locs ls hP hD hS hl)
theorem w_arg (C : ZC p s m args c cc nL Ts own D (cty G)) (hX : va_X b L xs s s.heap) (hbl : b < s.heap.size) (hbA : ¬ A b) {i : Nat} (k : Nat) (j0 j3 : Nat) (h0 : lv[j0]? = some (0, .ref b)) (h3 : lv[j3]? = some (3, .int (iZ (i : Int)))) (hk : i + k < L ∧ L ≤ 4096) {kz : Int} (hkz : kz = k) (d0 : decode cc pc = .ok (.aload_n 0, 1)) (d1 : decode cc (pc + 1) = .ok (.iload_n 3, 1)) (d2 : decode cc (pc + 2) = .ok (.iconst kz, 1)) (d3 : decode cc (pc + 3) = .ok (.iadd, 1)) (d4 : decode cc (pc + 4) = .ok (.iaload, 1)) (kk : ZW p l e R s m args below meth c D A nL cells slots Qp ws (pc + 5) lv (.int (iZ (xs (i + k)).toInt) :: rest)) : ZW p l e R s m args below meth c D A nL cells slots Qp ws pc lv rest := by
  refine w_aload_n C d0 j0 h0 ?_
  refine w_iload_n C d1 j3 h3 ?_
  refine w_iconst C d2 ?_
  refine w_iadd C d3 ?_
  exact w_sld C hX hbl hbA (i + k) ⟨by omega, hk⟩ d4 kk
theorem w_argb (C : ZC p s m args c cc nL Ts own D (cty G)) (hX : va_X b L xs s s.heap) (hbl : b < s.heap.size) (hbA : ¬ A b) {i : Nat} (k : Nat) (j0 j3 : Nat) (h0 : lv[j0]? = some (0, .ref b)) (h3 : lv[j3]? = some (3, .int (iZ (i : Int)))) (hk : i + k < L ∧ L ≤ 4096) {kz : Int} (hkz : kz = k) (hk8 : (Int8.ofInt kz).toInt32 = iZ kz) (d0 : decode cc pc = .ok (.aload_n 0, 1)) (d1 : decode cc (pc + 1) = .ok (.iload_n 3, 1)) (d2 : decode cc (pc + 2) = .ok (.bipush kz, 2)) (d3 : decode cc (pc + 4) = .ok (.iadd, 1)) (d4 : decode cc (pc + 5) = .ok (.iaload, 1)) (kk : ZW p l e R s m args below meth c D A nL cells slots Qp ws (pc + 6) lv (.int (iZ (xs (i + k)).toInt) :: rest)) : ZW p l e R s m args below meth c D A nL cells slots Qp ws pc lv rest := by
  refine w_aload_n C d0 j0 h0 ?_
  refine w_iload_n C d1 j3 h3 ?_
  refine w_bipush C d2 hk8 ?_
  refine w_iadd C d3 ?_
  exact w_sld C hX hbl hbA (i + k) ⟨by omega, hk⟩ d4 kk
/-- two ints of the script as a long -/
def sJ (hi lo : Int32) : Int64 := lZ (hi.toInt * 2 ^ 32) ||| (lZ lo.toInt &&& lZ 4294967295)
theorem w_hi (C : ZC p s m args c cc nL Ts own D (cty G)) {x : Int32} (d0 : decode cc pc = .ok (.i2l, 1)) (d1 : decode cc (pc + 1) = .ok (.bipush 32, 2)) (d2 : decode cc (pc + 3) = .ok (.lshl, 1)) (kk : ZW p l e R s m args below meth c D A nL cells slots Qp ws (pc + 4) lv (.long (lZ (x.toInt * 2 ^ 32)) :: rest)) : ZW p l e R s m args below meth c D A nL cells slots Qp ws pc lv (.int (iZ x.toInt) :: rest) := by
  refine w_i2l C d0 (i32r x) ?_
  refine w_bipush C d1 (by decide) ?_
  exact w_lshl C 32 d2 ⟨rfl, by omega⟩ kk
theorem w_lo (C : ZC p s m args c cc nL Ts own D (cty G)) {x y : Int32} {index : Nat} (hc : Cond.constantLong own index (lZ 4294967295) ∈ Ts) (d0 : decode cc pc = .ok (.i2l, 1)) (d1 : decode cc (pc + 1) = .ok (.ldc2_w index, 3)) (d2 : decode cc (pc + 4) = .ok (.land, 1)) (d3 : decode cc (pc + 5) = .ok (.lor, 1)) (kk : ZW p l e R s m args below meth c D A nL cells slots Qp ws (pc + 6) lv (.long (lZ (sJ x y).toInt) :: rest)) : ZW p l e R s m args below meth c D A nL cells slots Qp ws pc lv (.int (iZ y.toInt) :: .long (lZ (x.toInt * 2 ^ 32)) :: rest) := by
  refine w_i2l C d0 (i32r y) ?_
  refine w_ldc2 C 4294967295 d1 hc ?_
  refine w_land C d2 rfl ?_
  refine w_lor C d3 rfl ?_
  exact w_topRl C (sJ x y).toInt (lZ_self (sJ x y)).symm kk
/-- two answers that are the same -/
theorem w_ieq (C : ZC p s m args c cc nL Ts own D (cty G)) {r : Int32} {off : Int} (tgt : Nat) (hdg : decode cc pc = .ok (.if_icmp .eq off, 3)) (ht : (pc : Int) + off = (tgt : Int)) (kk : ZW p l e R s m args below meth c D A nL cells slots Qp ws tgt lv rest) : ZW p l e R s m args below meth c D A nL cells slots Qp ws pc lv (.int r :: .int r :: rest) := fun H locs ls hP hD hS hl => lv_icmp_eq C.1.1 C.1.2.1 hdg ht (fun _ => kk H locs ls hP hD hS hl) (fun h => absurd rfl h)
theorem w_leq (C : ZC p s m args c cc nL Ts own D (cty G)) {r : Int64} {off : Int} (tgt : Nat) (hdg : decode cc pc = .ok (.lcmp, 1)) (hdg2 : decode cc (pc + 1) = .ok (.ifCond .eq off, 3)) (ht : ((pc + 1 : Nat) : Int) + off = (tgt : Int)) (kk : ZW p l e R s m args below meth c D A nL cells slots Qp ws tgt lv rest) : ZW p l e R s m args below meth c D A nL cells slots Qp ws pc lv (.long r :: .long r :: rest) := by
  obtain ⟨z, rfl, hz⟩ := lZ_of r
  exact w_lif_eq C tgt hdg hdg2 ht ⟨hz, hz⟩ (fun _ => kk) (fun h => absurd rfl h)
theorem mU_at (Q : Nat → Nat) (G : Nat → ClassId) (u : mT) {k : Nat} (hk : k < 11) : ∃ x : va_E, (mU Q G u)[k]? = some (Q k, x) := by
  have h : ∀ k : Fin 11, ∃ x : va_E, (mU Q G u)[k.val]? = some (Q k.val, x) := fun k => by
    match k with
    | ⟨0, _⟩ => exact ⟨_, rfl⟩
    | ⟨1, _⟩ => exact ⟨_, rfl⟩
    | ⟨2, _⟩ => exact ⟨_, rfl⟩
    | ⟨3, _⟩ => exact ⟨_, rfl⟩
    | ⟨4, _⟩ => exact ⟨_, rfl⟩
    | ⟨5, _⟩ => exact ⟨_, rfl⟩
    | ⟨6, _⟩ => exact ⟨_, rfl⟩
    | ⟨7, _⟩ => exact ⟨_, rfl⟩
    | ⟨8, _⟩ => exact ⟨_, rfl⟩
    | ⟨9, _⟩ => exact ⟨_, rfl⟩
    | ⟨10, _⟩ => exact ⟨_, rfl⟩
    | ⟨n + 11, h⟩ => exact absurd h (by omega)
  exact h ⟨k, hk⟩
theorem va_P_left {w1 w2 : va_W} {H : Heap} (h : va_P D vwCl (w1 ++ w2) H) : va_P D vwCl w1 H := fun k q hq => h k q (by
  have hl : k < w1.length := (List.getElem?_eq_some_iff.1 hq).1
  rw [List.getElem?_append_left hl]; exact hq)
theorem va_P_right {w1 w2 : va_W} {H : Heap} (h : va_P D vwCl (w1 ++ w2) H) : va_P D vwCl w2 H := fun k q hq => h (w1.length + k) q (by
  rw [List.getElem?_append_right (by omega), show w1.length + k - w1.length = k by omega]; exact hq)
theorem va_D_right {w1 w2 : va_W} (h : va_D A (w1 ++ w2)) : va_D A w2 := by
  rw [va_D_nd] at *
  rw [List.map_append] at h
  exact ⟨(List.nodup_append.1 h.1).2.1, fun q hq => h.2 q (List.mem_append_right _ hq)⟩
theorem va_D_apart {w1 w2 : va_W} (h : va_D A (w1 ++ w2)) {x y : Nat × va_E} (hx : x ∈ w1) (hy : y ∈ w2) : x.1 ≠ y.1 := by
  rw [va_D_nd, List.map_append] at h
  exact (List.nodup_append.1 h.1).2.2 _ (List.mem_map.2 ⟨x, hx, rfl⟩) _ (List.mem_map.2 ⟨y, hy, rfl⟩)
/-- what stands behind a call of the reference, beside other cells -/
theorem m_back {Wc : va_W} {Q : Nat → Nat} {u v : mT} {H H1 : Heap} (hP : va_P D vwCl (Wc ++ mU Q G u) H) (hD : va_D A (Wc ++ mU Q G u)) (hP1 : va_P D vwCl (mU Q G v) H1) (hk : ∀ q : Nat, q < H.size → ¬ mA Q H.size q → H1[q]? = H[q]?) : va_P D vwCl (Wc ++ mU Q G v) H1 ∧ va_D A (Wc ++ mU Q G v) := by
  constructor
  · refine ((va_P_left hP).kept (fun k x hx => ?_)).app hP1
    have hlt := (va_P_left hP k x hx).lt
    refine hk x.1 hlt (fun h => ?_)
    rcases h with ⟨j, hj, e⟩ | h
    · obtain ⟨y, hy⟩ := mU_at Q G u hj
      exact va_D_apart hD (List.mem_of_getElem? hx) (List.mem_of_getElem? hy) e
    · omega
  · rw [va_D_nd] at hD ⊢
    have e : (mU Q G v).map (·.1) = (mU Q G u).map (·.1) := rfl
    refine ⟨by rw [List.map_append, e, ← List.map_append]; exact hD.1, fun q hq => ?_⟩
    rcases List.mem_append.1 hq with h | h
    · exact hD.2 q (List.mem_append_left _ h)
    · have h1 : q.1 ∈ (mU Q G u).map (·.1) := by rw [← e]; exact List.mem_map.2 ⟨q, h, rfl⟩
      obtain ⟨x, hx, e2⟩ := List.mem_map.1 h1
      rw [← e2]
      exact hD.2 x (List.mem_append_right _ hx)
theorem m_free {Wc : va_W} {Q : Nat → Nat} {u : mT} {H : Heap} {locs : List Loc} (hA : ∀ q, s.heap.size ≤ q → A q) (hD : va_D A (Wc ++ mU Q G u)) (hS : va_S A s.heap H locs) : ∀ q, mA Q H.size q → A q := fun q h => by
  rcases h with ⟨j, hj, e⟩ | h
  · obtain ⟨y, hy⟩ := mU_at Q G u hj
    rw [e]
    exact (va_D_right hD).2 j _ hy
  · exact hA q (Nat.le_trans hS.1 h)
/-- a call of the reference, beside other cells -/
theorem m_lcalli {Wc : va_W} {Q : Nat → Nat} {u : mT} {y : MethodName} {bytes : ByteArray} {maxL n index : Nat} {ret : Option FieldType} {wsd : List Cond} {rm : Room} {post : Int32 → mT → Prop} (As : List Value) (hA : ∀ q, s.heap.size ≤ q → A q) (C : ZC p s m args c cc nL Ts own D (cty G))
    (hM : ∀ z : Nat, Met l y wsd rm (va_Pc (.ref (Q 0) :: As) (mPre D Q G u z)) (va_Qi post (mAt D Q G (mA Q z)) (mA Q z)) 0 0 (mA Q z)) (cw : CallW R s args own RX5 index y bytes maxL ret wsd rm 0 0 n) (hn : As.length = n) (hR : cells ≤ R.cells ∧ slots ≤ R.slots) (hW : (rest.map fun v => v.category).sum ≤ 8) (hdg : decode cc pc = .ok (.invokevirtual index, 3)) (st : List Value) (hst : st = As.reverse ++ .ref (Q 0) :: rest)
    (kk : ∀ (r : Int32) (v : mT), post r v → ZW p l e R s m args below meth c D A nL cells slots Qp (Wc ++ mU Q G v) (pc + 3) lv (.int r :: rest)) : ZW p l e R s m args below meth c D A nL cells slots Qp (Wc ++ mU Q G u) pc lv st := by
  intro H locs ls hP hD hS hl
  subst hst
  refine va_calli (va_runV (As := As) (rest := rest) C.1 (hM H.size) cw ⟨mPre_blind, va_recv C.2 (va_P_right hP) (ci := 5) (q0 := 0) rfl rfl, fun U hU hW => ⟨rfl, by rw [hU], by rw [hU]; exact va_P_right hP, va_K.moved hW.alike (C.2.sub [0, 1, 2, 3] rfl), (va_D_right hD).weaken (fun _ _ _ _ => trivial)⟩⟩ rfl hn hl.1 rfl (lv_room hW) hdg hR) hS (fun q _ h => m_free hA hD hS q h) (m_free hA hD hS) (fun r v t H1 locs1 ht hvm hw hB hz1 hk1 hS1 => ?_)
  obtain ⟨hP1, hK1, hD1⟩ := hB
  rw [ht] at hP1
  obtain ⟨hP2, hD2⟩ := m_back hP hD hP1 hk1
  exact kk r v hw H1 locs1 ls hP2 hD2 hS1 hl
theorem m_lcalll {Wc : va_W} {Q : Nat → Nat} {u : mT} {y : MethodName} {bytes : ByteArray} {maxL n index : Nat} {ret : Option FieldType} {wsd : List Cond} {rm : Room} {post : Int64 → mT → Prop} (As : List Value) (hA : ∀ q, s.heap.size ≤ q → A q) (C : ZC p s m args c cc nL Ts own D (cty G))
    (hM : ∀ z : Nat, Met l y wsd rm (va_Pc (.ref (Q 0) :: As) (mPre D Q G u z)) (va_Ql post (mAt D Q G (mA Q z)) (mA Q z)) 0 0 (mA Q z)) (cw : CallW R s args own RX5 index y bytes maxL ret wsd rm 0 0 n) (hn : As.length = n) (hR : cells ≤ R.cells ∧ slots ≤ R.slots) (hW : (rest.map fun v => v.category).sum ≤ 8) (hdg : decode cc pc = .ok (.invokevirtual index, 3)) (st : List Value) (hst : st = As.reverse ++ .ref (Q 0) :: rest)
    (kk : ∀ (r : Int64) (v : mT), post r v → ZW p l e R s m args below meth c D A nL cells slots Qp (Wc ++ mU Q G v) (pc + 3) lv (.long r :: rest)) : ZW p l e R s m args below meth c D A nL cells slots Qp (Wc ++ mU Q G u) pc lv st := by
  intro H locs ls hP hD hS hl
  subst hst
  refine va_calll (va_runV (As := As) (rest := rest) C.1 (hM H.size) cw ⟨mPre_blind, va_recv C.2 (va_P_right hP) (ci := 5) (q0 := 0) rfl rfl, fun U hU hW => ⟨rfl, by rw [hU], by rw [hU]; exact va_P_right hP, va_K.moved hW.alike (C.2.sub [0, 1, 2, 3] rfl), (va_D_right hD).weaken (fun _ _ _ _ => trivial)⟩⟩ rfl hn hl.1 rfl (lv_room hW) hdg hR) hS (fun q _ h => m_free hA hD hS q h) (m_free hA hD hS) (fun r v t H1 locs1 ht hvm hw hB hz1 hk1 hS1 => ?_)
  obtain ⟨hP1, hK1, hD1⟩ := hB
  rw [ht] at hP1
  obtain ⟨hP2, hD2⟩ := m_back hP hD hP1 hk1
  exact kk r v hw H1 locs1 ls hP2 hD2 hS1 hl
end LAWB
/-- rows of ints that say the same -/
theorem vp_sameI (cA : ClassId) (n : Nat) {f g : Nat → Int32} (h : ∀ i : Nat, i < n → f i = g i) : vp_cell cA (n, .inl f) = vp_cell cA (n, .inl g) := by
  show arrV cA n (fun j => .int (f j)) = arrV cA n (fun j => .int (g j))
  unfold arrV
  congr 2
  funext j
  show Value.int (f j.val) = Value.int (g j.val)
  rw [h j.val j.isLt]
theorem weq_ari (D : va_G) (x : Nat) (cA : ClassId) (n : Nat) {f g : Nat → Int32} (h : ∀ i : Nat, i < n → f i = g i) : weq D (x, .inl (cA, n, .inl f)) (x, .inl (cA, n, .inl g)) := ⟨rfl, fun H hP => by
  show H[x]? = some (vp_cell cA _)
  rw [← vp_sameI cA n h]
  exact hP⟩
/-- the reference's two given rows may be told otherwise, if they say the same -/
theorem mU_rows (D : va_G) (Q : Nat → Nat) (G : Nat → ClassId) (fL fS fN fD : Nat → Int32) (a0 a1 : Int32) (a2 : Nat → Int32) (a3 : Nat → Int64) (a4 h0 h1 g0 g1 : Nat → Int32) (e0 : ∀ i : Nat, i < 9 → h0 i = g0 i) (e1 : ∀ i : Nat, i < 9 → h1 i = g1 i) : wq D (mU Q G (fL, fS, fN, fD, a0, a1, a2, a3, a4, h0, h1)) (mU Q G (fL, fS, fN, fD, a0, a1, a2, a3, a4, g0, g1)) := ⟨weq_refl D _, weq_refl D _, weq_refl D _, weq_refl D _, weq_refl D _, weq_refl D _, weq_refl D _, weq_refl D _, weq_refl D _, weq_ari D _ _ _ e0, weq_ari D _ _ _ e1, trivial⟩
