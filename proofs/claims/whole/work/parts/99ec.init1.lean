/-- a fresh number -/
def wz (G : Nat → ClassId) (a b : Nat) : va_W := w2 G a b 4 0 0 (fun _ => 0)
set_option maxHeartbeats 4000000 in
set_option maxRecDepth 100000 in
/-- Whole's constructor -/
theorem ci_X3 (l : Launch) (D : va_G) (G : Nat → ClassId) (X : va_W) (b : Nat) (sz hs : Nat) : Met l yX3_init (wC yX3_init cX3_init 1 none) ({ frames := 1, cells := 1, slots := 4, locals := 20 }) (va_Pc [.ref b] (cPre nC D G ((b, .inr (3, [.null, .int 0, .int 0])) :: X : va_W) sz hs)) (va_Qv (fun (u : cS) => ∃ q : Nat, u = (wz G b q ++ X, 1, 4)) (cAt D G (va_A ((b, .inr (3, [.null, .int 0, .int 0])) :: X : va_W) sz) sz hs) (va_A ((b, .inr (3, [.null, .int 0, .int 0])) :: X : va_W) sz)) 1 4 (va_A ((b, .inr (3, [.null, .int 0, .int 0])) :: X : va_W) sz) := by
  refine g_metI (cc := cX3_init) (maxL := 1) (ret := none) (own := RX3) (by decide) rfl rfl rfl (Nat.le_of_ble_eq_true rfl) ?_
  intro p e s m below meth c hsz hhs hNs hA C hr hlk hnm
  refine w_sub [(0, .ref b)] [0] rfl ?_
  refine w_aload_n C dX3_init_0 0 rfl ?_
  refine w_objI C (wC_in kX3_3) (wC_in niO) (wC_in cdO) (Nat.le_of_ble_eq_true rfl) (Nat.le_of_ble_eq_true rfl) dX3_init_1 ?_
  refine w_aload_n C dX3_init_4 0 rfl ?_
  refine w_iconst C dX3_init_5 ?_
  refine w_newi C hA (wC_in acI) 4 ⟨rfl, by decide⟩ ⟨Nat.le_of_ble_eq_true rfl, Nat.le_of_ble_eq_true rfl⟩ dX3_init_6 (fun q => ?_)
  refine w_put (ci := 3) (ref := "RootIsolator$Whole") (T := TX3) (Cn := RX3) (N := 3) (ty := (.array .int)) C ((q, .inl (G 0, 4, .inl (fun _ => 0))) :: (b, .inr (3, [.ref q, .int 0, .int 0])) :: X : va_W) (fun w h => wC_in (inX3 w h)) tyX3 tyX3_ok nmX3 1 rfl rfl 0 (by decide) (wC_in fX3_9) rfl rfl (by decide +kernel) rfl rfl (Nat.le_of_ble_eq_true rfl) rfl dX3_init_8 ?_
  refine w_aload_n C dX3_init_11 0 rfl ?_
  refine w_iconst C dX3_init_12 ?_
  refine w_put (ci := 3) (ref := "RootIsolator$Whole") (T := TX3) (Cn := RX3) (N := 3) (ty := .int) C ((q, .inl (G 0, 4, .inl (fun _ => 0))) :: (b, .inr (3, [.ref q, .int (iZ 0), .int 0])) :: X : va_W) (fun w h => wC_in (inX3 w h)) tyX3 tyX3_ok nmX3 1 rfl rfl 1 (by decide) (wC_in fX3_13) rfl rfl (by decide +kernel) rfl rfl (Nat.le_of_ble_eq_true rfl) rfl dX3_init_13 ?_
  refine w_aload_n C dX3_init_16 0 rfl ?_
  refine w_iconst C dX3_init_17 ?_
  refine w_put (ci := 3) (ref := "RootIsolator$Whole") (T := TX3) (Cn := RX3) (N := 3) (ty := .int) C ((q, .inl (G 0, 4, .inl (fun _ => 0))) :: (b, .inr (3, [.ref q, .int (iZ 0), .int (iZ 0)])) :: X : va_W) (fun w h => wC_in (inX3 w h)) tyX3 tyX3_ok nmX3 1 rfl rfl 2 (by decide) (wC_in fX3_17) rfl rfl (by decide +kernel) rfl rfl (Nat.le_of_ble_eq_true rfl) rfl dX3_init_18 ?_
  refine w_perm (wz G b q ++ X) (List.Perm.swap _ _ _) ?_
  exact g_vret hsz hhs C hr hlk ⟨by omega, by omega⟩ (⟨q, rfl⟩) dX3_init_21
section WHOLE
variable {p : Program} {l : Launch} {e : Env} {R : Room} {s : State} {m : MethodId} {args : Array Value} {below : List Frame} {meth : Method} {c : Code} {D : va_G} {A : Nat → Prop} {nL cells slots : Nat} {Qp : State → Prop}
variable {cc : ByteArray} {own : String} {ws : va_W} {pc : Nat} {lv : List (Nat × Value)} {rest : List Value} {G : Nat → ClassId} {y0 : MethodName} {c0 : ByteArray} {n0 : Nat} {r0 : Option FieldType}
/-- new Whole() -/
theorem w_whole (C : ZC p s m args c cc nL (wC y0 c0 n0 r0) own D (cty G)) (hA : ∀ q, s.heap.size ≤ q → A q) (hN : nC s) {i1 i2 : Nat} (hcl : Cond.classLink own i1 RX3 ∈ wG) (hl : va_Nw (.methodLinkNest own i2 yX3_init RX4) s) (hF : 2 ≤ R.frames ∧ 40 ≤ R.locals) (hR : cells + 2 ≤ R.cells ∧ slots + 7 ≤ R.slots) (hW : (rest.map fun v => v.category).sum ≤ 7) (d1 : decode cc pc = .ok (.new i1, 3)) (d2 : decode cc (pc + 3) = .ok (.dup, 1)) (d3 : decode cc (pc + 3 + 1) = .ok (.invokespecial i2, 3))
    (kk : ∀ a b : Nat, ZW p l e R s m args below meth c D A nL (cells + 2) (slots + 7) Qp (wz G a b ++ ws) (pc + 7) lv (.ref a :: rest)) : ZW p l e R s m args below meth c D A nL cells slots Qp ws pc lv rest := by
  refine w_new (ci := 3) (Cn := RX3) (T := TX3) (K := 3) C hA (fun w h => wC_in (inX3 w h)) tyX3 tyX3_ok (wC_in hcl) (wC_in isX3) (wC_in iniX3) rfl [.null, .int 0, .int 0] (by decide +kernel) ⟨by omega, by omega⟩ d1 (fun a => ?_)
  refine w_dup C d2 rfl ?_
  refine g_callN (N := nC) (mc := 1) (ms := 4) [] hA C hN nC_ok (ci_X3 l D G ws a) ⟨va_cnB (host := RX4) 0 C.1.2.2.2.2 (wC_self cdX3_init) rfl rfl rfl hl (C.1.2.2.2.2 _ (wC_in iniX3)) (by decide +kernel) ⟨by show 1 + 1 ≤ R.frames; omega, by show 8 + (1 + 11) + 20 ≤ R.locals; omega⟩, rfl, C.1.2.2.2.2 _ (wC_in nX3_init)⟩ rfl ⟨(by show cells + 1 + 1 ≤ R.cells; omega), (by show slots + 3 + 4 ≤ R.slots; omega)⟩ (rest := .ref a :: rest) (by show 1 + (rest.map fun v => v.category).sum ≤ 8; omega) d3 (.ref a :: .ref a :: rest) rfl (fun v hv => ?_)
  obtain ⟨q, rfl⟩ := hv
  exact kk a q
end WHOLE

set_option maxHeartbeats 4000000 in
set_option maxRecDepth 100000 in
/-- Point's constructor -/
theorem ci_X1 (l : Launch) (D : va_G) (G : Nat → ClassId) (X : va_W) (b : Nat) (sz hs : Nat) : Met l yX1_init (wC yX1_init cX1_init 1 none) ({ frames := 2, cells := 8, slots := 28, locals := 60 }) (va_Pc [.ref b] (cPre nC D G ((b, .inr (1, [.null, .int 0, .null, .null, .null])) :: X : va_W) sz hs)) (va_Qv (fun (u : cS) => ∃ a0 b0 a1 b1 a2 b2 a3 b3 : Nat, u = ((b, .inr (1, [.ref a0, .int (iZ 0), .ref a1, .ref a2, .ref a3])) :: (wz G a0 b0 ++ (wz G a1 b1 ++ (wz G a2 b2 ++ (wz G a3 b3 ++ X)))), 8, 28)) (cAt D G (va_A ((b, .inr (1, [.null, .int 0, .null, .null, .null])) :: X : va_W) sz) sz hs) (va_A ((b, .inr (1, [.null, .int 0, .null, .null, .null])) :: X : va_W) sz)) 8 28 (va_A ((b, .inr (1, [.null, .int 0, .null, .null, .null])) :: X : va_W) sz) := by
  refine g_metI (cc := cX1_init) (maxL := 1) (ret := none) (own := RX1) (by decide) rfl rfl rfl (Nat.le_of_ble_eq_true rfl) ?_
  intro p e s m below meth c hsz hhs hNs hA C hr hlk hnm
  refine w_sub [(0, .ref b)] [0] rfl ?_
  refine w_aload_n C dX1_init_0 0 rfl ?_
  refine w_objI C (wC_in kX1_1) (wC_in niO) (wC_in cdO) (Nat.le_of_ble_eq_true rfl) (Nat.le_of_ble_eq_true rfl) dX1_init_1 ?_
  refine w_aload_n C dX1_init_4 0 rfl ?_
  refine w_whole C hA hNs clX1_7 hNs.1.2.2.2.2.2.2.2.2.2.2.1 ⟨Nat.le_of_ble_eq_true rfl, Nat.le_of_ble_eq_true rfl⟩ ⟨Nat.le_of_ble_eq_true rfl, Nat.le_of_ble_eq_true rfl⟩ (Nat.le_of_ble_eq_true rfl) dX1_init_5 dX1_init_8 dX1_init_9 (fun a0 b0 => ?_)
  refine w_putF (ci := 1) (T := TX1) (Cn := RX1) (K := 5) (ty := (.object RX3)) C hnm (wz G a0 b0 ++ (b, .inr (1, [.ref a0, .int 0, .null, .null, .null])) :: X : va_W) (fun w h => wC_in (inX1 w h)) tyX1 tyX1_ok nmX1 2 rfl rfl 0 (by decide) (wC_in fX1_10) rfl rfl (by decide +kernel) rfl rfl (Nat.le_of_ble_eq_true rfl) rfl dX1_init_12 ?_
  refine w_aload_n C dX1_init_15 0 rfl ?_
  refine w_iconst C dX1_init_16 ?_
  refine w_put (ci := 1) (ref := "RootIsolator$Point") (T := TX1) (Cn := RX1) (N := 5) (ty := .int) C (wz G a0 b0 ++ (b, .inr (1, [.ref a0, .int (iZ 0), .null, .null, .null])) :: X : va_W) (fun w h => wC_in (inX1 w h)) tyX1 tyX1_ok nmX1 2 rfl rfl 1 (by decide) (wC_in fX1_16) rfl rfl (by decide +kernel) rfl rfl (Nat.le_of_ble_eq_true rfl) rfl dX1_init_17 ?_
  refine w_aload_n C dX1_init_20 0 rfl ?_
  refine w_whole C hA hNs clX1_7 hNs.1.2.2.2.2.2.2.2.2.2.2.1 ⟨Nat.le_of_ble_eq_true rfl, Nat.le_of_ble_eq_true rfl⟩ ⟨Nat.le_of_ble_eq_true rfl, Nat.le_of_ble_eq_true rfl⟩ (Nat.le_of_ble_eq_true rfl) dX1_init_21 dX1_init_24 dX1_init_25 (fun a1 b1 => ?_)
  refine w_putF (ci := 1) (T := TX1) (Cn := RX1) (K := 5) (ty := (.object RX3)) C hnm (wz G a1 b1 ++ (wz G a0 b0 ++ (b, .inr (1, [.ref a0, .int (iZ 0), .ref a1, .null, .null])) :: X) : va_W) (fun w h => wC_in (inX1 w h)) tyX1 tyX1_ok nmX1 4 rfl rfl 2 (by decide) (wC_in fX1_20) rfl rfl (by decide +kernel) rfl rfl (Nat.le_of_ble_eq_true rfl) rfl dX1_init_28 ?_
  refine w_aload_n C dX1_init_31 0 rfl ?_
  refine w_whole C hA hNs clX1_7 hNs.1.2.2.2.2.2.2.2.2.2.2.1 ⟨Nat.le_of_ble_eq_true rfl, Nat.le_of_ble_eq_true rfl⟩ ⟨Nat.le_of_ble_eq_true rfl, Nat.le_of_ble_eq_true rfl⟩ (Nat.le_of_ble_eq_true rfl) dX1_init_32 dX1_init_35 dX1_init_36 (fun a2 b2 => ?_)
  refine w_putF (ci := 1) (T := TX1) (Cn := RX1) (K := 5) (ty := (.object RX3)) C hnm (wz G a2 b2 ++ (wz G a1 b1 ++ (wz G a0 b0 ++ (b, .inr (1, [.ref a0, .int (iZ 0), .ref a1, .ref a2, .null])) :: X)) : va_W) (fun w h => wC_in (inX1 w h)) tyX1 tyX1_ok nmX1 6 rfl rfl 3 (by decide) (wC_in fX1_23) rfl rfl (by decide +kernel) rfl rfl (Nat.le_of_ble_eq_true rfl) rfl dX1_init_39 ?_
  refine w_aload_n C dX1_init_42 0 rfl ?_
  refine w_whole C hA hNs clX1_7 hNs.1.2.2.2.2.2.2.2.2.2.2.1 ⟨Nat.le_of_ble_eq_true rfl, Nat.le_of_ble_eq_true rfl⟩ ⟨Nat.le_of_ble_eq_true rfl, Nat.le_of_ble_eq_true rfl⟩ (Nat.le_of_ble_eq_true rfl) dX1_init_43 dX1_init_46 dX1_init_47 (fun a3 b3 => ?_)
  refine w_putF (ci := 1) (T := TX1) (Cn := RX1) (K := 5) (ty := (.object RX3)) C hnm (wz G a3 b3 ++ (wz G a2 b2 ++ (wz G a1 b1 ++ (wz G a0 b0 ++ (b, .inr (1, [.ref a0, .int (iZ 0), .ref a1, .ref a2, .ref a3])) :: X))) : va_W) (fun w h => wC_in (inX1 w h)) tyX1 tyX1_ok nmX1 8 rfl rfl 4 (by decide) (wC_in fX1_26) rfl rfl (by decide +kernel) rfl rfl (Nat.le_of_ble_eq_true rfl) rfl dX1_init_50 ?_
  refine w_perm ((b, .inr (1, [.ref a0, .int (iZ 0), .ref a1, .ref a2, .ref a3])) :: (wz G a0 b0 ++ (wz G a1 b1 ++ (wz G a2 b2 ++ (wz G a3 b3 ++ X)))) : va_W) ?_ ?_
  · simp only [← List.append_assoc]
    refine (List.perm_middle).trans (List.Perm.cons _ ?_)
    simp only [List.append_assoc]
    refine (List.perm_append_comm_assoc _ _ _).trans ?_
    refine (List.Perm.append_left _ (List.perm_append_comm_assoc _ _ _)).trans ?_
    refine (List.perm_append_comm_assoc _ _ _).trans ?_
    refine (List.Perm.append_left _ (List.Perm.append_left _ (List.perm_append_comm_assoc _ _ _))).trans ?_
    refine (List.Perm.append_left _ (List.perm_append_comm_assoc _ _ _)).trans ?_
    exact (List.perm_append_comm_assoc _ _ _)
  exact g_vret hsz hhs C hr hlk ⟨by omega, by omega⟩ (⟨a0, b0, a1, b1, a2, b2, a3, b3, rfl⟩) dX1_init_53
