/-- fresh numbers one after the other -/
def wzs (G : Nat → ClassId) (R L : Nat → Nat) (n : Nat) : va_W := (List.range n).flatMap (fun i => wz G (R i) (L i))
theorem wzs_succ (G : Nat → ClassId) (R L : Nat → Nat) (n : Nat) : wzs G R L (n + 1) = wzs G R L n ++ wz G (R n) (L n) := by
  unfold wzs
  rw [List.range_succ, List.flatMap_append]
  simp
theorem wzs_congr (G : Nat → ClassId) {R L R' L' : Nat → Nat} {n : Nat} (h : ∀ i : Nat, i < n → R i = R' i ∧ L i = L' i) : wzs G R L n = wzs G R' L' n := flat_same (fun i hi => by
  have := h i (List.mem_range.1 hi)
  rw [this.1, this.2])
theorem wzs_set (G : Nat → ClassId) (R L : Nat → Nat) (n a b : Nat) : wzs G (qu R n a) (qu L n b) (n + 1) = wzs G R L n ++ wz G a b := by
  rw [wzs_succ, qu_same, qu_same]
  rw [wzs_congr G (R' := R) (L' := L) (fun i hi => ⟨qu_other _ _ (by omega), qu_other _ _ (by omega)⟩)]
set_option maxHeartbeats 4000000 in
set_option maxRecDepth 100000 in
/-- Poly's constructor -/
theorem ci_X2 (l : Launch) (D : va_G) (G : Nat → ClassId) (X : va_W) (b n : Nat) (hn : 1 ≤ n ∧ n ≤ 16) (z : Int) (hz : z = n) (sz hs : Nat) : Met l yX2_init (wC yX2_init cX2_init 3 none) ({ frames := 2, cells := 33, slots := 128, locals := 60 }) (va_Pc [.ref b, .int (iZ z)] (cPre nC D G ((b, .inr (2, [.null, .int 0])) :: X : va_W) sz hs)) (va_Qv (fun (u : cS) => ∃ (qa : Nat) (R L : Nat → Nat), u = ((b, .inr (2, [.ref qa, .int (iZ (-1))])) :: (qa, .inl (G 4, n, .inr (.inr (.inr (.inr (fun i => some (R i))))))) :: (wzs G R L n ++ X), 1 + 2 * n, n + 7 * n)) (cAt D G (va_A ((b, .inr (2, [.null, .int 0])) :: X : va_W) sz) sz hs) (va_A ((b, .inr (2, [.null, .int 0])) :: X : va_W) sz)) 33 128 (va_A ((b, .inr (2, [.null, .int 0])) :: X : va_W) sz) := by
  refine g_metI (cc := cX2_init) (maxL := 3) (ret := none) (own := RX2) (by decide) rfl rfl rfl (Nat.le_of_ble_eq_true rfl) ?_
  intro p e s m below meth c hsz hhs hNs hA C hr hlk hnm
  refine w_sub [(0, .ref b), (1, .int (iZ z))] [0, 1] rfl ?_
  refine w_aload_n C dX2_init_0 0 rfl ?_
  refine w_objI C (wC_in kX2_1) (wC_in niO) (wC_in cdO) (Nat.le_of_ble_eq_true rfl) (Nat.le_of_ble_eq_true rfl) dX2_init_1 ?_
  refine w_aload_n C dX2_init_4 0 rfl ?_
  refine w_iconst C dX2_init_5 ?_
  refine w_put (ci := 2) (ref := "RootIsolator$Poly") (T := TX2) (Cn := RX2) (N := 2) (ty := .int) C ((b, .inr (2, [.null, .int (iZ (-1))])) :: X : va_W) (fun w h => wC_in (inX2 w h)) tyX2 tyX2_ok nmX2 0 rfl rfl 1 (by decide) (wC_in fX2_7) rfl rfl (by decide +kernel) rfl rfl (Nat.le_of_ble_eq_true rfl) rfl dX2_init_6 ?_
  refine w_aload_n C dX2_init_9 0 rfl ?_
  refine w_iload_n C dX2_init_10 1 rfl ?_
  refine w_anew C hA (wC_in clX2_13) hNs.2.2 4 rfl n ⟨hz, by omega⟩ ⟨by show 0 + 1 ≤ 33; omega, by show 0 + n ≤ 128; omega⟩ dX2_init_11 (fun qa => ?_)
  refine w_putF (ci := 2) (T := TX2) (Cn := RX2) (K := 2) (ty := (.array (.object RX3))) C hnm ((qa, .inl (G 4, n, .inr (.inr (.inr (.inr (fun _ => none)))))) :: (b, .inr (2, [.ref qa, .int (iZ (-1))])) :: X : va_W) (fun w h => wC_in (inX2 w h)) tyX2 tyX2_ok nmX2 1 rfl rfl 0 (by decide) (wC_in fX2_15) rfl rfl (by decide +kernel) rfl rfl (Nat.le_of_ble_eq_true rfl) rfl dX2_init_14 ?_
  have lp : ∀ (d k : Nat) (R L : Nat → Nat) (f : Nat → Option Nat), k + d = n → (∀ i : Nat, i < k → f i = some (R i)) → ZW p l e ({ frames := 2, cells := 33, slots := 128, locals := 60 }) s m ([.ref b, .int (iZ z)] : List Value).toArray below meth c D (va_A ((b, .inr (2, [.null, .int 0])) :: X : va_W) sz) 3 (0 + 1 + 2 * k) (0 + n + 7 * k) (MQ below (va_Qv (fun (u : cS) => ∃ (qa : Nat) (R L : Nat → Nat), u = ((b, .inr (2, [.ref qa, .int (iZ (-1))])) :: (qa, .inl (G 4, n, .inr (.inr (.inr (.inr (fun i => some (R i))))))) :: (wzs G R L n ++ X), 1 + 2 * n, n + 7 * n)) (cAt D G (va_A ((b, .inr (2, [.null, .int 0])) :: X : va_W) sz) sz hs) (va_A ((b, .inr (2, [.null, .int 0])) :: X : va_W) sz)) ([.ref b, .int (iZ z)] : List Value).toArray s 33 128 (va_A ((b, .inr (2, [.null, .int 0])) :: X : va_W) sz)) ((qa, .inl (G 4, n, .inr (.inr (.inr (.inr f))))) :: (b, .inr (2, [.ref qa, .int (iZ (-1))])) :: (wzs G R L k ++ X) : va_W) 19 [(2, .int (iZ ((k : Int)))), (0, .ref b), (1, .int (iZ z))] [] := by
    intro d
    induction d with
    | zero =>
      intro k R L f hd hf
      have ek : k = n := by omega
      subst ek
      refine w_iload_n C dX2_init_19 0 rfl ?_
      refine w_iload_n C dX2_init_20 2 rfl ?_
      refine w_icmp_ge C 43 dX2_init_21 (by decide) ⟨⟨by omega, by omega⟩, by omega, by omega⟩ (fun c8 => ?_) (fun c8 => absurd c8 (by omega))
      refine w_acg hf ?_
      refine w_perm ((b, .inr (2, [.ref qa, .int (iZ (-1))])) :: (qa, .inl (G 4, k, .inr (.inr (.inr (.inr (fun i => some (R i))))))) :: (wzs G R L k ++ X) : va_W) (List.Perm.swap _ _ _) ?_
      exact g_vret hsz hhs C hr hlk ⟨by omega, by omega⟩ (⟨qa, R, L, by rw [show 0 + 1 + 2 * k = 1 + 2 * k by omega, show 0 + k + 7 * k = k + 7 * k by omega]⟩) dX2_init_43
    | succ d ih =>
      intro k R L f hd hf
      refine w_iload_n C dX2_init_19 0 rfl ?_
      refine w_iload_n C dX2_init_20 2 rfl ?_
      refine w_icmp_ge C 43 dX2_init_21 (by decide) ⟨⟨by omega, by omega⟩, by omega, by omega⟩ (fun c8 => absurd c8 (by omega)) (fun c8 => ?_)
      refine w_aload_n C dX2_init_24 1 rfl ?_
      refine w_get (ci := 2) (ref := "RootIsolator$Poly") (T := TX2) (Cn := RX2) (N := 2) C (fun w h => wC_in (inX2 w h)) 1 rfl rfl 0 (by decide) (wC_in fX2_15) rfl rfl dX2_init_25 ?_
      refine w_iload_n C dX2_init_28 0 rfl ?_
      refine w_whole C hA hNs clX2_13 hNs.1.2.2.2.2.2.2.2.1 ⟨Nat.le_of_ble_eq_true rfl, Nat.le_of_ble_eq_true rfl⟩ ⟨by show 0 + 1 + 2 * k + 2 ≤ 33; omega, by show 0 + n + 7 * k + 7 ≤ 128; omega⟩ (Nat.le_of_ble_eq_true rfl) dX2_init_29 dX2_init_32 dX2_init_33 (fun a0 b0 => ?_)
      refine w_aast C (wz G a0 b0 ++ (qa, .inl (G 4, n, .inr (.inr (.inr (.inr (va_up f k (some a0))))))) :: (b, .inr (2, [.ref qa, .int (iZ (-1))])) :: (wzs G R L k ++ X) : va_W) 2 4 0 3 (r := (RX3, TX3, 3)) rfl rfl rfl rfl k ⟨rfl, by omega, by omega⟩ rfl dX2_init_36 ?_
      refine w_iinc C (((k + 1 : Nat) : Int)) (by omega) [(2, .int (iZ (((k + 1 : Nat) : Int)))), (0, .ref b), (1, .int (iZ z))] dX2_init_37 0 rfl (by decide) rfl ?_
      refine w_goto C 19 dX2_init_40 (by decide) ?_
      refine w_perm ((qa, .inl (G 4, n, .inr (.inr (.inr (.inr (va_up f k (some a0))))))) :: (b, .inr (2, [.ref qa, .int (iZ (-1))])) :: (wzs G (qu R k a0) (qu L k b0) (k + 1) ++ X) : va_W) ?_ ?_
      · rw [wzs_set]
        refine (List.perm_middle).trans (List.Perm.cons _ ((List.perm_middle).trans (List.Perm.cons _ ?_)))
        rw [List.append_assoc]
        exact List.perm_append_comm_assoc _ _ _
      have := ih (k + 1) (qu R k a0) (qu L k b0) (va_up f k (some a0)) (by omega) (fun i hi => by
        by_cases c : i = k
        · rw [c, qu_same]; unfold va_up; rw [if_pos rfl]
        · rw [qu_other _ _ c]; unfold va_up; rw [if_neg c]; exact hf i (by omega))
      rw [show 0 + 1 + 2 * (k + 1) = 0 + 1 + 2 * k + 2 by omega, show 0 + n + 7 * (k + 1) = 0 + n + 7 * k + 7 by omega] at this
      exact this
  refine w_iconst C dX2_init_17 ?_
  refine w_istore_n C [(2, .int (iZ (0))), (0, .ref b), (1, .int (iZ z))] dX2_init_18 rfl (by decide) rfl ?_
  exact lp n 0 (fun _ => 0) (fun _ => 0) (fun _ => none) (by omega) (fun i hi => absurd hi (by omega))
section POLYN
variable {p : Program} {l : Launch} {e : Env} {R : Room} {s : State} {m : MethodId} {args : Array Value} {below : List Frame} {meth : Method} {c : Code} {D : va_G} {A : Nat → Prop} {nL cells slots : Nat} {Qp : State → Prop}
variable {cc : ByteArray} {own : String} {ws : va_W} {pc : Nat} {lv : List (Nat × Value)} {rest : List Value} {G : Nat → ClassId} {y0 : MethodName} {c0 : ByteArray} {n0 : Nat} {r0 : Option FieldType}
/-- Poly's constructor called: the cells of it -/
theorem w_polyC (C : ZC p s m args c cc nL (wC y0 c0 n0 r0) own D (cty G)) (hA : ∀ q, s.heap.size ≤ q → A q) (hN : nC s) {i2 b : Nat} (n : Nat) (hn : 1 ≤ n ∧ n ≤ 16) {z : Int} (hz : z = n) (hl : Cond.methodLink own i2 yX2_init ∈ wG) (hF : 3 ≤ R.frames ∧ 90 ≤ R.locals) (hR : cells + 33 ≤ R.cells ∧ slots + 128 ≤ R.slots) (hW : (rest.map fun v => v.category).sum ≤ 8) (d3 : decode cc pc = .ok (.invokespecial i2, 3))
    (kk : ∀ (qa : Nat) (Ra La : Nat → Nat), ZW p l e R s m args below meth c D A nL (cells + (1 + 2 * n)) (slots + (n + 7 * n)) Qp ((b, .inr (2, [.ref qa, .int (iZ (-1))])) :: (qa, .inl (G 4, n, .inr (.inr (.inr (.inr (fun i => some (Ra i))))))) :: (wzs G Ra La n ++ ws)) (pc + 3) lv rest) : ZW p l e R s m args below meth c D A nL cells slots Qp ((b, .inr (2, [.null, .int 0])) :: ws) pc lv (.int (iZ z) :: .ref b :: rest) := by
  refine g_callI (N := nC) (mc := 33) (ms := 128) [.int (iZ z)] hA C hN nC_ok (ci_X2 l D G ws b n hn z hz) (cwI 1 C.1.2.2.2.2 (wC_self cdX2_init) rfl rfl rfl (C.1.2.2.2.2 _ (wC_in iniX2)) (C.1.2.2.2.2 _ (wC_in hl)) (C.1.2.2.2.2 _ (wC_in nX2_init)) rfl (by decide +kernel) ⟨by show 2 + 1 ≤ R.frames; omega, by show 8 + (3 + 11) + 60 ≤ R.locals; omega⟩) rfl ⟨(by show cells + 33 ≤ R.cells; omega), (by show slots + 128 ≤ R.slots; omega)⟩ (rest := rest) hW d3 (.int (iZ z) :: .ref b :: rest) rfl (fun v hv => ?_)
  obtain ⟨qa, Ra, La, rfl⟩ := hv
  exact kk qa Ra La
end POLYN
