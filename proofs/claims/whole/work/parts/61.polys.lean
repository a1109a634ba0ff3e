section POLYS
variable {p : Program} {l : Launch} {e : Env} {R : Room} {s : State} {m : MethodId} {args : Array Value} {below : List Frame} {meth : Method} {c : Code} {D : va_G} {A : Nat → Prop} {nL cells slots : Nat} {Qp : State → Prop}
variable {cc : ByteArray} {Ts : List Cond} {own : String} {ws : va_W} {pc : Nat} {lv : List (Nat × Value)} {rest : List Value} {G : Nat → ClassId}
/-- where a polynomial's numbers lie in the pool, and how many they are: rows 0 to 9, rest 10, plain 11 -/
def pB : Nat → Nat
  | 0 => 0
  | 1 => 16
  | 2 => 25
  | 3 => 33
  | 4 => 40
  | 5 => 46
  | 6 => 51
  | 7 => 55
  | 8 => 58
  | 9 => 60
  | 10 => 61
  | _ => 88
def pN : Nat → Nat
  | 0 => 16
  | 10 => 16
  | 11 => 9
  | j => 10 - j
theorem pB_r {j : Nat} (h : j < 12) : 1 ≤ pN j ∧ pN j ≤ 16 ∧ pB j + pN j ≤ 97 ∧ (pB j + pN j ≤ 77 ∨ 88 ≤ pB j) := by
  have h1 : ∀ j : Fin 12, 1 ≤ pN j.val ∧ pN j.val ≤ 16 ∧ pB j.val + pN j.val ≤ 97 ∧ (pB j.val + pN j.val ≤ 77 ∨ 88 ≤ pB j.val) := by decide
  exact h1 ⟨j, h⟩
theorem pB_d {i j : Nat} (hi : i < 12) (hj : j < 12) (h : i ≠ j) : pB i + pN i ≤ pB j ∨ pB j + pN j ≤ pB i := by
  have h1 : ∀ i j : Fin 12, i.val ≠ j.val → pB i.val + pN i.val ≤ pB j.val ∨ pB j.val + pN j.val ≤ pB i.val := by decide
  exact h1 ⟨i, hi⟩ ⟨j, hj⟩ h
/-- a polynomial: the object and its row of numbers -/
def pE (G : Nat → ClassId) (Q P PA T : Nat → Nat) (j : Nat) : va_W := [(P j, .inr (2, [.ref (PA j), .int (iZ ((T j : Int) - 1))])), (PA j, .inl (G 4, pN j, .inr (.inr (.inr (.inr (fun i => some (Q (pB j + i))))))))]
def fp (G : Nat → ClassId) (Q P PA T : Nat → Nat) : va_W := (List.range 12).flatMap (pE G Q P PA T)
def fR (j : Nat) (st : Nat → va_W) : va_W := ((List.range 12).erase j).flatMap st
def fR2 (j i : Nat) (st : Nat → va_W) : va_W := (((List.range 12).erase j).erase i).flatMap st
theorem fp_1 {j : Nat} (hj : j < 12) (G : Nat → ClassId) (Q P PA T : Nat → Nat) (Y X L : va_W) : (Y ++ ((fp G Q P PA T ++ X) ++ L)).Perm (pE G Q P PA T j ++ ((Y ++ (fR j (pE G Q P PA T) ++ X)) ++ L)) := by
  have h1 : (fp G Q P PA T).Perm (pE G Q P PA T j ++ fR j (pE G Q P PA T)) := (List.perm_cons_erase (List.mem_range.2 hj)).flatMap_right _
  refine (List.Perm.append_left Y (List.Perm.append_right L (List.Perm.append_right X h1))).trans ?_
  simp only [List.append_assoc]
  exact List.perm_append_comm_assoc _ _ _
theorem fp_2 {j i : Nat} (hj : j < 12) (hi : i < 12) (hn : i ≠ j) (G : Nat → ClassId) (Q P PA T : Nat → Nat) (Y X L : va_W) : (Y ++ ((fp G Q P PA T ++ X) ++ L)).Perm (pE G Q P PA T j ++ (pE G Q P PA T i ++ ((Y ++ (fR2 j i (pE G Q P PA T) ++ X)) ++ L))) := by
  have hm : i ∈ (List.range 12).erase j := ((List.nodup_range).mem_erase_iff).2 ⟨hn, List.mem_range.2 hi⟩
  have h2 : (fR j (pE G Q P PA T)).Perm (pE G Q P PA T i ++ fR2 j i (pE G Q P PA T)) := (List.perm_cons_erase hm).flatMap_right _
  have h1 : (fp G Q P PA T).Perm (pE G Q P PA T j ++ (pE G Q P PA T i ++ fR2 j i (pE G Q P PA T))) := ((List.perm_cons_erase (List.mem_range.2 hj)).flatMap_right _).trans (List.Perm.append_left _ h2)
  refine (List.Perm.append_left Y (List.Perm.append_right L (List.Perm.append_right X h1))).trans ?_
  simp only [List.append_assoc]
  exact (List.perm_append_comm_assoc _ _ _).trans (List.Perm.append_left _ (List.perm_append_comm_assoc _ _ _))
theorem pE_o (G : Nat → ClassId) (Q P PA T : Nat → Nat) {j i N : Nat} (h : i ≠ j) : pE G Q P PA (qu T j N) i = pE G Q P PA T i := by
  unfold pE
  rw [qu_other _ _ h]
theorem fR_set (G : Nat → ClassId) (Q P PA T : Nat → Nat) (j N : Nat) : fR j (pE G Q P PA T) = fR j (pE G Q P PA (qu T j N)) := flat_same (fun i hi => (pE_o G Q P PA T ((List.nodup_range).mem_erase_iff.1 hi).1).symm)
theorem fR2_set (G : Nat → ClassId) (Q P PA T : Nat → Nat) (j i N : Nat) : fR2 j i (pE G Q P PA T) = fR2 j i (pE G Q P PA (qu T j N)) := flat_same (fun k hk => by
  have h := ((List.nodup_range).erase j).mem_erase_iff.1 hk
  exact (pE_o G Q P PA T ((List.nodup_range).mem_erase_iff.1 h.2).1).symm)
/-- the cells of a polynomial with its degree set -/
def pE1 (G : Nat → ClassId) (Q P PA : Nat → Nat) (j : Nat) (t : Int) : va_W := [(P j, .inr (2, [.ref (PA j), .int (iZ t)])), (PA j, .inl (G 4, pN j, .inr (.inr (.inr (.inr (fun i => some (Q (pB j + i))))))))]
theorem pE_s (G : Nat → ClassId) (Q P PA T : Nat → Nat) (j N : Nat) : pE G Q P PA (qu T j N) j = pE1 G Q P PA j ((N : Int) - 1) := by
  unfold pE pE1
  rw [qu_same]
theorem fp_1' {j : Nat} (hj : j < 12) (G : Nat → ClassId) (Q P PA T : Nat → Nat) (N : Nat) (Y X L : va_W) : (pE1 G Q P PA j ((N : Int) - 1) ++ ((Y ++ (fR j (pE G Q P PA T) ++ X)) ++ L)).Perm (Y ++ ((fp G Q P PA (qu T j N) ++ X) ++ L)) := by
  have h := fp_1 hj G Q P PA (qu T j N) Y X L
  rw [pE_s, ← fR_set] at h
  exact h.symm
theorem fp_2' {j i : Nat} (hj : j < 12) (hi : i < 12) (hn : i ≠ j) (G : Nat → ClassId) (Q P PA T : Nat → Nat) (N : Nat) (Y X L : va_W) : (pE1 G Q P PA j ((N : Int) - 1) ++ (pE G Q P PA T i ++ ((Y ++ (fR2 j i (pE G Q P PA T) ++ X)) ++ L))).Perm (Y ++ ((fp G Q P PA (qu T j N) ++ X) ++ L)) := by
  have h := fp_2 hj hi hn G Q P PA (qu T j N) Y X L
  rw [pE_s, pE_o _ _ _ _ _ hn, ← fR2_set] at h
  exact h.symm
theorem c_top (C : ZC p s m args c cc nL Ts own D (cty G)) {index : Nat} (Y X : va_W) {Q P PA T : Nat → Nat} {st : Nat → va_W} (hin : ∀ w ∈ u_ws RX2 TX2 2, w ∈ Ts) (j : Nat) (hj : j < 12) (hlink : va_Nw (.fieldLinkNest own index RX2 "top" "I" RX4) s) (hdg : decode cc pc = .ok (.getfield index, 3)) (kk : ZW p l e R s m args below meth c D A nL cells slots Qp (Y ++ ((fp G Q P PA T ++ X) ++ pl st)) (pc + 3) lv (.int (iZ ((T j : Int) - 1)) :: rest)) : ZW p l e R s m args below meth c D A nL cells slots Qp (Y ++ ((fp G Q P PA T ++ X) ++ pl st)) pc lv (.ref (P j) :: rest) := by
  refine w_perm _ (fp_1 hj G Q P PA T Y X (pl st)) ?_
  refine w_getN (ci := 2) (ref := RX2) (T := TX2) (Cn := RX2) (N := 2) C hin 0 rfl rfl 1 (by decide) hlink rfl rfl hdg ?_
  exact w_perm _ (fp_1 hj G Q P PA T Y X (pl st)).symm kk
theorem c_parts (C : ZC p s m args c cc nL Ts own D (cty G)) {index : Nat} (Y X : va_W) {Q P PA T : Nat → Nat} {st : Nat → va_W} (hin : ∀ w ∈ u_ws RX2 TX2 2, w ∈ Ts) (j : Nat) (hj : j < 12) (hlink : va_Nw (.fieldLinkNest own index RX2 "parts" "[LRootIsolator$Whole;" RX4) s) (hdg : decode cc pc = .ok (.getfield index, 3)) (kk : ZW p l e R s m args below meth c D A nL cells slots Qp (Y ++ ((fp G Q P PA T ++ X) ++ pl st)) (pc + 3) lv (.ref (PA j) :: rest)) : ZW p l e R s m args below meth c D A nL cells slots Qp (Y ++ ((fp G Q P PA T ++ X) ++ pl st)) pc lv (.ref (P j) :: rest) := by
  refine w_perm _ (fp_1 hj G Q P PA T Y X (pl st)) ?_
  refine w_getN (ci := 2) (ref := RX2) (T := TX2) (Cn := RX2) (N := 2) C hin 0 rfl rfl 0 (by decide) hlink rfl rfl hdg ?_
  exact w_perm _ (fp_1 hj G Q P PA T Y X (pl st)).symm kk
theorem c_elem (C : ZC p s m args c cc nL Ts own D (cty G)) (Y X : va_W) {Q P PA T : Nat → Nat} {st : Nat → va_W} (j : Nat) (hj : j < 12) {i : Int} (ix : Nat) (hi : i = ix ∧ ix < pN j) (hdg : decode cc pc = .ok (.aaload, 1)) (kk : ZW p l e R s m args below meth c D A nL cells slots Qp (Y ++ ((fp G Q P PA T ++ X) ++ pl st)) (pc + 1) lv (.ref (Q (pB j + ix)) :: rest)) : ZW p l e R s m args below meth c D A nL cells slots Qp (Y ++ ((fp G Q P PA T ++ X) ++ pl st)) pc lv (.int (iZ i) :: .ref (PA j) :: rest) := by
  have hr := pB_r hj
  refine w_perm _ (fp_1 hj G Q P PA T Y X (pl st)) ?_
  refine w_aald (n := pN j) (f := fun i => some (Q (pB j + i))) C 1 4 rfl rfl rfl ix ⟨hi.1, hi.2, by omega⟩ rfl hdg ?_
  exact w_perm _ (fp_1 hj G Q P PA T Y X (pl st)).symm kk
theorem c_clear (hA : ∀ q, s.heap.size ≤ q → A q) (C : ZC p s m args c cc nL Ts own D (cty G)) (hNs : nW s) {index : Nat} (Y X : va_W) {Q P PA T : Nat → Nat} {st : Nat → va_W} {nn : Nat → Nat} {Z : Nat → Int} {P0 P1 : Nat} (hZ : pAll G Q st nn Z) (hG : pG P0 P1 nn cells slots) (j : Nat) (hj : j < 12) (cw : CallW R s args own RX2 index yX2_clear cX2_clear 2 none (wC yX2_clear cX2_clear 2 none) ({ frames := 1, cells := 1078, slots := 401408, locals := 25 }) 1078 401408 0) (hRr : 2156 ≤ R.cells ∧ 802816 ≤ R.slots) (hW : (rest.map fun v => v.category).sum ≤ 8) (hdg : decode cc pc = .ok (.invokevirtual index, 3)) (kk : ∀ (st1 : Nat → va_W) (nn1 : Nat → Nat) (c1 s1 : Nat), pAll G Q st1 nn1 (sP Z (pB j) (pN j) (fun _ => 0)) → pG P0 P1 nn1 c1 s1 → ZW p l e R s m args below meth c D A nL c1 s1 Qp (Y ++ ((fp G Q P PA (qu T j 0) ++ X) ++ pl st1)) (pc + 3) lv (rest)) : ZW p l e R s m args below meth c D A nL cells slots Qp (Y ++ ((fp G Q P PA T ++ X) ++ pl st)) pc lv (.ref (P j) :: rest) := by
  have hle := pG_le hZ hG
  have hr := pB_r hj
  refine w_perm _ (fp_1 hj G Q P PA T Y X (pl st)) ?_
  refine g_callv (N := nW) [] hA C hNs nW_ok (cp_clear l D G (Y ++ (fR j (pE G Q P PA T) ++ X)) Q st nn Z (P j) (PA j) (pN j) (pB j) (iZ ((T j : Int) - 1)) hZ ⟨hr.1, hr.2.1⟩ (by omega)) cw (q0 := 0) rfl rfl rfl rfl ⟨by show _ + 1078 ≤ _; omega, by show _ + 401408 ≤ _; omega⟩ hW hdg _ rfl (fun u hu => ?_)
  obtain ⟨st1, nn1, c1, s1, h1, h2, rfl⟩ := hu
  refine w_perm _ (fp_1' hj G Q P PA T 0 Y X (pl st1)) ?_
  exact kk _ _ _ _ h1 (pG_trans hG h2)
theorem c_findTop (hA : ∀ q, s.heap.size ≤ q → A q) (C : ZC p s m args c cc nL Ts own D (cty G)) (hNs : nW s) {index : Nat} (Y X : va_W) {Q P PA T : Nat → Nat} {st : Nat → va_W} {nn : Nat → Nat} {Z : Nat → Int} {P0 P1 : Nat} (hZ : pAll G Q st nn Z) (hG : pG P0 P1 nn cells slots) (j : Nat) (hj : j < 12) (cw : CallW R s args own RX2 index yX2_findTop cX2_findTop 1 none (wC yX2_findTop cX2_findTop 1 none) ({ frames := 0, cells := 0, slots := 0, locals := 0 }) 0 0 0) (hRr : 1078 ≤ R.cells ∧ 401408 ≤ R.slots) (hW : (rest.map fun v => v.category).sum ≤ 8) (hdg : decode cc pc = .ok (.invokevirtual index, 3)) (kk : ∀ (st1 : Nat → va_W) (nn1 : Nat → Nat) (c1 s1 : Nat) (N : Nat), tpN (fun i => Z (pB j + i)) (pN j) N → pAll G Q st1 nn1 (Z) → pG P0 P1 nn1 c1 s1 → ZW p l e R s m args below meth c D A nL c1 s1 Qp (Y ++ ((fp G Q P PA (qu T j N) ++ X) ++ pl st1)) (pc + 3) lv (rest)) : ZW p l e R s m args below meth c D A nL cells slots Qp (Y ++ ((fp G Q P PA T ++ X) ++ pl st)) pc lv (.ref (P j) :: rest) := by
  have hle := pG_le hZ hG
  have hr := pB_r hj
  refine w_perm _ (fp_1 hj G Q P PA T Y X (pl st)) ?_
  refine g_callv (N := nW) [] hA C hNs nW_ok (cp_findTop l D G (Y ++ (fR j (pE G Q P PA T) ++ X)) Q st nn Z (P j) (PA j) (pN j) (pB j) (iZ ((T j : Int) - 1)) hZ ⟨hr.1, hr.2.1⟩ (by omega)) cw (q0 := 0) rfl rfl rfl rfl ⟨by show _ + 0 ≤ _; omega, by show _ + 0 ≤ _; omega⟩ hW hdg _ rfl (fun u hu => ?_)
  obtain ⟨st1, nn1, c1, s1, N, h0, h1, h2, rfl⟩ := hu
  refine w_perm _ (fp_1' hj G Q P PA T N Y X (pl st1)) ?_
  exact kk _ _ _ _ N h0 h1 (pG_trans hG h2)
theorem ld_perm {j : Nat} {E1 Y Y2 F X L : va_W} {r : Nat × va_E} (_hj : j < 12) (hY : Y.Perm (r :: Y2)) {S : va_W} (h : S.Perm (E1 ++ ((Y ++ (F ++ X)) ++ L))) : S.Perm (E1 ++ (r :: ((Y2 ++ (F ++ X)) ++ L))) :=
  h.trans (List.Perm.append_left E1 (List.Perm.append_right L (List.Perm.append_right _ hY)))
theorem ld_perm' {j : Nat} {E1 Y Y2 F X L : va_W} {r : Nat × va_E} (_hj : j < 12) (hY : Y.Perm (r :: Y2)) {S : va_W} (h : (E1 ++ ((Y ++ (F ++ X)) ++ L)).Perm S) : (E1 ++ (r :: ((Y2 ++ (F ++ X)) ++ L))).Perm S :=
  (List.Perm.append_left E1 (List.Perm.append_right L (List.Perm.append_right _ hY.symm))).trans h
theorem c_load (hA : ∀ q, s.heap.size ≤ q → A q) (C : ZC p s m args c cc nL Ts own D (cty G)) (hNs : nW s) {index : Nat} (Y X : va_W) {Q P PA T : Nat → Nat} {st : Nat → va_W} {nn : Nat → Nat} {Z : Nat → Int} {P0 P1 : Nat} (hZ : pAll G Q st nn Z) (hG : pG P0 P1 nn cells slots) (j : Nat) (hj : j < 12) (ra : Nat) (g : Nat → Int32) (Y2 : va_W) (hY : Y.Perm ((ra, .inl (G 0, 9, .inl g)) :: Y2)) (cw : CallW R s args own RX2 index yX2_load cX2_load 3 none (wC yX2_load cX2_load 3 none) ({ frames := 2, cells := 2156, slots := 802816, locals := 46 }) 2156 802816 1) (hRr : 3234 ≤ R.cells ∧ 1204224 ≤ R.slots) (hW : (rest.map fun v => v.category).sum ≤ 8) (hdg : decode cc pc = .ok (.invokevirtual index, 3)) (kk : ∀ (st1 : Nat → va_W) (nn1 : Nat → Nat) (c1 s1 : Nat) (N : Nat), tpN (fun j => if j < 9 then (g j).toInt else 0) (pN j) N → pAll G Q st1 nn1 (sP Z (pB j) (pN j) (fun j => if j < 9 then (g j).toInt else 0)) → pG P0 P1 nn1 c1 s1 → ZW p l e R s m args below meth c D A nL c1 s1 Qp (Y ++ ((fp G Q P PA (qu T j N) ++ X) ++ pl st1)) (pc + 3) lv (rest)) : ZW p l e R s m args below meth c D A nL cells slots Qp (Y ++ ((fp G Q P PA T ++ X) ++ pl st)) pc lv (.ref ra :: .ref (P j) :: rest) := by
  have hle := pG_le hZ hG
  have hr := pB_r hj
  refine w_perm _ (ld_perm hj hY (fp_1 hj G Q P PA T Y X (pl st))) ?_
  refine g_callv (N := nW) [.ref ra] hA C hNs nW_ok (cp_load l D G (Y2 ++ (fR j (pE G Q P PA T) ++ X)) Q st nn Z (P j) (PA j) (pN j) (pB j) (iZ ((T j : Int) - 1)) ra g hZ ⟨hr.1, hr.2.1⟩ (by omega)) cw (q0 := 0) rfl rfl rfl rfl ⟨by show _ + 2156 ≤ _; omega, by show _ + 802816 ≤ _; omega⟩ hW hdg _ rfl (fun u hu => ?_)
  obtain ⟨st1, nn1, c1, s1, N, h0, h1, h2, rfl⟩ := hu
  refine w_perm _ (ld_perm' hj hY (fp_1' hj G Q P PA T N Y X (pl st1))) ?_
  exact kk _ _ _ _ N h0 h1 (pG_trans hG h2)
theorem c_copy (hA : ∀ q, s.heap.size ≤ q → A q) (C : ZC p s m args c cc nL Ts own D (cty G)) (hNs : nW s) {index : Nat} (Y X : va_W) {Q P PA T : Nat → Nat} {st : Nat → va_W} {nn : Nat → Nat} {Z : Nat → Int} {P0 P1 : Nat} (hZ : pAll G Q st nn Z) (hG : pG P0 P1 nn cells slots) (j i : Nat) (hj : j < 12) (hi : i < 12) (hne : i ≠ j) (hN2 : T i ≤ pN i ∧ T i ≤ pN j) (hlb : ∀ q : Nat, q < T i → lb (Z (pB i + q)) 1024) (cw : CallW R s args own RX2 index yX2_copy cX2_copy 3 none (wC yX2_copy cX2_copy 3 none) ({ frames := 3, cells := 2156, slots := 802816, locals := 83 }) 2156 802816 1) (hRr : 3234 ≤ R.cells ∧ 1204224 ≤ R.slots) (hW : (rest.map fun v => v.category).sum ≤ 8) (hdg : decode cc pc = .ok (.invokevirtual index, 3)) (kk : ∀ (st1 : Nat → va_W) (nn1 : Nat → Nat) (c1 s1 : Nat) (N : Nat), tpN (fun q => if q < T i then Z (pB i + q) else 0) (pN j) N → pAll G Q st1 nn1 (sP Z (pB j) (pN j) (fun q => if q < T i then Z (pB i + q) else 0)) → pG P0 P1 nn1 c1 s1 → ZW p l e R s m args below meth c D A nL c1 s1 Qp (Y ++ ((fp G Q P PA (qu T j N) ++ X) ++ pl st1)) (pc + 3) lv (rest)) : ZW p l e R s m args below meth c D A nL cells slots Qp (Y ++ ((fp G Q P PA T ++ X) ++ pl st)) pc lv (.ref (P i) :: .ref (P j) :: rest) := by
  have hle := pG_le hZ hG
  have hr := pB_r hj
  have hr2 := pB_r hi
  have hd := pB_d hj hi (Ne.symm hne)
  refine w_perm _ (fp_2 hj hi hne G Q P PA T Y X (pl st)) ?_
  refine g_callv (N := nW) [.ref (P i)] hA C hNs nW_ok (cp_copy l D G (Y ++ (fR2 j i (pE G Q P PA T) ++ X)) Q st nn Z (P j) (PA j) (pN j) (pB j) (iZ ((T j : Int) - 1)) (P i) (PA i) (pN i) (pB i) (T i) hZ ⟨hr.1, hr.2.1⟩ (by omega) ⟨by omega, by omega⟩ (by omega) hN2 hlb) cw (q0 := 0) rfl rfl rfl rfl ⟨by show _ + 2156 ≤ _; omega, by show _ + 802816 ≤ _; omega⟩ hW hdg _ rfl (fun u hu => ?_)
  obtain ⟨st1, nn1, c1, s1, N, h0, h1, h2, rfl⟩ := hu
  refine w_perm _ (fp_2' hj hi hne G Q P PA T N Y X (pl st1)) ?_
  exact kk _ _ _ _ N h0 h1 (pG_trans hG h2)
theorem c_loadDerivative (hA : ∀ q, s.heap.size ≤ q → A q) (C : ZC p s m args c cc nL Ts own D (cty G)) (hNs : nW s) {index : Nat} (Y X : va_W) {Q P PA T : Nat → Nat} {st : Nat → va_W} {nn : Nat → Nat} {Z : Nat → Int} {P0 P1 : Nat} (hZ : pAll G Q st nn Z) (hG : pG P0 P1 nn cells slots) (j i fi : Nat) (hj : j < 12) (hi : i < 12) (hne : i ≠ j) (hfi : 77 ≤ fi ∧ fi < 88) (hN2 : T i ≤ pN i ∧ T i ≤ pN j + 1) (hlb : ∀ q : Nat, q < T i → lb (Z (pB i + q)) 1000) (cw : CallW R s args own RX2 index yX2_loadDerivative cX2_loadDerivative 4 none (wC yX2_loadDerivative cX2_loadDerivative 4 none) ({ frames := 3, cells := 2156, slots := 802816, locals := 92 }) 2156 802816 2) (hRr : 3234 ≤ R.cells ∧ 1204224 ≤ R.slots) (hW : (rest.map fun v => v.category).sum ≤ 8) (hdg : decode cc pc = .ok (.invokevirtual index, 3)) (kk : ∀ (st1 : Nat → va_W) (nn1 : Nat → Nat) (c1 s1 : Nat) (N : Nat), tpN (fun q => if q + 1 < T i then Z (pB i + (q + 1)) * ((q + 1 : Nat) : Int) else 0) (pN j) N → pAll G Q st1 nn1 (sP (qu Z fi (if T i ≤ 1 then Z fi else ((T i - 1 : Nat) : Int))) (pB j) (pN j) (fun q => if q + 1 < T i then Z (pB i + (q + 1)) * ((q + 1 : Nat) : Int) else 0)) → pG P0 P1 nn1 c1 s1 → ZW p l e R s m args below meth c D A nL c1 s1 Qp (Y ++ ((fp G Q P PA (qu T j N) ++ X) ++ pl st1)) (pc + 3) lv (rest)) : ZW p l e R s m args below meth c D A nL cells slots Qp (Y ++ ((fp G Q P PA T ++ X) ++ pl st)) pc lv (.ref (Q fi) :: .ref (P i) :: .ref (P j) :: rest) := by
  have hle := pG_le hZ hG
  have hr := pB_r hj
  have hr2 := pB_r hi
  have hd := pB_d hj hi (Ne.symm hne)
  refine w_perm _ (fp_2 hj hi hne G Q P PA T Y X (pl st)) ?_
  refine g_callv (N := nW) [.ref (P i), .ref (Q fi)] hA C hNs nW_ok (cp_loadDerivative l D G (Y ++ (fR2 j i (pE G Q P PA T) ++ X)) Q st nn Z (P j) (PA j) (pN j) (pB j) (iZ ((T j : Int) - 1)) (P i) (PA i) (pN i) (pB i) (T i) fi hZ ⟨hr.1, hr.2.1⟩ (by omega) ⟨by omega, by omega⟩ (by omega) ⟨by omega, by omega, by omega⟩ hN2 hlb) cw (q0 := 0) rfl rfl rfl rfl ⟨by show _ + 2156 ≤ _; omega, by show _ + 802816 ≤ _; omega⟩ hW hdg _ rfl (fun u hu => ?_)
  obtain ⟨st1, nn1, c1, s1, N, h0, h1, h2, rfl⟩ := hu
  refine w_perm _ (fp_2' hj hi hne G Q P PA T N Y X (pl st1)) ?_
  exact kk _ _ _ _ N h0 h1 (pG_trans hG h2)
theorem ty_perm {E1 Y Y2 F X L : va_W} {r : Nat × va_E} (hY : Y.Perm (r :: Y2)) {S : va_W} (h : S.Perm (E1 ++ ((Y ++ (F ++ X)) ++ L))) : S.Perm (r :: (E1 ++ ((Y2 ++ (F ++ X)) ++ L))) :=
  (h.trans (List.Perm.append_left E1 (List.Perm.append_right L (List.Perm.append_right _ hY)))).trans List.perm_middle
theorem qu_T (T : Nat → Nat) (j : Nat) (G : Nat → ClassId) (Q P PA : Nat → Nat) : pE G Q P PA T j = pE1 G Q P PA j ((T j : Int) - 1) := rfl
theorem c_taylor (hA : ∀ q, s.heap.size ≤ q → A q) (C : ZC p s m args c cc nL Ts own D (cty G)) (hNs : nW s) {index : Nat} (Y X : va_W) {Q P PA T : Nat → Nat} {st : Nat → va_W} {nn : Nat → Nat} {Z : Nat → Int} {P0 P1 : Nat} (hZ : pAll G Q st nn Z) (hG : pG P0 P1 nn cells slots) (j od ex px : Nat) (hj : j < 12) (Y2 : va_W) (hY : Y.Perm ((px, .inr (1, [.ref (Q 84), .int (iZ (ex : Int)), .ref (Q 85), .ref (Q 86), .ref (Q 87)])) :: Y2)) (hT : T j ≤ pN j) (hex : ex ≤ 30) (hod : od ≤ 16) (hnu : lb (Z 84) 3) (hc : ∀ i : Nat, i < T j → lb (Z (pB j + i)) 400) (cw : CallW R s args own RX1 index yX1_taylor cX1_taylor 4 (some (.object "RootIsolator$Whole")) (wC yX1_taylor cX1_taylor 4 (some (.object "RootIsolator$Whole"))) ({ frames := 3, cells := 1078, slots := 401408, locals := 92 }) 1078 401408 2) (hRr : 2156 ≤ R.cells ∧ 802816 ≤ R.slots) (hW : (rest.map fun v => v.category).sum ≤ 8) (hdg : decode cc pc = .ok (.invokevirtual index, 3)) (kk : ∀ (st1 : Nat → va_W) (nn1 : Nat → Nat) (c1 s1 : Nat) (z86 z87 : Int), pAll G Q st1 nn1 (q3 Z z86 z87 (tyl (fun i => Z (pB j + i)) (T j) od (Z 84) ex (T j - od))) → pG P0 P1 nn1 c1 s1 → ZW p l e R s m args below meth c D A nL c1 s1 Qp (Y ++ ((fp G Q P PA (T) ++ X) ++ pl st1)) (pc + 3) lv (.ref (Q 85) :: rest)) : ZW p l e R s m args below meth c D A nL cells slots Qp (Y ++ ((fp G Q P PA T ++ X) ++ pl st)) pc lv (.int (iZ (od : Int)) :: .ref (P j) :: .ref px :: rest) := by
  have hle := pG_le hZ hG
  have hr := pB_r hj
  refine w_perm _ (ty_perm hY (fp_1 hj G Q P PA T Y X (pl st))) ?_
  refine g_callr (ad := Q 85) (N := nW) [.ref (P j), .int (iZ (od : Int))] hA C hNs nW_ok (cp_taylor l D G (Y2 ++ (fR j (pE G Q P PA T) ++ X)) Q st nn Z px (P j) (PA j) (pN j) (pB j) (T j) od ex hZ ⟨hr.2.1, hT⟩ ⟨by omega, by omega⟩ hex hod hnu hc) cw (q0 := 0) rfl rfl rfl rfl ⟨by show _ + 1078 ≤ _; omega, by show _ + 401408 ≤ _; omega⟩ hW hdg _ rfl (fun u hu => ?_)
  obtain ⟨st1, nn1, c1, s1, z86, z87, h1, h2, rfl⟩ := hu
  refine w_perm _ ((ty_perm hY (fp_1 hj G Q P PA T Y X (pl st1))).symm) ?_
  exact kk _ _ _ _ z86 z87 h1 (pG_trans hG h2)
end POLYS
