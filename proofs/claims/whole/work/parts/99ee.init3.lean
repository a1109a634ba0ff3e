/-- the cells of a fresh polynomial, its numbers' cells -/
def pF (G : Nat → ClassId) (P PA : Nat → Nat) (F : Nat → Nat → Nat) (j : Nat) : va_W := [(P j, .inr (2, [.ref (PA j), .int (iZ (-1))])), (PA j, .inl (G 4, pN j, .inr (.inr (.inr (.inr (fun i => some (F j i)))))))]
def nF (G : Nat → ClassId) (F E : Nat → Nat → Nat) (j : Nat) : va_W := wzs G (F j) (E j) (pN j)
theorem fl_succ (f : Nat → va_W) (k : Nat) : (List.range (k + 1)).flatMap f = (List.range k).flatMap f ++ f k := by
  rw [List.range_succ, List.flatMap_append]
  simp
theorem pF_set (G : Nat → ClassId) (P PA : Nat → Nat) (F : Nat → Nat → Nat) (k a b : Nat) (R : Nat → Nat) : (List.range (k + 1)).flatMap (pF G (qu P k a) (qu PA k b) (qu F k R)) = (List.range k).flatMap (pF G P PA F) ++ [(a, .inr (2, [.ref b, .int (iZ (-1))])), (b, .inl (G 4, pN k, .inr (.inr (.inr (.inr (fun i => some (R i)))))))] := by
  rw [fl_succ]
  congr 1
  · exact flat_same (fun i hi => by
      have := List.mem_range.1 hi
      unfold pF
      rw [qu_other _ _ (by omega), qu_other _ _ (by omega), qu_other _ _ (by omega)])
  · unfold pF
    rw [qu_same, qu_same, qu_same]
theorem nF_set (G : Nat → ClassId) (F E : Nat → Nat → Nat) (k : Nat) (R L : Nat → Nat) : (List.range (k + 1)).flatMap (nF G (qu F k R) (qu E k L)) = (List.range k).flatMap (nF G F E) ++ wzs G R L (pN k) := by
  rw [fl_succ]
  congr 1
  · exact flat_same (fun i hi => by
      have := List.mem_range.1 hi
      unfold nF
      rw [qu_other _ _ (by omega), qu_other _ _ (by omega)])
  · unfold nF
    rw [qu_same, qu_same]
theorem pB_succ {k : Nat} (h : k < 10) : pB (k + 1) = pB k + pN k := by
  have h1 : ∀ k : Fin 10, pB (k.val + 1) = pB k.val + pN k.val := by decide
  exact h1 ⟨k, h⟩
theorem perm_in (a b : va_W) (x y : Nat × va_E) (Z : va_W) : (a ++ x :: y :: Z).Perm (x :: y :: (a ++ Z)) := (List.perm_middle).trans (List.Perm.cons _ List.perm_middle)

theorem q_perm (v6 v5 v4 v3 v2 v1 v0 u3 u4 X : va_W) : (v6 ++ (v5 ++ (v4 ++ (v3 ++ (v2 ++ (v1 ++ (v0 ++ (u3 ++ (u4 ++ X))))))))).Perm (u3 ++ (u4 ++ (v0 ++ (v1 ++ (v2 ++ (v3 ++ (v4 ++ (v5 ++ (v6 ++ X))))))))) := by
  have key : ∀ (a b c d : va_W), (a ++ (b ++ (c ++ d))).Perm (b ++ (c ++ (a ++ d))) := fun a b c d => (List.perm_append_comm_assoc a b _).trans (List.Perm.append_left b (List.perm_append_comm_assoc a c d))
  have s1 : (v0 ++ (u3 ++ (u4 ++ X))).Perm (u3 ++ (u4 ++ (v0 ++ X))) := key _ _ _ _
  have mv : ∀ (v a b Y : va_W), (v ++ (a ++ (b ++ Y))).Perm (a ++ (b ++ (v ++ Y))) := fun v a b Y => key v a b Y
  have st : ∀ (v A B : va_W), A.Perm (u3 ++ (u4 ++ B)) → (v ++ A).Perm (u3 ++ (u4 ++ (v ++ B))) := fun v A B h => (List.Perm.append_left v h).trans (key _ _ _ _)
  have t := st v6 _ _ (st v5 _ _ (st v4 _ _ (st v3 _ _ (st v2 _ _ (st v1 _ _ s1)))))
  refine t.trans (List.Perm.append_left _ (List.Perm.append_left _ ?_))
  have r : (v6 ++ (v5 ++ (v4 ++ (v3 ++ (v2 ++ (v1 ++ (v0 ++ X))))))).Perm (v0 ++ (v1 ++ (v2 ++ (v3 ++ (v4 ++ (v5 ++ (v6 ++ X))))))) := by
    have e : ∀ L : List va_W, (L.flatMap id).Perm (L.reverse.flatMap id) := fun L => (List.reverse_perm L).symm.flatMap_right id
    have h := e [v6, v5, v4, v3, v2, v1, v0]
    simp only [List.flatMap_cons, List.flatMap_nil, List.reverse_cons, List.reverse_nil, List.nil_append, List.cons_append, id, List.append_nil] at h
    have h2 := List.Perm.append_right X h
    simp only [List.append_assoc] at h2
    exact h2
  exact r

set_option maxHeartbeats 4000000 in
set_option maxRecDepth 100000 in
/-- Chain's constructor -/
theorem ci_X0 (l : Launch) (D : va_G) (G : Nat → ClassId) (X : va_W) (b : Nat) (sz hs : Nat) : Met l yX0_init (wC yX0_init cX0_init 2 none) ({ frames := 3, cells := 240, slots := 840, locals := 100 }) (va_Pc [.ref b] (cPre nC D G ((b, .inr (0, [.null, .int 0, .null, .null, .null, .null, .null, .null, .null, .null])) :: X : va_W) sz hs)) (va_Qv (fun (u : cS) => ∃ (rx g0 g1 g2 g3 g4 g5 g6 h0 h1 h2 h3 h4 h5 h6 : Nat) (P PA : Nat → Nat) (F E : Nat → Nat → Nat), u = ((b, .inr (0, [.ref rx, .int (iZ 0), .ref (P 10), .ref g0, .ref g1, .ref g2, .ref g3, .ref g4, .ref g5, .ref g6])) :: (rx, .inl (G 5, 10, .inr (.inr (.inr (.inr (fun i => some (P i))))))) :: ((List.range 11).flatMap (pF G P PA F) ++ ((List.range 11).flatMap (nF G F E) ++ (wz G g0 h0 ++ (wz G g1 h1 ++ (wz G g2 h2 ++ (wz G g3 h3 ++ (wz G g4 h4 ++ (wz G g5 h5 ++ (wz G g6 h6 ++ X))))))))), 191, 697)) (cAt D G (va_A ((b, .inr (0, [.null, .int 0, .null, .null, .null, .null, .null, .null, .null, .null])) :: X : va_W) sz) sz hs) (va_A ((b, .inr (0, [.null, .int 0, .null, .null, .null, .null, .null, .null, .null, .null])) :: X : va_W) sz)) 240 840 (va_A ((b, .inr (0, [.null, .int 0, .null, .null, .null, .null, .null, .null, .null, .null])) :: X : va_W) sz) := by
  refine g_metI (cc := cX0_init) (maxL := 2) (ret := none) (own := RX0) (by decide) rfl rfl rfl (Nat.le_of_ble_eq_true rfl) ?_
  intro p e s m below meth c hsz hhs hNs hA C hr hlk hnm
  refine w_sub [(0, .ref b)] [0] rfl ?_
  refine w_aload_n C dX0_init_0 0 rfl ?_
  refine w_objI C (wC_in kX0_3) (wC_in niO) (wC_in cdO) (Nat.le_of_ble_eq_true rfl) (Nat.le_of_ble_eq_true rfl) dX0_init_1 ?_
  refine w_aload_n C dX0_init_4 0 rfl ?_
  refine w_bipush C dX0_init_5 (by decide) ?_
  refine w_anew C hA (wC_in clX0_11) hNs.2.1 5 rfl 10 ⟨rfl, by decide⟩ ⟨Nat.le_of_ble_eq_true rfl, Nat.le_of_ble_eq_true rfl⟩ dX0_init_7 (fun rx => ?_)
  refine w_putF (ci := 0) (T := TX0) (Cn := RX0) (K := 10) (ty := (.array (.object RX2))) C hnm ((rx, .inl (G 5, 10, .inr (.inr (.inr (.inr (fun _ => none)))))) :: (b, .inr (0, [.ref rx, .int 0, .null, .null, .null, .null, .null, .null, .null, .null])) :: X : va_W) (fun w h => wC_in (inX0 w h)) tyX0 tyX0_ok nmX0 1 rfl rfl 0 (by decide) (wC_in fX0_13) rfl rfl (by decide +kernel) rfl rfl (Nat.le_of_ble_eq_true rfl) rfl dX0_init_10 ?_
  refine w_perm ((b, .inr (0, [.ref rx, .int 0, .null, .null, .null, .null, .null, .null, .null, .null])) :: (rx, .inl (G 5, 10, .inr (.inr (.inr (.inr (fun _ => none)))))) :: X : va_W) (List.Perm.swap _ _ _) ?_
  refine w_aload_n C dX0_init_13 0 rfl ?_
  refine w_iconst C dX0_init_14 ?_
  refine w_put (ci := 0) (ref := "RootIsolator$Chain") (T := TX0) (Cn := RX0) (N := 10) (ty := .int) C ((b, .inr (0, [.ref rx, .int (iZ 0), .null, .null, .null, .null, .null, .null, .null, .null])) :: (rx, .inl (G 5, 10, .inr (.inr (.inr (.inr (fun _ => none)))))) :: X : va_W) (fun w h => wC_in (inX0 w h)) tyX0 tyX0_ok nmX0 0 rfl rfl 1 (by decide) (wC_in fX0_17) rfl rfl (by decide +kernel) rfl rfl (Nat.le_of_ble_eq_true rfl) rfl dX0_init_15 ?_
  refine w_aload_n C dX0_init_18 0 rfl ?_
  refine w_new (ci := 2) (Cn := RX2) (T := TX2) (K := 2) C hA (fun w h => wC_in (inX2 w h)) tyX2 tyX2_ok (wC_in clX0_11) (wC_in isX2) (wC_in iniX2) rfl [.null, .int 0] (by decide +kernel) ⟨Nat.le_of_ble_eq_true rfl, Nat.le_of_ble_eq_true rfl⟩ dX0_init_19 (fun pr => ?_)
  refine w_dup C dX0_init_22 rfl ?_
  refine w_bipush C dX0_init_23 (by decide) ?_
  refine w_polyC C hA hNs 16 ⟨by decide, by decide⟩ rfl kX0_21 ⟨Nat.le_of_ble_eq_true rfl, Nat.le_of_ble_eq_true rfl⟩ ⟨Nat.le_of_ble_eq_true rfl, Nat.le_of_ble_eq_true rfl⟩ (Nat.le_of_ble_eq_true rfl) dX0_init_25 (fun qr Rr Lr => ?_)
  refine w_perm ((b, .inr (0, [.ref rx, .int (iZ 0), .null, .null, .null, .null, .null, .null, .null, .null])) :: (rx, .inl (G 5, 10, .inr (.inr (.inr (.inr (fun _ => none)))))) :: ((pr, .inr (2, [.ref qr, .int (iZ (-1))])) :: (qr, .inl (G 4, 16, .inr (.inr (.inr (.inr (fun i => some (Rr i))))))) :: (wzs G Rr Lr 16 ++ X)) : va_W) (perm_in ((pr, .inr (2, [.ref qr, .int (iZ (-1))])) :: (qr, .inl (G 4, 16, .inr (.inr (.inr (.inr (fun i => some (Rr i))))))) :: wzs G Rr Lr 16) [] _ _ _) ?_
  refine w_putF (ci := 0) (T := TX0) (Cn := RX0) (K := 10) (ty := (.object RX2)) C hnm ((b, .inr (0, [.ref rx, .int (iZ 0), .ref pr, .null, .null, .null, .null, .null, .null, .null])) :: (rx, .inl (G 5, 10, .inr (.inr (.inr (.inr (fun _ => none)))))) :: ((pr, .inr (2, [.ref qr, .int (iZ (-1))])) :: (qr, .inl (G 4, 16, .inr (.inr (.inr (.inr (fun i => some (Rr i))))))) :: (wzs G Rr Lr 16 ++ X)) : va_W) (fun w h => wC_in (inX0 w h)) tyX0 tyX0_ok nmX0 0 rfl rfl 2 (by decide) (wC_in fX0_24) rfl rfl (by decide +kernel) rfl rfl (Nat.le_of_ble_eq_true rfl) rfl dX0_init_28 ?_
  generalize hY : (((pr, .inr (2, [.ref qr, .int (iZ (-1))])) :: (qr, .inl (G 4, 16, .inr (.inr (.inr (.inr (fun i => some (Rr i))))))) :: (wzs G Rr Lr 16 ++ X)) : va_W) = Y
  refine w_aload_n C dX0_init_31 0 rfl ?_
  refine w_whole C hA hNs clX0_28 hNs.1.2.2.2.2.2.2.2.2.1 ⟨Nat.le_of_ble_eq_true rfl, Nat.le_of_ble_eq_true rfl⟩ ⟨Nat.le_of_ble_eq_true rfl, Nat.le_of_ble_eq_true rfl⟩ (Nat.le_of_ble_eq_true rfl) dX0_init_32 dX0_init_35 dX0_init_36 (fun g0 h0 => ?_)
  refine w_putF (ci := 0) (T := TX0) (Cn := RX0) (K := 10) (ty := (.object RX3)) C hnm (wz G g0 h0 ++ (b, .inr (0, [.ref rx, .int (iZ 0), .ref pr, .ref g0, .null, .null, .null, .null, .null, .null])) :: (rx, .inl (G 5, 10, .inr (.inr (.inr (.inr (fun _ => none)))))) :: Y : va_W) (fun w h => wC_in (inX0 w h)) tyX0 tyX0_ok nmX0 2 rfl rfl 3 (by decide) (wC_in fX0_31) rfl rfl (by decide +kernel) rfl rfl (Nat.le_of_ble_eq_true rfl) rfl dX0_init_39 ?_
  refine w_perm ((b, .inr (0, [.ref rx, .int (iZ 0), .ref pr, .ref g0, .null, .null, .null, .null, .null, .null])) :: (rx, .inl (G 5, 10, .inr (.inr (.inr (.inr (fun _ => none)))))) :: (wz G g0 h0 ++ Y) : va_W) (perm_in (wz G g0 h0) [] _ _ _) ?_
  refine w_aload_n C dX0_init_42 0 rfl ?_
  refine w_whole C hA hNs clX0_28 hNs.1.2.2.2.2.2.2.2.2.1 ⟨Nat.le_of_ble_eq_true rfl, Nat.le_of_ble_eq_true rfl⟩ ⟨Nat.le_of_ble_eq_true rfl, Nat.le_of_ble_eq_true rfl⟩ (Nat.le_of_ble_eq_true rfl) dX0_init_43 dX0_init_46 dX0_init_47 (fun g1 h1 => ?_)
  refine w_putF (ci := 0) (T := TX0) (Cn := RX0) (K := 10) (ty := (.object RX3)) C hnm (wz G g1 h1 ++ (b, .inr (0, [.ref rx, .int (iZ 0), .ref pr, .ref g0, .ref g1, .null, .null, .null, .null, .null])) :: (rx, .inl (G 5, 10, .inr (.inr (.inr (.inr (fun _ => none)))))) :: (wz G g0 h0 ++ Y) : va_W) (fun w h => wC_in (inX0 w h)) tyX0 tyX0_ok nmX0 2 rfl rfl 4 (by decide) (wC_in fX0_35) rfl rfl (by decide +kernel) rfl rfl (Nat.le_of_ble_eq_true rfl) rfl dX0_init_50 ?_
  refine w_perm ((b, .inr (0, [.ref rx, .int (iZ 0), .ref pr, .ref g0, .ref g1, .null, .null, .null, .null, .null])) :: (rx, .inl (G 5, 10, .inr (.inr (.inr (.inr (fun _ => none)))))) :: (wz G g1 h1 ++ (wz G g0 h0 ++ Y)) : va_W) (perm_in (wz G g1 h1) [] _ _ _) ?_
  refine w_aload_n C dX0_init_53 0 rfl ?_
  refine w_whole C hA hNs clX0_28 hNs.1.2.2.2.2.2.2.2.2.1 ⟨Nat.le_of_ble_eq_true rfl, Nat.le_of_ble_eq_true rfl⟩ ⟨Nat.le_of_ble_eq_true rfl, Nat.le_of_ble_eq_true rfl⟩ (Nat.le_of_ble_eq_true rfl) dX0_init_54 dX0_init_57 dX0_init_58 (fun g2 h2 => ?_)
  refine w_putF (ci := 0) (T := TX0) (Cn := RX0) (K := 10) (ty := (.object RX3)) C hnm (wz G g2 h2 ++ (b, .inr (0, [.ref rx, .int (iZ 0), .ref pr, .ref g0, .ref g1, .ref g2, .null, .null, .null, .null])) :: (rx, .inl (G 5, 10, .inr (.inr (.inr (.inr (fun _ => none)))))) :: (wz G g1 h1 ++ (wz G g0 h0 ++ Y)) : va_W) (fun w h => wC_in (inX0 w h)) tyX0 tyX0_ok nmX0 2 rfl rfl 5 (by decide) (wC_in fX0_38) rfl rfl (by decide +kernel) rfl rfl (Nat.le_of_ble_eq_true rfl) rfl dX0_init_61 ?_
  refine w_perm ((b, .inr (0, [.ref rx, .int (iZ 0), .ref pr, .ref g0, .ref g1, .ref g2, .null, .null, .null, .null])) :: (rx, .inl (G 5, 10, .inr (.inr (.inr (.inr (fun _ => none)))))) :: (wz G g2 h2 ++ (wz G g1 h1 ++ (wz G g0 h0 ++ Y))) : va_W) (perm_in (wz G g2 h2) [] _ _ _) ?_
  refine w_aload_n C dX0_init_64 0 rfl ?_
  refine w_whole C hA hNs clX0_28 hNs.1.2.2.2.2.2.2.2.2.1 ⟨Nat.le_of_ble_eq_true rfl, Nat.le_of_ble_eq_true rfl⟩ ⟨Nat.le_of_ble_eq_true rfl, Nat.le_of_ble_eq_true rfl⟩ (Nat.le_of_ble_eq_true rfl) dX0_init_65 dX0_init_68 dX0_init_69 (fun g3 h3 => ?_)
  refine w_putF (ci := 0) (T := TX0) (Cn := RX0) (K := 10) (ty := (.object RX3)) C hnm (wz G g3 h3 ++ (b, .inr (0, [.ref rx, .int (iZ 0), .ref pr, .ref g0, .ref g1, .ref g2, .ref g3, .null, .null, .null])) :: (rx, .inl (G 5, 10, .inr (.inr (.inr (.inr (fun _ => none)))))) :: (wz G g2 h2 ++ (wz G g1 h1 ++ (wz G g0 h0 ++ Y))) : va_W) (fun w h => wC_in (inX0 w h)) tyX0 tyX0_ok nmX0 2 rfl rfl 6 (by decide) (wC_in fX0_41) rfl rfl (by decide +kernel) rfl rfl (Nat.le_of_ble_eq_true rfl) rfl dX0_init_72 ?_
  refine w_perm ((b, .inr (0, [.ref rx, .int (iZ 0), .ref pr, .ref g0, .ref g1, .ref g2, .ref g3, .null, .null, .null])) :: (rx, .inl (G 5, 10, .inr (.inr (.inr (.inr (fun _ => none)))))) :: (wz G g3 h3 ++ (wz G g2 h2 ++ (wz G g1 h1 ++ (wz G g0 h0 ++ Y)))) : va_W) (perm_in (wz G g3 h3) [] _ _ _) ?_
  refine w_aload_n C dX0_init_75 0 rfl ?_
  refine w_whole C hA hNs clX0_28 hNs.1.2.2.2.2.2.2.2.2.1 ⟨Nat.le_of_ble_eq_true rfl, Nat.le_of_ble_eq_true rfl⟩ ⟨Nat.le_of_ble_eq_true rfl, Nat.le_of_ble_eq_true rfl⟩ (Nat.le_of_ble_eq_true rfl) dX0_init_76 dX0_init_79 dX0_init_80 (fun g4 h4 => ?_)
  refine w_putF (ci := 0) (T := TX0) (Cn := RX0) (K := 10) (ty := (.object RX3)) C hnm (wz G g4 h4 ++ (b, .inr (0, [.ref rx, .int (iZ 0), .ref pr, .ref g0, .ref g1, .ref g2, .ref g3, .ref g4, .null, .null])) :: (rx, .inl (G 5, 10, .inr (.inr (.inr (.inr (fun _ => none)))))) :: (wz G g3 h3 ++ (wz G g2 h2 ++ (wz G g1 h1 ++ (wz G g0 h0 ++ Y)))) : va_W) (fun w h => wC_in (inX0 w h)) tyX0 tyX0_ok nmX0 2 rfl rfl 7 (by decide) (wC_in fX0_44) rfl rfl (by decide +kernel) rfl rfl (Nat.le_of_ble_eq_true rfl) rfl dX0_init_83 ?_
  refine w_perm ((b, .inr (0, [.ref rx, .int (iZ 0), .ref pr, .ref g0, .ref g1, .ref g2, .ref g3, .ref g4, .null, .null])) :: (rx, .inl (G 5, 10, .inr (.inr (.inr (.inr (fun _ => none)))))) :: (wz G g4 h4 ++ (wz G g3 h3 ++ (wz G g2 h2 ++ (wz G g1 h1 ++ (wz G g0 h0 ++ Y))))) : va_W) (perm_in (wz G g4 h4) [] _ _ _) ?_
  refine w_aload_n C dX0_init_86 0 rfl ?_
  refine w_whole C hA hNs clX0_28 hNs.1.2.2.2.2.2.2.2.2.1 ⟨Nat.le_of_ble_eq_true rfl, Nat.le_of_ble_eq_true rfl⟩ ⟨Nat.le_of_ble_eq_true rfl, Nat.le_of_ble_eq_true rfl⟩ (Nat.le_of_ble_eq_true rfl) dX0_init_87 dX0_init_90 dX0_init_91 (fun g5 h5 => ?_)
  refine w_putF (ci := 0) (T := TX0) (Cn := RX0) (K := 10) (ty := (.object RX3)) C hnm (wz G g5 h5 ++ (b, .inr (0, [.ref rx, .int (iZ 0), .ref pr, .ref g0, .ref g1, .ref g2, .ref g3, .ref g4, .ref g5, .null])) :: (rx, .inl (G 5, 10, .inr (.inr (.inr (.inr (fun _ => none)))))) :: (wz G g4 h4 ++ (wz G g3 h3 ++ (wz G g2 h2 ++ (wz G g1 h1 ++ (wz G g0 h0 ++ Y))))) : va_W) (fun w h => wC_in (inX0 w h)) tyX0 tyX0_ok nmX0 2 rfl rfl 8 (by decide) (wC_in fX0_47) rfl rfl (by decide +kernel) rfl rfl (Nat.le_of_ble_eq_true rfl) rfl dX0_init_94 ?_
  refine w_perm ((b, .inr (0, [.ref rx, .int (iZ 0), .ref pr, .ref g0, .ref g1, .ref g2, .ref g3, .ref g4, .ref g5, .null])) :: (rx, .inl (G 5, 10, .inr (.inr (.inr (.inr (fun _ => none)))))) :: (wz G g5 h5 ++ (wz G g4 h4 ++ (wz G g3 h3 ++ (wz G g2 h2 ++ (wz G g1 h1 ++ (wz G g0 h0 ++ Y)))))) : va_W) (perm_in (wz G g5 h5) [] _ _ _) ?_
  refine w_aload_n C dX0_init_97 0 rfl ?_
  refine w_whole C hA hNs clX0_28 hNs.1.2.2.2.2.2.2.2.2.1 ⟨Nat.le_of_ble_eq_true rfl, Nat.le_of_ble_eq_true rfl⟩ ⟨Nat.le_of_ble_eq_true rfl, Nat.le_of_ble_eq_true rfl⟩ (Nat.le_of_ble_eq_true rfl) dX0_init_98 dX0_init_101 dX0_init_102 (fun g6 h6 => ?_)
  refine w_putF (ci := 0) (T := TX0) (Cn := RX0) (K := 10) (ty := (.object RX3)) C hnm (wz G g6 h6 ++ (b, .inr (0, [.ref rx, .int (iZ 0), .ref pr, .ref g0, .ref g1, .ref g2, .ref g3, .ref g4, .ref g5, .ref g6])) :: (rx, .inl (G 5, 10, .inr (.inr (.inr (.inr (fun _ => none)))))) :: (wz G g5 h5 ++ (wz G g4 h4 ++ (wz G g3 h3 ++ (wz G g2 h2 ++ (wz G g1 h1 ++ (wz G g0 h0 ++ Y)))))) : va_W) (fun w h => wC_in (inX0 w h)) tyX0 tyX0_ok nmX0 2 rfl rfl 9 (by decide) (wC_in fX0_50) rfl rfl (by decide +kernel) rfl rfl (Nat.le_of_ble_eq_true rfl) rfl dX0_init_105 ?_
  refine w_perm ((b, .inr (0, [.ref rx, .int (iZ 0), .ref pr, .ref g0, .ref g1, .ref g2, .ref g3, .ref g4, .ref g5, .ref g6])) :: (rx, .inl (G 5, 10, .inr (.inr (.inr (.inr (fun _ => none)))))) :: (wz G g6 h6 ++ (wz G g5 h5 ++ (wz G g4 h4 ++ (wz G g3 h3 ++ (wz G g2 h2 ++ (wz G g1 h1 ++ (wz G g0 h0 ++ Y))))))) : va_W) (perm_in (wz G g6 h6) [] _ _ _) ?_
  generalize hY2 : ((wz G g6 h6 ++ (wz G g5 h5 ++ (wz G g4 h4 ++ (wz G g3 h3 ++ (wz G g2 h2 ++ (wz G g1 h1 ++ (wz G g0 h0 ++ Y))))))) : va_W) = Y2
  have lp : ∀ (d k : Nat) (P PA : Nat → Nat) (F E : Nat → Nat → Nat) (f : Nat → Option Nat), k + d = 10 → (∀ i : Nat, i < k → f i = some (P i)) → ZW p l e ({ frames := 3, cells := 240, slots := 840, locals := 100 }) s m ([.ref b] : List Value).toArray below meth c D (va_A ((b, .inr (0, [.null, .int 0, .null, .null, .null, .null, .null, .null, .null, .null])) :: X : va_W) sz) 2 (49 + (2 * k + 2 * pB k)) (189 + (2 * k + 8 * pB k)) (MQ below (va_Qv (fun (u : cS) => ∃ (rx g0 g1 g2 g3 g4 g5 g6 h0 h1 h2 h3 h4 h5 h6 : Nat) (P PA : Nat → Nat) (F E : Nat → Nat → Nat), u = ((b, .inr (0, [.ref rx, .int (iZ 0), .ref (P 10), .ref g0, .ref g1, .ref g2, .ref g3, .ref g4, .ref g5, .ref g6])) :: (rx, .inl (G 5, 10, .inr (.inr (.inr (.inr (fun i => some (P i))))))) :: ((List.range 11).flatMap (pF G P PA F) ++ ((List.range 11).flatMap (nF G F E) ++ (wz G g0 h0 ++ (wz G g1 h1 ++ (wz G g2 h2 ++ (wz G g3 h3 ++ (wz G g4 h4 ++ (wz G g5 h5 ++ (wz G g6 h6 ++ X))))))))), 191, 697)) (cAt D G (va_A ((b, .inr (0, [.null, .int 0, .null, .null, .null, .null, .null, .null, .null, .null])) :: X : va_W) sz) sz hs) (va_A ((b, .inr (0, [.null, .int 0, .null, .null, .null, .null, .null, .null, .null, .null])) :: X : va_W) sz)) ([.ref b] : List Value).toArray s 240 840 (va_A ((b, .inr (0, [.null, .int 0, .null, .null, .null, .null, .null, .null, .null, .null])) :: X : va_W) sz)) ((b, .inr (0, [.ref rx, .int (iZ 0), .ref pr, .ref g0, .ref g1, .ref g2, .ref g3, .ref g4, .ref g5, .ref g6])) :: (rx, .inl (G 5, 10, .inr (.inr (.inr (.inr (f)))))) :: ((List.range k).flatMap (pF G P PA F) ++ ((List.range k).flatMap (nF G F E) ++ Y2)) : va_W) 110 [(1, .int (iZ ((k : Int)))), (0, .ref b)] [] := by
    intro d
    induction d with
    | zero =>
      intro k P PA F E f hd hf
      have ek : k = 10 := by omega
      subst ek
      refine w_iload_n C dX0_init_110 0 rfl ?_
      refine w_bipush C dX0_init_111 (by decide) ?_
      refine w_icmp_ge C 148 dX0_init_113 (by decide) ⟨⟨by omega, by omega⟩, by omega, by omega⟩ (fun c8 => ?_) (fun c8 => absurd c8 (by omega))
      refine w_perm _ (List.Perm.swap _ _ _) ?_
      refine w_acg (g := fun i => some (qu P 10 pr i)) (fun i hi => by rw [hf i hi, qu_other _ _ (by omega)]) ?_
      refine w_perm ((b, .inr (0, [.ref rx, .int (iZ 0), .ref (qu P 10 pr 10), .ref g0, .ref g1, .ref g2, .ref g3, .ref g4, .ref g5, .ref g6])) :: (rx, .inl (G 5, 10, .inr (.inr (.inr (.inr (fun i => some (qu P 10 pr i))))))) :: ((List.range 11).flatMap (pF G (qu P 10 pr) (qu PA 10 qr) (qu F 10 Rr)) ++ ((List.range 11).flatMap (nF G (qu F 10 Rr) (qu E 10 Lr)) ++ (wz G g0 h0 ++ (wz G g1 h1 ++ (wz G g2 h2 ++ (wz G g3 h3 ++ (wz G g4 h4 ++ (wz G g5 h5 ++ (wz G g6 h6 ++ X))))))))) : va_W) ?_ ?_
      · rw [qu_same]
        refine (List.Perm.swap _ _ _).trans (List.Perm.cons _ (List.Perm.cons _ ?_))
        rw [pF_set, nF_set, ← hY2, ← hY]
        show ((List.range 10).flatMap (pF G P PA F) ++ ((List.range 10).flatMap (nF G F E) ++ (wz G g6 h6 ++ (wz G g5 h5 ++ (wz G g4 h4 ++ (wz G g3 h3 ++ (wz G g2 h2 ++ (wz G g1 h1 ++ (wz G g0 h0 ++ ([(pr, .inr (2, [.ref qr, .int (iZ (-1))])), (qr, .inl (G 4, 16, .inr (.inr (.inr (.inr (fun i => some (Rr i)))))))] ++ (wzs G Rr Lr 16 ++ X)))))))))) : va_W).Perm (((List.range 10).flatMap (pF G P PA F) ++ [(pr, .inr (2, [.ref qr, .int (iZ (-1))])), (qr, .inl (G 4, 16, .inr (.inr (.inr (.inr (fun i => some (Rr i)))))))]) ++ (((List.range 10).flatMap (nF G F E) ++ wzs G Rr Lr 16) ++ (wz G g0 h0 ++ (wz G g1 h1 ++ (wz G g2 h2 ++ (wz G g3 h3 ++ (wz G g4 h4 ++ (wz G g5 h5 ++ (wz G g6 h6 ++ X)))))))))
        generalize (List.range 10).flatMap (pF G P PA F) = u1
        generalize (List.range 10).flatMap (nF G F E) = u2
        generalize ([(pr, .inr (2, [.ref qr, .int (iZ (-1))])), (qr, .inl (G 4, 16, .inr (.inr (.inr (.inr (fun i => some (Rr i)))))))] : va_W) = u3
        generalize wzs G Rr Lr 16 = u4
        generalize wz G g0 h0 = v0
        generalize wz G g1 h1 = v1
        generalize wz G g2 h2 = v2
        generalize wz G g3 h3 = v3
        generalize wz G g4 h4 = v4
        generalize wz G g5 h5 = v5
        generalize wz G g6 h6 = v6
        simp only [List.append_assoc]
        refine List.Perm.append_left _ ?_
        refine (List.Perm.append_left u2 (q_perm v6 v5 v4 v3 v2 v1 v0 u3 u4 X)).trans ?_
        exact List.perm_append_comm_assoc _ _ _
      exact g_vret hsz hhs C hr hlk ⟨by decide, by decide⟩ (⟨rx, g0, g1, g2, g3, g4, g5, g6, h0, h1, h2, h3, h4, h5, h6, qu P 10 pr, qu PA 10 qr, qu F 10 Rr, qu E 10 Lr, rfl⟩) dX0_init_148
    | succ d ih =>
      intro k P PA F E f hd hf
      have hps := pB_succ (k := k) (by omega)
      have hpr := pB_r (j := k) (by omega)
      have hpb : pB k ≤ 60 := by
        have h1 : ∀ k : Fin 10, pB k.val ≤ 60 := by decide
        exact h1 ⟨k, by omega⟩
      refine w_iload_n C dX0_init_110 0 rfl ?_
      refine w_bipush C dX0_init_111 (by decide) ?_
      refine w_icmp_ge C 148 dX0_init_113 (by decide) ⟨⟨by omega, by omega⟩, by omega, by omega⟩ (fun c8 => absurd c8 (by omega)) (fun c8 => ?_)
      refine w_aload_n C dX0_init_116 1 rfl ?_
      refine w_get (ci := 0) (ref := "RootIsolator$Chain") (T := TX0) (Cn := RX0) (N := 10) C (fun w h => wC_in (inX0 w h)) 0 rfl rfl 0 (by decide) (wC_in fX0_13) rfl rfl dX0_init_117 ?_
      refine w_iload_n C dX0_init_120 0 rfl ?_
      refine w_new (ci := 2) (Cn := RX2) (T := TX2) (K := 2) C hA (fun w h => wC_in (inX2 w h)) tyX2 tyX2_ok (wC_in clX0_11) (wC_in isX2) (wC_in iniX2) rfl [.null, .int 0] (by decide +kernel) ⟨by show 49 + (2 * k + 2 * pB k) + 1 ≤ 240; omega, by show 189 + (2 * k + 8 * pB k) + 2 ≤ 840; omega⟩ dX0_init_121 (fun pj => ?_)
      refine w_dup C dX0_init_124 rfl ?_
      refine w_iload_n C dX0_init_125 0 rfl ?_
      have J : ∀ z : Int, z = pN k → ZW p l e ({ frames := 3, cells := 240, slots := 840, locals := 100 }) s m ([.ref b] : List Value).toArray below meth c D (va_A ((b, .inr (0, [.null, .int 0, .null, .null, .null, .null, .null, .null, .null, .null])) :: X : va_W) sz) 2 (49 + (2 * k + 2 * pB k) + 1) (189 + (2 * k + 8 * pB k) + 2) (MQ below (va_Qv (fun (u : cS) => ∃ (rx g0 g1 g2 g3 g4 g5 g6 h0 h1 h2 h3 h4 h5 h6 : Nat) (P PA : Nat → Nat) (F E : Nat → Nat → Nat), u = ((b, .inr (0, [.ref rx, .int (iZ 0), .ref (P 10), .ref g0, .ref g1, .ref g2, .ref g3, .ref g4, .ref g5, .ref g6])) :: (rx, .inl (G 5, 10, .inr (.inr (.inr (.inr (fun i => some (P i))))))) :: ((List.range 11).flatMap (pF G P PA F) ++ ((List.range 11).flatMap (nF G F E) ++ (wz G g0 h0 ++ (wz G g1 h1 ++ (wz G g2 h2 ++ (wz G g3 h3 ++ (wz G g4 h4 ++ (wz G g5 h5 ++ (wz G g6 h6 ++ X))))))))), 191, 697)) (cAt D G (va_A ((b, .inr (0, [.null, .int 0, .null, .null, .null, .null, .null, .null, .null, .null])) :: X : va_W) sz) sz hs) (va_A ((b, .inr (0, [.null, .int 0, .null, .null, .null, .null, .null, .null, .null, .null])) :: X : va_W) sz)) ([.ref b] : List Value).toArray s 240 840 (va_A ((b, .inr (0, [.null, .int 0, .null, .null, .null, .null, .null, .null, .null, .null])) :: X : va_W) sz)) ((pj, .inr (2, [.null, .int 0])) :: (b, .inr (0, [.ref rx, .int (iZ 0), .ref pr, .ref g0, .ref g1, .ref g2, .ref g3, .ref g4, .ref g5, .ref g6])) :: (rx, .inl (G 5, 10, .inr (.inr (.inr (.inr (f)))))) :: ((List.range k).flatMap (pF G P PA F) ++ ((List.range k).flatMap (nF G F E) ++ Y2)) : va_W) 138 [(1, .int (iZ ((k : Int)))), (0, .ref b)] [.int (iZ z), .ref pj, .ref pj, .int (iZ ((k : Int))), .ref rx] := fun z hz => by
        refine w_polyC C hA hNs (pN k) ⟨hpr.1, hpr.2.1⟩ hz kX0_21 ⟨Nat.le_of_ble_eq_true rfl, Nat.le_of_ble_eq_true rfl⟩ ⟨by show 49 + (2 * k + 2 * pB k) + 1 + 33 ≤ 240; omega, by show 189 + (2 * k + 8 * pB k) + 2 + 128 ≤ 840; omega⟩ (Nat.le_of_ble_eq_true rfl) dX0_init_138 (fun qj Rj Lj => ?_)
        refine w_perm ((pj, .inr (2, [.ref qj, .int (iZ (-1))])) :: (rx, .inl (G 5, 10, .inr (.inr (.inr (.inr (f)))))) :: (b, .inr (0, [.ref rx, .int (iZ 0), .ref pr, .ref g0, .ref g1, .ref g2, .ref g3, .ref g4, .ref g5, .ref g6])) :: ((qj, .inl (G 4, pN k, .inr (.inr (.inr (.inr (fun i => some (Rj i))))))) :: (wzs G Rj Lj (pN k) ++ ((List.range k).flatMap (pF G P PA F) ++ ((List.range k).flatMap (nF G F E) ++ Y2)))) : va_W) ?_ ?_
        · refine List.Perm.cons _ ?_
          refine (List.Perm.cons _ (perm_in (wzs G Rj Lj (pN k)) [] _ _ _)).trans ?_
          exact (List.Perm.swap _ _ _).trans ((List.Perm.cons _ (List.Perm.swap _ _ _)).trans (List.Perm.swap _ _ _))
        refine w_aast C ((pj, .inr (2, [.ref qj, .int (iZ (-1))])) :: (rx, .inl (G 5, 10, .inr (.inr (.inr (.inr (va_up f k (some pj))))))) :: (b, .inr (0, [.ref rx, .int (iZ 0), .ref pr, .ref g0, .ref g1, .ref g2, .ref g3, .ref g4, .ref g5, .ref g6])) :: ((qj, .inl (G 4, pN k, .inr (.inr (.inr (.inr (fun i => some (Rj i))))))) :: (wzs G Rj Lj (pN k) ++ ((List.range k).flatMap (pF G P PA F) ++ ((List.range k).flatMap (nF G F E) ++ Y2)))) : va_W) 1 5 0 2 (r := (RX2, TX2, 2)) rfl rfl rfl rfl k ⟨rfl, by omega, by omega⟩ rfl dX0_init_141 ?_
        refine w_iinc C (((k + 1 : Nat) : Int)) (by omega) [(1, .int (iZ (((k + 1 : Nat) : Int)))), (0, .ref b)] dX0_init_142 0 rfl (by decide) rfl ?_
        refine w_goto C 110 dX0_init_145 (by decide) ?_
        refine w_perm ((b, .inr (0, [.ref rx, .int (iZ 0), .ref pr, .ref g0, .ref g1, .ref g2, .ref g3, .ref g4, .ref g5, .ref g6])) :: (rx, .inl (G 5, 10, .inr (.inr (.inr (.inr (va_up f k (some pj))))))) :: ((List.range (k + 1)).flatMap (pF G (qu P k pj) (qu PA k qj) (qu F k Rj)) ++ ((List.range (k + 1)).flatMap (nF G (qu F k Rj) (qu E k Lj)) ++ Y2)) : va_W) ?_ ?_
        · rw [pF_set, nF_set]
          generalize (List.range k).flatMap (pF G P PA F) = u1
          generalize (List.range k).flatMap (nF G F E) = u2
          refine (List.Perm.cons _ (List.Perm.swap _ _ _)).trans ?_
          refine (List.Perm.swap _ _ _).trans (List.Perm.cons _ ?_)
          refine (List.Perm.swap _ _ _).trans (List.Perm.cons _ ?_)
          show ([(pj, .inr (2, [.ref qj, .int (iZ (-1))])), (qj, .inl (G 4, pN k, .inr (.inr (.inr (.inr (fun i => some (Rj i)))))))] ++ (wzs G Rj Lj (pN k) ++ (u1 ++ (u2 ++ Y2))) : va_W).Perm _
          generalize ([(pj, .inr (2, [.ref qj, .int (iZ (-1))])), (qj, .inl (G 4, pN k, .inr (.inr (.inr (.inr (fun i => some (Rj i)))))))] : va_W) = u3
          generalize wzs G Rj Lj (pN k) = u4
          simp only [List.append_assoc]
          exact ((List.Perm.append_left u3 (List.perm_append_comm_assoc u4 u1 _)).trans (List.perm_append_comm_assoc u3 u1 _)).trans (List.Perm.append_left u1 (List.Perm.append_left u3 (List.perm_append_comm_assoc u4 u2 _)))
        have := ih (k + 1) (qu P k pj) (qu PA k qj) (qu F k Rj) (qu E k Lj) (va_up f k (some pj)) (by omega) (fun i hi => by
          by_cases c : i = k
          · rw [c, qu_same]; unfold va_up; rw [if_pos rfl]
          · rw [qu_other _ _ c]; unfold va_up; rw [if_neg c]; exact hf i (by omega))
        rw [show 49 + (2 * (k + 1) + 2 * pB (k + 1)) = 49 + (2 * k + 2 * pB k) + 1 + (1 + 2 * pN k) by omega, show 189 + (2 * (k + 1) + 8 * pB (k + 1)) = 189 + (2 * k + 8 * pB k) + 2 + (pN k + 7 * pN k) by omega] at this
        exact this
      refine w_if_ne C 134 dX0_init_126 (by decide) ⟨by omega, by omega⟩ (fun c126 => ?_) (fun c126 => ?_)
      · refine w_bipush C dX0_init_134 (by decide) ?_
        refine w_iload_n C dX0_init_136 0 rfl ?_
        refine w_isub C dX0_init_137 ?_
        exact J _ (by
          have h1 : ∀ k : Fin 10, k.val ≠ 0 → pN k.val = 10 - k.val := by decide
          have := h1 ⟨k, by omega⟩ (show k ≠ 0 by omega)
          rw [show pN k = 10 - k from this]; omega)
      · refine w_bipush C dX0_init_129 (by decide) ?_
        refine w_goto C 138 dX0_init_131 (by decide) ?_
        exact J _ (by rw [show k = 0 by omega]; rfl)
  refine w_iconst C dX0_init_108 ?_
  refine w_istore_n C [(1, .int (iZ (0))), (0, .ref b)] dX0_init_109 rfl (by decide) rfl ?_
  exact lp 10 0 (fun _ => 0) (fun _ => 0) (fun _ _ => 0) (fun _ _ => 0) (fun _ => none) (by omega) (fun i hi => absurd hi (by omega))
