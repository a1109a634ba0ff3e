section MATHS
variable {p : Program} {l : Launch} {e : Env} {R : Room} {s : State} {m : MethodId} {args : Array Value} {below : List Frame} {meth : Method} {c : Code} {D : va_G} {A : Nat → Prop} {nL cells slots : Nat} {Qp : State → Prop}
variable {cc : ByteArray} {Ts : List Cond} {own : String} {ws : va_W} {pc : Nat} {lv : List (Nat × Value)} {rest : List Value} {tys : List (ClassId × FieldType)}
theorem w_mmaxl (C : ZC p s m args c cc nL Ts own D tys) {index : Nat} (h1 : Cond.methodLink own index yJ9_max_f86c9 ∈ Ts) (h2 : Cond.static yJ9_max_f86c9 ∈ Ts) (h3 : Cond.initialized RJ9 ∈ Ts) (h4 : Cond.code yJ9_max_f86c9 cJ9_max_f86c9 4 (some .long) ∈ Ts) (hR : cells ≤ R.cells ∧ slots ≤ R.slots) (hF : 1 ≤ R.frames ∧ (rest.map fun v => v.category).sum + 15 ≤ R.locals) {x y : Int} (hx : -9223372036854775808 ≤ x ∧ x < 9223372036854775808) (hy : -9223372036854775808 ≤ y ∧ y < 9223372036854775808) (hdg : decode cc pc = .ok (.invokestatic index, 3)) (kk : ZW p l e R s m args below meth c D A nL cells slots Qp ws (pc + 3) lv (.long (lZ (max x y)) :: rest)) : ZW p l e R s m args below meth c D A nL cells slots Qp ws pc lv (.long (lZ y) :: .long (lZ x) :: rest) := fun H locs ls hP hD hS hl => va_mmax_long C.1.1 C.1.2.1 (C.1.2.2.1.trans hl.1.symm) C.1.2.2.2.1 (C.1.2.2.2.2 _ h1) (C.1.2.2.2.2 _ h2) (C.1.2.2.2.2 _ h3) (C.1.2.2.2.2 _ h4) hF.1 hF.2 hR.1 hR.2 hdg (by
    have e9 : (if lZ y < lZ x then lZ x else lZ y) = lZ (max x y) := by
      by_cases q : y < x
      · rw [if_pos ((lZ_lt ⟨hy, hx⟩).2 q)]; congr 1; omega
      · rw [if_neg (fun h => q ((lZ_lt ⟨hy, hx⟩).1 h))]; congr 1; omega
    rw [e9]; exact kk H locs ls hP hD hS hl)
theorem w_mminl (C : ZC p s m args c cc nL Ts own D tys) {index : Nat} (h1 : Cond.methodLink own index yJ9_min_f86c9 ∈ Ts) (h2 : Cond.static yJ9_min_f86c9 ∈ Ts) (h3 : Cond.initialized RJ9 ∈ Ts) (h4 : Cond.code yJ9_min_f86c9 cJ9_min_f86c9 4 (some .long) ∈ Ts) (hR : cells ≤ R.cells ∧ slots ≤ R.slots) (hF : 1 ≤ R.frames ∧ (rest.map fun v => v.category).sum + 15 ≤ R.locals) {x y : Int} (hx : -9223372036854775808 ≤ x ∧ x < 9223372036854775808) (hy : -9223372036854775808 ≤ y ∧ y < 9223372036854775808) (hdg : decode cc pc = .ok (.invokestatic index, 3)) (kk : ZW p l e R s m args below meth c D A nL cells slots Qp ws (pc + 3) lv (.long (lZ (min x y)) :: rest)) : ZW p l e R s m args below meth c D A nL cells slots Qp ws pc lv (.long (lZ y) :: .long (lZ x) :: rest) := fun H locs ls hP hD hS hl => va_mmin_long C.1.1 C.1.2.1 (C.1.2.2.1.trans hl.1.symm) C.1.2.2.2.1 (C.1.2.2.2.2 _ h1) (C.1.2.2.2.2 _ h2) (C.1.2.2.2.2 _ h3) (C.1.2.2.2.2 _ h4) hF.1 hF.2 hR.1 hR.2 hdg (by
    have e9 : (if lZ y < lZ x then lZ y else lZ x) = lZ (min x y) := by
      by_cases q : y < x
      · rw [if_pos ((lZ_lt ⟨hy, hx⟩).2 q)]; congr 1; omega
      · rw [if_neg (fun h => q ((lZ_lt ⟨hy, hx⟩).1 h))]; congr 1; omega
    rw [e9]; exact kk H locs ls hP hD hS hl)
end MATHS
theorem if_same {a b : Prop} [Decidable a] [Decidable b] {x y : Int} (h : a ↔ b) : (if a then x else y) = (if b then x else y) := by
  by_cases q : a
  · rw [if_pos q, if_pos (h.1 q)]
  · rw [if_neg q, if_neg (fun h2 => q (h.2 h2))]
set_option maxHeartbeats 4000000 in
set_option maxRecDepth 100000 in
theorem cw_part (l : Launch) (D : va_G) (G : Nat → ClassId) (X : va_W) (ri ra rb lv ce en re cx px pq fx lo hi : Nat) (fd hfl : Int32) (up ct : Nat) (md : Int) (fl fh : Nat → Int64) (hct : ct ≤ 8 ∧ up ≤ 100) (hmd : -9223372036854775808 ≤ md ∧ md < 9223372036854775808) (sz hs : Nat) : Met l yX4_part (wC yX4_part cX4_part 6 none) ({ frames := 1, cells := 0, slots := 0, locals := 23 }) (va_Pc [.ref ri, .long (lZ (md)), .int (iZ ((up : Int))), .int (iZ ((ct : Int)))] (cPre nT D G ((ri, .inr (4, [.ref ra, .ref rb, .int (fd), .ref lv, .ref ce, .ref en, .ref re, .ref cx, .int (hfl), .ref px, .ref pq, .ref fx, .ref lo, .ref hi])) :: (lo, .inl (G 1, 8, .inr (.inl fl))) :: (hi, .inl (G 1, 8, .inr (.inl fh))) :: X : va_W) sz hs)) (va_Qv (fun (u : cS) => ∃ fl1 fh1 : Nat → Int64, (∀ j : Nat, j < 8 → (fh1 j).toInt = (if j < ct ∧ j < up then min (fh j).toInt md else (fh j).toInt)) ∧ (∀ j : Nat, j < 8 → (fl1 j).toInt = (if j < ct ∧ ¬ j < up then max (fl j).toInt md else (fl j).toInt)) ∧ u = (((ri, .inr (4, [.ref ra, .ref rb, .int (fd), .ref lv, .ref ce, .ref en, .ref re, .ref cx, .int (hfl), .ref px, .ref pq, .ref fx, .ref lo, .ref hi])) :: (lo, .inl (G 1, 8, .inr (.inl fl1))) :: (hi, .inl (G 1, 8, .inr (.inl fh1))) :: X : va_W), 0, 0)) (cAt D G (va_A ((ri, .inr (4, [.ref ra, .ref rb, .int (fd), .ref lv, .ref ce, .ref en, .ref re, .ref cx, .int (hfl), .ref px, .ref pq, .ref fx, .ref lo, .ref hi])) :: (lo, .inl (G 1, 8, .inr (.inl fl))) :: (hi, .inl (G 1, 8, .inr (.inl fh))) :: X : va_W) sz) sz hs) (va_A ((ri, .inr (4, [.ref ra, .ref rb, .int (fd), .ref lv, .ref ce, .ref en, .ref re, .ref cx, .int (hfl), .ref px, .ref pq, .ref fx, .ref lo, .ref hi])) :: (lo, .inl (G 1, 8, .inr (.inl fl))) :: (hi, .inl (G 1, 8, .inr (.inl fh))) :: X : va_W) sz)) 0 0 (va_A ((ri, .inr (4, [.ref ra, .ref rb, .int (fd), .ref lv, .ref ce, .ref en, .ref re, .ref cx, .int (hfl), .ref px, .ref pq, .ref fx, .ref lo, .ref hi])) :: (lo, .inl (G 1, 8, .inr (.inl fl))) :: (hi, .inl (G 1, 8, .inr (.inl fh))) :: X : va_W) sz) := by
  refine g_met (cc := cX4_part) (maxL := 6) (ret := none) (own := RX4) (by decide) rfl rfl (Nat.le_of_ble_eq_true rfl) ?_
  intro p e s m below meth c hsz hhs hNs hA C hr hlk
  refine w_sub [(0, .ref ri), (1, .long (lZ (md))), (3, .int (iZ ((up : Int)))), (4, .int (iZ ((ct : Int))))] [0, 1, 2, 3] rfl ?_
  have lp : ∀ (d : Nat) (i : Nat) (kl : Nat → Int64) (kh : Nat → Int64), ct < i + d → i ≤ ct → (∀ j : Nat, j < 8 → (kh j).toInt = (if j < i ∧ j < up then min (fh j).toInt md else (fh j).toInt)) ∧ (∀ j : Nat, j < 8 → (kl j).toInt = (if j < i ∧ ¬ j < up then max (fl j).toInt md else (fl j).toInt)) → ZW p l e ({ frames := 1, cells := 0, slots := 0, locals := 23 }) s m ([.ref ri, .long (lZ (md)), .int (iZ ((up : Int))), .int (iZ ((ct : Int)))] : List Value).toArray below meth c D (va_A ((ri, .inr (4, [.ref ra, .ref rb, .int (fd), .ref lv, .ref ce, .ref en, .ref re, .ref cx, .int (hfl), .ref px, .ref pq, .ref fx, .ref lo, .ref hi])) :: (lo, .inl (G 1, 8, .inr (.inl fl))) :: (hi, .inl (G 1, 8, .inr (.inl fh))) :: X : va_W) sz) 6 0 0 (MQ below (va_Qv (fun (u : cS) => ∃ fl1 fh1 : Nat → Int64, (∀ j : Nat, j < 8 → (fh1 j).toInt = (if j < ct ∧ j < up then min (fh j).toInt md else (fh j).toInt)) ∧ (∀ j : Nat, j < 8 → (fl1 j).toInt = (if j < ct ∧ ¬ j < up then max (fl j).toInt md else (fl j).toInt)) ∧ u = (((ri, .inr (4, [.ref ra, .ref rb, .int (fd), .ref lv, .ref ce, .ref en, .ref re, .ref cx, .int (hfl), .ref px, .ref pq, .ref fx, .ref lo, .ref hi])) :: (lo, .inl (G 1, 8, .inr (.inl fl1))) :: (hi, .inl (G 1, 8, .inr (.inl fh1))) :: X : va_W), 0, 0)) (cAt D G (va_A ((ri, .inr (4, [.ref ra, .ref rb, .int (fd), .ref lv, .ref ce, .ref en, .ref re, .ref cx, .int (hfl), .ref px, .ref pq, .ref fx, .ref lo, .ref hi])) :: (lo, .inl (G 1, 8, .inr (.inl fl))) :: (hi, .inl (G 1, 8, .inr (.inl fh))) :: X : va_W) sz) sz hs) (va_A ((ri, .inr (4, [.ref ra, .ref rb, .int (fd), .ref lv, .ref ce, .ref en, .ref re, .ref cx, .int (hfl), .ref px, .ref pq, .ref fx, .ref lo, .ref hi])) :: (lo, .inl (G 1, 8, .inr (.inl fl))) :: (hi, .inl (G 1, 8, .inr (.inl fh))) :: X : va_W) sz)) ([.ref ri, .long (lZ (md)), .int (iZ ((up : Int))), .int (iZ ((ct : Int)))] : List Value).toArray s 0 0 (va_A ((ri, .inr (4, [.ref ra, .ref rb, .int (fd), .ref lv, .ref ce, .ref en, .ref re, .ref cx, .int (hfl), .ref px, .ref pq, .ref fx, .ref lo, .ref hi])) :: (lo, .inl (G 1, 8, .inr (.inl fl))) :: (hi, .inl (G 1, 8, .inr (.inl fh))) :: X : va_W) sz)) ((ri, .inr (4, [.ref ra, .ref rb, .int (fd), .ref lv, .ref ce, .ref en, .ref re, .ref cx, .int (hfl), .ref px, .ref pq, .ref fx, .ref lo, .ref hi])) :: (lo, .inl (G 1, 8, .inr (.inl kl))) :: (hi, .inl (G 1, 8, .inr (.inl kh))) :: X : va_W) 3 [(5, .int (iZ ((i : Int)))), (0, .ref ri), (1, .long (lZ (md))), (3, .int (iZ ((up : Int)))), (4, .int (iZ ((ct : Int))))] [] := by
    intro d
    induction d with
    | zero =>
      intro i kl kh hd hi9 hkk
      exact absurd hd (by omega)
    | succ d ih =>
      intro i kl kh hd hi9 hkk
      refine w_iload C dX4_part_3 0 rfl ?_
      refine w_iload C dX4_part_5 4 rfl ?_
      refine w_icmp_ge C 61 dX4_part_7 (by decide) ⟨⟨by omega, by omega⟩, by omega, by omega⟩ (fun c7 => ?_) (fun c7 => ?_)
      · obtain rfl : i = ct := by omega
        exact g_vret hsz hhs C hr hlk ⟨by omega, by omega⟩ (⟨kl, kh, hkk.1, hkk.2, rfl⟩) dX4_part_61
      · refine w_iload C dX4_part_10 0 rfl ?_
        refine w_iload_n C dX4_part_12 3 rfl ?_
        refine w_icmp_ge C 37 dX4_part_13 (by decide) ⟨⟨by omega, by omega⟩, by omega, by omega⟩ (fun c13 => ?_) (fun c13 => ?_)
        · have hki := hkk.2 i (by omega)
          rw [if_neg (by omega)] at hki
          have hr1 := i64r (fl i)
          refine w_aload_n C dX4_part_37 1 rfl ?_
          refine w_get (ci := 4) (ref := "RootIsolator") (T := TX4) (Cn := RX4) (N := 14) C (fun w h => wC_in (inX4 w h)) 0 rfl rfl 12 (by decide) (wC_in fX4_62) rfl rfl dX4_part_38 ?_
          refine w_iload C dX4_part_41 0 rfl ?_
          refine w_aload_n C dX4_part_43 1 rfl ?_
          refine w_get (ci := 4) (ref := "RootIsolator") (T := TX4) (Cn := RX4) (N := 14) C (fun w h => wC_in (inX4 w h)) 0 rfl rfl 12 (by decide) (wC_in fX4_62) rfl rfl dX4_part_44 ?_
          refine w_iload C dX4_part_47 0 rfl ?_
          refine w_lald C 1 1 rfl rfl (i) ((fl i).toInt) ⟨by omega, by omega, by omega⟩ (by rw [← hki]; exact (lZ_self _).symm) dX4_part_49 ?_
          refine w_lload_n C dX4_part_50 2 rfl ?_
          refine w_mmaxl C (wC_in kX4_194) (wC_in stJ9_max_f86c9) (wC_in iniJ9) (wC_in cdJ9_max_f86c9) ⟨Nat.le_refl _, Nat.le_refl _⟩ ⟨Nat.le_of_ble_eq_true rfl, Nat.le_of_ble_eq_true rfl⟩ hr1 hmd dX4_part_51 ?_
          refine w_last C ((ri, .inr (4, [.ref ra, .ref rb, .int (fd), .ref lv, .ref ce, .ref en, .ref re, .ref cx, .int (hfl), .ref px, .ref pq, .ref fx, .ref lo, .ref hi])) :: (lo, .inl (G 1, 8, .inr (.inl (vp_updL kl (i) (lZ (max (fl i).toInt md)))))) :: (hi, .inl (G 1, 8, .inr (.inl kh))) :: X : va_W) 1 1 rfl rfl (i) ⟨by omega, by omega, by omega⟩ rfl dX4_part_54 ?_
          refine w_iinc C (((i + 1 : Nat) : Int)) (by omega) [(5, .int (iZ (((i + 1 : Nat) : Int)))), (0, .ref ri), (1, .long (lZ (md))), (3, .int (iZ ((up : Int)))), (4, .int (iZ ((ct : Int))))] dX4_part_55 0 rfl (by decide) rfl ?_
          refine w_goto C 3 dX4_part_58 (by decide) ?_
          refine ih (i + 1) _ _ (by omega) (by omega) ⟨fun j hj => ?_, fun j hj => ?_⟩
          · rw [hkk.1 j hj]
            exact if_same (by omega)
          · by_cases q : j = i
            · rw [q, updL_eq, lZ_toInt (by omega) (by omega), if_pos ⟨by omega, by omega⟩]
            · rw [updL_ne q, hkk.2 j hj]
              exact if_same (by omega)
        · have hki := hkk.1 i (by omega)
          rw [if_neg (by omega)] at hki
          have hr1 := i64r (fh i)
          refine w_aload_n C dX4_part_16 1 rfl ?_
          refine w_get (ci := 4) (ref := "RootIsolator") (T := TX4) (Cn := RX4) (N := 14) C (fun w h => wC_in (inX4 w h)) 0 rfl rfl 13 (by decide) (wC_in fX4_65) rfl rfl dX4_part_17 ?_
          refine w_iload C dX4_part_20 0 rfl ?_
          refine w_aload_n C dX4_part_22 1 rfl ?_
          refine w_get (ci := 4) (ref := "RootIsolator") (T := TX4) (Cn := RX4) (N := 14) C (fun w h => wC_in (inX4 w h)) 0 rfl rfl 13 (by decide) (wC_in fX4_65) rfl rfl dX4_part_23 ?_
          refine w_iload C dX4_part_26 0 rfl ?_
          refine w_lald C 2 1 rfl rfl (i) ((fh i).toInt) ⟨by omega, by omega, by omega⟩ (by rw [← hki]; exact (lZ_self _).symm) dX4_part_28 ?_
          refine w_lload_n C dX4_part_29 2 rfl ?_
          refine w_mminl C (wC_in kX4_215) (wC_in stJ9_min_f86c9) (wC_in iniJ9) (wC_in cdJ9_min_f86c9) ⟨Nat.le_refl _, Nat.le_refl _⟩ ⟨Nat.le_of_ble_eq_true rfl, Nat.le_of_ble_eq_true rfl⟩ hr1 hmd dX4_part_30 ?_
          refine w_last C ((ri, .inr (4, [.ref ra, .ref rb, .int (fd), .ref lv, .ref ce, .ref en, .ref re, .ref cx, .int (hfl), .ref px, .ref pq, .ref fx, .ref lo, .ref hi])) :: (lo, .inl (G 1, 8, .inr (.inl kl))) :: (hi, .inl (G 1, 8, .inr (.inl (vp_updL kh (i) (lZ (min (fh i).toInt md)))))) :: X : va_W) 2 1 rfl rfl (i) ⟨by omega, by omega, by omega⟩ rfl dX4_part_33 ?_
          refine w_goto C 55 dX4_part_34 (by decide) ?_
          refine w_iinc C (((i + 1 : Nat) : Int)) (by omega) [(5, .int (iZ (((i + 1 : Nat) : Int)))), (0, .ref ri), (1, .long (lZ (md))), (3, .int (iZ ((up : Int)))), (4, .int (iZ ((ct : Int))))] dX4_part_55 0 rfl (by decide) rfl ?_
          refine w_goto C 3 dX4_part_58 (by decide) ?_
          refine ih (i + 1) _ _ (by omega) (by omega) ⟨fun j hj => ?_, fun j hj => ?_⟩
          · by_cases q : j = i
            · rw [q, updL_eq, lZ_toInt (by omega) (by omega), if_pos ⟨by omega, by omega⟩]
            · rw [updL_ne q, hkk.1 j hj]
              exact if_same (by omega)
          · rw [hkk.2 j hj]
            exact if_same (by omega)
  refine w_iconst C dX4_part_0 ?_
  refine w_istore C [(5, .int (iZ (0))), (0, .ref ri), (1, .long (lZ (md))), (3, .int (iZ ((up : Int)))), (4, .int (iZ ((ct : Int))))] dX4_part_1 (by decide) rfl ?_
  exact lp (ct + 1) 0 fl fh (by omega) (by omega) ⟨fun j hj => by rw [if_neg (by omega)], fun j hj => by rw [if_neg (by omega)]⟩
