section MATHA
variable {p : Program} {l : Launch} {e : Env} {R : Room} {s : State} {m : MethodId} {args : Array Value} {below : List Frame} {meth : Method} {c : Code} {D : va_G} {A : Nat → Prop} {nL cells slots : Nat} {Qp : State → Prop}
variable {cc : ByteArray} {Ts : List Cond} {own : String} {ws : va_W} {pc : Nat} {lv : List (Nat × Value)} {rest : List Value} {tys : List (ClassId × FieldType)}
theorem w_mabs (C : ZC p s m args c cc nL Ts own D tys) {index : Nat} (h1 : Cond.methodLink own index yJ9_abs_0f7a4 ∈ Ts) (h2 : Cond.static yJ9_abs_0f7a4 ∈ Ts) (h3 : Cond.initialized RJ9 ∈ Ts) (h4 : Cond.code yJ9_abs_0f7a4 cJ9_abs_0f7a4 1 (some .int) ∈ Ts) (hR : cells ≤ R.cells ∧ slots ≤ R.slots) (hF : 1 ≤ R.frames ∧ (rest.map fun v => v.category).sum + 13 ≤ R.locals) {x : Int} (hx : -2147483648 < x ∧ x < 2147483648) (hdg : decode cc pc = .ok (.invokestatic index, 3)) (kk : ZW p l e R s m args below meth c D A nL cells slots Qp ws (pc + 3) lv (.int (iZ (x.natAbs : Int)) :: rest)) : ZW p l e R s m args below meth c D A nL cells slots Qp ws pc lv (.int (iZ x) :: rest) := fun H locs ls hP hD hS hl => va_mabs C.1.1 C.1.2.1 (C.1.2.2.1.trans hl.1.symm) C.1.2.2.2.1 (C.1.2.2.2.2 _ h1) (C.1.2.2.2.2 _ h2) (C.1.2.2.2.2 _ h3) (C.1.2.2.2.2 _ h4) hF.1 hF.2 hR.1 hR.2 hdg (by
    have e9 : (if 0 ≤ iZ x then iZ x else 0 - iZ x) = iZ (x.natAbs : Int) := by
      have e0 : (0 : Int32) = iZ 0 := rfl
      rw [e0, iZ_sub]
      by_cases q : 0 ≤ x
      · rw [if_pos ((iZ_le ⟨⟨by omega, by omega⟩, by omega, by omega⟩).2 q)]; congr 1; omega
      · rw [if_neg (fun h => q ((iZ_le ⟨⟨by omega, by omega⟩, by omega, by omega⟩).1 h))]; congr 1; omega
    rw [e9]; exact kk H locs ls hP hD hS hl)
end MATHA
/-- the greatest of the first k magnitudes -/
def mxA (g : Nat → Int32) : Nat → Int
  | 0 => 0
  | k + 1 => max (mxA g k) ((g k).toInt.natAbs : Int)
theorem mxA_r {g : Nat → Int32} (hg : ∀ i : Nat, i < 9 → ((g i).toInt.natAbs : Int) ≤ 1000000000) : ∀ k : Nat, k ≤ 9 → 0 ≤ mxA g k ∧ mxA g k ≤ 1000000000
  | 0, _ => by show (0 : Int) ≤ 0 ∧ (0 : Int) ≤ 1000000000; omega
  | k + 1, h => by
    have h1 := mxA_r hg k (by omega)
    have h2 := hg k (by omega)
    simp only [mxA]
    omega
set_option maxHeartbeats 4000000 in
set_option maxRecDepth 100000 in
theorem cw_bound (l : Launch) (D : va_G) (G : Nat → ClassId) (X : va_W) (ri ra rb lv ce en re cx px pq fx lo hi : Nat) (fd hfl : Int32) (g : Nat → Int32) (N : Nat) (hN : tpN (gp g) 9 N) (hN1 : 1 ≤ N) (hg : ∀ i : Nat, i < 9 → ((g i).toInt.natAbs : Int) ≤ 1000000000) (sz hs : Nat) : Met l yX4_bound (wC yX4_bound cX4_bound 7 (some .long)) ({ frames := 1, cells := 0, slots := 0, locals := 23 }) (va_Pc [.ref ri] (cPre nT D G ((ri, .inr (4, [.ref ra, .ref rb, .int (fd), .ref lv, .ref ce, .ref en, .ref re, .ref cx, .int (hfl), .ref px, .ref pq, .ref fx, .ref lo, .ref hi])) :: (ra, .inl (G 0, 9, .inl g)) :: X : va_W) sz hs)) (va_Ql (fun (r : Int64) (u : cS) => r = lZ (mxA g (N - 1) / ((g (N - 1)).toInt.natAbs : Int) + 2) ∧ u = (((ri, .inr (4, [.ref ra, .ref rb, .int (fd), .ref lv, .ref ce, .ref en, .ref re, .ref cx, .int (hfl), .ref px, .ref pq, .ref fx, .ref lo, .ref hi])) :: (ra, .inl (G 0, 9, .inl g)) :: X : va_W), 0, 0)) (cAt D G (va_A ((ri, .inr (4, [.ref ra, .ref rb, .int (fd), .ref lv, .ref ce, .ref en, .ref re, .ref cx, .int (hfl), .ref px, .ref pq, .ref fx, .ref lo, .ref hi])) :: (ra, .inl (G 0, 9, .inl g)) :: X : va_W) sz) sz hs) (va_A ((ri, .inr (4, [.ref ra, .ref rb, .int (fd), .ref lv, .ref ce, .ref en, .ref re, .ref cx, .int (hfl), .ref px, .ref pq, .ref fx, .ref lo, .ref hi])) :: (ra, .inl (G 0, 9, .inl g)) :: X : va_W) sz)) 0 0 (va_A ((ri, .inr (4, [.ref ra, .ref rb, .int (fd), .ref lv, .ref ce, .ref en, .ref re, .ref cx, .int (hfl), .ref px, .ref pq, .ref fx, .ref lo, .ref hi])) :: (ra, .inl (G 0, 9, .inl g)) :: X : va_W) sz) := by
  refine g_met (cc := cX4_bound) (maxL := 7) (ret := (some .long)) (own := RX4) (by decide) rfl rfl (Nat.le_of_ble_eq_true rfl) ?_
  intro p e s m below meth c hsz hhs hNs hA C hr hlk
  refine w_sub [(0, .ref ri)] [0] rfl ?_
  have h9 := hN.1
  have hl0 : (g (N - 1)).toInt ≠ 0 := by
    have h8 := hN.2.2 (N - 1) (by omega)
    unfold gp at h8
    rw [if_pos (by omega)] at h8
    exact h8
  have hlr := hg (N - 1) (by omega)
  refine w_aload_n C dX4_bound_0 0 rfl ?_
  refine w_get (ci := 4) (ref := "RootIsolator") (T := TX4) (Cn := RX4) (N := 14) C (fun w h => wC_in (inX4 w h)) 0 rfl rfl 0 (by decide) (wC_in fX4_9) rfl rfl dX4_bound_1 ?_
  refine w_perm ((ra, .inl (G 0, 9, .inl g)) :: (ri, .inr (4, [.ref ra, .ref rb, .int (fd), .ref lv, .ref ce, .ref en, .ref re, .ref cx, .int (hfl), .ref px, .ref pq, .ref fx, .ref lo, .ref hi])) :: X : va_W) (((List.perm_middle (l₁ := ((ri, .inr (4, [.ref ra, .ref rb, .int (fd), .ref lv, .ref ce, .ref en, .ref re, .ref cx, .int (hfl), .ref px, .ref pq, .ref fx, .ref lo, .ref hi])) :: [] : va_W)) (l₂ := (X : va_W))).trans (List.Perm.cons _ (List.Perm.refl _)))) ?_
  refine g_callSi [.ref ra] hA C hNs nT_ok (cw_topPower l D G ((ri, .inr (4, [.ref ra, .ref rb, .int (fd), .ref lv, .ref ce, .ref en, .ref re, .ref cx, .int (hfl), .ref px, .ref pq, .ref fx, .ref lo, .ref hi])) :: X : va_W) ra g) (cwS 1 C.1.2.2.2.2 (wC_S kX4_83 stX4_topPower iniX4 cdX4_topPower) rfl rfl rfl (by decide +kernel) ⟨Nat.le_of_ble_eq_true rfl, Nat.le_of_ble_eq_true rfl⟩) rfl ⟨Nat.le_refl _, Nat.le_refl _⟩ (Nat.le_of_ble_eq_true rfl) dX4_bound_4 [.ref ra] rfl (fun r v1 hv1 => ?_)
  obtain ⟨Nv1, htv1, rfl, rfl⟩ := hv1
  have hnv1 := tpN_uniq htv1 hN
  refine w_top C (((N - 1 : Nat) : Int)) (by rw [hnv1, if_neg (by omega)]; omega) ?_
  refine w_cs 0 0 rfl rfl ?_
  refine w_perm ((ri, .inr (4, [.ref ra, .ref rb, .int (fd), .ref lv, .ref ce, .ref en, .ref re, .ref cx, .int (hfl), .ref px, .ref pq, .ref fx, .ref lo, .ref hi])) :: (ra, .inl (G 0, 9, .inl g)) :: X : va_W) (((List.perm_middle (l₁ := ((ri, .inr (4, [.ref ra, .ref rb, .int (fd), .ref lv, .ref ce, .ref en, .ref re, .ref cx, .int (hfl), .ref px, .ref pq, .ref fx, .ref lo, .ref hi])) :: [] : va_W)) (l₂ := (X : va_W))).trans (List.Perm.cons _ (List.Perm.refl _)))).symm ?_
  refine w_istore_n C [(1, .int (iZ (((N - 1 : Nat) : Int)))), (0, .ref ri)] dX4_bound_7 rfl (by decide) rfl ?_
  refine w_iload_n C dX4_bound_8 0 rfl ?_
  refine w_if_ge C 16 dX4_bound_9 (by decide) ⟨by omega, by omega⟩ (fun c9 => ?_) (fun c9 => ?_)
  · refine w_aload_n C dX4_bound_16 1 rfl ?_
    refine w_get (ci := 4) (ref := "RootIsolator") (T := TX4) (Cn := RX4) (N := 14) C (fun w h => wC_in (inX4 w h)) 0 rfl rfl 0 (by decide) (wC_in fX4_9) rfl rfl dX4_bound_17 ?_
    refine w_iload_n C dX4_bound_20 0 rfl ?_
    refine w_iald C 1 0 rfl rfl (N - 1) ((g (N - 1)).toInt) ⟨by omega, by omega, by omega⟩ ((iZ_self _).symm) dX4_bound_21 ?_
    have hgk := hg (N - 1) (by omega)
    refine w_mabs C (wC_in kX4_190) (wC_in stJ9_abs_0f7a4) (wC_in iniJ9) (wC_in cdJ9_abs_0f7a4) ⟨Nat.le_refl _, Nat.le_refl _⟩ ⟨Nat.le_of_ble_eq_true rfl, Nat.le_of_ble_eq_true rfl⟩ ⟨by omega, by omega⟩ dX4_bound_22 ?_
    refine w_i2l C dX4_bound_25 ⟨by omega, by omega⟩ ?_
    refine w_lstore_n C [(2, .long (lZ (((g (N - 1)).toInt.natAbs : Int)))), (1, .int (iZ (((N - 1 : Nat) : Int)))), (0, .ref ri)] dX4_bound_26 rfl (by decide) rfl ?_
    refine w_lconst C 0 dX4_bound_27 rfl ?_
    refine w_lstore C [(4, .long (lZ (0))), (2, .long (lZ (((g (N - 1)).toInt.natAbs : Int)))), (1, .int (iZ (((N - 1 : Nat) : Int)))), (0, .ref ri)] dX4_bound_28 (by decide) rfl ?_
    refine w_iconst C dX4_bound_30 ?_
    refine w_istore C [(6, .int (iZ (0))), (4, .long (lZ (0))), (2, .long (lZ (((g (N - 1)).toInt.natAbs : Int)))), (1, .int (iZ (((N - 1 : Nat) : Int)))), (0, .ref ri)] dX4_bound_31 (by decide) rfl ?_
    have lp : ∀ (d : Nat) (k : Nat), N < k + d → k ≤ N - 1 → ZW p l e ({ frames := 1, cells := 0, slots := 0, locals := 23 }) s m ([.ref ri] : List Value).toArray below meth c D (va_A ((ri, .inr (4, [.ref ra, .ref rb, .int (fd), .ref lv, .ref ce, .ref en, .ref re, .ref cx, .int (hfl), .ref px, .ref pq, .ref fx, .ref lo, .ref hi])) :: (ra, .inl (G 0, 9, .inl g)) :: X : va_W) sz) 7 0 0 (MQ below (va_Ql (fun (r : Int64) (u : cS) => r = lZ (mxA g (N - 1) / ((g (N - 1)).toInt.natAbs : Int) + 2) ∧ u = (((ri, .inr (4, [.ref ra, .ref rb, .int (fd), .ref lv, .ref ce, .ref en, .ref re, .ref cx, .int (hfl), .ref px, .ref pq, .ref fx, .ref lo, .ref hi])) :: (ra, .inl (G 0, 9, .inl g)) :: X : va_W), 0, 0)) (cAt D G (va_A ((ri, .inr (4, [.ref ra, .ref rb, .int (fd), .ref lv, .ref ce, .ref en, .ref re, .ref cx, .int (hfl), .ref px, .ref pq, .ref fx, .ref lo, .ref hi])) :: (ra, .inl (G 0, 9, .inl g)) :: X : va_W) sz) sz hs) (va_A ((ri, .inr (4, [.ref ra, .ref rb, .int (fd), .ref lv, .ref ce, .ref en, .ref re, .ref cx, .int (hfl), .ref px, .ref pq, .ref fx, .ref lo, .ref hi])) :: (ra, .inl (G 0, 9, .inl g)) :: X : va_W) sz)) ([.ref ri] : List Value).toArray s 0 0 (va_A ((ri, .inr (4, [.ref ra, .ref rb, .int (fd), .ref lv, .ref ce, .ref en, .ref re, .ref cx, .int (hfl), .ref px, .ref pq, .ref fx, .ref lo, .ref hi])) :: (ra, .inl (G 0, 9, .inl g)) :: X : va_W) sz)) ((ri, .inr (4, [.ref ra, .ref rb, .int (fd), .ref lv, .ref ce, .ref en, .ref re, .ref cx, .int (hfl), .ref px, .ref pq, .ref fx, .ref lo, .ref hi])) :: (ra, .inl (G 0, 9, .inl g)) :: X : va_W) 33 [(6, .int (iZ ((k : Int)))), (4, .long (lZ (mxA g k))), (2, .long (lZ (((g (N - 1)).toInt.natAbs : Int)))), (1, .int (iZ (((N - 1 : Nat) : Int)))), (0, .ref ri)] [] := by
      intro d
      induction d with
      | zero =>
        intro k hd hk
        exact absurd hd (by omega)
      | succ d ih2 =>
        intro k hd hk
        refine w_iload C dX4_bound_33 0 rfl ?_
        refine w_iload_n C dX4_bound_35 3 rfl ?_
        refine w_icmp_ge C 63 dX4_bound_36 (by decide) ⟨⟨by omega, by omega⟩, by omega, by omega⟩ (fun c36 => ?_) (fun c36 => ?_)
        · have hkN : k = N - 1 := by omega
          have hmr := mxA_r hg (N - 1) (by omega)
          have hq0 : 0 ≤ mxA g (N - 1) / ((g (N - 1)).toInt.natAbs : Int) := Int.ediv_nonneg (by omega) (by omega)
          have hq1 : mxA g (N - 1) / ((g (N - 1)).toInt.natAbs : Int) ≤ mxA g (N - 1) := Int.ediv_le_self _ (by omega)
          refine w_lload_n C dX4_bound_63 2 rfl ?_
          refine w_lconst C 0 dX4_bound_64 rfl ?_
          refine w_lif_ne C 75 dX4_bound_65 dX4_bound_66 (by decide) ⟨⟨by omega, by omega⟩, by omega, by omega⟩ (fun c65 => ?_) (fun c65 => ?_)
          · refine w_lload C dX4_bound_75 1 rfl ?_
            refine w_lload_n C dX4_bound_77 2 rfl ?_
            refine w_ldiv C dX4_bound_78 (fun h => absurd (congrArg Int64.toInt h) (by rw [lZ_toInt (by omega) (by omega)]; show ((g (N - 1)).toInt.natAbs : Int) ≠ 0; omega)) (v := (lZ (mxA g (N - 1) / ((g (N - 1)).toInt.natAbs : Int)))) (by rw [hkN]; exact lZ_div (by omega) (by omega)) ?_
            refine w_ldc2 C (2) dX4_bound_79 (wC_in kclX4_198) ?_
            refine w_ladd C dX4_bound_82 ?_
            exact g_lret hsz hhs C hr hlk ⟨by omega, by omega⟩ (⟨rfl, rfl⟩) dX4_bound_83
          · exact absurd c65 (by omega)
        · refine w_lload C dX4_bound_39 1 rfl ?_
          refine w_aload_n C dX4_bound_41 4 rfl ?_
          refine w_get (ci := 4) (ref := "RootIsolator") (T := TX4) (Cn := RX4) (N := 14) C (fun w h => wC_in (inX4 w h)) 0 rfl rfl 0 (by decide) (wC_in fX4_9) rfl rfl dX4_bound_42 ?_
          refine w_iload C dX4_bound_45 0 rfl ?_
          refine w_iald C 1 0 rfl rfl (k) ((g (k)).toInt) ⟨by omega, by omega, by omega⟩ ((iZ_self _).symm) dX4_bound_47 ?_
          have hgk := hg (k) (by omega)
          refine w_mabs C (wC_in kX4_190) (wC_in stJ9_abs_0f7a4) (wC_in iniJ9) (wC_in cdJ9_abs_0f7a4) ⟨Nat.le_refl _, Nat.le_refl _⟩ ⟨Nat.le_of_ble_eq_true rfl, Nat.le_of_ble_eq_true rfl⟩ ⟨by omega, by omega⟩ dX4_bound_48 ?_
          refine w_i2l C dX4_bound_51 ⟨by omega, by omega⟩ ?_
          refine w_mmaxl C (wC_in kX4_194) (wC_in stJ9_max_f86c9) (wC_in iniJ9) (wC_in cdJ9_max_f86c9) ⟨Nat.le_refl _, Nat.le_refl _⟩ ⟨Nat.le_of_ble_eq_true rfl, Nat.le_of_ble_eq_true rfl⟩ (by have := mxA_r hg k (by omega); omega) (by omega) dX4_bound_52 ?_
          refine w_lstore C [(4, .long (lZ (mxA g (k + 1)))), (6, .int (iZ ((k : Int)))), (2, .long (lZ (((g (N - 1)).toInt.natAbs : Int)))), (1, .int (iZ (((N - 1 : Nat) : Int)))), (0, .ref ri)] dX4_bound_55 (by decide) rfl ?_
          refine w_iinc C (((k + 1 : Nat) : Int)) (by omega) [(6, .int (iZ (((k + 1 : Nat) : Int)))), (4, .long (lZ (mxA g (k + 1)))), (2, .long (lZ (((g (N - 1)).toInt.natAbs : Int)))), (1, .int (iZ (((N - 1 : Nat) : Int)))), (0, .ref ri)] dX4_bound_57 1 rfl (by decide) rfl ?_
          refine w_goto C 33 dX4_bound_60 (by decide) ?_
          exact ih2 (k + 1) (by omega) (by omega)
    exact lp (N + 1) 0 (by omega) (by omega)
  · exact absurd c9 (by omega)
