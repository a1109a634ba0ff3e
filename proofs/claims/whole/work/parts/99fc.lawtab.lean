theorem clL_7 : Cond.classLink RL 7 RX4 ∈ wG := wG_t 9 (by decide +kernel) rfl
theorem kL_9 : Cond.methodLink RL 9 yX4_init ∈ wG := wG_t 11 (by decide +kernel) rfl
theorem kL_13 : Cond.methodLink RL 13 yX4_set ∈ wG := wG_t 165 (by decide +kernel) rfl
theorem kL_18 : Cond.methodLink RL 18 yX4_get ∈ wG := wG_t 184 (by decide +kernel) rfl
theorem kL_23 : Cond.methodLink RL 23 yX4_degree ∈ wG := wG_t 188 (by decide +kernel) rfl
theorem kL_30 : Cond.methodLink RL 30 yX4_sign ∈ wG := wG_t 195 (by decide +kernel) rfl
theorem kL_35 : Cond.methodLink RL 35 yX4_between ∈ wG := wG_t 275 (by decide +kernel) rfl
theorem kL_40 : Cond.methodLink RL 40 yX4_roots ∈ wG := wG_t 372 (by decide +kernel) rfl
theorem kL_44 : Cond.methodLink RL 44 yX4_isolate ∈ wG := wG_t 380 (by decide +kernel) rfl
theorem kL_48 : Cond.methodLink RL 48 yX4_level ∈ wG := wG_t 450 (by decide +kernel) rfl
theorem kL_52 : Cond.methodLink RL 52 yX4_cell ∈ wG := wG_t 458 (by decide +kernel) rfl
theorem kL_57 : Cond.methodLink RL 57 yX4_exact ∈ wG := wG_t 462 (by decide +kernel) rfl
theorem kL_61 : Cond.methodLink RL 61 yX4_multiplicity ∈ wG := wG_t 466 (by decide +kernel) rfl
theorem kL_65 : Cond.methodLink RL 65 yX4_signAt ∈ wG := wG_t 470 (by decide +kernel) rfl
theorem kL_69 : Cond.methodLink RL 69 yX4_common ∈ wG := wG_t 474 (by decide +kernel) rfl
theorem kL_74 : Cond.methodLink RL 74 yX4_divisor ∈ wG := wG_t 483 (by decide +kernel) rfl
theorem kL_78 : Cond.methodLink RL 78 yX4_derive ∈ wG := wG_t 487 (by decide +kernel) rfl
theorem kL_82 : Cond.methodLink RL 82 yX4_times ∈ wG := wG_t 494 (by decide +kernel) rfl
theorem kL_86 : Cond.methodLink RL 86 yX4_shift ∈ wG := wG_t 502 (by decide +kernel) rfl
theorem kL_90 : Cond.methodLink RL 90 yX4_swap ∈ wG := wG_t 514 (by decide +kernel) rfl
theorem clL_10 : Cond.classLink RL 10 RX5 ∈ wG := wG_t 518 (by decide +kernel) rfl
theorem kL_12 : Cond.methodLink RL 12 yX5_init ∈ wG := wG_t 520 (by decide +kernel) rfl
theorem kL_17 : Cond.methodLink RL 17 yX5_set ∈ wG := wG_t 559 (by decide +kernel) rfl
theorem kL_22 : Cond.methodLink RL 22 yX5_get ∈ wG := wG_t 576 (by decide +kernel) rfl
theorem kL_27 : Cond.methodLink RL 27 yX5_degree ∈ wG := wG_t 580 (by decide +kernel) rfl
theorem kL_34 : Cond.methodLink RL 34 yX5_sign ∈ wG := wG_t 592 (by decide +kernel) rfl
theorem kL_39 : Cond.methodLink RL 39 yX5_between_ ∈ wG := wG_t 634 (by decide +kernel) rfl
theorem kL_43 : Cond.methodLink RL 43 yX5_roots ∈ wG := wG_t 725 (by decide +kernel) rfl
theorem kL_47 : Cond.methodLink RL 47 yX5_isolate ∈ wG := wG_t 732 (by decide +kernel) rfl
theorem kL_51 : Cond.methodLink RL 51 yX5_level ∈ wG := wG_t 739 (by decide +kernel) rfl
theorem kL_56 : Cond.methodLink RL 56 yX5_cell ∈ wG := wG_t 747 (by decide +kernel) rfl
theorem kL_60 : Cond.methodLink RL 60 yX5_exact ∈ wG := wG_t 751 (by decide +kernel) rfl
theorem kL_64 : Cond.methodLink RL 64 yX5_multiplicity ∈ wG := wG_t 756 (by decide +kernel) rfl
theorem kL_68 : Cond.methodLink RL 68 yX5_signAt ∈ wG := wG_t 764 (by decide +kernel) rfl
theorem kL_73 : Cond.methodLink RL 73 yX5_common ∈ wG := wG_t 768 (by decide +kernel) rfl
theorem kL_77 : Cond.methodLink RL 77 yX5_divisor ∈ wG := wG_t 776 (by decide +kernel) rfl
theorem kL_81 : Cond.methodLink RL 81 yX5_derive ∈ wG := wG_t 780 (by decide +kernel) rfl
theorem kL_85 : Cond.methodLink RL 85 yX5_times ∈ wG := wG_t 784 (by decide +kernel) rfl
theorem kL_89 : Cond.methodLink RL 89 yX5_shift ∈ wG := wG_t 792 (by decide +kernel) rfl
theorem kL_93 : Cond.methodLink RL 93 yX5_swap ∈ wG := wG_t 800 (by decide +kernel) rfl
theorem kclL_28 : Cond.constantLong RL 28 (lZ (4294967295)) ∈ wG := wG_t 804 (by decide +kernel) rfl
theorem wL_in {w : Cond} (h : w ∈ wG) : w ∈ lw_tbl := (List.mem_filter.1 h).1
theorem wL_V {y : MethodName} {cc : ByteArray} {n idx : Nat} {r : Option FieldType} {own C : String} (h1 : Cond.methodLink own idx y ∈ wG) (h2 : Cond.instanceMethod y ∈ wG) (h3 : Cond.selects C y y ∈ wG) (h4 : Cond.initialized C ∈ wG) (h5 : Cond.code y cc n r ∈ wG) : GoodIn lw_tbl (wsV own idx C y (wC y cc n r)) := by
  have k : ∀ w ∈ wsV own idx C y (wC y cc n r), w ∈ wG := by
    intro w hw
    unfold wsV wC at hw
    simp only [List.mem_append, List.mem_cons, List.not_mem_nil, or_false] at hw
    rcases hw with (rfl | rfl | rfl | rfl) | rfl | hw
    · exact h1
    · exact h2
    · exact h3
    · exact h4
    · exact h5
    · exact hw
  exact wG_good (fun w hw => wL_in (k w hw)) k
theorem wL_self {y : MethodName} {cc : ByteArray} {n : Nat} {r : Option FieldType} (h5 : Cond.code y cc n r ∈ wG) : GoodIn lw_tbl (wC y cc n r) := by
  have k : ∀ w ∈ wC y cc n r, w ∈ wG := by
    intro w hw
    unfold wC at hw
    rcases List.mem_cons.1 hw with rfl | hw
    · exact h5
    · exact hw
  exact wG_good (fun w hw => wL_in (k w hw)) k
theorem law_nW {args : Array Value} {s : State} (hts : ∀ w ∈ lw_tbl, w.before args s = true) : nW s := ⟨va_Nw.of rfl (hts _ (List.mem_append_right _ (List.mem_of_getElem? (i := 40) (by decide +kernel)))), va_Nw.of rfl (hts _ (List.mem_append_right _ (List.mem_of_getElem? (i := 41) (by decide +kernel)))), va_Nw.of rfl (hts _ (List.mem_append_right _ (List.mem_of_getElem? (i := 42) (by decide +kernel)))), va_Nw.of rfl (hts _ (List.mem_append_right _ (List.mem_of_getElem? (i := 53) (by decide +kernel)))), va_Nw.of rfl (hts _ (List.mem_append_right _ (List.mem_of_getElem? (i := 54) (by decide +kernel)))), va_Nw.of rfl (hts _ (List.mem_append_right _ (List.mem_of_getElem? (i := 56) (by decide +kernel)))), va_Nw.of rfl (hts _ (List.mem_append_right _ (List.mem_of_getElem? (i := 57) (by decide +kernel)))), va_Nw.of rfl (hts _ (List.mem_append_right _ (List.mem_of_getElem? (i := 33) (by decide +kernel)))), va_Nw.of rfl (hts _ (List.mem_append_right _ (List.mem_of_getElem? (i := 64) (by decide +kernel)))), va_Nw.of rfl (hts _ (List.mem_append_right _ (List.mem_of_getElem? (i := 98) (by decide +kernel)))), va_Nw.of rfl (hts _ (List.mem_append_right _ (List.mem_of_getElem? (i := 103) (by decide +kernel)))), va_Nw.of rfl (hts _ (List.mem_append_right _ (List.mem_of_getElem? (i := 482) (by decide +kernel))))⟩
theorem law_nC {args : Array Value} {s : State} (hts : ∀ w ∈ lw_tbl, w.before args s = true) : nC s := ⟨law_nW hts, va_AO.of (hts _ (List.mem_append_right _ (List.mem_of_getElem? (i := 24) (by decide +kernel)))), va_AO.of (hts _ (List.mem_append_right _ (List.mem_of_getElem? (i := 31) (by decide +kernel))))⟩
theorem law_nM {args : Array Value} {s : State} (hts : ∀ w ∈ lw_tbl, w.before args s = true) : nM s := va_AOA.of (hts _ (List.mem_append_right _ (List.mem_of_getElem? (i := 525) (by decide +kernel))))
theorem arr_prim {args : Array Value} {s : State} {t : FieldType} (h : (Cond.arrayClass t).before args s = true) : ∃ c : ClassId, ArrOfT s c t ∧ s.vm.findClass ("[" ++ t.toString) = some c := by
  obtain ⟨c, k, comp, h1, h2, h3⟩ := Cond.arrayClass_spec h
  exact ⟨c, fun N z => ⟨(fun q hq => by cases hq), k, h2, comp, h3⟩, h1⟩
theorem arr_obj {s : State} {C : String} (h : va_AO C s) : ∃ c : ClassId, ArrOfT s c (.object C) ∧ va_RA s c (.object C) := by
  obtain ⟨comp, c, k, h1, h2, h3, h4, h5⟩ := Cond.arrayOver_spec h
  exact ⟨c, fun N z => ⟨(fun q hq => by cases hq), k, h3, comp, h4⟩, k, comp, h3, h4, h1, h5⟩
/-- the classes and the arrays' classes, as the tables have them at the law's entry -/
theorem law_K {args : Array Value} {s : State} (hts : ∀ w ∈ lw_tbl, w.before args s = true) : ∃ (D : va_G) (G : Nat → ClassId), va_K D vwCl (cty G) s := by
  obtain ⟨c0, i0, h0⟩ := u_known (C := RX0) (T := TX0) (N := 10) (n := 10) hts (fun w h => wL_in (inX0 w h)) (hts _ (wL_in isX0))
  obtain ⟨c1, i1, h1⟩ := u_known (C := RX1) (T := TX1) (N := 5) (n := 5) hts (fun w h => wL_in (inX1 w h)) (hts _ (wL_in isX1))
  obtain ⟨c2, i2, h2⟩ := u_known (C := RX2) (T := TX2) (N := 2) (n := 2) hts (fun w h => wL_in (inX2 w h)) (hts _ (wL_in isX2))
  obtain ⟨c3, i3, h3⟩ := u_known (C := RX3) (T := TX3) (N := 3) (n := 3) hts (fun w h => wL_in (inX3 w h)) (hts _ (wL_in isX3))
  obtain ⟨c4, i4, h4⟩ := u_known (C := RX4) (T := TX4) (N := 14) (n := 14) hts (fun w h => wL_in (inX4 w h)) (hts _ (wL_in isX4))
  obtain ⟨c5, i5, h5⟩ := u_known (C := RX5) (T := TX5) (N := 10) (n := 10) hts (fun w h => wL_in (inX5 w h)) (hts _ (wL_in isX5))
  obtain ⟨g0, k0, e0⟩ := arr_prim (hts _ (wL_in acI))
  obtain ⟨g1, k1, e1⟩ := arr_prim (hts _ (wL_in acJ))
  obtain ⟨g2, k2, e2⟩ := arr_prim (hts _ (wL_in acZ))
  obtain ⟨g3, k3, e3⟩ := va_AOA.spec (law_nM hts)
  obtain ⟨g4, k4, e4⟩ := arr_obj (law_nC hts).2.2
  obtain ⟨g5, k5, e5⟩ := arr_obj (law_nC hts).2.1
  refine ⟨(fun k => match k with | 0 => c0 | 1 => c1 | 2 => c2 | 3 => c3 | 4 => c4 | _ => c5, fun k => match k with | 0 => i0 | 1 => i1 | 2 => i2 | 3 => i3 | 4 => i4 | _ => i5), fun k => match k with | 0 => g0 | 1 => g1 | 2 => g2 | 3 => g3 | 4 => g4 | _ => g5, ?_, ?_⟩
  · intro k q hq
    match k, hq with
    | 0, hq => cases hq; exact h0
    | 1, hq => cases hq; exact h1
    | 2, hq => cases hq; exact h2
    | 3, hq => cases hq; exact h3
    | 4, hq => cases hq; exact h4
    | 5, hq => cases hq; exact h5
    | k + 6, hq => simp [vwCl] at hq
  · intro k q hq
    match k, hq with
    | 0, hq => cases hq; exact ⟨k0, e0⟩
    | 1, hq => cases hq; exact ⟨k1, e1⟩
    | 2, hq => cases hq; exact ⟨k2, e2⟩
    | 3, hq => cases hq; exact ⟨k3, e3⟩
    | 4, hq => cases hq; exact ⟨k4, e4⟩
    | 5, hq => cases hq; exact ⟨k5, e5⟩
    | k + 6, hq => simp [cty] at hq
