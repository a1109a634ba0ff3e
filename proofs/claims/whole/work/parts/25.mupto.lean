section ZA
variable {p : Program} {l : Launch} {e : Env} {R : Room} {s : State} {m : MethodId} {args : Array Value} {below : List Frame} {meth : Method} {c : Code} {D : va_G} {A : Nat → Prop} {nL cells slots : Nat} {Qp : State → Prop}
variable {cc : ByteArray} {Ts : List Cond} {own : String} {tys : List (ClassId × FieldType)} {ws : va_W} {pc : Nat} {lv : List (Nat × Value)} {rest : List Value}
theorem w_aald (C : ZC p s m args c cc nL Ts own D tys) (q0 t0 : Nat) {ad : Nat} {cA : ClassId} {n : Nat} {f : Nat → Option Nat} {ty : FieldType} (ha : ws[q0]? = some (ad, .inl (cA, n, .inr (.inr (.inr (.inr f)))))) (ht : tys[t0]? = some (cA, ty)) (hty : ty.isReference = true) {i : Int} (ix : Nat) (hi : i = ix ∧ ix < n ∧ n < 2147483648) {v : Nat} (hv : f ix = some v) (hdg : decode cc pc = .ok (.aaload, 1)) (kk : ZW p l e R s m args below meth c D A nL cells slots Qp ws (pc + 1) lv (.ref v :: rest)) : ZW p l e R s m args below meth c D A nL cells slots Qp ws pc lv (.int (iZ i) :: .ref ad :: rest) := fun H locs ls hP hD hS hl => by
  have hix := iZ_ix ix hi.1 (by omega)
  have hin : vp_in (iZ i) n := iZ_in (by omega) (by omega) hi.2.2
  have hlt : (iZ i).toNatClampNeg < n := by rw [hix]; exact hi.2.1
  refine W.aald (v := va_rf (f (iZ i).toNatClampNeg)) (ty := ty) C.1.1 C.1.2.1 (hP q0 _ ha) ((C.2.2 t0 _ ht).1 n (fun j => va_rf (f j))) hty (fun q => by cases q) (by show ¬ (iZ i < 0 ∨ (arrV _ _ _).slots.size ≤ _); rw [arrV_size]; exact hin) (by show (arrV _ _ _).slots[_]? = _; rw [arrV_read _ _ hlt]) rfl rfl hdg ?_
  rw [hix, hv]
  exact kk H locs ls hP hD hS hl
end ZA
/-- up to the upper end: the end itself, and the search -/
def UV (N h : Nat) (c : Nat → Int) : Int := (if 1 < N ∧ psum c N = 0 then 1 else 0) + (if N ≤ 1 then 0 else ((CV N h c : Nat) : Int))
set_option maxHeartbeats 4000000 in
set_option maxRecDepth 100000 in
/-- upTo: the roots above 0 and not above 1 -/
theorem cm_upTo (l : Launch) (D : va_G) (Q : Nat → Nat) (G : Nat → ClassId) (fL fS fN fD : Nat → Int32) (X : mX) (Z cf0 : Nat → Int) (r N h : Nat) (hZ : mAll fL fS fN Z) (hr2 : r < 11) (hn : fD r = iZ ((N : Int) - 1)) (hN : N ≤ 9) (hcf : ∀ i : Nat, i < N → Z (9 * r + i) = cf0 i) (hT : 1 < N → TV N h cf0) (hh : h < 4000) (sz : Nat) : Met l yX5_upTo (wC yX5_upTo cX5_upTo 3 (some .int)) ({ frames := 6, cells := 0, slots := 0, locals := 154 }) (va_Pc [.ref (Q 0), .int (iZ ((r : Int)))] (mPre D Q G (fL, fS, fN, fD, X) sz)) (va_Qi (fun (q : Int32) (u : mT) => q = iZ (UV N h cf0) ∧ ∃ (Y : Nat → Int) (gD fB : Nat → Int32), mPost gD (xB X fB) Y u ∧ (∀ q : Nat, q ≠ 11 → q ≠ 12 → gD q = fD q) ∧ ∀ j : Nat, j ≠ 135 → (j < 99 ∨ 117 ≤ j) → Y j = Z j) (mAt D Q G (mA Q sz)) (mA Q sz)) 0 0 (mA Q sz) := by
  refine m_met (cc := cX5_upTo) (maxL := 3) (ret := (some .int)) (by decide) rfl rfl (Nat.le_of_ble_eq_true rfl) ?_
  intro p e s m below meth c hsz C hr hlk
  refine w_sub [(0, .ref (Q 0)), (1, .int (iZ ((r : Int))))] [0, 1] rfl ?_
  refine w_aload_n C dX5_upTo_0 0 rfl ?_
  refine w_get (ci := 5) (ref := "RootIsolatorModel") (T := TX5) (Cn := RX5) (N := 10) C (fun w h => wC_in (inX5 w h)) 0 rfl rfl 4 (by decide) (wC_in fX5_degrees) rfl rfl dX5_upTo_1 ?_
  refine w_iload_n C dX5_upTo_4 1 rfl ?_
  refine w_iald C 4 0 rfl rfl (r) ((N : Int) - 1) ⟨by omega, by omega, by omega⟩ (hn) dX5_upTo_5 ?_
  refine w_if_le C 21 dX5_upTo_6 (by decide) ⟨by omega, by omega⟩ (fun c6 => ?_) (fun c6 => ?_)
  · refine w_iconst C dX5_upTo_21 ?_
    refine w_istore_n C [(2, .int (iZ (0))), (0, .ref (Q 0)), (1, .int (iZ ((r : Int))))] dX5_upTo_22 rfl (by decide) rfl ?_
    refine w_iload_n C dX5_upTo_23 0 rfl ?_
    refine w_aload_n C dX5_upTo_24 1 rfl ?_
    refine w_iload_n C dX5_upTo_25 2 rfl ?_
    refine m_calli [.int (iZ ((r : Int)))] hsz C (fun z => cm_between l D Q G fL fS fN fD X Z cf0 r N h hZ hr2 hn hN hcf hT hh z) (cwV 1 C.1.2.2.2.2 (wC_V kX5_129 nX5_between slX5_between iniX5 cdX5_between) rfl rfl rfl (by decide +kernel) ⟨Nat.le_of_ble_eq_true rfl, Nat.le_of_ble_eq_true rfl⟩) rfl ⟨Nat.zero_le _, Nat.zero_le _⟩ (Nat.le_of_ble_eq_true rfl) dX5_upTo_26 [.int (iZ ((r : Int))), .ref (Q 0), .int (iZ (0))] rfl (fun r v1 hv1 => ?_)
    obtain ⟨rfl, Y, gD, fB, ⟨tL, tS, tN, hZt, rfl⟩, hgD, hYt⟩ := hv1
    refine w_iadd C dX5_upTo_29 ?_
    exact m_iret hsz C hr hlk (⟨congrArg iZ (by unfold UV; (first | rw [if_pos (c := 1 < N ∧ psum cf0 N = 0) ⟨by omega, by rw [← hps]; exact sgn_zero c14⟩] | rw [if_neg (c := 1 < N ∧ psum cf0 N = 0) (fun g => c14 (by rw [hps, g.2]; rfl))] | rw [if_neg (c := 1 < N ∧ psum cf0 N = 0) (by omega)])), Y, gD, fB, ⟨_, _, _, hZt, rfl⟩, hgD, fun j _ h2 => hYt j h2⟩) dX5_upTo_30
  · obtain ⟨M, hM, hB, hM2⟩ := TV_ok (hT (by omega))
    refine w_aload_n C dX5_upTo_9 0 rfl ?_
    refine w_iload_n C dX5_upTo_10 1 rfl ?_
    refine m_calli [.int (iZ ((r : Int)))] hsz C (fun z => cm_signAtOne l D Q G fL fS fN fD X Z r N M hZ (by omega) hn hN hM (fun i hi => by rw [hcf i hi]; exact hB i hi) (by have := p639; omega) z) (cwV 1 C.1.2.2.2.2 (wC_V kX5_126 nX5_signAtOne slX5_signAtOne iniX5 cdX5_signAtOne) rfl rfl rfl (by decide +kernel) ⟨Nat.le_of_ble_eq_true rfl, Nat.le_of_ble_eq_true rfl⟩) rfl ⟨Nat.zero_le _, Nat.zero_le _⟩ (Nat.le_of_ble_eq_true rfl) dX5_upTo_11 [.int (iZ ((r : Int))), .ref (Q 0)] rfl (fun r v2 hv2 => ?_)
    obtain ⟨rfl, Y1, ⟨sL, sS, sN, hZ1, rfl⟩, hY1⟩ := hv2
    have hps : psum (fun k => Z (9 * r + k)) N = psum cf0 N := psum_congr (fun k hk => hcf k hk)
    refine w_if_ne C 21 dX5_upTo_14 (by decide) (by have := sgn_r (psum (fun k => Z (9 * r + k)) N); omega) (fun c14 => ?_) (fun c14 => ?_)
    · refine w_iconst C dX5_upTo_21 ?_
      refine w_istore_n C [(2, .int (iZ (0))), (0, .ref (Q 0)), (1, .int (iZ ((r : Int))))] dX5_upTo_22 rfl (by decide) rfl ?_
      refine w_iload_n C dX5_upTo_23 0 rfl ?_
      refine w_aload_n C dX5_upTo_24 1 rfl ?_
      refine w_iload_n C dX5_upTo_25 2 rfl ?_
      refine m_calli [.int (iZ ((r : Int)))] hsz C (fun z => cm_between l D Q G sL sS sN fD X Y1 cf0 r N h hZ1 hr2 hn hN (fun i hi => (hY1 _ (by omega)).trans (hcf i hi)) hT hh z) (cwV 1 C.1.2.2.2.2 (wC_V kX5_129 nX5_between slX5_between iniX5 cdX5_between) rfl rfl rfl (by decide +kernel) ⟨Nat.le_of_ble_eq_true rfl, Nat.le_of_ble_eq_true rfl⟩) rfl ⟨Nat.zero_le _, Nat.zero_le _⟩ (Nat.le_of_ble_eq_true rfl) dX5_upTo_26 [.int (iZ ((r : Int))), .ref (Q 0), .int (iZ (0))] rfl (fun r v3 hv3 => ?_)
      obtain ⟨rfl, Y, gD, fB, ⟨tL, tS, tN, hZt, rfl⟩, hgD, hYt⟩ := hv3
      refine w_iadd C dX5_upTo_29 ?_
      exact m_iret hsz C hr hlk (⟨congrArg iZ (by unfold UV; (first | rw [if_pos (c := 1 < N ∧ psum cf0 N = 0) ⟨by omega, by rw [← hps]; exact sgn_zero c14⟩] | rw [if_neg (c := 1 < N ∧ psum cf0 N = 0) (fun g => c14 (by rw [hps, g.2]; rfl))] | rw [if_neg (c := 1 < N ∧ psum cf0 N = 0) (by omega)])), Y, gD, fB, ⟨_, _, _, hZt, rfl⟩, hgD, fun j h1 h2 => (hYt j h2).trans (hY1 j h1)⟩) dX5_upTo_30
    · refine w_iconst C dX5_upTo_17 ?_
      refine w_goto C 22 dX5_upTo_18 (by decide) ?_
      refine w_istore_n C [(2, .int (iZ (1))), (0, .ref (Q 0)), (1, .int (iZ ((r : Int))))] dX5_upTo_22 rfl (by decide) rfl ?_
      refine w_iload_n C dX5_upTo_23 0 rfl ?_
      refine w_aload_n C dX5_upTo_24 1 rfl ?_
      refine w_iload_n C dX5_upTo_25 2 rfl ?_
      refine m_calli [.int (iZ ((r : Int)))] hsz C (fun z => cm_between l D Q G sL sS sN fD X Y1 cf0 r N h hZ1 hr2 hn hN (fun i hi => (hY1 _ (by omega)).trans (hcf i hi)) hT hh z) (cwV 1 C.1.2.2.2.2 (wC_V kX5_129 nX5_between slX5_between iniX5 cdX5_between) rfl rfl rfl (by decide +kernel) ⟨Nat.le_of_ble_eq_true rfl, Nat.le_of_ble_eq_true rfl⟩) rfl ⟨Nat.zero_le _, Nat.zero_le _⟩ (Nat.le_of_ble_eq_true rfl) dX5_upTo_26 [.int (iZ ((r : Int))), .ref (Q 0), .int (iZ (1))] rfl (fun r v4 hv4 => ?_)
      obtain ⟨rfl, Y, gD, fB, ⟨tL, tS, tN, hZt, rfl⟩, hgD, hYt⟩ := hv4
      refine w_iadd C dX5_upTo_29 ?_
      exact m_iret hsz C hr hlk (⟨congrArg iZ (by unfold UV; (first | rw [if_pos (c := 1 < N ∧ psum cf0 N = 0) ⟨by omega, by rw [← hps]; exact sgn_zero c14⟩] | rw [if_neg (c := 1 < N ∧ psum cf0 N = 0) (fun g => c14 (by rw [hps, g.2]; rfl))] | rw [if_neg (c := 1 < N ∧ psum cf0 N = 0) (by omega)])), Y, gD, fB, ⟨_, _, _, hZt, rfl⟩, hgD, fun j h1 h2 => (hYt j h2).trans (hY1 j h1)⟩) dX5_upTo_30
set_option maxHeartbeats 4000000 in
set_option maxRecDepth 100000 in
/-- take: a row becomes a given polynomial -/
theorem cm_take0 (l : Launch) (D : va_G) (Q : Nat → Nat) (G : Nat → ClassId) (fL fS fN fD : Nat → Int32) (X : mX) (Z : Nat → Int) (r : Nat) (hZ : mAll fL fS fN Z) (hr2 : r < 15) (sz : Nat) : Met l yX5_take (wC yX5_take cX5_take 4 none) ({ frames := 2, cells := 0, slots := 0, locals := 44 }) (va_Pc [.ref (Q 0), .int (iZ ((r : Int))), .int (iZ (0))] (mPre D Q G (fL, fS, fN, fD, X) sz)) (va_Qv (fun u : mT => ∃ (Y : Nat → Int) (j : Nat), mPost (upd fD r (iZ ((j : Int) - 1))) X Y u ∧ j ≤ 9 ∧ (∀ k : Nat, j ≤ k → k < 9 → (X.2.2.2.2.2.1 k).toInt = 0) ∧ (∀ i : Nat, j = i + 1 → (X.2.2.2.2.2.1 i).toInt ≠ 0) ∧ (∀ k : Nat, k < 9 → Y (9 * r + k) = (X.2.2.2.2.2.1 k).toInt) ∧ ∀ c : Nat, (c < 9 * r ∨ 9 * r + 9 ≤ c) → Y c = Z c) (mAt D Q G (mA Q sz)) (mA Q sz)) 0 0 (mA Q sz) := by
  refine m_met (cc := cX5_take) (maxL := 4) (ret := none) (by decide) rfl rfl (Nat.le_of_ble_eq_true rfl) ?_
  intro p e s m below meth c hsz C hr hlk
  refine w_sub [(0, .ref (Q 0)), (1, .int (iZ ((r : Int)))), (2, .int (iZ (0)))] [0, 1, 2] rfl ?_
  have loop : ∀ (d : Nat) (k : Nat) (Y : Nat → Int) (kL : Nat → Int32) (kS : Nat → Int32) (kN : Nat → Int32), 9 < k + d → k ≤ 9 → mAll kL kS kN Y → (∀ i : Nat, i < k → Y (9 * r + i) = (X.2.2.2.2.2.1 i).toInt) → (∀ c : Nat, (c < 9 * r ∨ 9 * r + k ≤ c) → Y c = Z c) → ZW p l e ({ frames := 2, cells := 0, slots := 0, locals := 44 }) s m ([.ref (Q 0), .int (iZ ((r : Int))), .int (iZ (0))] : List Value).toArray below meth c D (mA Q sz) 4 0 0 (MQ below (va_Qv (fun u : mT => ∃ (Y : Nat → Int) (j : Nat), mPost (upd fD r (iZ ((j : Int) - 1))) X Y u ∧ j ≤ 9 ∧ (∀ k : Nat, j ≤ k → k < 9 → (X.2.2.2.2.2.1 k).toInt = 0) ∧ (∀ i : Nat, j = i + 1 → (X.2.2.2.2.2.1 i).toInt ≠ 0) ∧ (∀ k : Nat, k < 9 → Y (9 * r + k) = (X.2.2.2.2.2.1 k).toInt) ∧ ∀ c : Nat, (c < 9 * r ∨ 9 * r + 9 ≤ c) → Y c = Z c) (mAt D Q G (mA Q sz)) (mA Q sz)) ([.ref (Q 0), .int (iZ ((r : Int))), .int (iZ (0))] : List Value).toArray s 0 0 (mA Q sz)) (mU Q G (kL, kS, kN, fD, X)) 2 [(3, .int (iZ ((k : Int)))), (0, .ref (Q 0)), (1, .int (iZ ((r : Int)))), (2, .int (iZ (0)))] [] := by
    intro d
    induction d with
    | zero =>
      intro k Y kL kS kN hd hk hZ h1 h2
      exact absurd hd (by omega)
    | succ d ih =>
      intro k Y kL kS kN hd hk hZ h1 h2
      refine w_iload_n C dX5_take_2 0 rfl ?_
      refine w_bipush C dX5_take_3 (by decide) ?_
      refine w_icmp_ge C 32 dX5_take_5 (by decide) ⟨⟨by omega, by omega⟩, by omega, by omega⟩ (fun c5 => ?_) (fun c5 => ?_)
      · refine w_aload_n C dX5_take_32 1 rfl ?_
        refine w_iload_n C dX5_take_33 2 rfl ?_
        refine w_bipush C dX5_take_34 (by decide) ?_
        refine w_top C (((9 : Nat) : Int) - 1) (by omega) ?_
        refine m_callv [.int (iZ ((r : Int))), .int (iZ (((9 : Nat) : Int) - 1))] hsz C (fun z => cm_findDegree l D Q G kL kS kN fD X Y r 9 hZ hr2 (by omega) z) (cwV 2 C.1.2.2.2.2 (wC_V kX5_82 nX5_findDegree slX5_findDegree iniX5 cdX5_findDegree) rfl rfl rfl (by decide +kernel) ⟨Nat.le_of_ble_eq_true rfl, Nat.le_of_ble_eq_true rfl⟩) rfl ⟨Nat.zero_le _, Nat.zero_le _⟩ (Nat.le_of_ble_eq_true rfl) dX5_take_36 [.int (iZ (((9 : Nat) : Int) - 1)), .int (iZ ((r : Int))), .ref (Q 0)] rfl (fun v1 hv1 => ?_)
        obtain ⟨j, hj1, hj2, hj3, rfl⟩ := hv1
        exact m_vret hsz C hr hlk (⟨Y, j, ⟨_, _, _, hZ, rfl⟩, hj1, fun i e1 e2 => by rw [← h1 i (by omega)]; exact hj2 i e1 e2, fun i e1 => by rw [← h1 i (by omega)]; exact hj3 i e1, fun i hi => h1 i (by omega), fun c hc => h2 c (by omega)⟩) dX5_take_39
      · refine w_aload_n C dX5_take_8 1 rfl ?_
        refine w_iload_n C dX5_take_9 2 rfl ?_
        refine w_iload_n C dX5_take_10 0 rfl ?_
        refine m_callSi [.int (iZ ((r : Int))), .int (iZ ((k : Int)))] hsz C (fun z => cm_at l D Q G kL kS kN fD X (r) (k) z) (cwS 2 C.1.2.2.2.2 (wC_S kX5_79 stX5_at iniX5 cdX5_at) rfl rfl rfl (by decide +kernel) ⟨Nat.le_of_ble_eq_true rfl, Nat.le_of_ble_eq_true rfl⟩) rfl ⟨Nat.zero_le _, Nat.zero_le _⟩ (Nat.le_of_ble_eq_true rfl) dX5_take_11 [.int (iZ ((k : Int))), .int (iZ ((r : Int))), .ref (Q 0)] rfl (fun r v2 hv2 => ?_)
        obtain ⟨rfl, rfl⟩ := hv2
        refine w_aload_n C dX5_take_14 1 rfl ?_
        refine w_get (ci := 5) (ref := "RootIsolatorModel") (T := TX5) (Cn := RX5) (N := 10) C (fun w h => wC_in (inX5 w h)) 0 rfl rfl 0 (by decide) (wC_in fX5_given) rfl rfl dX5_take_15 ?_
        refine w_iload_n C dX5_take_18 3 rfl ?_
        refine w_aald (n := 2) (f := fun j => some (Q (9 + j))) C 5 3 rfl rfl rfl (0) ⟨rfl, by decide, by decide⟩ (rfl) dX5_take_19 ?_
        refine w_iload_n C dX5_take_20 0 rfl ?_
        refine w_iald C 9 0 rfl rfl (k) ((X.2.2.2.2.2.1 k).toInt) ⟨by omega, by omega, by omega⟩ ((iZ_self _).symm) dX5_take_21 ?_
        refine w_i2l C dX5_take_22 (i32r _) ?_
        refine m_callv [.int (iZ (((9 * r + k : Nat) : Int))), .long (lZ ((X.2.2.2.2.2.1 k).toInt))] hsz C (fun z => cm_setLong l D Q G kL kS kN fD X (9 * r + k) ((X.2.2.2.2.2.1 k).toInt) (by omega) (by have := i32r (X.2.2.2.2.2.1 k); omega) (by have := i32r (X.2.2.2.2.2.1 k); omega) z) (cwV 2 C.1.2.2.2.2 (wC_V kX5_64 nX5_setLong slX5_setLong iniX5 cdX5_setLong) rfl rfl rfl (by decide +kernel) ⟨Nat.le_of_ble_eq_true rfl, Nat.le_of_ble_eq_true rfl⟩) rfl ⟨Nat.zero_le _, Nat.zero_le _⟩ (Nat.le_of_ble_eq_true rfl) dX5_take_23 [.long (lZ ((X.2.2.2.2.2.1 k).toInt)), .int (iZ (((9 * r + k : Nat) : Int))), .ref (Q 0)] rfl (fun v3 hv3 => ?_)
        obtain ⟨gL3, gS3, gN3, hZ3, rfl⟩ := mSet_all hZ hv3
        refine w_iinc C (((k + 1 : Nat) : Int)) (by omega) [(3, .int (iZ (((k + 1 : Nat) : Int)))), (0, .ref (Q 0)), (1, .int (iZ ((r : Int)))), (2, .int (iZ (0)))] dX5_take_26 0 rfl (by decide) rfl ?_
        refine w_goto C 2 dX5_take_29 (by decide) ?_
        exact ih (k + 1) (uZ Y (9 * r + k) ((X.2.2.2.2.2.1 k).toInt)) _ _ _ (by omega) (by omega) hZ3 (fun i hi => by
          rcases Nat.lt_or_ge i k with g | g
          · rw [uZ_ne (by omega)]; exact h1 i g
          · have : i = k := by omega
            subst this; rw [uZ_eq]) (fun c hc => by rw [uZ_ne (by omega)]; exact h2 c (by omega))
  refine w_iconst C dX5_take_0 ?_
  refine w_istore_n C [(3, .int (iZ (0))), (0, .ref (Q 0)), (1, .int (iZ ((r : Int)))), (2, .int (iZ (0)))] dX5_take_1 rfl (by decide) rfl ?_
  exact loop 10 0 Z fL fS fN (by omega) (by omega) hZ (fun i hi => absurd hi (by omega)) (fun _ _ => rfl)
set_option maxHeartbeats 4000000 in
set_option maxRecDepth 100000 in
/-- take: a row becomes a given polynomial -/
theorem cm_take1 (l : Launch) (D : va_G) (Q : Nat → Nat) (G : Nat → ClassId) (fL fS fN fD : Nat → Int32) (X : mX) (Z : Nat → Int) (r : Nat) (hZ : mAll fL fS fN Z) (hr2 : r < 15) (sz : Nat) : Met l yX5_take (wC yX5_take cX5_take 4 none) ({ frames := 2, cells := 0, slots := 0, locals := 44 }) (va_Pc [.ref (Q 0), .int (iZ ((r : Int))), .int (iZ (1))] (mPre D Q G (fL, fS, fN, fD, X) sz)) (va_Qv (fun u : mT => ∃ (Y : Nat → Int) (j : Nat), mPost (upd fD r (iZ ((j : Int) - 1))) X Y u ∧ j ≤ 9 ∧ (∀ k : Nat, j ≤ k → k < 9 → (X.2.2.2.2.2.2 k).toInt = 0) ∧ (∀ i : Nat, j = i + 1 → (X.2.2.2.2.2.2 i).toInt ≠ 0) ∧ (∀ k : Nat, k < 9 → Y (9 * r + k) = (X.2.2.2.2.2.2 k).toInt) ∧ ∀ c : Nat, (c < 9 * r ∨ 9 * r + 9 ≤ c) → Y c = Z c) (mAt D Q G (mA Q sz)) (mA Q sz)) 0 0 (mA Q sz) := by
  refine m_met (cc := cX5_take) (maxL := 4) (ret := none) (by decide) rfl rfl (Nat.le_of_ble_eq_true rfl) ?_
  intro p e s m below meth c hsz C hr hlk
  refine w_sub [(0, .ref (Q 0)), (1, .int (iZ ((r : Int)))), (2, .int (iZ (1)))] [0, 1, 2] rfl ?_
  have loop : ∀ (d : Nat) (k : Nat) (Y : Nat → Int) (kL : Nat → Int32) (kS : Nat → Int32) (kN : Nat → Int32), 9 < k + d → k ≤ 9 → mAll kL kS kN Y → (∀ i : Nat, i < k → Y (9 * r + i) = (X.2.2.2.2.2.2 i).toInt) → (∀ c : Nat, (c < 9 * r ∨ 9 * r + k ≤ c) → Y c = Z c) → ZW p l e ({ frames := 2, cells := 0, slots := 0, locals := 44 }) s m ([.ref (Q 0), .int (iZ ((r : Int))), .int (iZ (1))] : List Value).toArray below meth c D (mA Q sz) 4 0 0 (MQ below (va_Qv (fun u : mT => ∃ (Y : Nat → Int) (j : Nat), mPost (upd fD r (iZ ((j : Int) - 1))) X Y u ∧ j ≤ 9 ∧ (∀ k : Nat, j ≤ k → k < 9 → (X.2.2.2.2.2.2 k).toInt = 0) ∧ (∀ i : Nat, j = i + 1 → (X.2.2.2.2.2.2 i).toInt ≠ 0) ∧ (∀ k : Nat, k < 9 → Y (9 * r + k) = (X.2.2.2.2.2.2 k).toInt) ∧ ∀ c : Nat, (c < 9 * r ∨ 9 * r + 9 ≤ c) → Y c = Z c) (mAt D Q G (mA Q sz)) (mA Q sz)) ([.ref (Q 0), .int (iZ ((r : Int))), .int (iZ (1))] : List Value).toArray s 0 0 (mA Q sz)) (mU Q G (kL, kS, kN, fD, X)) 2 [(3, .int (iZ ((k : Int)))), (0, .ref (Q 0)), (1, .int (iZ ((r : Int)))), (2, .int (iZ (1)))] [] := by
    intro d
    induction d with
    | zero =>
      intro k Y kL kS kN hd hk hZ h1 h2
      exact absurd hd (by omega)
    | succ d ih =>
      intro k Y kL kS kN hd hk hZ h1 h2
      refine w_iload_n C dX5_take_2 0 rfl ?_
      refine w_bipush C dX5_take_3 (by decide) ?_
      refine w_icmp_ge C 32 dX5_take_5 (by decide) ⟨⟨by omega, by omega⟩, by omega, by omega⟩ (fun c5 => ?_) (fun c5 => ?_)
      · refine w_aload_n C dX5_take_32 1 rfl ?_
        refine w_iload_n C dX5_take_33 2 rfl ?_
        refine w_bipush C dX5_take_34 (by decide) ?_
        refine w_top C (((9 : Nat) : Int) - 1) (by omega) ?_
        refine m_callv [.int (iZ ((r : Int))), .int (iZ (((9 : Nat) : Int) - 1))] hsz C (fun z => cm_findDegree l D Q G kL kS kN fD X Y r 9 hZ hr2 (by omega) z) (cwV 2 C.1.2.2.2.2 (wC_V kX5_82 nX5_findDegree slX5_findDegree iniX5 cdX5_findDegree) rfl rfl rfl (by decide +kernel) ⟨Nat.le_of_ble_eq_true rfl, Nat.le_of_ble_eq_true rfl⟩) rfl ⟨Nat.zero_le _, Nat.zero_le _⟩ (Nat.le_of_ble_eq_true rfl) dX5_take_36 [.int (iZ (((9 : Nat) : Int) - 1)), .int (iZ ((r : Int))), .ref (Q 0)] rfl (fun v1 hv1 => ?_)
        obtain ⟨j, hj1, hj2, hj3, rfl⟩ := hv1
        exact m_vret hsz C hr hlk (⟨Y, j, ⟨_, _, _, hZ, rfl⟩, hj1, fun i e1 e2 => by rw [← h1 i (by omega)]; exact hj2 i e1 e2, fun i e1 => by rw [← h1 i (by omega)]; exact hj3 i e1, fun i hi => h1 i (by omega), fun c hc => h2 c (by omega)⟩) dX5_take_39
      · refine w_aload_n C dX5_take_8 1 rfl ?_
        refine w_iload_n C dX5_take_9 2 rfl ?_
        refine w_iload_n C dX5_take_10 0 rfl ?_
        refine m_callSi [.int (iZ ((r : Int))), .int (iZ ((k : Int)))] hsz C (fun z => cm_at l D Q G kL kS kN fD X (r) (k) z) (cwS 2 C.1.2.2.2.2 (wC_S kX5_79 stX5_at iniX5 cdX5_at) rfl rfl rfl (by decide +kernel) ⟨Nat.le_of_ble_eq_true rfl, Nat.le_of_ble_eq_true rfl⟩) rfl ⟨Nat.zero_le _, Nat.zero_le _⟩ (Nat.le_of_ble_eq_true rfl) dX5_take_11 [.int (iZ ((k : Int))), .int (iZ ((r : Int))), .ref (Q 0)] rfl (fun r v2 hv2 => ?_)
        obtain ⟨rfl, rfl⟩ := hv2
        refine w_aload_n C dX5_take_14 1 rfl ?_
        refine w_get (ci := 5) (ref := "RootIsolatorModel") (T := TX5) (Cn := RX5) (N := 10) C (fun w h => wC_in (inX5 w h)) 0 rfl rfl 0 (by decide) (wC_in fX5_given) rfl rfl dX5_take_15 ?_
        refine w_iload_n C dX5_take_18 3 rfl ?_
        refine w_aald (n := 2) (f := fun j => some (Q (9 + j))) C 5 3 rfl rfl rfl (1) ⟨rfl, by decide, by decide⟩ (rfl) dX5_take_19 ?_
        refine w_iload_n C dX5_take_20 0 rfl ?_
        refine w_iald C 10 0 rfl rfl (k) ((X.2.2.2.2.2.2 k).toInt) ⟨by omega, by omega, by omega⟩ ((iZ_self _).symm) dX5_take_21 ?_
        refine w_i2l C dX5_take_22 (i32r _) ?_
        refine m_callv [.int (iZ (((9 * r + k : Nat) : Int))), .long (lZ ((X.2.2.2.2.2.2 k).toInt))] hsz C (fun z => cm_setLong l D Q G kL kS kN fD X (9 * r + k) ((X.2.2.2.2.2.2 k).toInt) (by omega) (by have := i32r (X.2.2.2.2.2.2 k); omega) (by have := i32r (X.2.2.2.2.2.2 k); omega) z) (cwV 2 C.1.2.2.2.2 (wC_V kX5_64 nX5_setLong slX5_setLong iniX5 cdX5_setLong) rfl rfl rfl (by decide +kernel) ⟨Nat.le_of_ble_eq_true rfl, Nat.le_of_ble_eq_true rfl⟩) rfl ⟨Nat.zero_le _, Nat.zero_le _⟩ (Nat.le_of_ble_eq_true rfl) dX5_take_23 [.long (lZ ((X.2.2.2.2.2.2 k).toInt)), .int (iZ (((9 * r + k : Nat) : Int))), .ref (Q 0)] rfl (fun v3 hv3 => ?_)
        obtain ⟨gL3, gS3, gN3, hZ3, rfl⟩ := mSet_all hZ hv3
        refine w_iinc C (((k + 1 : Nat) : Int)) (by omega) [(3, .int (iZ (((k + 1 : Nat) : Int)))), (0, .ref (Q 0)), (1, .int (iZ ((r : Int)))), (2, .int (iZ (1)))] dX5_take_26 0 rfl (by decide) rfl ?_
        refine w_goto C 2 dX5_take_29 (by decide) ?_
        exact ih (k + 1) (uZ Y (9 * r + k) ((X.2.2.2.2.2.2 k).toInt)) _ _ _ (by omega) (by omega) hZ3 (fun i hi => by
          rcases Nat.lt_or_ge i k with g | g
          · rw [uZ_ne (by omega)]; exact h1 i g
          · have : i = k := by omega
            subst this; rw [uZ_eq]) (fun c hc => by rw [uZ_ne (by omega)]; exact h2 c (by omega))
  refine w_iconst C dX5_take_0 ?_
  refine w_istore_n C [(3, .int (iZ (0))), (0, .ref (Q 0)), (1, .int (iZ ((r : Int)))), (2, .int (iZ (1)))] dX5_take_1 rfl (by decide) rfl ?_
  exact loop 10 0 Z fL fS fN (by omega) (by omega) hZ (fun i hi => absurd hi (by omega)) (fun _ _ => rfl)
set_option maxHeartbeats 4000000 in
set_option maxRecDepth 100000 in
/-- deriveRow -/
theorem cm_deriveRow (l : Launch) (D : va_G) (Q : Nat → Nat) (G : Nat → ClassId) (fL fS fN fD : Nat → Int32) (X : mX) (Z : Nat → Int) (t r N pb : Nat) (hZ : mAll fL fS fN Z) (ht : t < 15) (hr2 : r < 15) (htr : t ≠ r) (hn : fD r = iZ ((N : Int) - 1)) (hN : N ≤ 9) (hB : ∀ i : Nat, i < N → ((Z (9 * r + i)).natAbs : Int) < 2 ^ (31 * pb)) (hp : pb ≤ 638) (sz : Nat) : Met l yX5_deriveRow (wC yX5_deriveRow cX5_deriveRow 5 none) ({ frames := 2, cells := 0, slots := 0, locals := 53 }) (va_Pc [.ref (Q 0), .int (iZ ((t : Int))), .int (iZ ((r : Int)))] (mPre D Q G (fL, fS, fN, fD, X) sz)) (va_Qv (fun u : mT => ∃ (Y : Nat → Int) (gD : Nat → Int32), mPost gD X Y u ∧ gD t = iZ (((N - 1 : Nat) : Int) - 1) ∧ (∀ q : Nat, q ≠ t → gD q = fD q) ∧ (∀ i : Nat, i + 1 < N → Y (9 * t + i) = Z (9 * r + (i + 1)) * ((i + 1 : Nat) : Int)) ∧ ∀ c : Nat, c ≠ 135 → (c < 9 * t ∨ 9 * t + (N - 1) ≤ c) → Y c = Z c) (mAt D Q G (mA Q sz)) (mA Q sz)) 0 0 (mA Q sz) := by
  refine m_met (cc := cX5_deriveRow) (maxL := 5) (ret := none) (by decide) rfl rfl (Nat.le_of_ble_eq_true rfl) ?_
  intro p e s m below meth c hsz C hr hlk
  refine w_sub [(0, .ref (Q 0)), (1, .int (iZ ((t : Int)))), (2, .int (iZ ((r : Int))))] [0, 1, 2] rfl ?_
  have loop : ∀ (d : Nat) (k : Nat) (Y : Nat → Int) (kL : Nat → Int32) (kS : Nat → Int32) (kN : Nat → Int32), N < k + d → k ≤ N → (k = 0 ∨ k + 1 ≤ N) → mAll kL kS kN Y → (∀ i : Nat, i < k → Y (9 * t + i) = Z (9 * r + (i + 1)) * ((i + 1 : Nat) : Int)) → (∀ c : Nat, c ≠ 135 → (c < 9 * t ∨ 9 * t + k ≤ c) → Y c = Z c) → ZW p l e ({ frames := 2, cells := 0, slots := 0, locals := 53 }) s m ([.ref (Q 0), .int (iZ ((t : Int))), .int (iZ ((r : Int)))] : List Value).toArray below meth c D (mA Q sz) 5 0 0 (MQ below (va_Qv (fun u : mT => ∃ (Y : Nat → Int) (gD : Nat → Int32), mPost gD X Y u ∧ gD t = iZ (((N - 1 : Nat) : Int) - 1) ∧ (∀ q : Nat, q ≠ t → gD q = fD q) ∧ (∀ i : Nat, i + 1 < N → Y (9 * t + i) = Z (9 * r + (i + 1)) * ((i + 1 : Nat) : Int)) ∧ ∀ c : Nat, c ≠ 135 → (c < 9 * t ∨ 9 * t + (N - 1) ≤ c) → Y c = Z c) (mAt D Q G (mA Q sz)) (mA Q sz)) ([.ref (Q 0), .int (iZ ((t : Int))), .int (iZ ((r : Int)))] : List Value).toArray s 0 0 (mA Q sz)) (mU Q G (kL, kS, kN, fD, X)) 10 [(4, .int (iZ (((k + 1 : Nat) : Int)))), (3, .int (iZ ((N : Int) - 1))), (0, .ref (Q 0)), (1, .int (iZ ((t : Int)))), (2, .int (iZ ((r : Int))))] [] := by
    intro d
    induction d with
    | zero =>
      intro k Y kL kS kN hd hk hk2 hZ h1 h2
      exact absurd hd (by omega)
    | succ d ih =>
      intro k Y kL kS kN hd hk hk2 hZ h1 h2
      refine w_iload C dX5_deriveRow_10 0 rfl ?_
      refine w_iload_n C dX5_deriveRow_12 1 rfl ?_
      refine w_icmp_gt C 53 dX5_deriveRow_13 (by decide) ⟨⟨by omega, by omega⟩, by omega, by omega⟩ (fun c13 => ?_) (fun c13 => ?_)
      · refine w_aload_n C dX5_deriveRow_53 2 rfl ?_
        refine w_get (ci := 5) (ref := "RootIsolatorModel") (T := TX5) (Cn := RX5) (N := 10) C (fun w h => wC_in (inX5 w h)) 0 rfl rfl 4 (by decide) (wC_in fX5_degrees) rfl rfl dX5_deriveRow_54 ?_
        refine w_iload_n C dX5_deriveRow_57 3 rfl ?_
        refine w_iload_n C dX5_deriveRow_58 1 rfl ?_
        refine w_iconst C dX5_deriveRow_59 ?_
        refine w_isub C dX5_deriveRow_60 ?_
        refine w_iast C (mU Q G (kL, kS, kN, (upd fD (t) (iZ (((N : Int) - 1) - 1))), X)) 4 0 rfl rfl (t) ⟨by omega, by omega, by omega⟩ rfl dX5_deriveRow_61 ?_
        refine w_iload_n C dX5_deriveRow_62 1 rfl ?_
        refine w_iconst C dX5_deriveRow_63 ?_
        refine w_icmp_ge C 74 dX5_deriveRow_64 (by decide) ⟨⟨by omega, by omega⟩, by omega, by omega⟩ (fun c64 => ?_) (fun c64 => ?_)
        · exact m_vret hsz C hr hlk (⟨Y, _, ⟨_, _, _, hZ, rfl⟩, by rw [upd_eq]; exact congrArg iZ (by omega), fun q hq => by rw [upd_ne hq], fun i hi => h1 i (by omega), fun c e1 e2 => h2 c e1 (by omega)⟩) dX5_deriveRow_74
        · refine w_aload_n C dX5_deriveRow_67 2 rfl ?_
          refine w_get (ci := 5) (ref := "RootIsolatorModel") (T := TX5) (Cn := RX5) (N := 10) C (fun w h => wC_in (inX5 w h)) 0 rfl rfl 4 (by decide) (wC_in fX5_degrees) rfl rfl dX5_deriveRow_68 ?_
          refine w_iload_n C dX5_deriveRow_71 3 rfl ?_
          refine w_iconst C dX5_deriveRow_72 ?_
          refine w_iast C (mU Q G (kL, kS, kN, (upd (upd fD (t) (iZ (((N : Int) - 1) - 1))) (t) (iZ ((-1)))), X)) 4 0 rfl rfl (t) ⟨by omega, by omega, by omega⟩ rfl dX5_deriveRow_73 ?_
          exact m_vret hsz C hr hlk (⟨Y, _, ⟨_, _, _, hZ, rfl⟩, by rw [upd_eq]; exact congrArg iZ (by omega), fun q hq => by rw [upd_ne hq, upd_ne hq], fun i hi => h1 i (by omega), fun c e1 e2 => h2 c e1 (by omega)⟩) dX5_deriveRow_74
      · refine w_aload_n C dX5_deriveRow_16 2 rfl ?_
        refine w_sipush C dX5_deriveRow_17 (by decide) ?_
        refine w_iload C dX5_deriveRow_20 0 rfl ?_
        refine w_i2l C dX5_deriveRow_22 ⟨by omega, by omega⟩ ?_
        refine m_callv [.int (iZ (135)), .long (lZ (((k + 1 : Nat) : Int)))] hsz C (fun z => cm_setLong l D Q G kL kS kN fD X 135 ((k + 1 : Nat) : Int) (by omega) (by omega) (by omega) z) (cwV 2 C.1.2.2.2.2 (wC_V kX5_64 nX5_setLong slX5_setLong iniX5 cdX5_setLong) rfl rfl rfl (by decide +kernel) ⟨Nat.le_of_ble_eq_true rfl, Nat.le_of_ble_eq_true rfl⟩) rfl ⟨Nat.zero_le _, Nat.zero_le _⟩ (Nat.le_of_ble_eq_true rfl) dX5_deriveRow_23 [.long (lZ (((k + 1 : Nat) : Int))), .int (iZ (135)), .ref (Q 0)] rfl (fun v1 hv1 => ?_)
        obtain ⟨gL1, gS1, gN1, hZ1, rfl⟩ := mSet_all hZ hv1
        refine w_aload_n C dX5_deriveRow_26 2 rfl ?_
        refine w_iload_n C dX5_deriveRow_27 3 rfl ?_
        refine w_iload C dX5_deriveRow_28 0 rfl ?_
        refine w_iconst C dX5_deriveRow_30 ?_
        refine w_isub C dX5_deriveRow_31 ?_
        refine w_top C ((k : Int)) (by omega) ?_
        refine m_callSi [.int (iZ ((t : Int))), .int (iZ ((k : Int)))] hsz C (fun z => cm_at l D Q G gL1 gS1 gN1 fD X (t) (k) z) (cwS 2 C.1.2.2.2.2 (wC_S kX5_79 stX5_at iniX5 cdX5_at) rfl rfl rfl (by decide +kernel) ⟨Nat.le_of_ble_eq_true rfl, Nat.le_of_ble_eq_true rfl⟩) rfl ⟨Nat.zero_le _, Nat.zero_le _⟩ (Nat.le_of_ble_eq_true rfl) dX5_deriveRow_32 [.int (iZ ((k : Int))), .int (iZ ((t : Int))), .ref (Q 0)] rfl (fun r v2 hv2 => ?_)
        obtain ⟨rfl, rfl⟩ := hv2
        refine w_iload_n C dX5_deriveRow_35 4 rfl ?_
        refine w_iload C dX5_deriveRow_36 0 rfl ?_
        refine m_callSi [.int (iZ ((r : Int))), .int (iZ (((k + 1 : Nat) : Int)))] hsz C (fun z => cm_at l D Q G gL1 gS1 gN1 fD X (r) (k + 1) z) (cwS 2 C.1.2.2.2.2 (wC_S kX5_79 stX5_at iniX5 cdX5_at) rfl rfl rfl (by decide +kernel) ⟨Nat.le_of_ble_eq_true rfl, Nat.le_of_ble_eq_true rfl⟩) rfl ⟨Nat.zero_le _, Nat.zero_le _⟩ (Nat.le_of_ble_eq_true rfl) dX5_deriveRow_38 [.int (iZ (((k + 1 : Nat) : Int))), .int (iZ ((r : Int))), .int (iZ (((9 * t + k : Nat) : Int))), .ref (Q 0)] rfl (fun r v3 hv3 => ?_)
        obtain ⟨rfl, rfl⟩ := hv3
        refine w_sipush C dX5_deriveRow_41 (by decide) ?_
        refine m_callv [.int (iZ (((9 * t + k : Nat) : Int))), .int (iZ (((9 * r + (k + 1) : Nat) : Int))), .int (iZ (135))] hsz C (fun z => cm_multiply l D Q G gL1 gS1 gN1 fD X (9 * t + k) (9 * r + (k + 1)) 135 pb 1 ((uZ Y 135 ((k + 1 : Nat) : Int)) (9 * r + (k + 1))) ((uZ Y 135 ((k + 1 : Nat) : Int)) 135) (by omega) (by omega) (by omega) (by omega) (by omega) (hZ1 _ (by omega)) (hZ1 _ (by omega)) (by rw [uZ_ne (by omega), h2 _ (by omega) (by omega)]; exact hB _ (by omega)) (by rw [uZ_eq]; exact Int.lt_of_lt_of_le (show (((((k + 1 : Nat) : Int)).natAbs : Int)) < 2147483648 by omega) (by decide)) (by omega) z) (cwV 3 C.1.2.2.2.2 (wC_V kX5_88 nX5_multiply slX5_multiply iniX5 cdX5_multiply) rfl rfl rfl (by decide +kernel) ⟨Nat.le_of_ble_eq_true rfl, Nat.le_of_ble_eq_true rfl⟩) rfl ⟨Nat.zero_le _, Nat.zero_le _⟩ (Nat.le_of_ble_eq_true rfl) dX5_deriveRow_44 [.int (iZ (135)), .int (iZ (((9 * r + (k + 1) : Nat) : Int))), .int (iZ (((9 * t + k : Nat) : Int))), .ref (Q 0)] rfl (fun v4 hv4 => ?_)
        obtain ⟨gL4, gS4, gN4, hZ4, rfl⟩ := mSet_all hZ1 hv4
        refine w_iinc C (((k + 1 + 1 : Nat) : Int)) (by omega) [(4, .int (iZ (((k + 1 + 1 : Nat) : Int)))), (3, .int (iZ ((N : Int) - 1))), (0, .ref (Q 0)), (1, .int (iZ ((t : Int)))), (2, .int (iZ ((r : Int))))] dX5_deriveRow_47 0 rfl (by decide) rfl ?_
        refine w_goto C 10 dX5_deriveRow_50 (by decide) ?_
        exact ih (k + 1) (uZ (uZ Y 135 ((k + 1 : Nat) : Int)) (9 * t + k) ((uZ Y 135 ((k + 1 : Nat) : Int)) (9 * r + (k + 1)) * (uZ Y 135 ((k + 1 : Nat) : Int)) 135)) _ _ _ (by omega) (by omega) (by omega) hZ4 (fun i hi => by
          rcases Nat.lt_or_ge i k with g | g
          · rw [uZ_ne (by omega), uZ_ne (by omega)]; exact h1 i g
          · have : i = k := by omega
            subst this; rw [uZ_eq, uZ_ne (by omega), uZ_eq, h2 _ (by omega) (by omega)]) (fun c e1 hc => by rw [uZ_ne (by omega), uZ_ne e1]; exact h2 c e1 (by omega))
  refine w_aload_n C dX5_deriveRow_0 0 rfl ?_
  refine w_get (ci := 5) (ref := "RootIsolatorModel") (T := TX5) (Cn := RX5) (N := 10) C (fun w h => wC_in (inX5 w h)) 0 rfl rfl 4 (by decide) (wC_in fX5_degrees) rfl rfl dX5_deriveRow_1 ?_
  refine w_iload_n C dX5_deriveRow_4 2 rfl ?_
  refine w_iald C 4 0 rfl rfl (r) ((N : Int) - 1) ⟨by omega, by omega, by omega⟩ (hn) dX5_deriveRow_5 ?_
  refine w_istore_n C [(3, .int (iZ ((N : Int) - 1))), (0, .ref (Q 0)), (1, .int (iZ ((t : Int)))), (2, .int (iZ ((r : Int))))] dX5_deriveRow_6 rfl (by decide) rfl ?_
  refine w_iconst C dX5_deriveRow_7 ?_
  refine w_istore C [(4, .int (iZ (1))), (3, .int (iZ ((N : Int) - 1))), (0, .ref (Q 0)), (1, .int (iZ ((t : Int)))), (2, .int (iZ ((r : Int))))] dX5_deriveRow_8 (by decide) rfl ?_
  exact loop (N + 1) 0 Z fL fS fN (by omega) (by omega) (Or.inl rfl) hZ (fun i hi => absurd hi (by omega)) (fun _ _ _ => rfl)
