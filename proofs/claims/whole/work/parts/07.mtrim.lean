set_option maxHeartbeats 4000000 in
set_option maxRecDepth 100000 in
/-- trim: the size falls to the uppermost limb that is not 0 -/
theorem cm_trim (l : Launch) (D : va_G) (Q : Nat → Nat) (G : Nat → ClassId) (fL fS fN fD : Nat → Int32) (X : mX) (a n : Nat) (sg : Int) (ha : a < 141) (hn : n ≤ 640) (sz : Nat) : Met l yX5_trim (wC yX5_trim cX5_trim 5 none) ({ frames := 0, cells := 0, slots := 0, locals := 0 }) (va_Pc [.ref (Q 0), .int (iZ ((a : Int))), .int (iZ ((n : Int))), .int (iZ (sg))] (mPre D Q G (fL, fS, fN, fD, X) sz)) (va_Qv (fun u : mT => ∃ j : Nat, j ≤ n ∧ (∀ k : Nat, j ≤ k → k < n → fL (640 * a + k) = 0) ∧ (∀ i : Nat, j = i + 1 → fL (640 * a + i) ≠ 0) ∧ u = (fL, upd fS a (iZ j), upd fN a (iZ (if j = 0 then 0 else sg)), fD, X)) (mAt D Q G (mA Q sz)) (mA Q sz)) 0 0 (mA Q sz) := by
  refine m_met (cc := cX5_trim) (maxL := 5) (ret := none) (by decide) rfl rfl (Nat.le_of_ble_eq_true rfl) ?_
  intro p e s m below meth c hsz C hr hlk
  refine w_sub [(0, .ref (Q 0)), (1, .int (iZ ((a : Int)))), (2, .int (iZ ((n : Int)))), (3, .int (iZ (sg)))] [0, 1, 2, 3] rfl ?_
  have fin : ∀ (j : Nat), j ≤ n → (∀ k : Nat, j ≤ k → k < n → fL (640 * a + k) = 0) → (∀ i : Nat, j = i + 1 → fL (640 * a + i) ≠ 0) → ZW p l e ({ frames := 0, cells := 0, slots := 0, locals := 0 }) s m ([.ref (Q 0), .int (iZ ((a : Int))), .int (iZ ((n : Int))), .int (iZ (sg))] : List Value).toArray below meth c D (mA Q sz) 5 0 0 (MQ below (va_Qv (fun u : mT => ∃ j : Nat, j ≤ n ∧ (∀ k : Nat, j ≤ k → k < n → fL (640 * a + k) = 0) ∧ (∀ i : Nat, j = i + 1 → fL (640 * a + i) ≠ 0) ∧ u = (fL, upd fS a (iZ j), upd fN a (iZ (if j = 0 then 0 else sg)), fD, X)) (mAt D Q G (mA Q sz)) (mA Q sz)) ([.ref (Q 0), .int (iZ ((a : Int))), .int (iZ ((n : Int))), .int (iZ (sg))] : List Value).toArray s 0 0 (mA Q sz)) (mU Q G (fL, fS, fN, fD, X)) 32 [(4, .int (iZ ((j : Int)))), (0, .ref (Q 0)), (1, .int (iZ ((a : Int)))), (2, .int (iZ ((n : Int)))), (3, .int (iZ (sg)))] [] := by
    intro j hj hz htop
    refine w_aload_n C dX5_trim_32 1 rfl ?_
    refine w_get (ci := 5) (ref := "RootIsolatorModel") (T := TX5) (Cn := RX5) (N := 10) C (fun w h => wC_in (inX5 w h)) 0 rfl rfl 2 (by decide) (wC_in fX5_sizes) rfl rfl dX5_trim_33 ?_
    refine w_iload_n C dX5_trim_36 2 rfl ?_
    refine w_iload C dX5_trim_37 0 rfl ?_
    refine w_iast C (mU Q G (fL, (upd fS (a) (iZ ((j : Int)))), fN, fD, X)) 2 0 rfl rfl (a) ⟨by omega, by omega, by omega⟩ rfl dX5_trim_39 ?_
    refine w_aload_n C dX5_trim_40 1 rfl ?_
    refine w_get (ci := 5) (ref := "RootIsolatorModel") (T := TX5) (Cn := RX5) (N := 10) C (fun w h => wC_in (inX5 w h)) 0 rfl rfl 3 (by decide) (wC_in fX5_signs) rfl rfl dX5_trim_41 ?_
    refine w_iload_n C dX5_trim_44 2 rfl ?_
    refine w_iload C dX5_trim_45 0 rfl ?_
    refine w_if_ne C 54 dX5_trim_47 (by decide) ⟨by omega, by omega⟩ (fun cj => ?_) (fun cj => ?_)
    · refine w_iload_n C dX5_trim_54 4 rfl ?_
      refine w_iast C (mU Q G (fL, (upd fS (a) (iZ ((j : Int)))), (upd fN (a) (iZ (sg))), fD, X)) 3 0 rfl rfl (a) ⟨by omega, by omega, by omega⟩ rfl dX5_trim_55 ?_
      exact m_vret hsz C hr hlk (⟨j, hj, hz, htop, by first | rw [if_pos (by omega)] | rw [if_neg (by omega)]⟩) dX5_trim_56
    · refine w_iconst C dX5_trim_50 ?_
      refine w_goto C 55 dX5_trim_51 (by decide) ?_
      refine w_iast C (mU Q G (fL, (upd fS (a) (iZ ((j : Int)))), (upd fN (a) (iZ (0))), fD, X)) 3 0 rfl rfl (a) ⟨by omega, by omega, by omega⟩ rfl dX5_trim_55 ?_
      exact m_vret hsz C hr hlk (⟨j, hj, hz, htop, by first | rw [if_pos (by omega)] | rw [if_neg (by omega)]⟩) dX5_trim_56
  have loop : ∀ (j : Nat), j ≤ n → (∀ k : Nat, j ≤ k → k < n → fL (640 * a + k) = 0) → ZW p l e ({ frames := 0, cells := 0, slots := 0, locals := 0 }) s m ([.ref (Q 0), .int (iZ ((a : Int))), .int (iZ ((n : Int))), .int (iZ (sg))] : List Value).toArray below meth c D (mA Q sz) 5 0 0 (MQ below (va_Qv (fun u : mT => ∃ j : Nat, j ≤ n ∧ (∀ k : Nat, j ≤ k → k < n → fL (640 * a + k) = 0) ∧ (∀ i : Nat, j = i + 1 → fL (640 * a + i) ≠ 0) ∧ u = (fL, upd fS a (iZ j), upd fN a (iZ (if j = 0 then 0 else sg)), fD, X)) (mAt D Q G (mA Q sz)) (mA Q sz)) ([.ref (Q 0), .int (iZ ((a : Int))), .int (iZ ((n : Int))), .int (iZ (sg))] : List Value).toArray s 0 0 (mA Q sz)) (mU Q G (fL, fS, fN, fD, X)) 3 [(4, .int (iZ ((j : Int)))), (0, .ref (Q 0)), (1, .int (iZ ((a : Int)))), (2, .int (iZ ((n : Int)))), (3, .int (iZ (sg)))] [] := by
    intro j
    induction j with
    | zero =>
      intro hj hz
      refine w_iload C dX5_trim_3 0 rfl ?_
      refine w_if_le C 32 dX5_trim_5 (by decide) ⟨by omega, by omega⟩ (fun c0 => ?_) (fun c0 => absurd c0 (by omega))
      exact fin 0 hj hz (fun i h => absurd h (by omega))
    | succ i ih =>
      intro hj hz
      have ei : ((i + 1 : Nat) : Int) = (i : Int) + 1 := by omega
      refine w_iload C dX5_trim_3 0 rfl ?_
      refine w_if_le C 32 dX5_trim_5 (by decide) ⟨by omega, by omega⟩ (fun c1 => ?_) (fun c1 => ?_)
      · exact absurd c1 (by omega)
      · refine w_aload_n C dX5_trim_8 1 rfl ?_
        refine w_get (ci := 5) (ref := "RootIsolatorModel") (T := TX5) (Cn := RX5) (N := 10) C (fun w h => wC_in (inX5 w h)) 0 rfl rfl 1 (by decide) (wC_in fX5_limbs) rfl rfl dX5_trim_9 ?_
        refine w_sipush C dX5_trim_12 (by decide) ?_
        refine w_iload_n C dX5_trim_15 2 rfl ?_
        refine w_imul C dX5_trim_16 ?_
        refine w_iload C dX5_trim_17 0 rfl ?_
        refine w_iadd C dX5_trim_19 ?_
        refine w_iconst C dX5_trim_20 ?_
        refine w_isub C dX5_trim_21 ?_
        refine w_iald C 1 0 rfl rfl (640 * a + i) ((fL (640 * a + i)).toInt) ⟨by omega, by omega, by omega⟩ ((iZ_self _).symm) dX5_trim_22 ?_
        refine w_if_ne C 32 dX5_trim_23 (by decide) (i32r _) (fun ct => ?_) (fun ct => ?_)
        · exact fin (i + 1) hj hz (fun k h => by
            have : k = i := by omega
            subst this
            intro q; rw [q] at ct; exact ct rfl)
        · refine w_iinc C ((i : Int)) (by omega) [(4, .int (iZ ((i : Int)))), (0, .ref (Q 0)), (1, .int (iZ ((a : Int)))), (2, .int (iZ ((n : Int)))), (3, .int (iZ (sg)))] dX5_trim_26 0 rfl (by decide) rfl ?_
          refine w_goto C 3 dX5_trim_29 (by decide) ?_
          exact ih (by omega) (fun k h1 h2 => by
            rcases Nat.lt_or_ge i k with q | q
            · exact hz k (by omega) h2
            · have : k = i := by omega
              subst this
              rw [← iZ_self (fL (640 * a + k)), ct]; rfl)
  refine w_iload_n C dX5_trim_0 2 rfl ?_
  refine w_istore C [(4, .int (iZ ((n : Int)))), (0, .ref (Q 0)), (1, .int (iZ ((a : Int)))), (2, .int (iZ ((n : Int)))), (3, .int (iZ (sg)))] dX5_trim_1 (by decide) rfl ?_
  exact loop n (by omega) (fun k h1 h2 => absurd h1 (by omega))
