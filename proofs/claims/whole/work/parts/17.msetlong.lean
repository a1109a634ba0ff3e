set_option maxHeartbeats 4000000 in
set_option maxRecDepth 100000 in
/-- at: the place of a coefficient -/
theorem cm_at (l : Launch) (D : va_G) (Q : Nat → Nat) (G : Nat → ClassId) (fL fS fN fD : Nat → Int32) (X : mX) (r k : Nat)  (sz : Nat) : Met l yX5_at (wC yX5_at cX5_at 2 (some .int)) ({ frames := 0, cells := 0, slots := 0, locals := 0 }) (va_Pc [.int (iZ ((r : Int))), .int (iZ ((k : Int)))] (mPre D Q G (fL, fS, fN, fD, X) sz)) (va_Qi (fun (q : Int32) (u : mT) => q = iZ ((9 * r + k : Nat) : Int) ∧ u = (fL, fS, fN, fD, X)) (mAt D Q G (mA Q sz)) (mA Q sz)) 0 0 (mA Q sz) := by
  refine m_met (cc := cX5_at) (maxL := 2) (ret := (some .int)) (by decide) rfl rfl (Nat.le_of_ble_eq_true rfl) ?_
  intro p e s m below meth c hsz C hr hlk
  refine w_sub [(0, .int (iZ ((r : Int)))), (1, .int (iZ ((k : Int))))] [0, 1] rfl ?_
  refine w_bipush C dX5_at_0 (by decide) ?_
  refine w_iload_n C dX5_at_2 0 rfl ?_
  refine w_imul C dX5_at_3 ?_
  refine w_iload_n C dX5_at_4 1 rfl ?_
  refine w_iadd C dX5_at_5 ?_
  exact m_iret hsz C hr hlk (⟨congrArg iZ (by omega), rfl⟩) dX5_at_6
set_option maxHeartbeats 4000000 in
set_option maxRecDepth 100000 in
/-- setLong: a number becomes a long -/
theorem cm_setLong (l : Launch) (D : va_G) (Q : Nat → Nat) (G : Nat → ClassId) (fL fS fN fD : Nat → Int32) (X : mX) (a : Nat) (z : Int) (ha : a < 141) (hz1 : -9223372036854775808 ≤ z) (hz2 : z < 9223372036854775808) (sz : Nat) : Met l yX5_setLong (wC yX5_setLong cX5_setLong 12 none) ({ frames := 0, cells := 0, slots := 0, locals := 0 }) (va_Pc [.ref (Q 0), .int (iZ ((a : Int))), .long (lZ (z))] (mPre D Q G (fL, fS, fN, fD, X) sz)) (va_Qv (fun u : mT => mSet fL fS fN fD X a z u) (mAt D Q G (mA Q sz)) (mA Q sz)) 0 0 (mA Q sz) := by
  refine m_met (cc := cX5_setLong) (maxL := 12) (ret := none) (by decide) rfl rfl (Nat.le_of_ble_eq_true rfl) ?_
  intro p e s m below meth c hsz C hr hlk
  refine w_sub [(0, .ref (Q 0)), (1, .int (iZ ((a : Int)))), (2, .long (lZ (z)))] [0, 1, 2] rfl ?_
  have hcz := sgn_cases z
  have hp62 : (2 : Int) ^ (31 * 2) = 4611686018427387904 := by decide
  have hp31 : (2 : Int) ^ (31 * 1) = 2147483648 := by decide
  have hp0 : (2 : Int) ^ (31 * 0) = 1 := by decide
  have fin : ∀ (gL : Nat → Int32) (j : Nat), (∀ j : Nat, (j < 640 * a ∨ 640 * a + 3 ≤ j) → gL j = fL j) → limb gL (640 * a) 3 → zv gL (640 * a) 3 = (z.natAbs : Int) → j ≤ 3 → (∀ k : Nat, j ≤ k → k < 3 → gL (640 * a + k) = 0) → (∀ i : Nat, j = i + 1 → gL (640 * a + i) ≠ 0) → ZW p l e ({ frames := 0, cells := 0, slots := 0, locals := 0 }) s m ([.ref (Q 0), .int (iZ ((a : Int))), .long (lZ (z))] : List Value).toArray below meth c D (mA Q sz) 12 0 0 (MQ below (va_Qv (fun u : mT => mSet fL fS fN fD X a z u) (mAt D Q G (mA Q sz)) (mA Q sz)) ([.ref (Q 0), .int (iZ ((a : Int))), .long (lZ (z))] : List Value).toArray s 0 0 (mA Q sz)) (mU Q G (gL, fS, (upd fN a (iZ z.sign)), fD, X)) 187 [(6, .int (iZ ((j : Int)))), (0, .ref (Q 0)), (1, .int (iZ ((a : Int)))), (2, .long (lZ (z)))] [] := by
    intro gL j hout hl hv hj hzz htop
    have hq := trim_num (gS := upd fS a (iZ (j : Int))) (gN := upd fN a (iZ (if j = 0 then 0 else z.sign))) (t := a) (sg := z.sign) (by omega) hl hj hzz htop upd_eq upd_eq (by
      rcases hcz with ⟨h1, h2⟩ | ⟨h1, h2⟩ | ⟨h1, h2⟩
      · exact Or.inl h2
      · exact Or.inr (Or.inr ⟨h2, by rw [hv]; omega⟩)
      · exact Or.inr (Or.inl h2))
    rw [hv, Int.sign_mul_natAbs] at hq
    have hsg : (if j = 0 then 0 else z.sign) = z.sign := by
      by_cases q : j = 0
      · subst q
        have h0 := zv_zero (Nat.zero_le 3) hzz
        simp only [zv] at h0 hv
        rw [if_pos rfl, show z = 0 by omega]; rfl
      · rw [if_neg q]
    rw [hsg] at hq
    refine w_aload_n C dX5_setLong_187 1 rfl ?_
    refine w_get (ci := 5) (ref := "RootIsolatorModel") (T := TX5) (Cn := RX5) (N := 10) C (fun w h => wC_in (inX5 w h)) 0 rfl rfl 2 (by decide) (wC_in fX5_sizes) rfl rfl dX5_setLong_188 ?_
    refine w_iload_n C dX5_setLong_191 2 rfl ?_
    refine w_iload C dX5_setLong_192 0 rfl ?_
    refine w_iast C (mU Q G (gL, (upd fS (a) (iZ ((j : Int)))), (upd fN a (iZ z.sign)), fD, X)) 2 0 rfl rfl (a) ⟨by omega, by omega, by omega⟩ rfl dX5_setLong_194 ?_
    exact m_vret hsz C hr hlk (⟨_, _, _, rfl, ⟨fun c i hc hi2 => hout _ (by omega), fun c hc => upd_ne hc, fun c hc => upd_ne hc⟩, hq⟩) dX5_setLong_195
  have loop : ∀ (gL : Nat → Int32) (j : Nat), (∀ j : Nat, (j < 640 * a ∨ 640 * a + 3 ≤ j) → gL j = fL j) → limb gL (640 * a) 3 → zv gL (640 * a) 3 = (z.natAbs : Int) → j ≤ 3 → (∀ k : Nat, j ≤ k → k < 3 → gL (640 * a + k) = 0) → ZW p l e ({ frames := 0, cells := 0, slots := 0, locals := 0 }) s m ([.ref (Q 0), .int (iZ ((a : Int))), .long (lZ (z))] : List Value).toArray below meth c D (mA Q sz) 12 0 0 (MQ below (va_Qv (fun u : mT => mSet fL fS fN fD X a z u) (mAt D Q G (mA Q sz)) (mA Q sz)) ([.ref (Q 0), .int (iZ ((a : Int))), .long (lZ (z))] : List Value).toArray s 0 0 (mA Q sz)) (mU Q G (gL, fS, (upd fN a (iZ z.sign)), fD, X)) 158 [(6, .int (iZ ((j : Int)))), (0, .ref (Q 0)), (1, .int (iZ ((a : Int)))), (2, .long (lZ (z)))] [] := by
    intro gL j hout hl hv
    induction j with
    | zero =>
      intro hj hzz
      refine w_iload C dX5_setLong_158 0 rfl ?_
      refine w_if_le C 187 dX5_setLong_160 (by decide) ⟨by omega, by omega⟩ (fun c0 => ?_) (fun c0 => absurd c0 (by omega))
      exact fin gL 0 hout hl hv hj hzz (fun i h => absurd h (by omega))
    | succ i ih =>
      intro hj hzz
      refine w_iload C dX5_setLong_158 0 rfl ?_
      refine w_if_le C 187 dX5_setLong_160 (by decide) ⟨by omega, by omega⟩ (fun c1 => ?_) (fun c1 => ?_)
      · exact absurd c1 (by omega)
      · refine w_aload_n C dX5_setLong_163 1 rfl ?_
        refine w_get (ci := 5) (ref := "RootIsolatorModel") (T := TX5) (Cn := RX5) (N := 10) C (fun w h => wC_in (inX5 w h)) 0 rfl rfl 1 (by decide) (wC_in fX5_limbs) rfl rfl dX5_setLong_164 ?_
        refine w_sipush C dX5_setLong_167 (by decide) ?_
        refine w_iload_n C dX5_setLong_170 2 rfl ?_
        refine w_imul C dX5_setLong_171 ?_
        refine w_iload C dX5_setLong_172 0 rfl ?_
        refine w_iadd C dX5_setLong_174 ?_
        refine w_iconst C dX5_setLong_175 ?_
        refine w_isub C dX5_setLong_176 ?_
        refine w_iald C 1 0 rfl rfl (640 * a + i) ((gL (640 * a + i)).toInt) ⟨by omega, by omega, by omega⟩ ((iZ_self _).symm) dX5_setLong_177 ?_
        refine w_if_ne C 187 dX5_setLong_178 (by decide) (i32r _) (fun ct => ?_) (fun ct => ?_)
        · exact fin gL (i + 1) hout hl hv hj hzz (fun k h => by
            have : k = i := by omega
            subst this
            intro q; rw [q] at ct; exact ct rfl)
        · refine w_iinc C ((i : Int)) (by omega) [(6, .int (iZ ((i : Int)))), (0, .ref (Q 0)), (1, .int (iZ ((a : Int)))), (2, .long (lZ (z)))] dX5_setLong_181 0 rfl (by decide) rfl ?_
          refine w_goto C 158 dX5_setLong_184 (by decide) ?_
          exact ih (by omega) (fun k h1 h2 => by
            rcases Nat.lt_or_ge i k with q | q
            · exact hzz k (by omega) h2
            · have : k = i := by omega
              subst this
              rw [← iZ_self (gL (640 * a + k)), ct]; rfl)
  refine w_lload_n C dX5_setLong_0 2 rfl ?_
  refine w_lstore C [(4, .long (lZ (z))), (0, .ref (Q 0)), (1, .int (iZ ((a : Int)))), (2, .long (lZ (z)))] dX5_setLong_1 (by decide) rfl ?_
  refine w_aload_n C dX5_setLong_3 1 rfl ?_
  refine w_get (ci := 5) (ref := "RootIsolatorModel") (T := TX5) (Cn := RX5) (N := 10) C (fun w h => wC_in (inX5 w h)) 0 rfl rfl 3 (by decide) (wC_in fX5_signs) rfl rfl dX5_setLong_4 ?_
  refine w_iload_n C dX5_setLong_7 2 rfl ?_
  refine w_lload_n C dX5_setLong_8 3 rfl ?_
  refine w_lconst C 0 dX5_setLong_9 rfl ?_
  have J2 : ZW p l e ({ frames := 0, cells := 0, slots := 0, locals := 0 }) s m ([.ref (Q 0), .int (iZ ((a : Int))), .long (lZ (z))] : List Value).toArray below meth c D (mA Q sz) 12 0 0 (MQ below (va_Qv (fun u : mT => mSet fL fS fN fD X a z u) (mAt D Q G (mA Q sz)) (mA Q sz)) ([.ref (Q 0), .int (iZ ((a : Int))), .long (lZ (z))] : List Value).toArray s 0 0 (mA Q sz)) (mU Q G (fL, fS, fN, fD, X)) 29 [(4, .long (lZ (z))), (0, .ref (Q 0)), (1, .int (iZ ((a : Int)))), (2, .long (lZ (z)))] [.int (iZ (z.sign)), .int (iZ ((a : Int))), .ref (Q 3)] := by
    refine w_iast C (mU Q G (fL, fS, (upd fN (a) (iZ (z.sign))), fD, X)) 3 0 rfl rfl (a) ⟨by omega, by omega, by omega⟩ rfl dX5_setLong_29 ?_
    refine w_iconst C dX5_setLong_30 ?_
    refine w_istore C [(6, .int (iZ (0))), (4, .long (lZ (z))), (0, .ref (Q 0)), (1, .int (iZ ((a : Int)))), (2, .long (lZ (z)))] dX5_setLong_31 (by decide) rfl ?_
    refine w_iconst C dX5_setLong_33 ?_
    refine w_istore C [(7, .int (iZ (0))), (6, .int (iZ (0))), (4, .long (lZ (z))), (0, .ref (Q 0)), (1, .int (iZ ((a : Int)))), (2, .long (lZ (z)))] dX5_setLong_34 (by decide) rfl ?_
    refine w_iload C dX5_setLong_36 0 rfl ?_
    refine w_iconst C dX5_setLong_38 ?_
    refine w_icmp_ge C 79 dX5_setLong_39 (by decide) ⟨⟨by omega, by omega⟩, by omega, by omega⟩ (fun c3 => ?_) (fun c3 => ?_)
    · exact absurd c3 (by omega)
    · refine w_lload C dX5_setLong_42 2 rfl ?_
      refine w_ldc2 C (2147483647) dX5_setLong_44 (wC_in kclX5_43) ?_
      refine w_and31 C dX5_setLong_47 ?_
      refine w_lstore C [(8, .long (lZ ((z) % 2147483648))), (7, .int (iZ (0))), (6, .int (iZ (0))), (4, .long (lZ (z))), (0, .ref (Q 0)), (1, .int (iZ ((a : Int)))), (2, .long (lZ (z)))] dX5_setLong_48 (by decide) rfl ?_
      refine w_aload_n C dX5_setLong_50 4 rfl ?_
      refine w_get (ci := 5) (ref := "RootIsolatorModel") (T := TX5) (Cn := RX5) (N := 10) C (fun w h => wC_in (inX5 w h)) 0 rfl rfl 1 (by decide) (wC_in fX5_limbs) rfl rfl dX5_setLong_51 ?_
      refine w_sipush C dX5_setLong_54 (by decide) ?_
      refine w_iload_n C dX5_setLong_57 5 rfl ?_
      refine w_imul C dX5_setLong_58 ?_
      refine w_iload C dX5_setLong_59 1 rfl ?_
      refine w_iadd C dX5_setLong_61 ?_
      refine w_lload C dX5_setLong_62 0 rfl ?_
      refine w_l2i C dX5_setLong_64 ?_
      refine w_iast C (mU Q G ((upd fL (640 * a + 0) (iZ ((z) % 2147483648))), fS, (upd fN (a) (iZ (z.sign))), fD, X)) 1 0 rfl rfl (640 * a + 0) ⟨by omega, by omega, by omega⟩ rfl dX5_setLong_65 ?_
      refine w_lload C dX5_setLong_66 3 rfl ?_
      refine w_bipush C dX5_setLong_68 (by decide) ?_
      refine w_lshr C (31) dX5_setLong_70 ⟨by omega, by omega⟩ ⟨by omega, by omega⟩ ?_
      refine w_topl C (z / 2147483648) (rfl) ?_
      refine w_lstore C [(4, .long (lZ (z / 2147483648))), (8, .long (lZ ((z) % 2147483648))), (7, .int (iZ (0))), (6, .int (iZ (0))), (0, .ref (Q 0)), (1, .int (iZ ((a : Int)))), (2, .long (lZ (z)))] dX5_setLong_71 (by decide) rfl ?_
      refine w_iinc C (1) (by omega) [(7, .int (iZ (1))), (4, .long (lZ (z / 2147483648))), (8, .long (lZ ((z) % 2147483648))), (6, .int (iZ (0))), (0, .ref (Q 0)), (1, .int (iZ ((a : Int)))), (2, .long (lZ (z)))] dX5_setLong_73 2 rfl (by decide) rfl ?_
      refine w_goto C 36 dX5_setLong_76 (by decide) ?_
      refine w_iload C dX5_setLong_36 0 rfl ?_
      refine w_iconst C dX5_setLong_38 ?_
      refine w_icmp_ge C 79 dX5_setLong_39 (by decide) ⟨⟨by omega, by omega⟩, by omega, by omega⟩ (fun c4 => ?_) (fun c4 => ?_)
      · exact absurd c4 (by omega)
      · refine w_lload C dX5_setLong_42 1 rfl ?_
        refine w_ldc2 C (2147483647) dX5_setLong_44 (wC_in kclX5_43) ?_
        refine w_and31 C dX5_setLong_47 ?_
        refine w_lstore C [(8, .long (lZ ((z / 2147483648) % 2147483648))), (7, .int (iZ (1))), (4, .long (lZ (z / 2147483648))), (6, .int (iZ (0))), (0, .ref (Q 0)), (1, .int (iZ ((a : Int)))), (2, .long (lZ (z)))] dX5_setLong_48 (by decide) rfl ?_
        refine w_aload_n C dX5_setLong_50 4 rfl ?_
        refine w_get (ci := 5) (ref := "RootIsolatorModel") (T := TX5) (Cn := RX5) (N := 10) C (fun w h => wC_in (inX5 w h)) 0 rfl rfl 1 (by decide) (wC_in fX5_limbs) rfl rfl dX5_setLong_51 ?_
        refine w_sipush C dX5_setLong_54 (by decide) ?_
        refine w_iload_n C dX5_setLong_57 5 rfl ?_
        refine w_imul C dX5_setLong_58 ?_
        refine w_iload C dX5_setLong_59 1 rfl ?_
        refine w_iadd C dX5_setLong_61 ?_
        refine w_lload C dX5_setLong_62 0 rfl ?_
        refine w_l2i C dX5_setLong_64 ?_
        refine w_iast C (mU Q G ((upd (upd fL (640 * a + 0) (iZ ((z) % 2147483648))) (640 * a + 1) (iZ ((z / 2147483648) % 2147483648))), fS, (upd fN (a) (iZ (z.sign))), fD, X)) 1 0 rfl rfl (640 * a + 1) ⟨by omega, by omega, by omega⟩ rfl dX5_setLong_65 ?_
        refine w_lload C dX5_setLong_66 2 rfl ?_
        refine w_bipush C dX5_setLong_68 (by decide) ?_
        refine w_lshr C (31) dX5_setLong_70 ⟨by omega, by omega⟩ ⟨by omega, by omega⟩ ?_
        refine w_topl C (z / 2147483648 / 2147483648) (rfl) ?_
        refine w_lstore C [(4, .long (lZ (z / 2147483648 / 2147483648))), (8, .long (lZ ((z / 2147483648) % 2147483648))), (7, .int (iZ (1))), (6, .int (iZ (0))), (0, .ref (Q 0)), (1, .int (iZ ((a : Int)))), (2, .long (lZ (z)))] dX5_setLong_71 (by decide) rfl ?_
        refine w_iinc C (2) (by omega) [(7, .int (iZ (2))), (4, .long (lZ (z / 2147483648 / 2147483648))), (8, .long (lZ ((z / 2147483648) % 2147483648))), (6, .int (iZ (0))), (0, .ref (Q 0)), (1, .int (iZ ((a : Int)))), (2, .long (lZ (z)))] dX5_setLong_73 2 rfl (by decide) rfl ?_
        refine w_goto C 36 dX5_setLong_76 (by decide) ?_
        refine w_iload C dX5_setLong_36 0 rfl ?_
        refine w_iconst C dX5_setLong_38 ?_
        refine w_icmp_ge C 79 dX5_setLong_39 (by decide) ⟨⟨by omega, by omega⟩, by omega, by omega⟩ (fun c5 => ?_) (fun c5 => ?_)
        · exact absurd c5 (by omega)
        · refine w_lload C dX5_setLong_42 1 rfl ?_
          refine w_ldc2 C (2147483647) dX5_setLong_44 (wC_in kclX5_43) ?_
          refine w_and31 C dX5_setLong_47 ?_
          refine w_lstore C [(8, .long (lZ ((z / 2147483648 / 2147483648) % 2147483648))), (7, .int (iZ (2))), (4, .long (lZ (z / 2147483648 / 2147483648))), (6, .int (iZ (0))), (0, .ref (Q 0)), (1, .int (iZ ((a : Int)))), (2, .long (lZ (z)))] dX5_setLong_48 (by decide) rfl ?_
          refine w_aload_n C dX5_setLong_50 4 rfl ?_
          refine w_get (ci := 5) (ref := "RootIsolatorModel") (T := TX5) (Cn := RX5) (N := 10) C (fun w h => wC_in (inX5 w h)) 0 rfl rfl 1 (by decide) (wC_in fX5_limbs) rfl rfl dX5_setLong_51 ?_
          refine w_sipush C dX5_setLong_54 (by decide) ?_
          refine w_iload_n C dX5_setLong_57 5 rfl ?_
          refine w_imul C dX5_setLong_58 ?_
          refine w_iload C dX5_setLong_59 1 rfl ?_
          refine w_iadd C dX5_setLong_61 ?_
          refine w_lload C dX5_setLong_62 0 rfl ?_
          refine w_l2i C dX5_setLong_64 ?_
          refine w_iast C (mU Q G ((upd (upd (upd fL (640 * a + 0) (iZ ((z) % 2147483648))) (640 * a + 1) (iZ ((z / 2147483648) % 2147483648))) (640 * a + 2) (iZ ((z / 2147483648 / 2147483648) % 2147483648))), fS, (upd fN (a) (iZ (z.sign))), fD, X)) 1 0 rfl rfl (640 * a + 2) ⟨by omega, by omega, by omega⟩ rfl dX5_setLong_65 ?_
          refine w_lload C dX5_setLong_66 2 rfl ?_
          refine w_bipush C dX5_setLong_68 (by decide) ?_
          refine w_lshr C (31) dX5_setLong_70 ⟨by omega, by omega⟩ ⟨by omega, by omega⟩ ?_
          refine w_topl C (z / 2147483648 / 2147483648 / 2147483648) (rfl) ?_
          refine w_lstore C [(4, .long (lZ (z / 2147483648 / 2147483648 / 2147483648))), (8, .long (lZ ((z / 2147483648 / 2147483648) % 2147483648))), (7, .int (iZ (2))), (6, .int (iZ (0))), (0, .ref (Q 0)), (1, .int (iZ ((a : Int)))), (2, .long (lZ (z)))] dX5_setLong_71 (by decide) rfl ?_
          refine w_iinc C (3) (by omega) [(7, .int (iZ (3))), (4, .long (lZ (z / 2147483648 / 2147483648 / 2147483648))), (8, .long (lZ ((z / 2147483648 / 2147483648) % 2147483648))), (6, .int (iZ (0))), (0, .ref (Q 0)), (1, .int (iZ ((a : Int)))), (2, .long (lZ (z)))] dX5_setLong_73 2 rfl (by decide) rfl ?_
          refine w_goto C 36 dX5_setLong_76 (by decide) ?_
          refine w_iload C dX5_setLong_36 0 rfl ?_
          refine w_iconst C dX5_setLong_38 ?_
          refine w_icmp_ge C 79 dX5_setLong_39 (by decide) ⟨⟨by omega, by omega⟩, by omega, by omega⟩ (fun c6 => ?_) (fun c6 => ?_)
          · refine w_lload_n C dX5_setLong_79 6 rfl ?_
            refine w_lconst C 0 dX5_setLong_80 rfl ?_
            refine w_lif_ge C 155 dX5_setLong_81 dX5_setLong_82 (by decide) ⟨⟨by omega, by omega⟩, by omega, by omega⟩ (fun c81 => ?_) (fun c81 => ?_)
            · refine w_iconst C dX5_setLong_155 ?_
              refine w_istore C [(6, .int (iZ (3))), (7, .int (iZ (3))), (4, .long (lZ (z / 2147483648 / 2147483648 / 2147483648))), (8, .long (lZ ((z / 2147483648 / 2147483648) % 2147483648))), (0, .ref (Q 0)), (1, .int (iZ ((a : Int)))), (2, .long (lZ (z)))] dX5_setLong_156 (by decide) rfl ?_
              refine w_sub [(6, .int (iZ (3))), (0, .ref (Q 0)), (1, .int (iZ ((a : Int)))), (2, .long (lZ (z)))] [0, 4, 5, 6] rfl ?_
              have hL0 : (upd (upd (upd fL (640 * a + 0) (iZ ((z) % 2147483648))) (640 * a + 1) (iZ ((z / 2147483648) % 2147483648))) (640 * a + 2) (iZ ((z / 2147483648 / 2147483648) % 2147483648))) (640 * a + 0) = iZ (z % 2147483648) := by rw [upd_ne (by omega), upd_ne (by omega), upd_eq]
              have hL1 : (upd (upd (upd fL (640 * a + 0) (iZ ((z) % 2147483648))) (640 * a + 1) (iZ ((z / 2147483648) % 2147483648))) (640 * a + 2) (iZ ((z / 2147483648 / 2147483648) % 2147483648))) (640 * a + 1) = iZ (z / 2147483648 % 2147483648) := by rw [upd_ne (by omega), upd_eq]
              have hL2 : (upd (upd (upd fL (640 * a + 0) (iZ ((z) % 2147483648))) (640 * a + 1) (iZ ((z / 2147483648) % 2147483648))) (640 * a + 2) (iZ ((z / 2147483648 / 2147483648) % 2147483648))) (640 * a + 2) = iZ (z / 2147483648 / 2147483648 % 2147483648) := by rw [upd_eq]
              refine loop _ 3 (fun j hj => by rw [upd_ne (by omega), upd_ne (by omega), upd_ne (by omega)]) (fun j hj => ?_) ?_ (by omega) (fun k h1 h2 => absurd h1 (by omega))
              · rcases (show j = 0 ∨ j = 1 ∨ j = 2 by omega) with rfl | rfl | rfl
                · rw [hL0, iZ_toInt (by omega) (by omega)]; omega
                · rw [hL1, iZ_toInt (by omega) (by omega)]; omega
                · rw [hL2, iZ_toInt (by omega) (by omega)]; omega
              · simp only [zv]
                rw [hL0, hL1, hL2, iZ_toInt (by omega) (by omega), iZ_toInt (by omega) (by omega), iZ_toInt (by omega) (by omega), hp62, hp31, hp0]
                omega
            · refine w_lconst C 1 dX5_setLong_85 rfl ?_
              refine w_lstore C [(7, .long (lZ (1))), (4, .long (lZ (z / 2147483648 / 2147483648 / 2147483648))), (6, .int (iZ (0))), (0, .ref (Q 0)), (1, .int (iZ ((a : Int)))), (2, .long (lZ (z)))] dX5_setLong_86 (by decide) rfl ?_
              refine w_iconst C dX5_setLong_88 ?_
              refine w_istore C [(9, .int (iZ (0))), (7, .long (lZ (1))), (4, .long (lZ (z / 2147483648 / 2147483648 / 2147483648))), (6, .int (iZ (0))), (0, .ref (Q 0)), (1, .int (iZ ((a : Int)))), (2, .long (lZ (z)))] dX5_setLong_89 (by decide) rfl ?_
              refine w_iload C dX5_setLong_91 0 rfl ?_
              refine w_iconst C dX5_setLong_93 ?_
              refine w_icmp_ge C 155 dX5_setLong_94 (by decide) ⟨⟨by omega, by omega⟩, by omega, by omega⟩ (fun c7 => ?_) (fun c7 => ?_)
              · exact absurd c7 (by omega)
              · refine w_aload_n C dX5_setLong_97 4 rfl ?_
                refine w_get (ci := 5) (ref := "RootIsolatorModel") (T := TX5) (Cn := RX5) (N := 10) C (fun w h => wC_in (inX5 w h)) 0 rfl rfl 1 (by decide) (wC_in fX5_limbs) rfl rfl dX5_setLong_98 ?_
                refine w_sipush C dX5_setLong_101 (by decide) ?_
                refine w_iload_n C dX5_setLong_104 5 rfl ?_
                refine w_imul C dX5_setLong_105 ?_
                refine w_iload C dX5_setLong_106 0 rfl ?_
                refine w_iadd C dX5_setLong_108 ?_
                obtain ⟨d0, hd0⟩ : ∃ d : Int, d = z % 2147483648 := ⟨_, rfl⟩
                obtain ⟨d1, hd1⟩ : ∃ d : Int, d = z / 2147483648 % 2147483648 := ⟨_, rfl⟩
                obtain ⟨d2, hd2⟩ : ∃ d : Int, d = z / 2147483648 / 2147483648 % 2147483648 := ⟨_, rfl⟩
                have hdr : 0 ≤ d0 ∧ d0 < 2147483648 ∧ 0 ≤ d1 ∧ d1 < 2147483648 ∧ 0 ≤ d2 ∧ d2 < 2147483648 := by omega
                refine w_iald C 1 0 rfl rfl (640 * a + 0) (d0) ⟨by omega, by omega, by omega⟩ (by show (upd (upd (upd fL (640 * a + 0) (iZ ((z) % 2147483648))) (640 * a + 1) (iZ ((z / 2147483648) % 2147483648))) (640 * a + 2) (iZ ((z / 2147483648 / 2147483648) % 2147483648))) _ = _; rw [upd_ne (by omega), upd_ne (by omega), upd_eq, hd0]) dX5_setLong_109 ?_
                refine w_iconst C dX5_setLong_110 ?_
                refine w_ixor C dX5_setLong_111 (v := (iZ (-1 - d0))) (iZ_not d0) ?_
                refine w_i2l C dX5_setLong_112 ⟨by omega, by omega⟩ ?_
                refine w_ldc2 C (2147483647) dX5_setLong_113 (wC_in kclX5_43) ?_
                refine w_and31 C dX5_setLong_116 ?_
                refine w_lload C dX5_setLong_117 1 rfl ?_
                obtain ⟨x0, hx0⟩ : ∃ x : Int, x = (-1 - d0) % 2147483648 + 1 := ⟨_, rfl⟩
                have hxr0 : 0 ≤ x0 ∧ x0 < 4294967296 := by omega
                refine w_ladd C dX5_setLong_119 ?_
                refine w_topl C (x0) (hx0.symm) ?_
                refine w_lstore C [(10, .long (lZ (x0))), (9, .int (iZ (0))), (7, .long (lZ (1))), (4, .long (lZ (z / 2147483648 / 2147483648 / 2147483648))), (6, .int (iZ (0))), (0, .ref (Q 0)), (1, .int (iZ ((a : Int)))), (2, .long (lZ (z)))] dX5_setLong_120 (by decide) rfl ?_
                refine w_aload_n C dX5_setLong_122 5 rfl ?_
                refine w_get (ci := 5) (ref := "RootIsolatorModel") (T := TX5) (Cn := RX5) (N := 10) C (fun w h => wC_in (inX5 w h)) 0 rfl rfl 1 (by decide) (wC_in fX5_limbs) rfl rfl dX5_setLong_123 ?_
                refine w_sipush C dX5_setLong_126 (by decide) ?_
                refine w_iload_n C dX5_setLong_129 6 rfl ?_
                refine w_imul C dX5_setLong_130 ?_
                refine w_iload C dX5_setLong_131 1 rfl ?_
                refine w_iadd C dX5_setLong_133 ?_
                refine w_lload C dX5_setLong_134 0 rfl ?_
                refine w_ldc2 C (2147483647) dX5_setLong_136 (wC_in kclX5_43) ?_
                refine w_and31 C dX5_setLong_139 ?_
                refine w_l2i C dX5_setLong_140 ?_
                refine w_iast C (mU Q G ((upd (upd (upd (upd fL (640 * a + 0) (iZ ((z) % 2147483648))) (640 * a + 1) (iZ ((z / 2147483648) % 2147483648))) (640 * a + 2) (iZ ((z / 2147483648 / 2147483648) % 2147483648))) (640 * a + 0) (iZ ((x0) % 2147483648))), fS, (upd fN (a) (iZ (z.sign))), fD, X)) 1 0 rfl rfl (640 * a + 0) ⟨by omega, by omega, by omega⟩ rfl dX5_setLong_141 ?_
                refine w_lload C dX5_setLong_142 0 rfl ?_
                refine w_bipush C dX5_setLong_144 (by decide) ?_
                refine w_lshr C (31) dX5_setLong_146 ⟨by omega, by omega⟩ ⟨by omega, by omega⟩ ?_
                refine w_topl C (x0 / 2147483648) (rfl) ?_
                refine w_lstore C [(7, .long (lZ (x0 / 2147483648))), (10, .long (lZ (x0))), (9, .int (iZ (0))), (4, .long (lZ (z / 2147483648 / 2147483648 / 2147483648))), (6, .int (iZ (0))), (0, .ref (Q 0)), (1, .int (iZ ((a : Int)))), (2, .long (lZ (z)))] dX5_setLong_147 (by decide) rfl ?_
                refine w_iinc C (1) (by omega) [(9, .int (iZ (1))), (7, .long (lZ (x0 / 2147483648))), (10, .long (lZ (x0))), (4, .long (lZ (z / 2147483648 / 2147483648 / 2147483648))), (6, .int (iZ (0))), (0, .ref (Q 0)), (1, .int (iZ ((a : Int)))), (2, .long (lZ (z)))] dX5_setLong_149 2 rfl (by decide) rfl ?_
                refine w_goto C 91 dX5_setLong_152 (by decide) ?_
                refine w_iload C dX5_setLong_91 0 rfl ?_
                refine w_iconst C dX5_setLong_93 ?_
                refine w_icmp_ge C 155 dX5_setLong_94 (by decide) ⟨⟨by omega, by omega⟩, by omega, by omega⟩ (fun c8 => ?_) (fun c8 => ?_)
                · exact absurd c8 (by omega)
                · refine w_aload_n C dX5_setLong_97 5 rfl ?_
                  refine w_get (ci := 5) (ref := "RootIsolatorModel") (T := TX5) (Cn := RX5) (N := 10) C (fun w h => wC_in (inX5 w h)) 0 rfl rfl 1 (by decide) (wC_in fX5_limbs) rfl rfl dX5_setLong_98 ?_
                  refine w_sipush C dX5_setLong_101 (by decide) ?_
                  refine w_iload_n C dX5_setLong_104 6 rfl ?_
                  refine w_imul C dX5_setLong_105 ?_
                  refine w_iload C dX5_setLong_106 0 rfl ?_
                  refine w_iadd C dX5_setLong_108 ?_
                  refine w_iald C 1 0 rfl rfl (640 * a + 1) (d1) ⟨by omega, by omega, by omega⟩ (by show (upd (upd (upd (upd fL (640 * a + 0) (iZ ((z) % 2147483648))) (640 * a + 1) (iZ ((z / 2147483648) % 2147483648))) (640 * a + 2) (iZ ((z / 2147483648 / 2147483648) % 2147483648))) (640 * a + 0) (iZ ((x0) % 2147483648))) _ = _; rw [upd_ne (by omega), upd_ne (by omega), upd_eq, hd1]) dX5_setLong_109 ?_
                  refine w_iconst C dX5_setLong_110 ?_
                  refine w_ixor C dX5_setLong_111 (v := (iZ (-1 - d1))) (iZ_not d1) ?_
                  refine w_i2l C dX5_setLong_112 ⟨by omega, by omega⟩ ?_
                  refine w_ldc2 C (2147483647) dX5_setLong_113 (wC_in kclX5_43) ?_
                  refine w_and31 C dX5_setLong_116 ?_
                  refine w_lload C dX5_setLong_117 1 rfl ?_
                  obtain ⟨x1, hx1⟩ : ∃ x : Int, x = (-1 - d1) % 2147483648 + x0 / 2147483648 := ⟨_, rfl⟩
                  have hxr1 : 0 ≤ x1 ∧ x1 < 4294967296 := by omega
                  refine w_ladd C dX5_setLong_119 ?_
                  refine w_topl C (x1) (hx1.symm) ?_
                  refine w_lstore C [(10, .long (lZ (x1))), (9, .int (iZ (1))), (7, .long (lZ (x0 / 2147483648))), (4, .long (lZ (z / 2147483648 / 2147483648 / 2147483648))), (6, .int (iZ (0))), (0, .ref (Q 0)), (1, .int (iZ ((a : Int)))), (2, .long (lZ (z)))] dX5_setLong_120 (by decide) rfl ?_
                  refine w_aload_n C dX5_setLong_122 5 rfl ?_
                  refine w_get (ci := 5) (ref := "RootIsolatorModel") (T := TX5) (Cn := RX5) (N := 10) C (fun w h => wC_in (inX5 w h)) 0 rfl rfl 1 (by decide) (wC_in fX5_limbs) rfl rfl dX5_setLong_123 ?_
                  refine w_sipush C dX5_setLong_126 (by decide) ?_
                  refine w_iload_n C dX5_setLong_129 6 rfl ?_
                  refine w_imul C dX5_setLong_130 ?_
                  refine w_iload C dX5_setLong_131 1 rfl ?_
                  refine w_iadd C dX5_setLong_133 ?_
                  refine w_lload C dX5_setLong_134 0 rfl ?_
                  refine w_ldc2 C (2147483647) dX5_setLong_136 (wC_in kclX5_43) ?_
                  refine w_and31 C dX5_setLong_139 ?_
                  refine w_l2i C dX5_setLong_140 ?_
                  refine w_iast C (mU Q G ((upd (upd (upd (upd (upd fL (640 * a + 0) (iZ ((z) % 2147483648))) (640 * a + 1) (iZ ((z / 2147483648) % 2147483648))) (640 * a + 2) (iZ ((z / 2147483648 / 2147483648) % 2147483648))) (640 * a + 0) (iZ ((x0) % 2147483648))) (640 * a + 1) (iZ ((x1) % 2147483648))), fS, (upd fN (a) (iZ (z.sign))), fD, X)) 1 0 rfl rfl (640 * a + 1) ⟨by omega, by omega, by omega⟩ rfl dX5_setLong_141 ?_
                  refine w_lload C dX5_setLong_142 0 rfl ?_
                  refine w_bipush C dX5_setLong_144 (by decide) ?_
                  refine w_lshr C (31) dX5_setLong_146 ⟨by omega, by omega⟩ ⟨by omega, by omega⟩ ?_
                  refine w_topl C (x1 / 2147483648) (rfl) ?_
                  refine w_lstore C [(7, .long (lZ (x1 / 2147483648))), (10, .long (lZ (x1))), (9, .int (iZ (1))), (4, .long (lZ (z / 2147483648 / 2147483648 / 2147483648))), (6, .int (iZ (0))), (0, .ref (Q 0)), (1, .int (iZ ((a : Int)))), (2, .long (lZ (z)))] dX5_setLong_147 (by decide) rfl ?_
                  refine w_iinc C (2) (by omega) [(9, .int (iZ (2))), (7, .long (lZ (x1 / 2147483648))), (10, .long (lZ (x1))), (4, .long (lZ (z / 2147483648 / 2147483648 / 2147483648))), (6, .int (iZ (0))), (0, .ref (Q 0)), (1, .int (iZ ((a : Int)))), (2, .long (lZ (z)))] dX5_setLong_149 2 rfl (by decide) rfl ?_
                  refine w_goto C 91 dX5_setLong_152 (by decide) ?_
                  refine w_iload C dX5_setLong_91 0 rfl ?_
                  refine w_iconst C dX5_setLong_93 ?_
                  refine w_icmp_ge C 155 dX5_setLong_94 (by decide) ⟨⟨by omega, by omega⟩, by omega, by omega⟩ (fun c9 => ?_) (fun c9 => ?_)
                  · exact absurd c9 (by omega)
                  · refine w_aload_n C dX5_setLong_97 5 rfl ?_
                    refine w_get (ci := 5) (ref := "RootIsolatorModel") (T := TX5) (Cn := RX5) (N := 10) C (fun w h => wC_in (inX5 w h)) 0 rfl rfl 1 (by decide) (wC_in fX5_limbs) rfl rfl dX5_setLong_98 ?_
                    refine w_sipush C dX5_setLong_101 (by decide) ?_
                    refine w_iload_n C dX5_setLong_104 6 rfl ?_
                    refine w_imul C dX5_setLong_105 ?_
                    refine w_iload C dX5_setLong_106 0 rfl ?_
                    refine w_iadd C dX5_setLong_108 ?_
                    refine w_iald C 1 0 rfl rfl (640 * a + 2) (d2) ⟨by omega, by omega, by omega⟩ (by show (upd (upd (upd (upd (upd fL (640 * a + 0) (iZ ((z) % 2147483648))) (640 * a + 1) (iZ ((z / 2147483648) % 2147483648))) (640 * a + 2) (iZ ((z / 2147483648 / 2147483648) % 2147483648))) (640 * a + 0) (iZ ((x0) % 2147483648))) (640 * a + 1) (iZ ((x1) % 2147483648))) _ = _; rw [upd_ne (by omega), upd_ne (by omega), upd_eq, hd2]) dX5_setLong_109 ?_
                    refine w_iconst C dX5_setLong_110 ?_
                    refine w_ixor C dX5_setLong_111 (v := (iZ (-1 - d2))) (iZ_not d2) ?_
                    refine w_i2l C dX5_setLong_112 ⟨by omega, by omega⟩ ?_
                    refine w_ldc2 C (2147483647) dX5_setLong_113 (wC_in kclX5_43) ?_
                    refine w_and31 C dX5_setLong_116 ?_
                    refine w_lload C dX5_setLong_117 1 rfl ?_
                    obtain ⟨x2, hx2⟩ : ∃ x : Int, x = (-1 - d2) % 2147483648 + x1 / 2147483648 := ⟨_, rfl⟩
                    have hxr2 : 0 ≤ x2 ∧ x2 < 4294967296 := by omega
                    refine w_ladd C dX5_setLong_119 ?_
                    refine w_topl C (x2) (hx2.symm) ?_
                    refine w_lstore C [(10, .long (lZ (x2))), (9, .int (iZ (2))), (7, .long (lZ (x1 / 2147483648))), (4, .long (lZ (z / 2147483648 / 2147483648 / 2147483648))), (6, .int (iZ (0))), (0, .ref (Q 0)), (1, .int (iZ ((a : Int)))), (2, .long (lZ (z)))] dX5_setLong_120 (by decide) rfl ?_
                    refine w_aload_n C dX5_setLong_122 5 rfl ?_
                    refine w_get (ci := 5) (ref := "RootIsolatorModel") (T := TX5) (Cn := RX5) (N := 10) C (fun w h => wC_in (inX5 w h)) 0 rfl rfl 1 (by decide) (wC_in fX5_limbs) rfl rfl dX5_setLong_123 ?_
                    refine w_sipush C dX5_setLong_126 (by decide) ?_
                    refine w_iload_n C dX5_setLong_129 6 rfl ?_
                    refine w_imul C dX5_setLong_130 ?_
                    refine w_iload C dX5_setLong_131 1 rfl ?_
                    refine w_iadd C dX5_setLong_133 ?_
                    refine w_lload C dX5_setLong_134 0 rfl ?_
                    refine w_ldc2 C (2147483647) dX5_setLong_136 (wC_in kclX5_43) ?_
                    refine w_and31 C dX5_setLong_139 ?_
                    refine w_l2i C dX5_setLong_140 ?_
                    refine w_iast C (mU Q G ((upd (upd (upd (upd (upd (upd fL (640 * a + 0) (iZ ((z) % 2147483648))) (640 * a + 1) (iZ ((z / 2147483648) % 2147483648))) (640 * a + 2) (iZ ((z / 2147483648 / 2147483648) % 2147483648))) (640 * a + 0) (iZ ((x0) % 2147483648))) (640 * a + 1) (iZ ((x1) % 2147483648))) (640 * a + 2) (iZ ((x2) % 2147483648))), fS, (upd fN (a) (iZ (z.sign))), fD, X)) 1 0 rfl rfl (640 * a + 2) ⟨by omega, by omega, by omega⟩ rfl dX5_setLong_141 ?_
                    refine w_lload C dX5_setLong_142 0 rfl ?_
                    refine w_bipush C dX5_setLong_144 (by decide) ?_
                    refine w_lshr C (31) dX5_setLong_146 ⟨by omega, by omega⟩ ⟨by omega, by omega⟩ ?_
                    refine w_topl C (x2 / 2147483648) (rfl) ?_
                    refine w_lstore C [(7, .long (lZ (x2 / 2147483648))), (10, .long (lZ (x2))), (9, .int (iZ (2))), (4, .long (lZ (z / 2147483648 / 2147483648 / 2147483648))), (6, .int (iZ (0))), (0, .ref (Q 0)), (1, .int (iZ ((a : Int)))), (2, .long (lZ (z)))] dX5_setLong_147 (by decide) rfl ?_
                    refine w_iinc C (3) (by omega) [(9, .int (iZ (3))), (7, .long (lZ (x2 / 2147483648))), (10, .long (lZ (x2))), (4, .long (lZ (z / 2147483648 / 2147483648 / 2147483648))), (6, .int (iZ (0))), (0, .ref (Q 0)), (1, .int (iZ ((a : Int)))), (2, .long (lZ (z)))] dX5_setLong_149 2 rfl (by decide) rfl ?_
                    refine w_goto C 91 dX5_setLong_152 (by decide) ?_
                    refine w_iload C dX5_setLong_91 0 rfl ?_
                    refine w_iconst C dX5_setLong_93 ?_
                    refine w_icmp_ge C 155 dX5_setLong_94 (by decide) ⟨⟨by omega, by omega⟩, by omega, by omega⟩ (fun c10 => ?_) (fun c10 => ?_)
                    · refine w_iconst C dX5_setLong_155 ?_
                      refine w_istore C [(6, .int (iZ (3))), (9, .int (iZ (3))), (7, .long (lZ (x2 / 2147483648))), (10, .long (lZ (x2))), (4, .long (lZ (z / 2147483648 / 2147483648 / 2147483648))), (0, .ref (Q 0)), (1, .int (iZ ((a : Int)))), (2, .long (lZ (z)))] dX5_setLong_156 (by decide) rfl ?_
                      refine w_sub [(6, .int (iZ (3))), (0, .ref (Q 0)), (1, .int (iZ ((a : Int)))), (2, .long (lZ (z)))] [0, 5, 6, 7] rfl ?_
                      have hL0 : (upd (upd (upd (upd (upd (upd fL (640 * a + 0) (iZ ((z) % 2147483648))) (640 * a + 1) (iZ ((z / 2147483648) % 2147483648))) (640 * a + 2) (iZ ((z / 2147483648 / 2147483648) % 2147483648))) (640 * a + 0) (iZ ((x0) % 2147483648))) (640 * a + 1) (iZ ((x1) % 2147483648))) (640 * a + 2) (iZ ((x2) % 2147483648))) (640 * a + 0) = iZ (x0 % 2147483648) := by rw [upd_ne (by omega), upd_ne (by omega), upd_eq]
                      have hL1 : (upd (upd (upd (upd (upd (upd fL (640 * a + 0) (iZ ((z) % 2147483648))) (640 * a + 1) (iZ ((z / 2147483648) % 2147483648))) (640 * a + 2) (iZ ((z / 2147483648 / 2147483648) % 2147483648))) (640 * a + 0) (iZ ((x0) % 2147483648))) (640 * a + 1) (iZ ((x1) % 2147483648))) (640 * a + 2) (iZ ((x2) % 2147483648))) (640 * a + 1) = iZ (x1 % 2147483648) := by rw [upd_ne (by omega), upd_eq]
                      have hL2 : (upd (upd (upd (upd (upd (upd fL (640 * a + 0) (iZ ((z) % 2147483648))) (640 * a + 1) (iZ ((z / 2147483648) % 2147483648))) (640 * a + 2) (iZ ((z / 2147483648 / 2147483648) % 2147483648))) (640 * a + 0) (iZ ((x0) % 2147483648))) (640 * a + 1) (iZ ((x1) % 2147483648))) (640 * a + 2) (iZ ((x2) % 2147483648))) (640 * a + 2) = iZ (x2 % 2147483648) := by rw [upd_eq]
                      refine loop _ 3 (fun j hj => by rw [upd_ne (by omega), upd_ne (by omega), upd_ne (by omega), upd_ne (by omega), upd_ne (by omega), upd_ne (by omega)]) (fun j hj => ?_) ?_ (by omega) (fun k h1 h2 => absurd h1 (by omega))
                      · rcases (show j = 0 ∨ j = 1 ∨ j = 2 by omega) with rfl | rfl | rfl
                        · rw [hL0, iZ_toInt (by omega) (by omega)]; omega
                        · rw [hL1, iZ_toInt (by omega) (by omega)]; omega
                        · rw [hL2, iZ_toInt (by omega) (by omega)]; omega
                      · simp only [zv]
                        rw [hL0, hL1, hL2, iZ_toInt (by omega) (by omega), iZ_toInt (by omega) (by omega), iZ_toInt (by omega) (by omega), hp62, hp31, hp0]
                        omega
                    · exact absurd c10 (by omega)
          · exact absurd c6 (by omega)
  refine w_lif_ge C 18 dX5_setLong_10 dX5_setLong_11 (by decide) ⟨⟨by omega, by omega⟩, by omega, by omega⟩ (fun c10 => ?_) (fun c10 => ?_)
  · refine w_lload_n C dX5_setLong_18 3 rfl ?_
    refine w_lconst C 0 dX5_setLong_19 rfl ?_
    refine w_lif_le C 28 dX5_setLong_20 dX5_setLong_21 (by decide) ⟨⟨by omega, by omega⟩, by omega, by omega⟩ (fun c20 => ?_) (fun c20 => ?_)
    · refine w_iconst C dX5_setLong_28 ?_
      refine w_top C (z.sign) (by rcases hcz with ⟨h1, h2⟩ | ⟨h1, h2⟩ | ⟨h1, h2⟩ <;> omega) ?_
      exact J2
    · refine w_iconst C dX5_setLong_24 ?_
      refine w_goto C 29 dX5_setLong_25 (by decide) ?_
      refine w_top C (z.sign) (by rcases hcz with ⟨h1, h2⟩ | ⟨h1, h2⟩ | ⟨h1, h2⟩ <;> omega) ?_
      exact J2
  · refine w_iconst C dX5_setLong_14 ?_
    refine w_goto C 29 dX5_setLong_15 (by decide) ?_
    refine w_top C (z.sign) (by rcases hcz with ⟨h1, h2⟩ | ⟨h1, h2⟩ | ⟨h1, h2⟩ <;> omega) ?_
    exact J2
