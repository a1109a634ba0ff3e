theorem sgn_cases (x : Int) : (0 < x ∧ x.sign = 1) ∨ (x = 0 ∧ x.sign = 0) ∨ (x < 0 ∧ x.sign = -1) := by
  rcases Int.lt_trichotomy x 0 with h | h | h
  · exact Or.inr (Or.inr ⟨h, Int.sign_eq_neg_one_of_neg h⟩)
  · exact Or.inr (Or.inl ⟨h, by rw [h]; rfl⟩)
  · exact Or.inl ⟨h, Int.sign_eq_one_of_pos h⟩
theorem mNum_sgn {fL fS fN : Nat → Int32} {a : Nat} {z : Int} (h : mNum fL fS fN a z) : fN a = iZ z.sign := by
  obtain ⟨n, h1, h2, h3, h4, h5, h6⟩ := h; exact h5
theorem mNum_flip {gL gS gN : Nat → Int32} {t : Nat} {y z s : Int} (h : mNum gL gS gN t y) (hz : z.natAbs = y.natAbs) (hs : s = z.sign) : mNum gL gS (upd gN t (iZ s)) t z := by
  obtain ⟨n, h1, h2, h3, h4, h5, h6⟩ := h
  exact ⟨n, h1, h2, h3, h4, by rw [upd_eq, hs], by rw [hz]; exact h6⟩
theorem sgn_pm {b y : Int} (hb : b = 1 ∨ b = -1) : b * y.sign = (b * y).sign := by
  rw [Int.sign_mul]; rcases hb with rfl | rfl <;> rfl
set_option maxHeartbeats 4000000 in
set_option maxRecDepth 100000 in
/-- add: the number t becomes the sum, or the difference -/
theorem cm_add (l : Launch) (D : va_G) (Q : Nat → Nat) (G : Nat → ClassId) (fL fS fN fD : Nat → Int32) (X : mX) (t a b : Nat) (bv x y : Int) (ht : t < 141) (ha : a < 141) (hb : b < 141) (hbv : bv = 1 ∨ bv = -1) (hx : mNum fL fS fN a x) (hy : mNum fL fS fN b y) (hA : (x.natAbs : Int) < 2 ^ (31 * 639)) (hB : (y.natAbs : Int) < 2 ^ (31 * 639)) (sz : Nat) : Met l yX5_add (wC yX5_add cX5_add 6 none) ({ frames := 2, cells := 0, slots := 0, locals := 55 }) (va_Pc [.ref (Q 0), .int (iZ ((t : Int))), .int (iZ ((a : Int))), .int (iZ ((b : Int))), .int (iZ (bv))] (mPre D Q G (fL, fS, fN, fD, X) sz)) (va_Qv (fun u : mT => mSet fL fS fN fD X t (x + bv * y) u) (mAt D Q G (mA Q sz)) (mA Q sz)) 0 0 (mA Q sz) := by
  refine m_met (cc := cX5_add) (maxL := 6) (ret := none) (by decide) rfl rfl (Nat.le_of_ble_eq_true rfl) ?_
  intro p e s m below meth c hsz C hr hlk
  refine w_sub [(0, .ref (Q 0)), (1, .int (iZ ((t : Int)))), (2, .int (iZ ((a : Int)))), (3, .int (iZ ((b : Int)))), (4, .int (iZ (bv)))] [0, 1, 2, 3, 4] rfl ?_
  have hsx := mNum_sgn hx
  have hsy := mNum_sgn hy
  have hcx := sgn_cases x
  have hcy := sgn_cases y
  refine w_iload C dX5_add_0 4 rfl ?_
  refine w_aload_n C dX5_add_2 0 rfl ?_
  refine w_get (ci := 5) (ref := "RootIsolatorModel") (T := TX5) (Cn := RX5) (N := 10) C (fun w h => wC_in (inX5 w h)) 0 rfl rfl 3 (by decide) (wC_in fX5_signs) rfl rfl dX5_add_3 ?_
  refine w_iload_n C dX5_add_6 3 rfl ?_
  refine w_iald C 3 0 rfl rfl (b) (y.sign) ⟨by omega, by omega, by omega⟩ (hsy) dX5_add_7 ?_
  obtain ⟨sb, hsb⟩ : ∃ w : Int, w = bv * y.sign := ⟨_, rfl⟩
  have hsbr : -1 ≤ sb ∧ sb ≤ 1 := by rcases hbv with rfl | rfl <;> rcases hcy with ⟨h3, h4⟩ | ⟨h3, h4⟩ | ⟨h3, h4⟩ <;> omega
  have hsxr := sgn_r x
  refine w_imul C dX5_add_8 ?_
  refine w_top C (sb) (hsb.symm) ?_
  refine w_istore C [(5, .int (iZ (sb))), (0, .ref (Q 0)), (1, .int (iZ ((t : Int)))), (2, .int (iZ ((a : Int)))), (3, .int (iZ ((b : Int)))), (4, .int (iZ (bv)))] dX5_add_9 (by decide) rfl ?_
  refine w_iload C dX5_add_11 0 rfl ?_
  refine w_if_ne C 25 dX5_add_13 (by decide) ⟨by omega, by omega⟩ (fun c13 => ?_) (fun c13 => ?_)
  · refine w_aload_n C dX5_add_25 1 rfl ?_
    refine w_get (ci := 5) (ref := "RootIsolatorModel") (T := TX5) (Cn := RX5) (N := 10) C (fun w h => wC_in (inX5 w h)) 0 rfl rfl 3 (by decide) (wC_in fX5_signs) rfl rfl dX5_add_26 ?_
    refine w_iload_n C dX5_add_29 3 rfl ?_
    refine w_iald C 3 0 rfl rfl (a) (x.sign) ⟨by omega, by omega, by omega⟩ (hsx) dX5_add_30 ?_
    refine w_if_ne C 51 dX5_add_31 (by decide) ⟨by omega, by omega⟩ (fun c31 => ?_) (fun c31 => ?_)
    · refine w_aload_n C dX5_add_51 1 rfl ?_
      refine w_get (ci := 5) (ref := "RootIsolatorModel") (T := TX5) (Cn := RX5) (N := 10) C (fun w h => wC_in (inX5 w h)) 0 rfl rfl 3 (by decide) (wC_in fX5_signs) rfl rfl dX5_add_52 ?_
      refine w_iload_n C dX5_add_55 3 rfl ?_
      refine w_iald C 3 0 rfl rfl (a) (x.sign) ⟨by omega, by omega, by omega⟩ (hsx) dX5_add_56 ?_
      refine w_iload C dX5_add_57 0 rfl ?_
      refine w_icmp_ne C 74 dX5_add_59 (by decide) ⟨⟨by omega, by omega⟩, by omega, by omega⟩ (fun c59 => ?_) (fun c59 => ?_)
      · refine w_aload_n C dX5_add_74 1 rfl ?_
        refine w_iload_n C dX5_add_75 3 rfl ?_
        refine w_iload_n C dX5_add_76 4 rfl ?_
        refine m_calli [.int (iZ ((a : Int))), .int (iZ ((b : Int)))] hsz C (fun z => cm_compareSizes l D Q G fL fS fN fD X a b x y ha hb hx hy z) (cwV 2 C.1.2.2.2.2 (wC_V kX5_57 nX5_compareSizes slX5_compareSizes iniX5 cdX5_compareSizes) rfl rfl rfl (by decide +kernel) ⟨Nat.le_of_ble_eq_true rfl, Nat.le_of_ble_eq_true rfl⟩) rfl ⟨Nat.zero_le _, Nat.zero_le _⟩ (Nat.le_of_ble_eq_true rfl) dX5_add_77 [.int (iZ ((b : Int))), .int (iZ ((a : Int))), .ref (Q 0)] rfl (fun r v1 hv1 => ?_)
        obtain ⟨rfl, rfl⟩ := hv1
        refine w_if_lt C 99 dX5_add_80 (by decide) (zcmp_r _ _) (fun c80 => ?_) (fun c80 => ?_)
        · refine w_aload_n C dX5_add_99 1 rfl ?_
          refine w_iload_n C dX5_add_100 2 rfl ?_
          refine w_iload_n C dX5_add_101 4 rfl ?_
          refine w_iload_n C dX5_add_102 3 rfl ?_
          refine w_iload C dX5_add_103 0 rfl ?_
          refine m_callv [.int (iZ ((t : Int))), .int (iZ ((b : Int))), .int (iZ ((a : Int))), .int (iZ (sb))] hsz C (fun z => cm_lessSizes l D Q G fL fS fN fD X t b a sb y x ht hb ha hy hx (Int.le_of_lt (zcmp_lt.1 c80)) (by omega) z) (cwV 4 C.1.2.2.2.2 (wC_V kX5_61 nX5_lessSizes slX5_lessSizes iniX5 cdX5_lessSizes) rfl rfl rfl (by decide +kernel) ⟨Nat.le_of_ble_eq_true rfl, Nat.le_of_ble_eq_true rfl⟩) rfl ⟨Nat.zero_le _, Nat.zero_le _⟩ (Nat.le_of_ble_eq_true rfl) dX5_add_105 [.int (iZ (sb)), .int (iZ ((a : Int))), .int (iZ ((b : Int))), .int (iZ ((t : Int))), .ref (Q 0)] rfl (fun v2 hv2 => ?_)
          obtain ⟨gL, gS, gN, rfl, hF, hN⟩ := hv2
          have hfin : mSet fL fS fN fD X t (x + bv * y) (gL, gS, gN, fD, X) := ⟨_, _, _, rfl, hF, by
            have hz : x + bv * y = sb * ((y.natAbs : Int) - (x.natAbs : Int)) := by
              rcases hbv with rfl | rfl <;> rcases hcx with ⟨h1, h2⟩ | ⟨h1, h2⟩ | ⟨h1, h2⟩ <;> rcases hcy with ⟨h3, h4⟩ | ⟨h3, h4⟩ | ⟨h3, h4⟩ <;> rw [h4] at hsb <;> (try rw [h2]) <;> (try subst hsb) <;> omega
            rw [hz]; exact hN⟩
          exact m_vret hsz C hr hlk (hfin) dX5_add_108
        · refine w_aload_n C dX5_add_83 1 rfl ?_
          refine w_iload_n C dX5_add_84 2 rfl ?_
          refine w_iload_n C dX5_add_85 3 rfl ?_
          refine w_iload_n C dX5_add_86 4 rfl ?_
          refine w_aload_n C dX5_add_87 1 rfl ?_
          refine w_get (ci := 5) (ref := "RootIsolatorModel") (T := TX5) (Cn := RX5) (N := 10) C (fun w h => wC_in (inX5 w h)) 0 rfl rfl 3 (by decide) (wC_in fX5_signs) rfl rfl dX5_add_88 ?_
          refine w_iload_n C dX5_add_91 3 rfl ?_
          refine w_iald C 3 0 rfl rfl (a) (x.sign) ⟨by omega, by omega, by omega⟩ (hsx) dX5_add_92 ?_
          refine m_callv [.int (iZ ((t : Int))), .int (iZ ((a : Int))), .int (iZ ((b : Int))), .int (iZ (x.sign))] hsz C (fun z => cm_lessSizes l D Q G fL fS fN fD X t a b x.sign x y ht ha hb hx hy (zcmp_ge.1 (by omega)) (by omega) z) (cwV 4 C.1.2.2.2.2 (wC_V kX5_61 nX5_lessSizes slX5_lessSizes iniX5 cdX5_lessSizes) rfl rfl rfl (by decide +kernel) ⟨Nat.le_of_ble_eq_true rfl, Nat.le_of_ble_eq_true rfl⟩) rfl ⟨Nat.zero_le _, Nat.zero_le _⟩ (Nat.le_of_ble_eq_true rfl) dX5_add_93 [.int (iZ (x.sign)), .int (iZ ((b : Int))), .int (iZ ((a : Int))), .int (iZ ((t : Int))), .ref (Q 0)] rfl (fun v3 hv3 => ?_)
          obtain ⟨gL, gS, gN, rfl, hF, hN⟩ := hv3
          have hfin : mSet fL fS fN fD X t (x + bv * y) (gL, gS, gN, fD, X) := ⟨_, _, _, rfl, hF, by
            have hz : x + bv * y = x.sign * ((x.natAbs : Int) - (y.natAbs : Int)) := by
              rcases hbv with rfl | rfl <;> rcases hcx with ⟨h1, h2⟩ | ⟨h1, h2⟩ | ⟨h1, h2⟩ <;> rcases hcy with ⟨h3, h4⟩ | ⟨h3, h4⟩ | ⟨h3, h4⟩ <;> rw [h4] at hsb <;> (try rw [h2]) <;> (try subst hsb) <;> omega
            rw [hz]; exact hN⟩
          refine w_goto C 108 dX5_add_96 (by decide) ?_
          exact m_vret hsz C hr hlk (hfin) dX5_add_108
      · refine w_aload_n C dX5_add_62 1 rfl ?_
        refine w_iload_n C dX5_add_63 2 rfl ?_
        refine w_iload_n C dX5_add_64 3 rfl ?_
        refine w_iload_n C dX5_add_65 4 rfl ?_
        refine w_iload C dX5_add_66 0 rfl ?_
        refine m_callv [.int (iZ ((t : Int))), .int (iZ ((a : Int))), .int (iZ ((b : Int))), .int (iZ (sb))] hsz C (fun z => cm_addSizes l D Q G fL fS fN fD X t a b sb x y ht ha hb hx hy hA hB (by omega) z) (cwV 4 C.1.2.2.2.2 (wC_V kX5_53 nX5_addSizes slX5_addSizes iniX5 cdX5_addSizes) rfl rfl rfl (by decide +kernel) ⟨Nat.le_of_ble_eq_true rfl, Nat.le_of_ble_eq_true rfl⟩) rfl ⟨Nat.zero_le _, Nat.zero_le _⟩ (Nat.le_of_ble_eq_true rfl) dX5_add_68 [.int (iZ (sb)), .int (iZ ((b : Int))), .int (iZ ((a : Int))), .int (iZ ((t : Int))), .ref (Q 0)] rfl (fun v4 hv4 => ?_)
        obtain ⟨gL, gS, gN, rfl, hF, hN⟩ := hv4
        have hfin : mSet fL fS fN fD X t (x + bv * y) (gL, gS, gN, fD, X) := ⟨_, _, _, rfl, hF, by
          have hz : x + bv * y = sb * ((x.natAbs : Int) + (y.natAbs : Int)) := by
            rcases hbv with rfl | rfl <;> rcases hcx with ⟨h1, h2⟩ | ⟨h1, h2⟩ | ⟨h1, h2⟩ <;> rcases hcy with ⟨h3, h4⟩ | ⟨h3, h4⟩ | ⟨h3, h4⟩ <;> rw [h4] at hsb <;> (try rw [h2]) <;> (try subst hsb) <;> omega
          rw [hz]; exact hN⟩
        refine w_goto C 108 dX5_add_71 (by decide) ?_
        exact m_vret hsz C hr hlk (hfin) dX5_add_108
    · refine w_aload_n C dX5_add_34 1 rfl ?_
      refine w_iload_n C dX5_add_35 2 rfl ?_
      refine w_iload_n C dX5_add_36 4 rfl ?_
      refine m_callv [.int (iZ ((t : Int))), .int (iZ ((b : Int)))] hsz C (fun z => cm_copy l D Q G fL fS fN fD X t b y hb ht hy z) (cwV 2 C.1.2.2.2.2 (wC_V kX5_49 nX5_copy slX5_copy iniX5 cdX5_copy) rfl rfl rfl (by decide +kernel) ⟨Nat.le_of_ble_eq_true rfl, Nat.le_of_ble_eq_true rfl⟩) rfl ⟨Nat.zero_le _, Nat.zero_le _⟩ (Nat.le_of_ble_eq_true rfl) dX5_add_37 [.int (iZ ((b : Int))), .int (iZ ((t : Int))), .ref (Q 0)] rfl (fun v5 hv5 => ?_)
      obtain ⟨gL, gS, gN, rfl, hF, hN⟩ := hv5
      refine w_aload_n C dX5_add_40 1 rfl ?_
      refine w_get (ci := 5) (ref := "RootIsolatorModel") (T := TX5) (Cn := RX5) (N := 10) C (fun w h => wC_in (inX5 w h)) 0 rfl rfl 3 (by decide) (wC_in fX5_signs) rfl rfl dX5_add_41 ?_
      refine w_iload_n C dX5_add_44 2 rfl ?_
      refine w_iload C dX5_add_45 0 rfl ?_
      refine w_iast C (mU Q G (gL, gS, (upd gN (t) (iZ (sb))), fD, X)) 3 0 rfl rfl (t) ⟨by omega, by omega, by omega⟩ rfl dX5_add_47 ?_
      have hx0 : x = 0 := sgn_zero c31
      have hfin : mSet fL fS fN fD X t (x + bv * y) (gL, gS, upd gN t (iZ sb), fD, X) := ⟨_, _, _, rfl, ⟨hF.1, hF.2.1, fun c hc => by rw [upd_ne hc]; exact hF.2.2 c hc⟩, mNum_flip hN (by rcases hbv with rfl | rfl <;> omega) (by rw [hsb, hx0, Int.zero_add]; exact sgn_pm hbv)⟩
      refine w_goto C 108 dX5_add_48 (by decide) ?_
      exact m_vret hsz C hr hlk (hfin) dX5_add_108
  · refine w_aload_n C dX5_add_16 1 rfl ?_
    refine w_iload_n C dX5_add_17 2 rfl ?_
    refine w_iload_n C dX5_add_18 3 rfl ?_
    refine m_callv [.int (iZ ((t : Int))), .int (iZ ((a : Int)))] hsz C (fun z => cm_copy l D Q G fL fS fN fD X t a x ha ht hx z) (cwV 2 C.1.2.2.2.2 (wC_V kX5_49 nX5_copy slX5_copy iniX5 cdX5_copy) rfl rfl rfl (by decide +kernel) ⟨Nat.le_of_ble_eq_true rfl, Nat.le_of_ble_eq_true rfl⟩) rfl ⟨Nat.zero_le _, Nat.zero_le _⟩ (Nat.le_of_ble_eq_true rfl) dX5_add_19 [.int (iZ ((a : Int))), .int (iZ ((t : Int))), .ref (Q 0)] rfl (fun v6 hv6 => ?_)
    obtain ⟨gL, gS, gN, rfl, hF, hN⟩ := hv6
    have hfin : mSet fL fS fN fD X t (x + bv * y) (gL, gS, gN, fD, X) := ⟨_, _, _, rfl, hF, by
      have hz : x + bv * y = x := by
        rcases hbv with rfl | rfl <;> rcases hcx with ⟨h1, h2⟩ | ⟨h1, h2⟩ | ⟨h1, h2⟩ <;> rcases hcy with ⟨h3, h4⟩ | ⟨h3, h4⟩ | ⟨h3, h4⟩ <;> rw [h4] at hsb <;> (try rw [h2]) <;> (try subst hsb) <;> omega
      rw [hz]; exact hN⟩
    refine w_goto C 108 dX5_add_22 (by decide) ?_
    exact m_vret hsz C hr hlk (hfin) dX5_add_108
