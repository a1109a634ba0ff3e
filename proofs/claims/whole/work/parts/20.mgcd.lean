theorem mSet_all {fL fS fN fD : Nat → Int32} {X : mX} {Z : Nat → Int} {t : Nat} {z : Int} {u : mT} (hZ : mAll fL fS fN Z) (h : mSet fL fS fN fD X t z u) : mPost fD X (uZ Z t z) u := by
  obtain ⟨gL, gS, gN, h1, h2, h3⟩ := h
  exact ⟨gL, gS, gN, mAll_up hZ h2.1 h2.2.1 h2.2.2 h3, h1⟩
theorem mDiv_all {fL fS fN fD : Nat → Int32} {X : mX} {Z : Nat → Int} {t : Nat} {z1 z2 : Int} {u : mT} (hZ : mAll fL fS fN Z) (h : mDiv fL fS fN fD X t z1 z2 u) : mPost fD X (uZ (uZ Z t z1) 140 z2) u := by
  obtain ⟨gL, gS, gN, h1, h2, h3, h4, h5, h6⟩ := h
  refine ⟨gL, gS, gN, fun a ha => ?_, h1⟩
  by_cases q : a = 140
  · subst q; rw [uZ_eq]; exact h6
  · rw [uZ_ne q]
    by_cases q2 : a = t
    · subst q2; rw [uZ_eq]; exact h5
    · rw [uZ_ne q2]; exact mNum_congr (hZ a ha) (fun k hk => h2 a k q2 q hk) (h3 a q2 q) (h4 a q2 q)
theorem mNum_pos {fL fS fN : Nat → Int32} {a : Nat} {z : Int} (h : mNum fL fS fN a z) : ∃ n : Nat, fS a = iZ n ∧ n ≤ 640 ∧ (n = 0 ↔ z = 0) := by
  obtain ⟨n, h1, h2, h3, h4, h5, h6⟩ := h
  refine ⟨n, h2, h1, fun g => ?_, fun g => ?_⟩
  · subst g; simp only [zv] at h6; omega
  · rcases Nat.eq_zero_or_pos n with q | q
    · exact q
    · obtain ⟨i, rfl⟩ : ∃ i, n = i + 1 := ⟨n - 1, by omega⟩
      have h7 := zv_top h3 (h4 i rfl)
      have h8 := p31_pos i
      omega
theorem gcd_step {x y : Int} : Int.gcd y ((x.natAbs : Int) % (y.natAbs : Int)) = Int.gcd x y := by
  show Nat.gcd y.natAbs ((x.natAbs : Int) % (y.natAbs : Int)).natAbs = Nat.gcd x.natAbs y.natAbs
  rw [show ((x.natAbs : Int) % (y.natAbs : Int)).natAbs = x.natAbs % y.natAbs by rw [← Int.natCast_emod]; rfl]
  rw [Nat.gcd_comm, ← Nat.gcd_rec, Nat.gcd_comm]
theorem mNum_resgn {gL gS gN : Nat → Int32} {t : Nat} {y z : Int} {s : Int32} (h : mNum gL gS gN t y) (hz : z.natAbs = y.natAbs) (hs : s = iZ z.sign) : mNum gL gS (upd gN t s) t z := by
  rw [hs]; exact mNum_flip h hz rfl
set_option maxHeartbeats 4000000 in
set_option maxRecDepth 100000 in
/-- divisorOf: the greatest common divisor -/
theorem cm_divisorOf (l : Launch) (D : va_G) (Q : Nat → Nat) (G : Nat → ClassId) (fL fS fN fD : Nat → Int32) (X : mX) (Z : Nat → Int) (a b : Nat) (hZ : mAll fL fS fN Z) (ha : a < 139) (hb : b < 139) (hab : a ≠ b) (hB : ((Z b).natAbs : Int) < 2 ^ (31 * 638)) (sz : Nat) : Met l yX5_divisorOf (wC yX5_divisorOf cX5_divisorOf 3 none) ({ frames := 3, cells := 0, slots := 0, locals := 79 }) (va_Pc [.ref (Q 0), .int (iZ ((a : Int))), .int (iZ ((b : Int)))] (mPre D Q G (fL, fS, fN, fD, X) sz)) (va_Qv (fun u : mT => ∃ Z' : Nat → Int, mPost fD X Z' u ∧ Z' a = (Int.gcd (Z a) (Z b) : Int) ∧ Z' b = 0 ∧ ∀ c : Nat, c ≠ a → c ≠ b → c ≠ 139 → c ≠ 140 → Z' c = Z c) (mAt D Q G (mA Q sz)) (mA Q sz)) 0 0 (mA Q sz) := by
  refine m_met (cc := cX5_divisorOf) (maxL := 3) (ret := none) (by decide) rfl rfl (Nat.le_of_ble_eq_true rfl) ?_
  intro p e s m below meth c hsz C hr hlk
  refine w_sub [(0, .ref (Q 0)), (1, .int (iZ ((a : Int)))), (2, .int (iZ ((b : Int))))] [0, 1, 2] rfl ?_
  have loop : ∀ (d : Nat) (Y : Nat → Int) (kL : Nat → Int32) (kS : Nat → Int32) (kN : Nat → Int32), (Y b).natAbs < d → mAll kL kS kN Y → Int.gcd (Y a) (Y b) = Int.gcd (Z a) (Z b) → (∀ c : Nat, c ≠ a → c ≠ b → c ≠ 139 → c ≠ 140 → Y c = Z c) → ((Y b).natAbs : Int) < 2 ^ (31 * 638) → ZW p l e ({ frames := 3, cells := 0, slots := 0, locals := 79 }) s m ([.ref (Q 0), .int (iZ ((a : Int))), .int (iZ ((b : Int)))] : List Value).toArray below meth c D (mA Q sz) 3 0 0 (MQ below (va_Qv (fun u : mT => ∃ Z' : Nat → Int, mPost fD X Z' u ∧ Z' a = (Int.gcd (Z a) (Z b) : Int) ∧ Z' b = 0 ∧ ∀ c : Nat, c ≠ a → c ≠ b → c ≠ 139 → c ≠ 140 → Z' c = Z c) (mAt D Q G (mA Q sz)) (mA Q sz)) ([.ref (Q 0), .int (iZ ((a : Int))), .int (iZ ((b : Int)))] : List Value).toArray s 0 0 (mA Q sz)) (mU Q G (kL, kS, kN, fD, X)) 0 [(0, .ref (Q 0)), (1, .int (iZ ((a : Int)))), (2, .int (iZ ((b : Int))))] [] := by
    intro d
    induction d with
    | zero =>
      intro Y kL kS kN hd hZ hg hfr hB
      exact absurd hd (by omega)
    | succ d ih =>
      intro Y kL kS kN hd hZ hg hfr hB
      obtain ⟨n, hn1, hn2, hn3⟩ := mNum_pos (hZ b (by omega))
      refine w_aload_n C dX5_divisorOf_0 0 rfl ?_
      refine w_get (ci := 5) (ref := "RootIsolatorModel") (T := TX5) (Cn := RX5) (N := 10) C (fun w h => wC_in (inX5 w h)) 0 rfl rfl 2 (by decide) (wC_in fX5_sizes) rfl rfl dX5_divisorOf_1 ?_
      refine w_iload_n C dX5_divisorOf_4 2 rfl ?_
      refine w_iald C 2 0 rfl rfl (b) ((n : Int)) ⟨by omega, by omega, by omega⟩ (hn1) dX5_divisorOf_5 ?_
      refine w_if_le C 35 dX5_divisorOf_6 (by decide) ⟨by omega, by omega⟩ (fun c6 => ?_) (fun c6 => ?_)
      · have hyb : Y b = 0 := hn3.1 (by omega)
        obtain ⟨n1, hm1, hm2, hm3⟩ := mNum_pos (hZ a (by omega))
        have hga : ((Y a).natAbs : Int) = (Int.gcd (Z a) (Z b) : Int) := by rw [← hg, hyb]; simp
        refine w_aload_n C dX5_divisorOf_35 0 rfl ?_
        refine w_get (ci := 5) (ref := "RootIsolatorModel") (T := TX5) (Cn := RX5) (N := 10) C (fun w h => wC_in (inX5 w h)) 0 rfl rfl 3 (by decide) (wC_in fX5_signs) rfl rfl dX5_divisorOf_36 ?_
        refine w_iload_n C dX5_divisorOf_39 1 rfl ?_
        refine w_aload_n C dX5_divisorOf_40 0 rfl ?_
        refine w_get (ci := 5) (ref := "RootIsolatorModel") (T := TX5) (Cn := RX5) (N := 10) C (fun w h => wC_in (inX5 w h)) 0 rfl rfl 2 (by decide) (wC_in fX5_sizes) rfl rfl dX5_divisorOf_41 ?_
        refine w_iload_n C dX5_divisorOf_44 1 rfl ?_
        refine w_iald C 2 0 rfl rfl (a) ((n1 : Int)) ⟨by omega, by omega, by omega⟩ (hm1) dX5_divisorOf_45 ?_
        have J1 : ZW p l e ({ frames := 3, cells := 0, slots := 0, locals := 79 }) s m ([.ref (Q 0), .int (iZ ((a : Int))), .int (iZ ((b : Int)))] : List Value).toArray below meth c D (mA Q sz) 3 0 0 (MQ below (va_Qv (fun u : mT => ∃ Z' : Nat → Int, mPost fD X Z' u ∧ Z' a = (Int.gcd (Z a) (Z b) : Int) ∧ Z' b = 0 ∧ ∀ c : Nat, c ≠ a → c ≠ b → c ≠ 139 → c ≠ 140 → Z' c = Z c) (mAt D Q G (mA Q sz)) (mA Q sz)) ([.ref (Q 0), .int (iZ ((a : Int))), .int (iZ ((b : Int)))] : List Value).toArray s 0 0 (mA Q sz)) (mU Q G (kL, kS, kN, fD, X)) 54 [(0, .ref (Q 0)), (1, .int (iZ ((a : Int)))), (2, .int (iZ ((b : Int))))] [.int (iZ (((Y a).natAbs : Int).sign)), .int (iZ ((a : Int))), .ref (Q 3)] := by
          refine w_iast C (mU Q G (kL, kS, (upd kN (a) (iZ (((Y a).natAbs : Int).sign))), fD, X)) 3 0 rfl rfl (a) ⟨by omega, by omega, by omega⟩ rfl dX5_divisorOf_54 ?_
          exact m_vret hsz C hr hlk (⟨uZ Y a ((Y a).natAbs : Int), ⟨_, _, _, mAll_up hZ (fun c k hc hk => rfl) (fun c hc => rfl) (fun c hc => upd_ne hc) (mNum_flip (hZ a (by omega)) (by omega) rfl), rfl⟩, by rw [uZ_eq]; exact hga, by rw [uZ_ne (by omega)]; exact hyb, fun c h1 h2 h3 h4 => by rw [uZ_ne h1]; exact hfr c h1 h2 h3 h4⟩) dX5_divisorOf_55
        refine w_if_ne C 53 dX5_divisorOf_46 (by decide) ⟨by omega, by omega⟩ (fun c46 => ?_) (fun c46 => ?_)
        · refine w_iconst C dX5_divisorOf_53 ?_
          refine w_top C (((Y a).natAbs : Int).sign) ((Int.sign_eq_one_of_pos (by have := hm3.2; omega)).symm) ?_
          exact J1
        · refine w_iconst C dX5_divisorOf_49 ?_
          refine w_goto C 54 dX5_divisorOf_50 (by decide) ?_
          refine w_top C (((Y a).natAbs : Int).sign) (by rw [hm3.1 (by omega)]; rfl) ?_
          exact J1
      · have hyb : Y b ≠ 0 := fun g => by have := hn3.2 g; omega
        refine w_aload_n C dX5_divisorOf_9 0 rfl ?_
        refine w_sipush C dX5_divisorOf_10 (by decide) ?_
        refine w_iload_n C dX5_divisorOf_13 1 rfl ?_
        refine w_iload_n C dX5_divisorOf_14 2 rfl ?_
        refine m_callv [.int (iZ (139)), .int (iZ ((a : Int))), .int (iZ ((b : Int)))] hsz C (fun z => cm_divide l D Q G kL kS kN fD X 139 a b (Y a) (Y b) (by omega) (by omega) (by omega) (by omega) (by omega) (hZ a (by omega)) (hZ b (by omega)) hyb hB z) (cwV 3 C.1.2.2.2.2 (wC_V kX5_76 nX5_divide slX5_divide iniX5 cdX5_divide) rfl rfl rfl (by decide +kernel) ⟨Nat.le_of_ble_eq_true rfl, Nat.le_of_ble_eq_true rfl⟩) rfl ⟨Nat.zero_le _, Nat.zero_le _⟩ (Nat.le_of_ble_eq_true rfl) dX5_divisorOf_15 [.int (iZ ((b : Int))), .int (iZ ((a : Int))), .int (iZ (139)), .ref (Q 0)] rfl (fun v2 hv2 => ?_)
        obtain ⟨gL2, gS2, gN2, hZ2, rfl⟩ := mDiv_all hZ hv2
        refine w_aload_n C dX5_divisorOf_18 0 rfl ?_
        refine w_iload_n C dX5_divisorOf_19 1 rfl ?_
        refine w_iload_n C dX5_divisorOf_20 2 rfl ?_
        refine m_callv [.int (iZ ((a : Int))), .int (iZ ((b : Int)))] hsz C (fun z => cm_copy l D Q G gL2 gS2 gN2 fD X a b ((uZ (uZ Y 139 ((Y a).sign * (Y b).sign * (((Y a).natAbs : Int) / ((Y b).natAbs : Int)))) 140 (((Y a).natAbs : Int) % ((Y b).natAbs : Int))) b) (by omega) (by omega) (hZ2 b (by omega)) z) (cwV 2 C.1.2.2.2.2 (wC_V kX5_49 nX5_copy slX5_copy iniX5 cdX5_copy) rfl rfl rfl (by decide +kernel) ⟨Nat.le_of_ble_eq_true rfl, Nat.le_of_ble_eq_true rfl⟩) rfl ⟨Nat.zero_le _, Nat.zero_le _⟩ (Nat.le_of_ble_eq_true rfl) dX5_divisorOf_21 [.int (iZ ((b : Int))), .int (iZ ((a : Int))), .ref (Q 0)] rfl (fun v3 hv3 => ?_)
        obtain ⟨gL3, gS3, gN3, hZ3, rfl⟩ := mSet_all hZ2 hv3
        refine w_aload_n C dX5_divisorOf_24 0 rfl ?_
        refine w_iload_n C dX5_divisorOf_25 2 rfl ?_
        refine w_sipush C dX5_divisorOf_26 (by decide) ?_
        refine m_callv [.int (iZ ((b : Int))), .int (iZ (140))] hsz C (fun z => cm_copy l D Q G gL3 gS3 gN3 fD X b 140 ((uZ (uZ (uZ Y 139 ((Y a).sign * (Y b).sign * (((Y a).natAbs : Int) / ((Y b).natAbs : Int)))) 140 (((Y a).natAbs : Int) % ((Y b).natAbs : Int))) a ((uZ (uZ Y 139 ((Y a).sign * (Y b).sign * (((Y a).natAbs : Int) / ((Y b).natAbs : Int)))) 140 (((Y a).natAbs : Int) % ((Y b).natAbs : Int))) b)) 140) (by omega) (by omega) (hZ3 140 (by omega)) z) (cwV 2 C.1.2.2.2.2 (wC_V kX5_49 nX5_copy slX5_copy iniX5 cdX5_copy) rfl rfl rfl (by decide +kernel) ⟨Nat.le_of_ble_eq_true rfl, Nat.le_of_ble_eq_true rfl⟩) rfl ⟨Nat.zero_le _, Nat.zero_le _⟩ (Nat.le_of_ble_eq_true rfl) dX5_divisorOf_29 [.int (iZ (140)), .int (iZ ((b : Int))), .ref (Q 0)] rfl (fun v4 hv4 => ?_)
        obtain ⟨gL4, gS4, gN4, hZ4, rfl⟩ := mSet_all hZ3 hv4
        refine w_goto C 0 dX5_divisorOf_32 (by decide) ?_
        exact ih (uZ (uZ (uZ (uZ Y 139 ((Y a).sign * (Y b).sign * (((Y a).natAbs : Int) / ((Y b).natAbs : Int)))) 140 (((Y a).natAbs : Int) % ((Y b).natAbs : Int))) a ((uZ (uZ Y 139 ((Y a).sign * (Y b).sign * (((Y a).natAbs : Int) / ((Y b).natAbs : Int)))) 140 (((Y a).natAbs : Int) % ((Y b).natAbs : Int))) b)) b ((uZ (uZ (uZ Y 139 ((Y a).sign * (Y b).sign * (((Y a).natAbs : Int) / ((Y b).natAbs : Int)))) 140 (((Y a).natAbs : Int) % ((Y b).natAbs : Int))) a ((uZ (uZ Y 139 ((Y a).sign * (Y b).sign * (((Y a).natAbs : Int) / ((Y b).natAbs : Int)))) 140 (((Y a).natAbs : Int) % ((Y b).natAbs : Int))) b)) 140)) _ _ _ (by rw [uZ_eq, uZ_ne (by omega), uZ_eq]; have h1 := Int.emod_lt_of_pos ((Y a).natAbs : Int) (show (0 : Int) < ((Y b).natAbs : Int) by omega); have h2 := Int.emod_nonneg ((Y a).natAbs : Int) (show ((Y b).natAbs : Int) ≠ 0 by omega); omega) hZ4 (by rw [uZ_eq, uZ_ne (by omega), uZ_eq, uZ_ne (by omega), uZ_ne (by omega), uZ_ne (by omega), uZ_eq]; exact gcd_step.trans hg) (fun c h1 h2 h3 h4 => by rw [uZ_ne h2, uZ_ne h1, uZ_ne h4, uZ_ne h3]; exact hfr c h1 h2 h3 h4) (by rw [uZ_eq, uZ_ne (by omega), uZ_eq]; have h1 := Int.emod_lt_of_pos ((Y a).natAbs : Int) (show (0 : Int) < ((Y b).natAbs : Int) by omega); have h2 := Int.emod_nonneg ((Y a).natAbs : Int) (show ((Y b).natAbs : Int) ≠ 0 by omega); omega)
  exact loop ((Z b).natAbs + 1) Z fL fS fN (by omega) hZ rfl (fun _ _ _ _ _ => rfl) hB
