def mDiv (fL fS fN fD : Nat → Int32) (X : mX) (t : Nat) (z1 z2 : Int) (u : mT) : Prop := ∃ gL gS gN : Nat → Int32, u = (gL, gS, gN, fD, X) ∧ (∀ c k, c ≠ t → c ≠ 140 → k < 640 → gL (640 * c + k) = fL (640 * c + k)) ∧ (∀ c, c ≠ t → c ≠ 140 → gS c = fS c) ∧ (∀ c, c ≠ t → c ≠ 140 → gN c = fN c) ∧ mNum gL gS gN t z1 ∧ mNum gL gS gN 140 z2
theorem or1_num {pL pS pN : Nat → Int32} {R : Int} (h : mNum pL pS pN 140 (2 * R)) (hR : 0 ≤ R) (hz : R = 0 → pL 89600 = 0) : ∃ (n n2 : Nat) (g : Int), pS 140 = iZ n ∧ n ≤ 640 ∧ (n2 = if n = 0 then 1 else n) ∧ pL 89600 = iZ (2 * g) ∧ 0 ≤ g ∧ 2 * g + 1 < 2147483648 ∧ limb (upd pL 89600 (iZ (2 * g + 1))) (640 * 140) n2 ∧ zv (upd pL 89600 (iZ (2 * g + 1))) (640 * 140) n2 = 2 * R + 1 := by
  obtain ⟨n, h1, h2, h3, h4, h5, h6⟩ := h
  have h6' : zv pL (640 * 140) n = 2 * R := by omega
  rcases Nat.eq_zero_or_pos n with q | q
  · subst q
    have hR0 : R = 0 := by simp only [zv] at h6'; omega
    refine ⟨0, 1, 0, h2, h1, rfl, hz hR0, by omega, by omega, fun k hk => ?_, ?_⟩
    · have : k = 0 := by omega
      subst this
      show 0 ≤ (upd pL 89600 (iZ (2 * 0 + 1)) 89600).toInt
      rw [upd_eq]; decide
    · rw [zv_cons]
      show (upd pL 89600 (iZ (2 * 0 + 1)) 89600).toInt + 2147483648 * 0 = _
      rw [upd_eq, hR0]; decide
  · obtain ⟨i, rfl⟩ : ∃ i, n = i + 1 := ⟨n - 1, by omega⟩
    have e := h6'
    rw [zv_cons] at e
    have h7 := h3 0 (by omega)
    have h8 := i32r (pL (640 * 140))
    obtain ⟨g, hg⟩ : ∃ g : Int, (pL (640 * 140)).toInt = 2 * g := ⟨R - 1073741824 * zv pL (640 * 140 + 1) i, by omega⟩
    have h7' : 0 ≤ (pL (640 * 140)).toInt := h7
    refine ⟨i + 1, i + 1, g, h2, h1, by rw [if_neg (by omega)], ?_, by omega, by omega, fun k hk => ?_, ?_⟩
    · show pL (640 * 140) = _
      rw [← hg, iZ_self]
    · by_cases g0 : k = 0
      · subst g0
        show 0 ≤ (upd pL 89600 (iZ (2 * g + 1)) 89600).toInt
        rw [upd_eq, iZ_toInt (by omega) (by omega)]; omega
      · rw [upd_ne (by omega)]; exact h3 k hk
    · have h9 := zv_set (f := pL) (o := 640 * 140) (q := 0) (v := iZ (2 * g + 1)) (n := i + 1) (by omega)
      rw [Nat.add_zero, hg, iZ_toInt (by omega) (by omega), h6'] at h9
      have h10 : zv (upd pL 89600 (iZ (2 * g + 1))) (640 * 140) (i + 1) = zv (upd pL (640 * 140) (iZ (2 * g + 1))) (640 * 140) (i + 1) := rfl
      rw [h10, h9]
      simp only [Nat.mul_zero, Int.pow_zero]; omega
set_option maxHeartbeats 4000000 in
set_option maxRecDepth 100000 in
/-- divide: quotient of the magnitudes into t, the rest into 140 -/
theorem cm_divide (l : Launch) (D : va_G) (Q : Nat → Nat) (G : Nat → ClassId) (fL fS fN fD : Nat → Int32) (X : mX) (t a b : Nat) (x y : Int) (ht : t < 140) (ha : a < 140) (hb : b < 140) (hta : t ≠ a) (htb : t ≠ b) (hx : mNum fL fS fN a x) (hy : mNum fL fS fN b y) (hy0 : y ≠ 0) (hB : (y.natAbs : Int) < 2 ^ (31 * 638)) (sz : Nat) : Met l yX5_divide (wC yX5_divide cX5_divide 5 none) ({ frames := 2, cells := 0, slots := 0, locals := 55 }) (va_Pc [.ref (Q 0), .int (iZ ((t : Int))), .int (iZ ((a : Int))), .int (iZ ((b : Int)))] (mPre D Q G (fL, fS, fN, fD, X) sz)) (va_Qv (fun u : mT => mDiv fL fS fN fD X t (x.sign * y.sign * ((x.natAbs : Int) / (y.natAbs : Int))) ((x.natAbs : Int) % (y.natAbs : Int)) u) (mAt D Q G (mA Q sz)) (mA Q sz)) 0 0 (mA Q sz) := by
  refine m_met (cc := cX5_divide) (maxL := 5) (ret := none) (by decide) rfl rfl (Nat.le_of_ble_eq_true rfl) ?_
  intro p e s m below meth c hsz C hr hlk
  refine w_sub [(0, .ref (Q 0)), (1, .int (iZ ((t : Int)))), (2, .int (iZ ((a : Int)))), (3, .int (iZ ((b : Int))))] [0, 1, 2, 3] rfl ?_
  obtain ⟨na, hna1, hna2, hna3, hna4, hna5, hna6⟩ := id hx
  have hsy := mNum_sgn hy
  have hyp : 0 < (y.natAbs : Int) := by omega
  refine w_aload_n C dX5_divide_0 0 rfl ?_
  refine w_sipush C dX5_divide_1 (by decide) ?_
  refine w_lconst C 0 dX5_divide_4 rfl ?_
  refine m_callv [.int (iZ (140)), .long (lZ (0))] hsz C (fun z => cm_setLong0 l D Q G fL fS fN fD X 140 0 (by omega) (by omega) (by omega) z) (cwV 2 C.1.2.2.2.2 (wC_V kX5_64 nX5_setLong slX5_setLong iniX5 cdX5_setLong) rfl rfl rfl (by decide +kernel) ⟨Nat.le_of_ble_eq_true rfl, Nat.le_of_ble_eq_true rfl⟩) rfl ⟨Nat.zero_le _, Nat.zero_le _⟩ (Nat.le_of_ble_eq_true rfl) dX5_divide_5 [.long (lZ (0)), .int (iZ (140)), .ref (Q 0)] rfl (fun v1 hv1 => ?_)
  obtain ⟨gL, gS, gN, rfl, hF, hN, h0⟩ := hv1
  refine w_iconst C dX5_divide_8 ?_
  refine w_istore C [(4, .int (iZ (0))), (0, .ref (Q 0)), (1, .int (iZ ((t : Int)))), (2, .int (iZ ((a : Int)))), (3, .int (iZ ((b : Int))))] dX5_divide_9 (by decide) rfl ?_
  have zero : ∀ (d : Nat) (k : Nat) (hL : Nat → Int32), na < k + d → k ≤ na → (∀ j : Nat, (j < 640 * t ∨ 640 * t + na ≤ j) → hL j = gL j) → (∀ j : Nat, j < k → hL (640 * t + j) = 0) → ZW p l e ({ frames := 2, cells := 0, slots := 0, locals := 55 }) s m ([.ref (Q 0), .int (iZ ((t : Int))), .int (iZ ((a : Int))), .int (iZ ((b : Int)))] : List Value).toArray below meth c D (mA Q sz) 5 0 0 (MQ below (va_Qv (fun u : mT => mDiv fL fS fN fD X t (x.sign * y.sign * ((x.natAbs : Int) / (y.natAbs : Int))) ((x.natAbs : Int) % (y.natAbs : Int)) u) (mAt D Q G (mA Q sz)) (mA Q sz)) ([.ref (Q 0), .int (iZ ((t : Int))), .int (iZ ((a : Int))), .int (iZ ((b : Int)))] : List Value).toArray s 0 0 (mA Q sz)) (mU Q G (hL, gS, gN, fD, X)) 11 [(4, .int (iZ ((k : Int)))), (0, .ref (Q 0)), (1, .int (iZ ((t : Int)))), (2, .int (iZ ((a : Int)))), (3, .int (iZ ((b : Int))))] [] := by
    intro d
    induction d with
    | zero =>
      intro k hL hd hk ho hz
      exact absurd hd (by omega)
    | succ d ih2 =>
      intro k hL hd hk ho hz
      refine w_iload C dX5_divide_11 0 rfl ?_
      refine w_aload_n C dX5_divide_13 1 rfl ?_
      refine w_get (ci := 5) (ref := "RootIsolatorModel") (T := TX5) (Cn := RX5) (N := 10) C (fun w h => wC_in (inX5 w h)) 0 rfl rfl 2 (by decide) (wC_in fX5_sizes) rfl rfl dX5_divide_14 ?_
      refine w_iload_n C dX5_divide_17 3 rfl ?_
      refine w_iald C 2 0 rfl rfl (a) ((na : Int)) ⟨by omega, by omega, by omega⟩ ((hF.2.1 a (by omega)).trans hna2) dX5_divide_18 ?_
      refine w_icmp_ge C 42 dX5_divide_19 (by decide) ⟨⟨by omega, by omega⟩, by omega, by omega⟩ (fun c19 => ?_) (fun c19 => ?_)
      · refine w_bipush C dX5_divide_42 (by decide) ?_
        refine w_aload_n C dX5_divide_44 1 rfl ?_
        refine w_get (ci := 5) (ref := "RootIsolatorModel") (T := TX5) (Cn := RX5) (N := 10) C (fun w h => wC_in (inX5 w h)) 0 rfl rfl 2 (by decide) (wC_in fX5_sizes) rfl rfl dX5_divide_45 ?_
        refine w_iload_n C dX5_divide_48 3 rfl ?_
        refine w_iald C 2 0 rfl rfl (a) ((na : Int)) ⟨by omega, by omega, by omega⟩ ((hF.2.1 a (by omega)).trans hna2) dX5_divide_49 ?_
        refine w_imul C dX5_divide_50 ?_
        refine w_iconst C dX5_divide_51 ?_
        have hz : ∀ j : Nat, j < na → hL (640 * t + j) = 0 := fun j hj => hz j (by omega)
        refine w_isub C dX5_divide_52 ?_
        refine w_top C (((31 * na : Nat) : Int) - 1) (by omega) ?_
        refine w_istore C [(4, .int (iZ (((31 * na : Nat) : Int) - 1))), (0, .ref (Q 0)), (1, .int (iZ ((t : Int)))), (2, .int (iZ ((a : Int)))), (3, .int (iZ ((b : Int))))] dX5_divide_53 (by decide) rfl ?_
        have mainl : ∀ (d : Nat) (j : Nat) (R : Int) (q : Int) (kL : Nat → Int32) (kS : Nat → Int32) (kN : Nat → Int32), j < d → j ≤ 31 * na → (∀ c k : Nat, c ≠ t → c ≠ 140 → k < 640 → kL (640 * c + k) = fL (640 * c + k)) → (∀ c : Nat, c ≠ 140 → kS c = fS c) → (∀ c : Nat, c ≠ 140 → kN c = fN c) → mNum kL kS kN 140 R → 0 ≤ R ∧ R < (y.natAbs : Int) → (R = 0 → kL (640 * 140) = 0) → limb kL (640 * t) na → zv kL (640 * t) na = q * 2 ^ j → (x.natAbs : Int) / 2 ^ j = q * (y.natAbs : Int) + R → ZW p l e ({ frames := 2, cells := 0, slots := 0, locals := 55 }) s m ([.ref (Q 0), .int (iZ ((t : Int))), .int (iZ ((a : Int))), .int (iZ ((b : Int)))] : List Value).toArray below meth c D (mA Q sz) 5 0 0 (MQ below (va_Qv (fun u : mT => mDiv fL fS fN fD X t (x.sign * y.sign * ((x.natAbs : Int) / (y.natAbs : Int))) ((x.natAbs : Int) % (y.natAbs : Int)) u) (mAt D Q G (mA Q sz)) (mA Q sz)) ([.ref (Q 0), .int (iZ ((t : Int))), .int (iZ ((a : Int))), .int (iZ ((b : Int)))] : List Value).toArray s 0 0 (mA Q sz)) (mU Q G (kL, kS, kN, fD, X)) 55 [(4, .int (iZ ((j : Int) - 1))), (0, .ref (Q 0)), (1, .int (iZ ((t : Int)))), (2, .int (iZ ((a : Int)))), (3, .int (iZ ((b : Int))))] [] := by
          intro d
          induction d with
          | zero =>
            intro j R q kL kS kN hd hj hfr hfs hfn hR hR0 hRz hlt hv hdiv
            exact absurd hd (by omega)
          | succ d ih3 =>
            intro j R q kL kS kN hd hj hfr hfs hfn hR hR0 hRz hlt hv hdiv
            refine w_iload C dX5_divide_55 0 rfl ?_
            refine w_if_lt C 186 dX5_divide_57 (by decide) ⟨by omega, by omega⟩ (fun c57 => ?_) (fun c57 => ?_)
            · have hj0 : j = 0 := by omega
              subst hj0
              rw [Int.pow_zero, Int.ediv_one] at hdiv
              rw [Int.pow_zero, Int.mul_one] at hv
              have hqd : q = (x.natAbs : Int) / (y.natAbs : Int) ∧ R = (x.natAbs : Int) % (y.natAbs : Int) := (Int.ediv_emod_unique hyp).2 ⟨by rw [hdiv, Int.mul_comm]; omega, hR0.1, hR0.2⟩ |> fun h => ⟨h.1.symm, h.2.symm⟩
              refine w_aload_n C dX5_divide_186 1 rfl ?_
              refine w_iload_n C dX5_divide_187 2 rfl ?_
              refine w_aload_n C dX5_divide_188 1 rfl ?_
              refine w_get (ci := 5) (ref := "RootIsolatorModel") (T := TX5) (Cn := RX5) (N := 10) C (fun w h => wC_in (inX5 w h)) 0 rfl rfl 2 (by decide) (wC_in fX5_sizes) rfl rfl dX5_divide_189 ?_
              refine w_iload_n C dX5_divide_192 3 rfl ?_
              refine w_iald C 2 0 rfl rfl (a) ((na : Int)) ⟨by omega, by omega, by omega⟩ ((hfs a (by omega)).trans hna2) dX5_divide_193 ?_
              refine w_aload_n C dX5_divide_194 1 rfl ?_
              refine w_get (ci := 5) (ref := "RootIsolatorModel") (T := TX5) (Cn := RX5) (N := 10) C (fun w h => wC_in (inX5 w h)) 0 rfl rfl 3 (by decide) (wC_in fX5_signs) rfl rfl dX5_divide_195 ?_
              refine w_iload_n C dX5_divide_198 3 rfl ?_
              refine w_iald C 3 0 rfl rfl (a) (x.sign) ⟨by omega, by omega, by omega⟩ ((hfn a (by omega)).trans hna5) dX5_divide_199 ?_
              refine w_aload_n C dX5_divide_200 1 rfl ?_
              refine w_get (ci := 5) (ref := "RootIsolatorModel") (T := TX5) (Cn := RX5) (N := 10) C (fun w h => wC_in (inX5 w h)) 0 rfl rfl 3 (by decide) (wC_in fX5_signs) rfl rfl dX5_divide_201 ?_
              refine w_iload_n C dX5_divide_204 4 rfl ?_
              refine w_iald C 3 0 rfl rfl (b) (y.sign) ⟨by omega, by omega, by omega⟩ ((hfn b (by omega)).trans hsy) dX5_divide_205 ?_
              refine w_imul C dX5_divide_206 ?_
              refine m_callv [.int (iZ ((t : Int))), .int (iZ ((na : Int))), .int (iZ (x.sign * y.sign))] hsz C (fun z => cm_trim l D Q G kL kS kN fD X t na (x.sign * y.sign) (by omega) hna1 z) (cwV 3 C.1.2.2.2.2 (wC_V kX5_45 nX5_trim slX5_trim iniX5 cdX5_trim) rfl rfl rfl (by decide +kernel) ⟨Nat.le_of_ble_eq_true rfl, Nat.le_of_ble_eq_true rfl⟩) rfl ⟨Nat.zero_le _, Nat.zero_le _⟩ (Nat.le_of_ble_eq_true rfl) dX5_divide_207 [.int (iZ (x.sign * y.sign)), .int (iZ ((na : Int))), .int (iZ ((t : Int))), .ref (Q 0)] rfl (fun v202 hv202 => ?_)
              obtain ⟨jj, hj1, hj2, hj3, rfl⟩ := hv202
              have hq := trim_num (gS := upd kS t (iZ (jj : Int))) (gN := upd kN t (iZ (if jj = 0 then 0 else x.sign * y.sign))) hna1 hlt hj1 hj2 hj3 upd_eq upd_eq (by
                rcases sgn_cases x with ⟨h1, h2⟩ | ⟨h1, h2⟩ | ⟨h1, h2⟩ <;> rcases sgn_cases y with ⟨h3, h4⟩ | ⟨h3, h4⟩ | ⟨h3, h4⟩ <;> rw [h2, h4] <;> first | exact absurd h3 hy0 | (left; rfl) | (right; left; rfl) | (right; right; refine ⟨rfl, ?_⟩; rw [hv, hqd.1, h1]; simp))
              rw [hv, hqd.1] at hq
              exact m_vret hsz C hr hlk (⟨_, _, _, rfl, hfr, fun c h1 h2 => by rw [upd_ne h1]; exact hfs c h2, fun c h1 h2 => by rw [upd_ne h1]; exact hfn c h2, hq, mNum_congr (hqd.2 ▸ hR) (fun k hk => rfl) (upd_ne (by omega)) (upd_ne (by omega))⟩) dX5_divide_210
            · obtain ⟨i, rfl⟩ : ∃ i, j = i + 1 := ⟨j - 1, by omega⟩
              refine w_aload_n C dX5_divide_60 1 rfl ?_
              refine w_sipush C dX5_divide_61 (by decide) ?_
              refine w_iconst C dX5_divide_64 ?_
              refine m_callv [.int (iZ (140)), .int (iZ (1))] hsz C (fun z => cm_up0 l D Q G kL kS kN fD X 140 1 638 R (by omega) hR (by omega) (by omega) z) (cwV 2 C.1.2.2.2.2 (wC_V kX5_68 nX5_up slX5_up iniX5 cdX5_up) rfl rfl rfl (by decide +kernel) ⟨Nat.le_of_ble_eq_true rfl, Nat.le_of_ble_eq_true rfl⟩) rfl ⟨Nat.zero_le _, Nat.zero_le _⟩ (Nat.le_of_ble_eq_true rfl) dX5_divide_65 [.int (iZ (1)), .int (iZ (140)), .ref (Q 0)] rfl (fun v203 hv203 => ?_)
              obtain ⟨pL, pS, pN, rfl, hF2, hN2, h02⟩ := hv203
              have hR2 : mNum pL pS pN 140 (2 * R) := by rw [show 2 * R = R * 2 ^ 1 by omega]; exact hN2
              have hpz : R = 0 → pL 89600 = 0 := fun g => (h02 (by rw [g]; rfl)).trans (hRz g)
              have hla : limb pL (640 * a) na := fun k hk => by rw [hF2.1 a k (by omega) (by omega), hfr a k (fun g => hta g.symm) (by omega) (by omega)]; exact hna3 k hk
              have hxa : zv pL (640 * a) na = (x.natAbs : Int) := by rw [hna6]; exact zv_congr (fun k hk => by rw [hF2.1 a k (by omega) (by omega), hfr a k (fun g => hta g.symm) (by omega) (by omega)])
              obtain ⟨bt, hbt⟩ : ∃ b : Int, b = (x.natAbs : Int) / 2 ^ i % 2 := ⟨_, rfl⟩
              have hbt2 : bt = 0 ∨ bt = 1 := by omega
              refine w_aload_n C dX5_divide_68 1 rfl ?_
              refine w_iload_n C dX5_divide_69 3 rfl ?_
              refine w_iload C dX5_divide_70 0 rfl ?_
              refine w_top C ((i : Int)) (by omega) ?_
              refine m_calli [.int (iZ ((a : Int))), .int (iZ ((i : Int)))] hsz C (fun z => cm_bit l D Q G pL pS pN fD X a i na (by omega) hna1 hla (by omega) z) (cwV 2 C.1.2.2.2.2 (wC_V kX5_71 nX5_bit slX5_bit iniX5 cdX5_bit) rfl rfl rfl (by decide +kernel) ⟨Nat.le_of_ble_eq_true rfl, Nat.le_of_ble_eq_true rfl⟩) rfl ⟨Nat.zero_le _, Nat.zero_le _⟩ (Nat.le_of_ble_eq_true rfl) dX5_divide_72 [.int (iZ ((i : Int))), .int (iZ ((a : Int))), .ref (Q 0)] rfl (fun r v204 hv204 => ?_)
              obtain ⟨rfl, rfl⟩ := hv204
              refine w_top C (bt) (by rw [hxa, hbt]) ?_
              have hdi : (x.natAbs : Int) / 2 ^ i = 2 * q * (y.natAbs : Int) + (2 * R + bt) := by
                have e1 : (x.natAbs : Int) / 2 ^ (i + 1) = (x.natAbs : Int) / 2 ^ i / 2 := by rw [Int.pow_succ, Int.ediv_ediv_of_nonneg (Int.le_of_lt (i2pos i))]
                rw [e1] at hdiv
                rw [Int.mul_assoc]
                omega
              have beh : ∀ (wL : Nat → Int32) (wS : Nat → Int32) (wN : Nat → Int32) (R1 : Int), (∀ c k : Nat, c ≠ 140 → k < 640 → wL (640 * c + k) = kL (640 * c + k)) → (∀ c : Nat, c ≠ 140 → wS c = kS c) → (∀ c : Nat, c ≠ 140 → wN c = kN c) → mNum wL wS wN 140 R1 → R1 = 2 * R + bt → (R1 = 0 → wL (640 * 140) = 0) → ZW p l e ({ frames := 2, cells := 0, slots := 0, locals := 55 }) s m ([.ref (Q 0), .int (iZ ((t : Int))), .int (iZ ((a : Int))), .int (iZ ((b : Int)))] : List Value).toArray below meth c D (mA Q sz) 5 0 0 (MQ below (va_Qv (fun u : mT => mDiv fL fS fN fD X t (x.sign * y.sign * ((x.natAbs : Int) / (y.natAbs : Int))) ((x.natAbs : Int) % (y.natAbs : Int)) u) (mAt D Q G (mA Q sz)) (mA Q sz)) ([.ref (Q 0), .int (iZ ((t : Int))), .int (iZ ((a : Int))), .int (iZ ((b : Int)))] : List Value).toArray s 0 0 (mA Q sz)) (mU Q G (wL, wS, wN, fD, X)) 120 [(4, .int (iZ (((i + 1 : Nat) : Int) - 1))), (0, .ref (Q 0)), (1, .int (iZ ((t : Int)))), (2, .int (iZ ((a : Int)))), (3, .int (iZ ((b : Int))))] [] := by
                intro wL wS wN R1 hwfr hws hwn hR1 hR1v hR1z
                rw [← hR1v] at hdi
                obtain ⟨n1, hn1, hn2, hn3, hn4, hn5, hn6⟩ := id hR1
                have hyw : mNum wL wS wN b y := mNum_congr hy (fun k hk => (hwfr b k (by omega) hk).trans (hfr b k (fun g => htb g.symm) (by omega) hk)) ((hws b (by omega)).trans (hfs b (by omega))) ((hwn b (by omega)).trans (hfn b (by omega)))
                refine w_aload_n C dX5_divide_120 1 rfl ?_
                refine w_get (ci := 5) (ref := "RootIsolatorModel") (T := TX5) (Cn := RX5) (N := 10) C (fun w h => wC_in (inX5 w h)) 0 rfl rfl 2 (by decide) (wC_in fX5_sizes) rfl rfl dX5_divide_121 ?_
                refine w_sipush C dX5_divide_124 (by decide) ?_
                refine w_iald C 2 0 rfl rfl (140) ((n1 : Int)) ⟨by omega, by omega, by omega⟩ (hn2) dX5_divide_127 ?_
                refine w_if_le C 180 dX5_divide_128 (by decide) ⟨by omega, by omega⟩ (fun c128 => ?_) (fun c128 => ?_)
                · have hRlt : R1 < (y.natAbs : Int) := by first | (have h1 := zcmp_lt.1 c139; omega) | (obtain rfl : n1 = 0 := (by omega); simp only [zv] at hn6; omega)
                  refine w_iinc C ((i : Int) - 1) (by omega) [(4, .int (iZ ((i : Int) - 1))), (0, .ref (Q 0)), (1, .int (iZ ((t : Int)))), (2, .int (iZ ((a : Int)))), (3, .int (iZ ((b : Int))))] dX5_divide_180 0 rfl (by decide) rfl ?_
                  refine w_goto C 55 dX5_divide_183 (by decide) ?_
                  exact ih3 i R1 (2 * q) wL wS wN (by omega) (by omega) (fun c k h1 h2 h3 => (hwfr c k h2 h3).trans (hfr c k h1 h2 h3)) (fun c h => (hws c h).trans (hfs c h)) (fun c h => (hwn c h).trans (hfn c h)) hR1 ⟨by omega, by omega⟩ hR1z (fun k hk => by rw [hwfr t k (by omega) (by omega)]; exact hlt k hk) (by
                    rw [show zv wL (640 * t) na = zv kL (640 * t) na from zv_congr (fun k hk => hwfr t k (by omega) (by omega)), hv, Int.pow_succ, Int.mul_comm (2 ^ i) 2, ← Int.mul_assoc, Int.mul_comm q 2]) hdi
                · refine w_aload_n C dX5_divide_131 1 rfl ?_
                  refine w_sipush C dX5_divide_132 (by decide) ?_
                  refine w_iload_n C dX5_divide_135 4 rfl ?_
                  refine m_calli [.int (iZ (140)), .int (iZ ((b : Int)))] hsz C (fun z => cm_compareSizes l D Q G wL wS wN fD X 140 b R1 y (by omega) (by omega) hR1 hyw z) (cwV 2 C.1.2.2.2.2 (wC_V kX5_57 nX5_compareSizes slX5_compareSizes iniX5 cdX5_compareSizes) rfl rfl rfl (by decide +kernel) ⟨Nat.le_of_ble_eq_true rfl, Nat.le_of_ble_eq_true rfl⟩) rfl ⟨Nat.zero_le _, Nat.zero_le _⟩ (Nat.le_of_ble_eq_true rfl) dX5_divide_136 [.int (iZ ((b : Int))), .int (iZ (140)), .ref (Q 0)] rfl (fun r v305 hv305 => ?_)
                  obtain ⟨rfl, rfl⟩ := hv305
                  refine w_if_lt C 180 dX5_divide_139 (by decide) (zcmp_r _ _) (fun c139 => ?_) (fun c139 => ?_)
                  · have hRlt : R1 < (y.natAbs : Int) := by first | (have h1 := zcmp_lt.1 c139; omega) | (obtain rfl : n1 = 0 := (by omega); simp only [zv] at hn6; omega)
                    refine w_iinc C ((i : Int) - 1) (by omega) [(4, .int (iZ ((i : Int) - 1))), (0, .ref (Q 0)), (1, .int (iZ ((t : Int)))), (2, .int (iZ ((a : Int)))), (3, .int (iZ ((b : Int))))] dX5_divide_180 0 rfl (by decide) rfl ?_
                    refine w_goto C 55 dX5_divide_183 (by decide) ?_
                    exact ih3 i R1 (2 * q) wL wS wN (by omega) (by omega) (fun c k h1 h2 h3 => (hwfr c k h2 h3).trans (hfr c k h1 h2 h3)) (fun c h => (hws c h).trans (hfs c h)) (fun c h => (hwn c h).trans (hfn c h)) hR1 ⟨by omega, by omega⟩ hR1z (fun k hk => by rw [hwfr t k (by omega) (by omega)]; exact hlt k hk) (by
                      rw [show zv wL (640 * t) na = zv kL (640 * t) na from zv_congr (fun k hk => hwfr t k (by omega) (by omega)), hv, Int.pow_succ, Int.mul_comm (2 ^ i) 2, ← Int.mul_assoc, Int.mul_comm q 2]) hdi
                  · have hge : (y.natAbs : Int) ≤ (R1.natAbs : Int) := zcmp_ge.1 (by omega)
                    refine w_aload_n C dX5_divide_142 1 rfl ?_
                    refine w_sipush C dX5_divide_143 (by decide) ?_
                    refine w_sipush C dX5_divide_146 (by decide) ?_
                    refine w_iload_n C dX5_divide_149 4 rfl ?_
                    refine w_iconst C dX5_divide_150 ?_
                    refine m_callv [.int (iZ (140)), .int (iZ (140)), .int (iZ ((b : Int))), .int (iZ (1))] hsz C (fun z => cm_lessSizes0 l D Q G wL wS wN fD X 140 140 b 1 R1 y (by omega) (by omega) (by omega) hR1 hyw hge (Or.inl rfl) z) (cwV 4 C.1.2.2.2.2 (wC_V kX5_61 nX5_lessSizes slX5_lessSizes iniX5 cdX5_lessSizes) rfl rfl rfl (by decide +kernel) ⟨Nat.le_of_ble_eq_true rfl, Nat.le_of_ble_eq_true rfl⟩) rfl ⟨Nat.zero_le _, Nat.zero_le _⟩ (Nat.le_of_ble_eq_true rfl) dX5_divide_151 [.int (iZ (1)), .int (iZ ((b : Int))), .int (iZ (140)), .int (iZ (140)), .ref (Q 0)] rfl (fun v306 hv306 => ?_)
                    obtain ⟨zL, zS, zN, rfl, hF4, hN4, h04⟩ := hv306
                    have hlt4 : limb zL (640 * t) na := fun k hk => by rw [hF4.1 t k (by omega) (by omega), hwfr t k (by omega) (by omega)]; exact hlt k hk
                    have hv4 : zv zL (640 * t) na = q * 2 ^ (i + 1) := by rw [← hv]; exact zv_congr (fun k hk => by rw [hF4.1 t k (by omega) (by omega), hwfr t k (by omega) (by omega)])
                    have hsb := setbit hlt4 (by omega) hv4
                    have hg0 := hlt4 (i / 31) (by omega)
                    have hg1 := i32r (zL (640 * t + i / 31))
                    have hbr := bit_room (by omega) hg0 hg1.2 hsb
                    have hpr := i2pos (i % 31)
                    have hpl := pow_le31 (show i % 31 ≤ 31 by omega)
                    refine w_aload_n C dX5_divide_154 1 rfl ?_
                    refine w_get (ci := 5) (ref := "RootIsolatorModel") (T := TX5) (Cn := RX5) (N := 10) C (fun w h => wC_in (inX5 w h)) 0 rfl rfl 1 (by decide) (wC_in fX5_limbs) rfl rfl dX5_divide_155 ?_
                    refine w_sipush C dX5_divide_158 (by decide) ?_
                    refine w_iload_n C dX5_divide_161 2 rfl ?_
                    refine w_imul C dX5_divide_162 ?_
                    refine w_iload C dX5_divide_163 0 rfl ?_
                    refine w_top C ((i : Int)) (by omega) ?_
                    refine w_bipush C dX5_divide_165 (by decide) ?_
                    refine w_idiv C dX5_divide_167 (by decide) (v := (iZ (((i / 31 : Nat) : Int)))) (iZ_divN i 31 (by omega) (by omega) (by omega)) ?_
                    refine w_iadd C dX5_divide_168 ?_
                    refine w_dup2 C dX5_divide_169 rfl rfl ?_
                    refine w_iald C 1 0 rfl rfl (640 * t + i / 31) ((zL (640 * t + i / 31)).toInt) ⟨by omega, by omega, by omega⟩ ((iZ_self _).symm) dX5_divide_170 ?_
                    refine w_iconst C dX5_divide_171 ?_
                    refine w_iload C dX5_divide_172 0 rfl ?_
                    refine w_top C ((i : Int)) (by omega) ?_
                    refine w_bipush C dX5_divide_174 (by decide) ?_
                    refine w_irem C dX5_divide_176 (by decide) (v := (iZ (((i % 31 : Nat) : Int)))) (iZ_remN i 31 (by omega) (by omega) (by omega)) ?_
                    refine w_ishl C dX5_divide_177 (v := (iZ (2 ^ (i % 31)))) (iZ_shl1 (i % 31) (by omega)) ?_
                    refine w_ior C dX5_divide_178 (v := (iZ ((zL (640 * t + i / 31)).toInt + 2 ^ (i % 31)))) (iZ_or_add hg0 (by omega) hsb (by omega) (by rw [Int.pow_succ]; omega) (by omega)) ?_
                    refine w_iast C (mU Q G ((upd zL (640 * t + i / 31) (iZ ((zL (640 * t + i / 31)).toInt + 2 ^ (i % 31)))), zS, zN, fD, X)) 1 0 rfl rfl (640 * t + i / 31) ⟨by omega, by omega, by omega⟩ rfl dX5_divide_179 ?_
                    refine w_iinc C ((i : Int) - 1) (by omega) [(4, .int (iZ ((i : Int) - 1))), (0, .ref (Q 0)), (1, .int (iZ ((t : Int)))), (2, .int (iZ ((a : Int)))), (3, .int (iZ ((b : Int))))] dX5_divide_180 0 rfl (by decide) rfl ?_
                    refine w_goto C 55 dX5_divide_183 (by decide) ?_
                    exact ih3 i (R1 - (y.natAbs : Int)) (2 * q + 1) _ zS zN (by omega) (by omega) (fun c k h1 h2 h3 => by
                      rw [upd_ne (by omega), hF4.1 c k h2 h3]; exact (hwfr c k h2 h3).trans (hfr c k h1 h2 h3)) (fun c h => (hF4.2.1 c h).trans ((hws c h).trans (hfs c h))) (fun c h => (hF4.2.2 c h).trans ((hwn c h).trans (hfn c h))) (mNum_congr (by rw [show R1 - (y.natAbs : Int) = 1 * ((R1.natAbs : Int) - (y.natAbs : Int)) by omega]; exact hN4) (fun k hk => by rw [upd_ne (by omega)]) rfl rfl) ⟨by omega, by omega⟩ (fun g => by
                      rw [upd_ne (by omega)]; exact h04 (by omega) (by omega)) (fun k hk => by
                      by_cases g : k = i / 31
                      · subst g; rw [upd_eq, iZ_toInt (by omega) (by omega)]; omega
                      · rw [upd_ne (by omega)]; exact hlt4 k hk) (by
                      rw [zv_set (by omega), hv4, iZ_toInt (by omega) (by omega), show (zL (640 * t + i / 31)).toInt + 2 ^ (i % 31) - (zL (640 * t + i / 31)).toInt = 2 ^ (i % 31) by omega, ← Int.pow_add, show i % 31 + 31 * (i / 31) = i by omega, Int.pow_succ, Int.mul_comm (2 ^ i) 2, ← Int.mul_assoc, Int.mul_comm q 2, Int.add_mul, Int.one_mul]) (by
                      rw [hdi, Int.add_mul, Int.one_mul]; omega)
              refine w_if_eq C 120 dX5_divide_75 (by decide) ⟨by omega, by omega⟩ (fun c75 => ?_) (fun c75 => ?_)
              · exact beh _ _ _ (2 * R) (fun c k h1 h2 => hF2.1 c k h1 h2) hF2.2.1 hF2.2.2 hR2 (by omega) (fun g => hpz (by omega))
              · obtain ⟨n, n2, g, hg1, hg2, hg3, hg4, hg5, hg6, hg7, hg8⟩ := or1_num hR2 hR0.1 hpz
                have hbt1 : bt = 1 := by omega
                refine w_aload_n C dX5_divide_78 1 rfl ?_
                refine w_get (ci := 5) (ref := "RootIsolatorModel") (T := TX5) (Cn := RX5) (N := 10) C (fun w h => wC_in (inX5 w h)) 0 rfl rfl 1 (by decide) (wC_in fX5_limbs) rfl rfl dX5_divide_79 ?_
                refine w_ldc C (89600) dX5_divide_82 (wC_in kcX5_75) ?_
                refine w_dup2 C dX5_divide_84 rfl rfl ?_
                refine w_iald C 1 0 rfl rfl (89600) (2 * g) ⟨by omega, by omega, by omega⟩ (hg4) dX5_divide_85 ?_
                refine w_iconst C dX5_divide_86 ?_
                refine w_ior C dX5_divide_87 (v := (iZ (2 * g + 1))) (iZ_or_add (k := 1) (by omega) (by omega) (Int.dvd_mul_right _ _) (by omega) (by decide) (by omega)) ?_
                refine w_iast C (mU Q G ((upd pL (89600) (iZ (2 * g + 1))), pS, pN, fD, X)) 1 0 rfl rfl (89600) ⟨by omega, by omega, by omega⟩ rfl dX5_divide_88 ?_
                refine w_aload_n C dX5_divide_89 1 rfl ?_
                refine w_sipush C dX5_divide_90 (by decide) ?_
                refine w_aload_n C dX5_divide_93 1 rfl ?_
                refine w_get (ci := 5) (ref := "RootIsolatorModel") (T := TX5) (Cn := RX5) (N := 10) C (fun w h => wC_in (inX5 w h)) 0 rfl rfl 2 (by decide) (wC_in fX5_sizes) rfl rfl dX5_divide_94 ?_
                refine w_sipush C dX5_divide_97 (by decide) ?_
                refine w_iald C 2 0 rfl rfl (140) ((n : Int)) ⟨by omega, by omega, by omega⟩ (hg1) dX5_divide_100 ?_
                have J407 : ZW p l e ({ frames := 2, cells := 0, slots := 0, locals := 55 }) s m ([.ref (Q 0), .int (iZ ((t : Int))), .int (iZ ((a : Int))), .int (iZ ((b : Int)))] : List Value).toArray below meth c D (mA Q sz) 5 0 0 (MQ below (va_Qv (fun u : mT => mDiv fL fS fN fD X t (x.sign * y.sign * ((x.natAbs : Int) / (y.natAbs : Int))) ((x.natAbs : Int) % (y.natAbs : Int)) u) (mAt D Q G (mA Q sz)) (mA Q sz)) ([.ref (Q 0), .int (iZ ((t : Int))), .int (iZ ((a : Int))), .int (iZ ((b : Int)))] : List Value).toArray s 0 0 (mA Q sz)) (mU Q G ((upd pL (89600) (iZ (2 * g + 1))), pS, pN, fD, X)) 116 [(4, .int (iZ (((i + 1 : Nat) : Int) - 1))), (0, .ref (Q 0)), (1, .int (iZ ((t : Int)))), (2, .int (iZ ((a : Int)))), (3, .int (iZ ((b : Int))))] [.int (iZ ((n2 : Int))), .int (iZ (140)), .ref (Q 0)] := by
                  refine w_iconst C dX5_divide_116 ?_
                  refine m_callv [.int (iZ (140)), .int (iZ ((n2 : Int))), .int (iZ (1))] hsz C (fun z => cm_trim l D Q G (upd pL (89600) (iZ (2 * g + 1))) pS pN fD X 140 n2 1 (by omega) (by split at hg3 <;> omega) z) (cwV 3 C.1.2.2.2.2 (wC_V kX5_45 nX5_trim slX5_trim iniX5 cdX5_trim) rfl rfl rfl (by decide +kernel) ⟨Nat.le_of_ble_eq_true rfl, Nat.le_of_ble_eq_true rfl⟩) rfl ⟨Nat.zero_le _, Nat.zero_le _⟩ (Nat.le_of_ble_eq_true rfl) dX5_divide_117 [.int (iZ (1)), .int (iZ ((n2 : Int))), .int (iZ (140)), .ref (Q 0)] rfl (fun v408 hv408 => ?_)
                  obtain ⟨jj, hj1, hj2, hj3, rfl⟩ := hv408
                  have hq := trim_num (gS := upd pS 140 (iZ (jj : Int))) (gN := upd pN 140 (iZ (if jj = 0 then 0 else 1))) (by split at hg3 <;> omega) hg7 hj1 hj2 hj3 upd_eq upd_eq (Or.inl rfl)
                  rw [hg8, Int.one_mul] at hq
                  exact beh _ _ _ (2 * R + 1) (fun c k h1 h2 => by rw [upd_ne (by omega)]; exact hF2.1 c k h1 h2) (fun c h => by rw [upd_ne h]; exact hF2.2.1 c h) (fun c h => by rw [upd_ne h]; exact hF2.2.2 c h) hq (by omega) (fun g => by omega)
                refine w_if_ne C 108 dX5_divide_101 (by decide) ⟨by omega, by omega⟩ (fun c101 => ?_) (fun c101 => ?_)
                · refine w_aload_n C dX5_divide_108 1 rfl ?_
                  refine w_get (ci := 5) (ref := "RootIsolatorModel") (T := TX5) (Cn := RX5) (N := 10) C (fun w h => wC_in (inX5 w h)) 0 rfl rfl 2 (by decide) (wC_in fX5_sizes) rfl rfl dX5_divide_109 ?_
                  refine w_sipush C dX5_divide_112 (by decide) ?_
                  refine w_iald C 2 0 rfl rfl (140) ((n : Int)) ⟨by omega, by omega, by omega⟩ (hg1) dX5_divide_115 ?_
                  refine w_top C ((n2 : Int)) (by rw [if_neg (by omega)] at hg3; omega) ?_
                  exact J407
                · refine w_iconst C dX5_divide_104 ?_
                  refine w_goto C 116 dX5_divide_105 (by decide) ?_
                  refine w_top C ((n2 : Int)) (by rw [if_pos (by omega)] at hg3; omega) ?_
                  exact J407
        exact mainl (31 * na + 1) (31 * na) 0 0 hL gS gN (by omega) (by omega) (fun c k h1 h2 h3 => (ho _ (by omega)).trans (hF.1 c k h2 h3)) hF.2.1 hF.2.2 (mNum_congr hN (fun k hk => ho _ (by omega)) rfl rfl) ⟨by omega, by omega⟩ (fun _ => (ho _ (by omega)).trans (h0 rfl)) (fun k hk => by rw [hz k hk]; decide) (by rw [zv_zero (j := 0) (Nat.zero_le _) (fun k _ h2 => hz k h2)]; simp [zv]) (by rw [hna6, Int.ediv_eq_zero_of_lt (zv_nonneg hna3) (zv_lt hna3)]; simp)
      · refine w_aload_n C dX5_divide_22 1 rfl ?_
        refine w_get (ci := 5) (ref := "RootIsolatorModel") (T := TX5) (Cn := RX5) (N := 10) C (fun w h => wC_in (inX5 w h)) 0 rfl rfl 1 (by decide) (wC_in fX5_limbs) rfl rfl dX5_divide_23 ?_
        refine w_sipush C dX5_divide_26 (by decide) ?_
        refine w_iload_n C dX5_divide_29 2 rfl ?_
        refine w_imul C dX5_divide_30 ?_
        refine w_iload C dX5_divide_31 0 rfl ?_
        refine w_iadd C dX5_divide_33 ?_
        refine w_iconst C dX5_divide_34 ?_
        refine w_iast C (mU Q G ((upd hL (640 * t + k) (iZ (0))), gS, gN, fD, X)) 1 0 rfl rfl (640 * t + k) ⟨by omega, by omega, by omega⟩ rfl dX5_divide_35 ?_
        refine w_iinc C (((k + 1 : Nat) : Int)) (by omega) [(4, .int (iZ (((k + 1 : Nat) : Int)))), (0, .ref (Q 0)), (1, .int (iZ ((t : Int)))), (2, .int (iZ ((a : Int)))), (3, .int (iZ ((b : Int))))] dX5_divide_36 0 rfl (by decide) rfl ?_
        refine w_goto C 11 dX5_divide_39 (by decide) ?_
        exact ih2 (k + 1) _ (by omega) (by omega) (fun j hj => by rw [upd_ne (by omega)]; exact ho j hj) (fun j hj => by
          rcases Nat.lt_or_ge j k with g | g
          · rw [upd_ne (by omega)]; exact hz j g
          · have : j = k := by omega
            subst this; rw [upd_eq]; rfl)
  exact zero (na + 1) 0 gL (by omega) (by omega) (fun _ _ => rfl) (fun j hj => absurd hj (by omega))
