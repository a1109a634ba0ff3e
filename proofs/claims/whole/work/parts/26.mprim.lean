/-- the greatest common divisor of the first k numbers -/
def gN (c : Nat → Int) : Nat → Nat
  | 0 => 0
  | k + 1 => Int.gcd (c k) (gN c k)
theorem gN_le {c : Nat → Int} {B : Int} {N : Nat} (hB : ∀ k, k < N → ((c k).natAbs : Int) < B) (h0 : 0 < B) : ∀ k : Nat, k ≤ N → ((gN c k : Nat) : Int) < B
  | 0, _ => h0
  | k + 1, hk => by
    have h1 := gN_le hB h0 k (by omega)
    have h2 := hB k (by omega)
    simp only [gN]
    by_cases q : c k = 0
    · rw [q]; simp; exact h1
    · have h3 : Int.gcd (c k) (gN c k) ≤ (c k).natAbs := Nat.le_of_dvd (by omega) (Nat.gcd_dvd_left _ _)
      omega
theorem gN_dvd {c : Nat → Int} : ∀ {k i : Nat}, i < k → ((gN c k : Nat) : Int) ∣ c i
  | 0, i, h => absurd h (by omega)
  | k + 1, i, h => by
    simp only [gN]
    rcases Nat.lt_or_ge i k with q | q
    · exact Int.dvd_trans (Int.natCast_dvd_natCast.2 (Nat.gcd_dvd_right _ _ : Nat.gcd (c k).natAbs ((gN c k : Nat) : Int).natAbs ∣ gN c k)) (gN_dvd q)
    · have : i = k := by omega
      subst this
      exact Int.gcd_dvd_left _ _
theorem gN_pos {c : Nat → Int} {k i : Nat} (h : i < k) (hc : c i ≠ 0) : 0 < gN c k := by
  rcases Nat.eq_zero_or_pos (gN c k) with q | q
  · have h1 := gN_dvd (c := c) h
    rw [q] at h1
    exact absurd (Int.zero_dvd.1 h1) hc
  · exact q
theorem gN_congr {c e : Nat → Int} : ∀ {n : Nat}, (∀ k, k < n → c k = e k) → gN c n = gN e n
  | 0, _ => rfl
  | n + 1, h => by simp only [gN]; rw [gN_congr (fun k hk => h k (by omega)), h n (by omega)]
theorem exact_q {x g : Int} (hg : 0 < g) (hd : g ∣ x) : g * (x.sign * g.sign * ((x.natAbs : Int) / (g.natAbs : Int))) = x := by
  obtain ⟨q, rfl⟩ := hd
  rw [Int.sign_eq_one_of_pos hg, Int.mul_one, Int.natAbs_mul, Int.natCast_mul, Int.mul_ediv_cancel_left _ (by omega), Int.sign_mul, Int.sign_eq_one_of_pos hg, Int.one_mul, Int.sign_mul_natAbs]
theorem abs_q {x g : Int} (hg : 0 < g) (hd : g ∣ x) : ((x.sign * g.sign * ((x.natAbs : Int) / (g.natAbs : Int))).natAbs : Int) ≤ (x.natAbs : Int) := by
  have h := exact_q hg hd
  have h1 : (x.natAbs : Int) = (g.natAbs : Int) * ((x.sign * g.sign * ((x.natAbs : Int) / (g.natAbs : Int))).natAbs : Int) := by
    rw [← Int.natCast_mul, ← Int.natAbs_mul, h]
  have h2 := Int.mul_le_mul_of_nonneg_right (show 1 ≤ (g.natAbs : Int) by omega) (show 0 ≤ ((x.sign * g.sign * ((x.natAbs : Int) / (g.natAbs : Int))).natAbs : Int) by omega)
  omega
theorem gcd_all {fD : Nat → Int32} {X : mX} {u : mT} {Z : Nat → Int} {P : (Nat → Int) → Prop} (h : ∃ Y : Nat → Int, mPost fD X Y u ∧ P Y) : ∃ Y : Nat → Int, (∃ gL gS gN : Nat → Int32, mAll gL gS gN Y ∧ u = (gL, gS, gN, fD, X)) ∧ P Y := h
set_option maxHeartbeats 4000000 in
set_option maxRecDepth 100000 in
/-- makePrimitive: divided by what all have in common, the first sign made 1 -/
theorem cm_makePrimitive (l : Launch) (D : va_G) (Q : Nat → Nat) (G : Nat → ClassId) (fL fS fN fD : Nat → Int32) (X : mX) (Z : Nat → Int) (r N : Nat) (hZ : mAll fL fS fN Z) (hr2 : r < 15) (hn : fD r = iZ ((N : Int) - 1)) (hN : N ≤ 9) (hB : ∀ i : Nat, i < N → ((Z (9 * r + i)).natAbs : Int) < 2 ^ (31 * 638)) (htop : ∀ i : Nat, N = i + 1 → Z (9 * r + i) ≠ 0) (sz : Nat) : Met l yX5_makePrimitive (wC yX5_makePrimitive cX5_makePrimitive 5 none) ({ frames := 4, cells := 0, slots := 0, locals := 101 }) (va_Pc [.ref (Q 0), .int (iZ ((r : Int)))] (mPre D Q G (fL, fS, fN, fD, X) sz)) (va_Qv (fun u : mT => ∃ Y : Nat → Int, mPost fD X Y u ∧ (∀ i : Nat, i < N → ((gN (fun k => Z (9 * r + k)) N : Nat) : Int) * Y (9 * r + i) = (Z (9 * r + (N - 1))).sign * Z (9 * r + i)) ∧ ∀ c : Nat, c ≠ 135 → c ≠ 136 → c ≠ 139 → c ≠ 140 → (c < 9 * r ∨ 9 * r + N ≤ c) → Y c = Z c) (mAt D Q G (mA Q sz)) (mA Q sz)) 0 0 (mA Q sz) := by
  refine m_met (cc := cX5_makePrimitive) (maxL := 5) (ret := none) (by decide) rfl rfl (Nat.le_of_ble_eq_true rfl) ?_
  intro p e s m below meth c hsz C hr hlk
  refine w_sub [(0, .ref (Q 0)), (1, .int (iZ ((r : Int))))] [0, 1] rfl ?_
  have hgl := gN_le (c := (fun k => Z (9 * r + k))) hB (i2pos _)
  refine w_aload_n C dX5_makePrimitive_0 0 rfl ?_
  refine w_get (ci := 5) (ref := "RootIsolatorModel") (T := TX5) (Cn := RX5) (N := 10) C (fun w h => wC_in (inX5 w h)) 0 rfl rfl 4 (by decide) (wC_in fX5_degrees) rfl rfl dX5_makePrimitive_1 ?_
  refine w_iload_n C dX5_makePrimitive_4 1 rfl ?_
  refine w_iald C 4 0 rfl rfl (r) ((N : Int) - 1) ⟨by omega, by omega, by omega⟩ (hn) dX5_makePrimitive_5 ?_
  refine w_istore_n C [(2, .int (iZ ((N : Int) - 1))), (0, .ref (Q 0)), (1, .int (iZ ((r : Int))))] dX5_makePrimitive_6 rfl (by decide) rfl ?_
  refine w_iload_n C dX5_makePrimitive_7 0 rfl ?_
  refine w_if_ge C 12 dX5_makePrimitive_8 (by decide) ⟨by omega, by omega⟩ (fun c8 => ?_) (fun c8 => ?_)
  · refine w_aload_n C dX5_makePrimitive_12 1 rfl ?_
    refine w_sipush C dX5_makePrimitive_13 (by decide) ?_
    refine w_lconst C 0 dX5_makePrimitive_16 rfl ?_
    refine m_callv [.int (iZ (135)), .long (lZ (0))] hsz C (fun z => cm_setLong l D Q G fL fS fN fD X 135 0 (by omega) (by omega) (by omega) z) (cwV 2 C.1.2.2.2.2 (wC_V kX5_64 nX5_setLong slX5_setLong iniX5 cdX5_setLong) rfl rfl rfl (by decide +kernel) ⟨Nat.le_of_ble_eq_true rfl, Nat.le_of_ble_eq_true rfl⟩) rfl ⟨Nat.zero_le _, Nat.zero_le _⟩ (Nat.le_of_ble_eq_true rfl) dX5_makePrimitive_17 [.long (lZ (0)), .int (iZ (135)), .ref (Q 0)] rfl (fun v1 hv1 => ?_)
    obtain ⟨gL1, gS1, gN1, hZ1, rfl⟩ := mSet_all hZ hv1
    refine w_iconst C dX5_makePrimitive_20 ?_
    refine w_istore_n C [(3, .int (iZ (0))), (2, .int (iZ ((N : Int) - 1))), (0, .ref (Q 0)), (1, .int (iZ ((r : Int))))] dX5_makePrimitive_21 rfl (by decide) rfl ?_
    have fst : ∀ (d : Nat) (k : Nat) (Y : Nat → Int) (kL : Nat → Int32) (kS : Nat → Int32) (kN : Nat → Int32), N < k + d → k ≤ N → mAll kL kS kN Y → Y 135 = ((gN (fun k => Z (9 * r + k)) k : Nat) : Int) → (∀ c : Nat, c ≠ 135 → c ≠ 136 → c ≠ 139 → c ≠ 140 → Y c = Z c) → ZW p l e ({ frames := 4, cells := 0, slots := 0, locals := 101 }) s m ([.ref (Q 0), .int (iZ ((r : Int)))] : List Value).toArray below meth c D (mA Q sz) 5 0 0 (MQ below (va_Qv (fun u : mT => ∃ Y : Nat → Int, mPost fD X Y u ∧ (∀ i : Nat, i < N → ((gN (fun k => Z (9 * r + k)) N : Nat) : Int) * Y (9 * r + i) = (Z (9 * r + (N - 1))).sign * Z (9 * r + i)) ∧ ∀ c : Nat, c ≠ 135 → c ≠ 136 → c ≠ 139 → c ≠ 140 → (c < 9 * r ∨ 9 * r + N ≤ c) → Y c = Z c) (mAt D Q G (mA Q sz)) (mA Q sz)) ([.ref (Q 0), .int (iZ ((r : Int)))] : List Value).toArray s 0 0 (mA Q sz)) (mU Q G (kL, kS, kN, fD, X)) 22 [(3, .int (iZ ((k : Int)))), (2, .int (iZ ((N : Int) - 1))), (0, .ref (Q 0)), (1, .int (iZ ((r : Int))))] [] := by
      intro d
      induction d with
      | zero =>
        intro k Y kL kS kN hd hk hZ h1 h2
        exact absurd hd (by omega)
      | succ d ih2 =>
        intro k Y kL kS kN hd hk hZ h1 h2
        refine w_iload_n C dX5_makePrimitive_22 0 rfl ?_
        refine w_iload_n C dX5_makePrimitive_23 1 rfl ?_
        refine w_icmp_gt C 65 dX5_makePrimitive_24 (by decide) ⟨⟨by omega, by omega⟩, by omega, by omega⟩ (fun c24 => ?_) (fun c24 => ?_)
        · have hgp : 0 < gN (fun k => Z (9 * r + k)) N := gN_pos (i := N - 1) (by omega) (htop (N - 1) (by omega))
          have htp : Z (9 * r + (N - 1)) ≠ 0 := htop (N - 1) (by omega)
          refine w_aload_n C dX5_makePrimitive_65 2 rfl ?_
          refine w_get (ci := 5) (ref := "RootIsolatorModel") (T := TX5) (Cn := RX5) (N := 10) C (fun w h => wC_in (inX5 w h)) 0 rfl rfl 3 (by decide) (wC_in fX5_signs) rfl rfl dX5_makePrimitive_66 ?_
          refine w_iload_n C dX5_makePrimitive_69 3 rfl ?_
          refine w_iload_n C dX5_makePrimitive_70 1 rfl ?_
          refine w_top C (((N - 1 : Nat) : Int)) (by omega) ?_
          refine m_callSi [.int (iZ ((r : Int))), .int (iZ (((N - 1 : Nat) : Int)))] hsz C (fun z => cm_at l D Q G kL kS kN fD X (r) (N - 1) z) (cwS 2 C.1.2.2.2.2 (wC_S kX5_79 stX5_at iniX5 cdX5_at) rfl rfl rfl (by decide +kernel) ⟨Nat.le_of_ble_eq_true rfl, Nat.le_of_ble_eq_true rfl⟩) rfl ⟨Nat.zero_le _, Nat.zero_le _⟩ (Nat.le_of_ble_eq_true rfl) dX5_makePrimitive_71 [.int (iZ (((N - 1 : Nat) : Int))), .int (iZ ((r : Int))), .ref (Q 3)] rfl (fun r v102 hv102 => ?_)
          obtain ⟨rfl, rfl⟩ := hv102
          refine w_iald C 3 0 rfl rfl (9 * r + (N - 1)) ((Z (9 * r + (N - 1))).sign) ⟨by omega, by omega, by omega⟩ (by rw [← h2 (9 * r + (N - 1)) (by omega) (by omega) (by omega) (by omega)]; exact mNum_sgn (hZ _ (by omega))) dX5_makePrimitive_74 ?_
          refine w_istore_n C [(3, .int (iZ ((Z (9 * r + (N - 1))).sign))), (2, .int (iZ ((N : Int) - 1))), (0, .ref (Q 0)), (1, .int (iZ ((r : Int))))] dX5_makePrimitive_75 rfl (by decide) rfl ?_
          refine w_iconst C dX5_makePrimitive_76 ?_
          refine w_istore C [(4, .int (iZ (0))), (3, .int (iZ ((Z (9 * r + (N - 1))).sign))), (2, .int (iZ ((N : Int) - 1))), (0, .ref (Q 0)), (1, .int (iZ ((r : Int))))] dX5_makePrimitive_77 (by decide) rfl ?_
          have sec : ∀ (d : Nat) (k : Nat) (U : Nat → Int) (qL : Nat → Int32) (qS : Nat → Int32) (qN : Nat → Int32), N < k + d → k ≤ N → mAll qL qS qN U → U 135 = ((gN (fun k => Z (9 * r + k)) N : Nat) : Int) → (∀ i : Nat, i < k → ((gN (fun k => Z (9 * r + k)) N : Nat) : Int) * U (9 * r + i) = (Z (9 * r + (N - 1))).sign * Z (9 * r + i)) → (∀ c : Nat, c ≠ 135 → c ≠ 136 → c ≠ 139 → c ≠ 140 → (c < 9 * r ∨ 9 * r + k ≤ c) → U c = Z c) → ZW p l e ({ frames := 4, cells := 0, slots := 0, locals := 101 }) s m ([.ref (Q 0), .int (iZ ((r : Int)))] : List Value).toArray below meth c D (mA Q sz) 5 0 0 (MQ below (va_Qv (fun u : mT => ∃ Y : Nat → Int, mPost fD X Y u ∧ (∀ i : Nat, i < N → ((gN (fun k => Z (9 * r + k)) N : Nat) : Int) * Y (9 * r + i) = (Z (9 * r + (N - 1))).sign * Z (9 * r + i)) ∧ ∀ c : Nat, c ≠ 135 → c ≠ 136 → c ≠ 139 → c ≠ 140 → (c < 9 * r ∨ 9 * r + N ≤ c) → Y c = Z c) (mAt D Q G (mA Q sz)) (mA Q sz)) ([.ref (Q 0), .int (iZ ((r : Int)))] : List Value).toArray s 0 0 (mA Q sz)) (mU Q G (qL, qS, qN, fD, X)) 79 [(4, .int (iZ ((k : Int)))), (3, .int (iZ ((Z (9 * r + (N - 1))).sign))), (2, .int (iZ ((N : Int) - 1))), (0, .ref (Q 0)), (1, .int (iZ ((r : Int))))] [] := by
            intro d
            induction d with
            | zero =>
              intro k U qL qS qN hd hk2 hZu g0 g1 g2
              exact absurd hd (by omega)
            | succ d ih3 =>
              intro k U qL qS qN hd hk2 hZu g0 g1 g2
              refine w_iload C dX5_makePrimitive_79 0 rfl ?_
              refine w_iload_n C dX5_makePrimitive_81 2 rfl ?_
              refine w_icmp_gt C 135 dX5_makePrimitive_82 (by decide) ⟨⟨by omega, by omega⟩, by omega, by omega⟩ (fun c82 => ?_) (fun c82 => ?_)
              · exact m_vret hsz C hr hlk (⟨U, ⟨_, _, _, hZu, rfl⟩, fun i hi => g1 i (by omega), fun c e1 e2 e3 e4 hc => g2 c e1 e2 e3 e4 (by omega)⟩) dX5_makePrimitive_135
              · refine w_aload_n C dX5_makePrimitive_85 3 rfl ?_
                refine w_sipush C dX5_makePrimitive_86 (by decide) ?_
                refine w_iload_n C dX5_makePrimitive_89 4 rfl ?_
                refine w_iload C dX5_makePrimitive_90 0 rfl ?_
                refine m_callSi [.int (iZ ((r : Int))), .int (iZ ((k : Int)))] hsz C (fun z => cm_at l D Q G qL qS qN fD X (r) (k) z) (cwS 2 C.1.2.2.2.2 (wC_S kX5_79 stX5_at iniX5 cdX5_at) rfl rfl rfl (by decide +kernel) ⟨Nat.le_of_ble_eq_true rfl, Nat.le_of_ble_eq_true rfl⟩) rfl ⟨Nat.zero_le _, Nat.zero_le _⟩ (Nat.le_of_ble_eq_true rfl) dX5_makePrimitive_92 [.int (iZ ((k : Int))), .int (iZ ((r : Int))), .int (iZ (136)), .ref (Q 0)] rfl (fun r v203 hv203 => ?_)
                obtain ⟨rfl, rfl⟩ := hv203
                refine w_sipush C dX5_makePrimitive_95 (by decide) ?_
                refine m_callv [.int (iZ (136)), .int (iZ (((9 * r + k : Nat) : Int))), .int (iZ (135))] hsz C (fun z => cm_divide l D Q G qL qS qN fD X 136 (9 * r + k) 135 (U (9 * r + k)) (U 135) (by omega) (by omega) (by omega) (by omega) (by omega) (hZu _ (by omega)) (hZu _ (by omega)) (by rw [g0]; omega) (by rw [g0]; have := hgl N (Nat.le_refl _); omega) z) (cwV 3 C.1.2.2.2.2 (wC_V kX5_76 nX5_divide slX5_divide iniX5 cdX5_divide) rfl rfl rfl (by decide +kernel) ⟨Nat.le_of_ble_eq_true rfl, Nat.le_of_ble_eq_true rfl⟩) rfl ⟨Nat.zero_le _, Nat.zero_le _⟩ (Nat.le_of_ble_eq_true rfl) dX5_makePrimitive_98 [.int (iZ (135)), .int (iZ (((9 * r + k : Nat) : Int))), .int (iZ (136)), .ref (Q 0)] rfl (fun v204 hv204 => ?_)
                obtain ⟨gL204, gS204, gN204, hZ204, rfl⟩ := mDiv_all hZu hv204
                refine w_aload_n C dX5_makePrimitive_101 3 rfl ?_
                refine w_iload_n C dX5_makePrimitive_102 4 rfl ?_
                refine w_iload C dX5_makePrimitive_103 0 rfl ?_
                refine m_callSi [.int (iZ ((r : Int))), .int (iZ ((k : Int)))] hsz C (fun z => cm_at l D Q G gL204 gS204 gN204 fD X (r) (k) z) (cwS 2 C.1.2.2.2.2 (wC_S kX5_79 stX5_at iniX5 cdX5_at) rfl rfl rfl (by decide +kernel) ⟨Nat.le_of_ble_eq_true rfl, Nat.le_of_ble_eq_true rfl⟩) rfl ⟨Nat.zero_le _, Nat.zero_le _⟩ (Nat.le_of_ble_eq_true rfl) dX5_makePrimitive_105 [.int (iZ ((k : Int))), .int (iZ ((r : Int))), .ref (Q 0)] rfl (fun r v205 hv205 => ?_)
                obtain ⟨rfl, rfl⟩ := hv205
                refine w_sipush C dX5_makePrimitive_108 (by decide) ?_
                refine m_callv [.int (iZ (((9 * r + k : Nat) : Int))), .int (iZ (136))] hsz C (fun z => cm_copy l D Q G gL204 gS204 gN204 fD X (9 * r + k) 136 ((uZ (uZ U 136 ((U (9 * r + k)).sign * (U 135).sign * (((U (9 * r + k)).natAbs : Int) / ((U 135).natAbs : Int)))) 140 (((U (9 * r + k)).natAbs : Int) % ((U 135).natAbs : Int))) 136) (by omega) (by omega) (hZ204 _ (by omega)) z) (cwV 2 C.1.2.2.2.2 (wC_V kX5_49 nX5_copy slX5_copy iniX5 cdX5_copy) rfl rfl rfl (by decide +kernel) ⟨Nat.le_of_ble_eq_true rfl, Nat.le_of_ble_eq_true rfl⟩) rfl ⟨Nat.zero_le _, Nat.zero_le _⟩ (Nat.le_of_ble_eq_true rfl) dX5_makePrimitive_111 [.int (iZ (136)), .int (iZ (((9 * r + k : Nat) : Int))), .ref (Q 0)] rfl (fun v206 hv206 => ?_)
                obtain ⟨gL206, gS206, gN206, hZ206, rfl⟩ := mSet_all hZ204 hv206
                refine w_aload_n C dX5_makePrimitive_114 3 rfl ?_
                refine w_get (ci := 5) (ref := "RootIsolatorModel") (T := TX5) (Cn := RX5) (N := 10) C (fun w h => wC_in (inX5 w h)) 0 rfl rfl 3 (by decide) (wC_in fX5_signs) rfl rfl dX5_makePrimitive_115 ?_
                refine w_iload_n C dX5_makePrimitive_118 4 rfl ?_
                refine w_iload C dX5_makePrimitive_119 0 rfl ?_
                refine m_callSi [.int (iZ ((r : Int))), .int (iZ ((k : Int)))] hsz C (fun z => cm_at l D Q G gL206 gS206 gN206 fD X (r) (k) z) (cwS 2 C.1.2.2.2.2 (wC_S kX5_79 stX5_at iniX5 cdX5_at) rfl rfl rfl (by decide +kernel) ⟨Nat.le_of_ble_eq_true rfl, Nat.le_of_ble_eq_true rfl⟩) rfl ⟨Nat.zero_le _, Nat.zero_le _⟩ (Nat.le_of_ble_eq_true rfl) dX5_makePrimitive_121 [.int (iZ ((k : Int))), .int (iZ ((r : Int))), .ref (Q 3)] rfl (fun r v207 hv207 => ?_)
                obtain ⟨rfl, rfl⟩ := hv207
                refine w_dup2 C dX5_makePrimitive_124 rfl rfl ?_
                obtain ⟨V, hV⟩ : ∃ V : Nat → Int, V = (uZ (uZ (uZ U 136 ((U (9 * r + k)).sign * (U 135).sign * (((U (9 * r + k)).natAbs : Int) / ((U 135).natAbs : Int)))) 140 (((U (9 * r + k)).natAbs : Int) % ((U 135).natAbs : Int))) (9 * r + k) ((uZ (uZ U 136 ((U (9 * r + k)).sign * (U 135).sign * (((U (9 * r + k)).natAbs : Int) / ((U 135).natAbs : Int)))) 140 (((U (9 * r + k)).natAbs : Int) % ((U 135).natAbs : Int))) 136)) := ⟨_, rfl⟩
                have hZV := hZ206
                rw [← hV] at hZV
                obtain ⟨qk, hqk⟩ : ∃ q : Int, q = ((Z (9 * r + k)).sign * ((gN (fun k => Z (9 * r + k)) N : Nat) : Int).sign * (((Z (9 * r + k)).natAbs : Int) / (((gN (fun k => Z (9 * r + k)) N : Nat) : Int).natAbs : Int))) := ⟨_, rfl⟩
                have hVk : V (9 * r + k) = qk := by rw [hV, uZ_eq, uZ_ne (by omega), uZ_eq, g0, g2 _ (by omega) (by omega) (by omega) (by omega) (by omega), hqk]
                refine w_iald C 3 0 rfl rfl (9 * r + k) (qk.sign) ⟨by omega, by omega, by omega⟩ (by rw [← hVk]; exact mNum_sgn (hZV _ (by omega))) dX5_makePrimitive_125 ?_
                refine w_iload_n C dX5_makePrimitive_126 1 rfl ?_
                obtain ⟨sg, hsg⟩ : ∃ s : Int, s = qk.sign * (Z (9 * r + (N - 1))).sign := ⟨_, rfl⟩
                refine w_imul C dX5_makePrimitive_127 ?_
                refine w_top C (sg) (hsg.symm) ?_
                refine w_iast C (mU Q G (gL206, gS206, (upd gN206 (9 * r + k) (iZ (sg))), fD, X)) 3 0 rfl rfl (9 * r + k) ⟨by omega, by omega, by omega⟩ rfl dX5_makePrimitive_128 ?_
                refine w_iinc C (((k + 1 : Nat) : Int)) (by omega) [(4, .int (iZ (((k + 1 : Nat) : Int)))), (3, .int (iZ ((Z (9 * r + (N - 1))).sign))), (2, .int (iZ ((N : Int) - 1))), (0, .ref (Q 0)), (1, .int (iZ ((r : Int))))] dX5_makePrimitive_129 0 rfl (by decide) rfl ?_
                refine w_goto C 79 dX5_makePrimitive_132 (by decide) ?_
                have hsx : (Z (9 * r + (N - 1))).sign = 1 ∨ (Z (9 * r + (N - 1))).sign = -1 := by
                  rcases sgn_cases (Z (9 * r + (N - 1))) with ⟨_, e⟩ | ⟨e, _⟩ | ⟨_, e⟩
                  · exact Or.inl e
                  · exact absurd e htp
                  · exact Or.inr e
                have hsm : sg = ((Z (9 * r + (N - 1))).sign * qk).sign := by rw [hsg, Int.mul_comm]; exact sgn_pm hsx
                have hfl : mNum gL206 gS206 (upd gN206 (9 * r + k) (iZ (sg))) (9 * r + k) ((Z (9 * r + (N - 1))).sign * qk) := mNum_flip (hVk ▸ hZV _ (by omega)) (by rw [Int.natAbs_mul]; rcases hsx with e | e <;> rw [e] <;> simp) hsm
                exact ih3 (k + 1) (uZ V (9 * r + k) ((Z (9 * r + (N - 1))).sign * qk)) _ _ _ (by omega) (by omega) (mAll_up hZV (fun _ _ _ _ => rfl) (fun _ _ => rfl) (fun c hc => upd_ne hc) hfl) (by rw [uZ_ne (by omega), hV, uZ_ne (by omega), uZ_ne (by omega), uZ_ne (by omega)]; exact g0) (fun i hi => by
                  rcases Nat.lt_or_ge i k with e | e
                  · rw [uZ_ne (by omega), hV, uZ_ne (by omega), uZ_ne (by omega), uZ_ne (by omega)]; exact g1 i e
                  · have : i = k := by omega
                    subst this; rw [uZ_eq, Int.mul_left_comm, hqk, exact_q (by omega) (gN_dvd (c := (fun k => Z (9 * r + k))) (by omega))]) (fun c e1 e2 e3 e4 hc => by rw [uZ_ne (by omega), hV, uZ_ne (by omega), uZ_ne e4, uZ_ne e2]; exact g2 c e1 e2 e3 e4 (by omega))
          exact sec (N + 1) 0 Y _ _ _ (by omega) (by omega) hZ (by rw [h1, show k = N by omega]) (fun i hi => absurd hi (by omega)) (fun c e1 e2 e3 e4 _ => h2 c e1 e2 e3 e4)
        · refine w_aload_n C dX5_makePrimitive_27 2 rfl ?_
          refine w_sipush C dX5_makePrimitive_28 (by decide) ?_
          refine w_iload_n C dX5_makePrimitive_31 3 rfl ?_
          refine w_iload_n C dX5_makePrimitive_32 0 rfl ?_
          refine m_callSi [.int (iZ ((r : Int))), .int (iZ ((k : Int)))] hsz C (fun z => cm_at l D Q G kL kS kN fD X (r) (k) z) (cwS 2 C.1.2.2.2.2 (wC_S kX5_79 stX5_at iniX5 cdX5_at) rfl rfl rfl (by decide +kernel) ⟨Nat.le_of_ble_eq_true rfl, Nat.le_of_ble_eq_true rfl⟩) rfl ⟨Nat.zero_le _, Nat.zero_le _⟩ (Nat.le_of_ble_eq_true rfl) dX5_makePrimitive_33 [.int (iZ ((k : Int))), .int (iZ ((r : Int))), .int (iZ (136)), .ref (Q 0)] rfl (fun r v308 hv308 => ?_)
          obtain ⟨rfl, rfl⟩ := hv308
          refine m_callv [.int (iZ (136)), .int (iZ (((9 * r + k : Nat) : Int)))] hsz C (fun z => cm_copy l D Q G kL kS kN fD X 136 (9 * r + k) (Y (9 * r + k)) (by omega) (by omega) (hZ _ (by omega)) z) (cwV 2 C.1.2.2.2.2 (wC_V kX5_49 nX5_copy slX5_copy iniX5 cdX5_copy) rfl rfl rfl (by decide +kernel) ⟨Nat.le_of_ble_eq_true rfl, Nat.le_of_ble_eq_true rfl⟩) rfl ⟨Nat.zero_le _, Nat.zero_le _⟩ (Nat.le_of_ble_eq_true rfl) dX5_makePrimitive_36 [.int (iZ (((9 * r + k : Nat) : Int))), .int (iZ (136)), .ref (Q 0)] rfl (fun v309 hv309 => ?_)
          obtain ⟨gL309, gS309, gN309, hZ309, rfl⟩ := mSet_all hZ hv309
          refine w_aload_n C dX5_makePrimitive_39 2 rfl ?_
          refine w_sipush C dX5_makePrimitive_40 (by decide) ?_
          refine w_sipush C dX5_makePrimitive_43 (by decide) ?_
          refine m_callv [.int (iZ (136)), .int (iZ (135))] hsz C (fun z => cm_divisorOf l D Q G gL309 gS309 gN309 fD X (uZ Y 136 (Y (9 * r + k))) 136 135 hZ309 (by omega) (by omega) (by omega) (by rw [uZ_ne (by omega), h1]; have := hgl k hk; omega) z) (cwV 2 C.1.2.2.2.2 (wC_V kX5_85 nX5_divisorOf slX5_divisorOf iniX5 cdX5_divisorOf) rfl rfl rfl (by decide +kernel) ⟨Nat.le_of_ble_eq_true rfl, Nat.le_of_ble_eq_true rfl⟩) rfl ⟨Nat.zero_le _, Nat.zero_le _⟩ (Nat.le_of_ble_eq_true rfl) dX5_makePrimitive_46 [.int (iZ (135)), .int (iZ (136)), .ref (Q 0)] rfl (fun v310 hv310 => ?_)
          obtain ⟨V, ⟨pL, pS, pN, hZv, rfl⟩, hv1, hv2, hv3⟩ := hv310
          refine w_aload_n C dX5_makePrimitive_49 2 rfl ?_
          refine w_sipush C dX5_makePrimitive_50 (by decide) ?_
          refine w_sipush C dX5_makePrimitive_53 (by decide) ?_
          refine m_callv [.int (iZ (135)), .int (iZ (136))] hsz C (fun z => cm_copy l D Q G pL pS pN fD X 135 136 (V 136) (by omega) (by omega) (hZv _ (by omega)) z) (cwV 2 C.1.2.2.2.2 (wC_V kX5_49 nX5_copy slX5_copy iniX5 cdX5_copy) rfl rfl rfl (by decide +kernel) ⟨Nat.le_of_ble_eq_true rfl, Nat.le_of_ble_eq_true rfl⟩) rfl ⟨Nat.zero_le _, Nat.zero_le _⟩ (Nat.le_of_ble_eq_true rfl) dX5_makePrimitive_56 [.int (iZ (136)), .int (iZ (135)), .ref (Q 0)] rfl (fun v311 hv311 => ?_)
          obtain ⟨gL311, gS311, gN311, hZ311, rfl⟩ := mSet_all hZv hv311
          refine w_iinc C (((k + 1 : Nat) : Int)) (by omega) [(3, .int (iZ (((k + 1 : Nat) : Int)))), (2, .int (iZ ((N : Int) - 1))), (0, .ref (Q 0)), (1, .int (iZ ((r : Int))))] dX5_makePrimitive_59 0 rfl (by decide) rfl ?_
          refine w_goto C 22 dX5_makePrimitive_62 (by decide) ?_
          exact ih2 (k + 1) (uZ V 135 (V 136)) _ _ _ (by omega) (by omega) hZ311 (by rw [uZ_eq, hv1, uZ_eq, uZ_ne (by omega), h1, h2 _ (by omega) (by omega) (by omega) (by omega)]; rfl) (fun c e1 e2 e3 e4 => by rw [uZ_ne e1, hv3 c e2 e1 e3 e4, uZ_ne e2]; exact h2 c e1 e2 e3 e4)
    exact fst (N + 1) 0 (uZ Z 135 0) _ _ _ (by omega) (by omega) hZ1 (by rw [uZ_eq]; rfl) (fun c e1 _ _ _ => uZ_ne e1)
  · exact m_vret hsz C hr hlk (⟨Z, ⟨_, _, _, hZ, rfl⟩, fun i hi => absurd hi (by omega), fun _ _ _ _ _ _ => rfl⟩) dX5_makePrimitive_11
