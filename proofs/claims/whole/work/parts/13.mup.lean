set_option maxHeartbeats 4000000 in
set_option maxRecDepth 100000 in
/-- up: times a power of two -/
theorem cm_up (l : Launch) (D : va_G) (Q : Nat → Nat) (G : Nat → ClassId) (fL fS fN fD : Nat → Int32) (X : mX) (a pw p : Nat) (x : Int) (ha : a < 141) (hx : mNum fL fS fN a x) (hA : (x.natAbs : Int) < 2 ^ (31 * p)) (hp : p + pw / 31 + 1 ≤ 640) (sz : Nat) : Met l yX5_up (wC yX5_up cX5_up 9 none) ({ frames := 1, cells := 0, slots := 0, locals := 24 }) (va_Pc [.ref (Q 0), .int (iZ ((a : Int))), .int (iZ ((pw : Int)))] (mPre D Q G (fL, fS, fN, fD, X) sz)) (va_Qv (fun u : mT => mSet fL fS fN fD X a (x * 2 ^ pw) u) (mAt D Q G (mA Q sz)) (mA Q sz)) 0 0 (mA Q sz) := by
  refine m_met (cc := cX5_up) (maxL := 9) (ret := none) (by decide) rfl rfl (Nat.le_of_ble_eq_true rfl) ?_
  intro p e s m below meth c hsz C hr hlk
  refine w_sub [(0, .ref (Q 0)), (1, .int (iZ ((a : Int)))), (2, .int (iZ ((pw : Int))))] [0, 1, 2] rfl ?_
  obtain ⟨far, hfar⟩ : ∃ f : Nat, f = pw / 31 := ⟨_, rfl⟩
  obtain ⟨near, hnear⟩ : ∃ f : Nat, f = pw % 31 := ⟨_, rfl⟩
  have hnr : near < 31 := by omega
  have hpw : pw = 31 * far + near := by omega
  obtain ⟨n, hn1, hn2, hn3, hn4, hn5, hn6⟩ := id hx
  have hn7 := mNum_size hn3 hn4 hn6 hA
  have zl : ∀ (d : Nat) (k : Nat) (gL : Nat → Int32), far < k + d → k ≤ far → (∀ j : Nat, (j < 640 * a ∨ 640 * a + 640 ≤ j) → gL j = fL j) → limb gL (640 * a + far) (n + 1) → zv gL (640 * a + far) (n + 1) = (x.natAbs : Int) * 2 ^ near → (∀ j : Nat, j < k → gL (640 * a + j) = 0) → ZW p l e ({ frames := 1, cells := 0, slots := 0, locals := 24 }) s m ([.ref (Q 0), .int (iZ ((a : Int))), .int (iZ ((pw : Int)))] : List Value).toArray below meth c D (mA Q sz) 9 0 0 (MQ below (va_Qv (fun u : mT => mSet fL fS fN fD X a (x * 2 ^ pw) u) (mAt D Q G (mA Q sz)) (mA Q sz)) ([.ref (Q 0), .int (iZ ((a : Int))), .int (iZ ((pw : Int)))] : List Value).toArray s 0 0 (mA Q sz)) (mU Q G (gL, fS, fN, fD, X)) 128 [(6, .int (iZ ((k : Int)))), (5, .int (iZ ((n : Int)))), (4, .int (iZ ((near : Int)))), (3, .int (iZ ((far : Int)))), (0, .ref (Q 0)), (1, .int (iZ ((a : Int)))), (2, .int (iZ ((pw : Int))))] [] := by
    intro d
    induction d with
    | zero =>
      intro k gL hd hk hout hl hv hz
      exact absurd hd (by omega)
    | succ d ih =>
      intro k gL hd hk hout hl hv hz
      refine w_iload C dX5_up_128 0 rfl ?_
      refine w_iload_n C dX5_up_130 3 rfl ?_
      refine w_icmp_ge C 154 dX5_up_131 (by decide) ⟨⟨by omega, by omega⟩, by omega, by omega⟩ (fun c131 => ?_) (fun c131 => ?_)
      · have hkf : k = far := by omega
        subst hkf
        have hval : zv gL (640 * a) (n + k + 1) = (x.natAbs : Int) * 2 ^ pw := by
          rw [show n + k + 1 = k + (n + 1) by omega, zv_split, hv, zv_zero (j := 0) (Nat.zero_le _) (fun j _ h2 => hz j h2), hpw, Int.pow_add]
          simp only [zv]
          rw [Int.zero_add, Int.mul_left_comm]
        have hl0 : limb gL (640 * a) (n + k + 1) := fun j hj => by
          rcases Nat.lt_or_ge j k with q | q
          · rw [hz j q]; decide
          · have h := hl (j - k) (by omega)
            rw [show 640 * a + k + (j - k) = 640 * a + j by omega] at h; exact h
        refine w_aload_n C dX5_up_154 4 rfl ?_
        refine w_iload_n C dX5_up_155 5 rfl ?_
        refine w_iload C dX5_up_156 1 rfl ?_
        refine w_iload_n C dX5_up_158 3 rfl ?_
        refine w_iadd C dX5_up_159 ?_
        refine w_iconst C dX5_up_160 ?_
        refine w_iadd C dX5_up_161 ?_
        refine w_top C (((n + k + 1 : Nat) : Int)) (by omega) ?_
        refine w_aload_n C dX5_up_162 4 rfl ?_
        refine w_get (ci := 5) (ref := "RootIsolatorModel") (T := TX5) (Cn := RX5) (N := 10) C (fun w h => wC_in (inX5 w h)) 0 rfl rfl 3 (by decide) (wC_in fX5_signs) rfl rfl dX5_up_163 ?_
        refine w_iload_n C dX5_up_166 5 rfl ?_
        refine w_iald C 3 0 rfl rfl (a) (x.sign) ⟨by omega, by omega, by omega⟩ (hn5) dX5_up_167 ?_
        refine m_callv [.int (iZ ((a : Int))), .int (iZ (((n + k + 1 : Nat) : Int))), .int (iZ (x.sign))] hsz C (fun z => cm_trim l D Q G gL fS fN fD X a (n + k + 1) x.sign ha (by omega) z) (cwV 3 C.1.2.2.2.2 (wC_V kX5_45 nX5_trim slX5_trim iniX5 cdX5_trim) rfl rfl rfl (by decide +kernel) ⟨Nat.le_of_ble_eq_true rfl, Nat.le_of_ble_eq_true rfl⟩) rfl ⟨Nat.zero_le _, Nat.zero_le _⟩ (Nat.le_of_ble_eq_true rfl) dX5_up_168 [.int (iZ (x.sign)), .int (iZ (((n + k + 1 : Nat) : Int))), .int (iZ ((a : Int))), .ref (Q 0)] rfl (fun v1 hv1 => ?_)
        obtain ⟨j, hj, hjz, hjt, rfl⟩ := hv1
        have hq := trim_num (gS := upd fS a (iZ (j : Int))) (gN := upd fN a (iZ (if j = 0 then 0 else x.sign))) (by omega) hl0 hj hjz hjt upd_eq upd_eq (by
          rcases sgn_cases x with ⟨h1, h2⟩ | ⟨h1, h2⟩ | ⟨h1, h2⟩
          · exact Or.inl h2
          · exact Or.inr (Or.inr ⟨h2, by rw [hval, h1]; simp⟩)
          · exact Or.inr (Or.inl h2))
        rw [hval, ← Int.mul_assoc, Int.sign_mul_natAbs] at hq
        exact m_vret hsz C hr hlk (⟨_, _, _, rfl, ⟨fun c i hc hi2 => hout _ (by omega), fun c hc => upd_ne hc, fun c hc => upd_ne hc⟩, hq⟩) dX5_up_171
      · refine w_aload_n C dX5_up_134 4 rfl ?_
        refine w_get (ci := 5) (ref := "RootIsolatorModel") (T := TX5) (Cn := RX5) (N := 10) C (fun w h => wC_in (inX5 w h)) 0 rfl rfl 1 (by decide) (wC_in fX5_limbs) rfl rfl dX5_up_135 ?_
        refine w_sipush C dX5_up_138 (by decide) ?_
        refine w_iload_n C dX5_up_141 5 rfl ?_
        refine w_imul C dX5_up_142 ?_
        refine w_iload C dX5_up_143 0 rfl ?_
        refine w_iadd C dX5_up_145 ?_
        refine w_iconst C dX5_up_146 ?_
        refine w_iast C (mU Q G ((upd gL (640 * a + k) (iZ (0))), fS, fN, fD, X)) 1 0 rfl rfl (640 * a + k) ⟨by omega, by omega, by omega⟩ rfl dX5_up_147 ?_
        refine w_iinc C (((k + 1 : Nat) : Int)) (by omega) [(6, .int (iZ (((k + 1 : Nat) : Int)))), (5, .int (iZ ((n : Int)))), (4, .int (iZ ((near : Int)))), (3, .int (iZ ((far : Int)))), (0, .ref (Q 0)), (1, .int (iZ ((a : Int)))), (2, .int (iZ ((pw : Int))))] dX5_up_148 0 rfl (by decide) rfl ?_
        refine w_goto C 128 dX5_up_151 (by decide) ?_
        exact ih (k + 1) _ (by omega) (by omega) (fun j hj => by rw [upd_ne (by omega)]; exact hout j hj) (fun j hj => by rw [upd_ne (by omega)]; exact hl j hj) (by rw [← hv]; exact zv_congr (fun j hj => upd_ne (by omega))) (fun j hj => by
          rcases Nat.lt_or_ge j k with q | q
          · rw [upd_ne (by omega)]; exact hz j q
          · have : j = k := by omega
            subst this; rw [upd_eq]; rfl)
  have dl : ∀ (d : Nat) (j : Nat) (gL : Nat → Int32), j < d → j ≤ n → (∀ j : Nat, (j < 640 * a ∨ 640 * a + 640 ≤ j) → gL j = fL j) → (∀ i : Nat, i < j → gL (640 * a + i) = fL (640 * a + i)) → limb gL (640 * a + far + j) (n - j + 1) → zv gL (640 * a + far + j) (n - j + 1) = zv fL (640 * a + j) (n - j) * 2 ^ near → (2 : Int) ^ near ∣ (gL (640 * a + far + j)).toInt → ZW p l e ({ frames := 1, cells := 0, slots := 0, locals := 24 }) s m ([.ref (Q 0), .int (iZ ((a : Int))), .int (iZ ((pw : Int)))] : List Value).toArray below meth c D (mA Q sz) 9 0 0 (MQ below (va_Qv (fun u : mT => mSet fL fS fN fD X a (x * 2 ^ pw) u) (mAt D Q G (mA Q sz)) (mA Q sz)) ([.ref (Q 0), .int (iZ ((a : Int))), .int (iZ ((pw : Int)))] : List Value).toArray s 0 0 (mA Q sz)) (mU Q G (gL, fS, fN, fD, X)) 47 [(6, .int (iZ ((j : Int) - 1))), (5, .int (iZ ((n : Int)))), (4, .int (iZ ((near : Int)))), (3, .int (iZ ((far : Int)))), (0, .ref (Q 0)), (1, .int (iZ ((a : Int)))), (2, .int (iZ ((pw : Int))))] [] := by
    intro d
    induction d with
    | zero =>
      intro j gL hd hj hout hlow hl hv hdv
      exact absurd hd (by omega)
    | succ d ih =>
      intro j gL hd hj hout hlow hl hv hdv
      refine w_iload C dX5_up_47 0 rfl ?_
      refine w_if_lt C 125 dX5_up_49 (by decide) ⟨by omega, by omega⟩ (fun c49 => ?_) (fun c49 => ?_)
      · have hj0 : j = 0 := by omega
        subst hj0
        refine w_iconst C dX5_up_125 ?_
        refine w_istore C [(6, .int (iZ (0))), (5, .int (iZ ((n : Int)))), (4, .int (iZ ((near : Int)))), (3, .int (iZ ((far : Int)))), (0, .ref (Q 0)), (1, .int (iZ ((a : Int)))), (2, .int (iZ ((pw : Int))))] dX5_up_126 (by decide) rfl ?_
        exact zl (far + 1) 0 gL (by omega) (by omega) hout (by rw [Nat.add_zero] at hl; exact hl) (by rw [Nat.add_zero] at hv; rw [hn6]; exact hv) (fun j hj => absurd hj (by omega))
      · obtain ⟨i, rfl⟩ : ∃ i, j = i + 1 := ⟨j - 1, by omega⟩
        have hli := hn3 i (by omega)
        have hli2 := i32r (fL (640 * a + i))
        obtain ⟨v, hv0⟩ : ∃ v : Int, v = (fL (640 * a + i)).toInt * 2 ^ near := ⟨_, rfl⟩
        have hp31 := pow_le31 (show near ≤ 31 by omega)
        have hp0 := i2pos near
        have hvr : 0 ≤ v ∧ v < 4611686018427387904 := by
          have h1 := Int.mul_le_mul (show (fL (640 * a + i)).toInt ≤ 2147483647 by omega) hp31 (Int.le_of_lt hp0) (show (0 : Int) ≤ 2147483647 by omega)
          have h2 := Int.mul_nonneg hli (Int.le_of_lt hp0)
          omega
        have hvh : v / 2147483648 < 2 ^ near := by
          have h1 := Int.mul_lt_mul_of_pos_right (show (fL (640 * a + i)).toInt < 2147483648 by omega) hp0
          rw [← hv0] at h1
          exact Int.ediv_lt_of_lt_mul (by omega) (by rw [Int.mul_comm]; exact h1)
        have hg := i32r (gL (640 * a + far + (i + 1)))
        have hg0 := hl 0 (by omega)
        rw [Nat.add_zero] at hg0
        obtain ⟨g, hgg⟩ : ∃ g : Int, g = (gL (640 * a + far + (i + 1))).toInt := ⟨_, rfl⟩
        rw [← hgg] at hdv hg hg0
        have hgs : g + v / 2147483648 < 2147483648 := by
          obtain ⟨q, hq⟩ := hdv
          have h3 : (2147483648 : Int) = 2 ^ near * 2 ^ (31 - near) := by rw [← Int.pow_add, Nat.add_sub_cancel' (by omega)]; rfl
          have h4 : q < 2 ^ (31 - near) := Int.lt_of_mul_lt_mul_left (show 2 ^ near * q < 2 ^ near * 2 ^ (31 - near) by omega) (Int.le_of_lt hp0)
          have h5 := Int.mul_le_mul_of_nonneg_left (show q ≤ 2 ^ (31 - near) - 1 by omega) (Int.le_of_lt hp0)
          rw [Int.mul_sub] at h5
          omega
        refine w_aload_n C dX5_up_52 4 rfl ?_
        refine w_get (ci := 5) (ref := "RootIsolatorModel") (T := TX5) (Cn := RX5) (N := 10) C (fun w h => wC_in (inX5 w h)) 0 rfl rfl 1 (by decide) (wC_in fX5_limbs) rfl rfl dX5_up_53 ?_
        refine w_sipush C dX5_up_56 (by decide) ?_
        refine w_iload_n C dX5_up_59 5 rfl ?_
        refine w_imul C dX5_up_60 ?_
        refine w_iload C dX5_up_61 0 rfl ?_
        refine w_iadd C dX5_up_63 ?_
        refine w_iald C 1 0 rfl rfl (640 * a + i) ((fL (640 * a + i)).toInt) ⟨by omega, by omega, by omega⟩ ((hlow i (by omega)).trans (iZ_self _).symm) dX5_up_64 ?_
        refine w_i2l C dX5_up_65 (i32r _) ?_
        refine w_iload C dX5_up_66 2 rfl ?_
        refine w_lshl C (near) dX5_up_68 ⟨by omega, by omega⟩ ?_
        refine w_topl C (v) (hv0.symm) ?_
        refine w_lstore C [(7, .long (lZ (v))), (6, .int (iZ (((i + 1 : Nat) : Int) - 1))), (5, .int (iZ ((n : Int)))), (4, .int (iZ ((near : Int)))), (3, .int (iZ ((far : Int)))), (0, .ref (Q 0)), (1, .int (iZ ((a : Int)))), (2, .int (iZ ((pw : Int))))] dX5_up_69 (by decide) rfl ?_
        refine w_aload_n C dX5_up_71 5 rfl ?_
        refine w_get (ci := 5) (ref := "RootIsolatorModel") (T := TX5) (Cn := RX5) (N := 10) C (fun w h => wC_in (inX5 w h)) 0 rfl rfl 1 (by decide) (wC_in fX5_limbs) rfl rfl dX5_up_72 ?_
        refine w_sipush C dX5_up_75 (by decide) ?_
        refine w_iload_n C dX5_up_78 6 rfl ?_
        refine w_imul C dX5_up_79 ?_
        refine w_iload C dX5_up_80 1 rfl ?_
        refine w_iadd C dX5_up_82 ?_
        refine w_iload_n C dX5_up_83 4 rfl ?_
        refine w_iadd C dX5_up_84 ?_
        refine w_iconst C dX5_up_85 ?_
        refine w_iadd C dX5_up_86 ?_
        refine w_dup2 C dX5_up_87 rfl rfl ?_
        refine w_iald C 1 0 rfl rfl (640 * a + far + (i + 1)) (g) ⟨by omega, by omega, by omega⟩ (by rw [hgg]; exact (iZ_self _).symm) dX5_up_88 ?_
        refine w_lload C dX5_up_89 0 rfl ?_
        refine w_bipush C dX5_up_91 (by decide) ?_
        refine w_lshr C (31) dX5_up_93 ⟨by omega, by omega⟩ ⟨by omega, by omega⟩ ?_
        refine w_topl C (v / 2147483648) (rfl) ?_
        refine w_l2i C dX5_up_94 ?_
        refine w_ior C dX5_up_95 (v := (iZ (g + v / 2147483648))) (iZ_or_add hg0 (by omega) hdv (by omega) hvh (by omega)) ?_
        refine w_iast C (mU Q G ((upd gL (640 * a + far + (i + 1)) (iZ (g + v / 2147483648))), fS, fN, fD, X)) 1 0 rfl rfl (640 * a + far + (i + 1)) ⟨by omega, by omega, by omega⟩ rfl dX5_up_96 ?_
        refine w_aload_n C dX5_up_97 5 rfl ?_
        refine w_get (ci := 5) (ref := "RootIsolatorModel") (T := TX5) (Cn := RX5) (N := 10) C (fun w h => wC_in (inX5 w h)) 0 rfl rfl 1 (by decide) (wC_in fX5_limbs) rfl rfl dX5_up_98 ?_
        refine w_sipush C dX5_up_101 (by decide) ?_
        refine w_iload_n C dX5_up_104 6 rfl ?_
        refine w_imul C dX5_up_105 ?_
        refine w_iload C dX5_up_106 1 rfl ?_
        refine w_iadd C dX5_up_108 ?_
        refine w_iload_n C dX5_up_109 4 rfl ?_
        refine w_iadd C dX5_up_110 ?_
        refine w_lload C dX5_up_111 0 rfl ?_
        refine w_ldc2 C (2147483647) dX5_up_113 (wC_in kclX5_43) ?_
        refine w_and31 C dX5_up_116 ?_
        refine w_l2i C dX5_up_117 ?_
        refine w_iast C (mU Q G ((upd (upd gL (640 * a + far + (i + 1)) (iZ (g + v / 2147483648))) (640 * a + far + i) (iZ ((v) % 2147483648))), fS, fN, fD, X)) 1 0 rfl rfl (640 * a + far + i) ⟨by omega, by omega, by omega⟩ rfl dX5_up_118 ?_
        refine w_iinc C ((i : Int) - 1) (by omega) [(6, .int (iZ ((i : Int) - 1))), (7, .long (lZ (v))), (5, .int (iZ ((n : Int)))), (4, .int (iZ ((near : Int)))), (3, .int (iZ ((far : Int)))), (0, .ref (Q 0)), (1, .int (iZ ((a : Int)))), (2, .int (iZ ((pw : Int))))] dX5_up_119 1 rfl (by decide) rfl ?_
        refine w_goto C 47 dX5_up_122 (by decide) ?_
        refine w_sub [(6, .int (iZ ((i : Int) - 1))), (5, .int (iZ ((n : Int)))), (4, .int (iZ ((near : Int)))), (3, .int (iZ ((far : Int)))), (0, .ref (Q 0)), (1, .int (iZ ((a : Int)))), (2, .int (iZ ((pw : Int))))] [0, 2, 3, 4, 5, 6, 7] rfl ?_
        exact ih i _ (by omega) (by omega) (fun j hj => by rw [upd_ne (by omega), upd_ne (by omega)]; exact hout j hj) (fun q hq => by rw [upd_ne (by omega), upd_ne (by omega)]; exact hlow q (by omega)) (fun q hq => by
          rcases Nat.eq_zero_or_pos q with h0 | h0
          · subst h0; rw [show 640 * a + far + i + 0 = 640 * a + far + i from rfl, upd_eq, iZ_toInt (by omega) (by omega)]; omega
          · rw [upd_ne (by omega)]
            by_cases h1 : q = 1
            · subst h1; rw [show 640 * a + far + i + 1 = 640 * a + far + (i + 1) by omega, upd_eq, iZ_toInt (by omega) (by omega)]; omega
            · rw [upd_ne (by omega)]
              have h := hl (q - 1) (by omega)
              rw [show 640 * a + far + (i + 1) + (q - 1) = 640 * a + far + i + q by omega] at h; exact h) (by
          rw [show n - i + 1 = (n - (i + 1) + 1) + 1 by omega, zv_cons, upd_eq, iZ_toInt (by omega) (by omega), show n - i = n - (i + 1) + 1 by omega, zv_cons (o := 640 * a + i), Int.add_mul, ← hv0, Int.mul_assoc, show 640 * a + i + 1 = 640 * a + (i + 1) by omega, ← hv]
          have e1 : zv (upd (upd gL (640 * a + far + (i + 1)) (iZ (g + v / 2147483648))) (640 * a + far + i) (iZ (v % 2147483648))) (640 * a + far + i + 1) (n - (i + 1) + 1) = v / 2147483648 + zv gL (640 * a + far + (i + 1)) (n - (i + 1) + 1) := by
            rw [zv_cons, zv_cons (f := gL), upd_ne (by omega), show 640 * a + far + i + 1 = 640 * a + far + (i + 1) by omega, upd_eq, iZ_toInt (by omega) (by omega), ← hgg]
            have e2 : zv (upd (upd gL (640 * a + far + (i + 1)) (iZ (g + v / 2147483648))) (640 * a + far + i) (iZ (v % 2147483648))) (640 * a + far + (i + 1) + 1) (n - (i + 1)) = zv gL (640 * a + far + (i + 1) + 1) (n - (i + 1)) := zv_congr (fun k hk => by rw [upd_ne (by omega), upd_ne (by omega)])
            rw [e2]; omega
          rw [e1]; omega) (by rw [upd_eq, iZ_toInt (by omega) (by omega)]; exact dvd_mod_pow (by omega) (by rw [hv0]; exact Int.dvd_mul_left _ _))
  refine w_iload_n C dX5_up_0 2 rfl ?_
  refine w_bipush C dX5_up_1 (by decide) ?_
  refine w_idiv C dX5_up_3 (by decide) (v := (iZ ((far : Int)))) (by rw [hfar]; exact iZ_divN pw 31 (by omega) (by omega) (by omega)) ?_
  refine w_istore_n C [(3, .int (iZ ((far : Int)))), (0, .ref (Q 0)), (1, .int (iZ ((a : Int)))), (2, .int (iZ ((pw : Int))))] dX5_up_4 rfl (by decide) rfl ?_
  refine w_iload_n C dX5_up_5 3 rfl ?_
  refine w_bipush C dX5_up_6 (by decide) ?_
  refine w_irem C dX5_up_8 (by decide) (v := (iZ ((near : Int)))) (by rw [hnear]; exact iZ_remN pw 31 (by omega) (by omega) (by omega)) ?_
  refine w_istore C [(4, .int (iZ ((near : Int)))), (3, .int (iZ ((far : Int)))), (0, .ref (Q 0)), (1, .int (iZ ((a : Int)))), (2, .int (iZ ((pw : Int))))] dX5_up_9 (by decide) rfl ?_
  refine w_aload_n C dX5_up_11 2 rfl ?_
  refine w_get (ci := 5) (ref := "RootIsolatorModel") (T := TX5) (Cn := RX5) (N := 10) C (fun w h => wC_in (inX5 w h)) 0 rfl rfl 2 (by decide) (wC_in fX5_sizes) rfl rfl dX5_up_12 ?_
  refine w_iload_n C dX5_up_15 3 rfl ?_
  refine w_iald C 2 0 rfl rfl (a) ((n : Int)) ⟨by omega, by omega, by omega⟩ (hn2) dX5_up_16 ?_
  refine w_istore C [(5, .int (iZ ((n : Int)))), (4, .int (iZ ((near : Int)))), (3, .int (iZ ((far : Int)))), (0, .ref (Q 0)), (1, .int (iZ ((a : Int)))), (2, .int (iZ ((pw : Int))))] dX5_up_17 (by decide) rfl ?_
  refine w_iload C dX5_up_19 0 rfl ?_
  refine w_if_ne C 25 dX5_up_21 (by decide) ⟨by omega, by omega⟩ (fun c21 => ?_) (fun c21 => ?_)
  · refine w_aload_n C dX5_up_25 3 rfl ?_
    refine w_get (ci := 5) (ref := "RootIsolatorModel") (T := TX5) (Cn := RX5) (N := 10) C (fun w h => wC_in (inX5 w h)) 0 rfl rfl 1 (by decide) (wC_in fX5_limbs) rfl rfl dX5_up_26 ?_
    refine w_sipush C dX5_up_29 (by decide) ?_
    refine w_iload_n C dX5_up_32 4 rfl ?_
    refine w_imul C dX5_up_33 ?_
    refine w_iload C dX5_up_34 0 rfl ?_
    refine w_iadd C dX5_up_36 ?_
    refine w_iload_n C dX5_up_37 2 rfl ?_
    refine w_iadd C dX5_up_38 ?_
    refine w_iconst C dX5_up_39 ?_
    refine w_iast C (mU Q G ((upd fL (640 * a + far + n) (iZ (0))), fS, fN, fD, X)) 1 0 rfl rfl (640 * a + far + n) ⟨by omega, by omega, by omega⟩ rfl dX5_up_40 ?_
    refine w_iload C dX5_up_41 0 rfl ?_
    refine w_iconst C dX5_up_43 ?_
    refine w_isub C dX5_up_44 ?_
    refine w_istore C [(6, .int (iZ ((n : Int) - 1))), (5, .int (iZ ((n : Int)))), (4, .int (iZ ((near : Int)))), (3, .int (iZ ((far : Int)))), (0, .ref (Q 0)), (1, .int (iZ ((a : Int)))), (2, .int (iZ ((pw : Int))))] dX5_up_45 (by decide) rfl ?_
    exact dl (n + 1) n _ (by omega) (by omega) (fun j hj => by rw [upd_ne (by omega)]) (fun i hi => by rw [upd_ne (by omega)]) (fun q hq => by rw [show q = 0 by omega, Nat.add_zero, upd_eq]; decide) (by rw [Nat.sub_self, zv_cons, upd_eq]; simp [zv, iZ]) (by rw [upd_eq]; exact ⟨0, by simp [iZ]⟩)
  · have hn0 : n = 0 := by omega
    subst hn0
    have hx0 : x = 0 := by simp only [zv] at hn6; omega
    have hz0 : mNum fL fS fN a (x * 2 ^ pw) := by rw [hx0, Int.zero_mul, ← hx0]; exact hx
    exact m_vret hsz C hr hlk (⟨_, _, _, rfl, mFr_rf, hz0⟩) dX5_up_24
