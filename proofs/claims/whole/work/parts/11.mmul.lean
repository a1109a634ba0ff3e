theorem zv_split {f : Nat → Int32} {o i : Nat} : ∀ {k : Nat}, zv f o (i + k) = zv f o i + 2 ^ (31 * i) * zv f (o + i) k
  | 0 => by simp [zv]
  | k + 1 => by
    have h := zv_split (f := f) (o := o) (i := i) (k := k)
    rw [← Nat.add_assoc]
    simp only [zv]
    rw [h, Int.mul_add, ← Nat.add_assoc, Nat.mul_add, Int.pow_add, Int.mul_left_comm (2 ^ (31 * i))]
    omega
theorem mul_row {gz B zg la Y A : Int} (h : gz + B * zg = A * Y) : gz + B * (zg + la * Y) = (A + la * B) * Y := by
  have e : B * (la * Y) = la * B * Y := by rw [← Int.mul_assoc, Int.mul_comm B la]
  rw [Int.mul_add, Int.add_mul, ← h]; omega
theorem sgn_mulabs (x y : Int) : x.sign * y.sign * ((x.natAbs : Int) * (y.natAbs : Int)) = x * y := by
  have hx := Int.sign_mul_natAbs x
  have hy := Int.sign_mul_natAbs y
  calc x.sign * y.sign * ((x.natAbs : Int) * (y.natAbs : Int)) = (x.sign * (x.natAbs : Int)) * (y.sign * (y.natAbs : Int)) := by
        rw [Int.mul_assoc, Int.mul_left_comm y.sign, ← Int.mul_assoc]
    _ = x * y := by rw [hx, hy]
set_option maxHeartbeats 4000000 in
set_option maxRecDepth 100000 in
/-- multiply: the number t becomes the product -/
theorem cm_multiply (l : Launch) (D : va_G) (Q : Nat → Nat) (G : Nat → ClassId) (fL fS fN fD : Nat → Int32) (X : mX) (t a b p q : Nat) (x y : Int) (ht : t < 141) (ha : a < 141) (hb : b < 141) (hta : t ≠ a) (htb : t ≠ b) (hx : mNum fL fS fN a x) (hy : mNum fL fS fN b y) (hA : (x.natAbs : Int) < 2 ^ (31 * p)) (hB : (y.natAbs : Int) < 2 ^ (31 * q)) (hpq : p + q ≤ 640) (sz : Nat) : Met l yX5_multiply (wC yX5_multiply cX5_multiply 10 none) ({ frames := 1, cells := 0, slots := 0, locals := 24 }) (va_Pc [.ref (Q 0), .int (iZ ((t : Int))), .int (iZ ((a : Int))), .int (iZ ((b : Int)))] (mPre D Q G (fL, fS, fN, fD, X) sz)) (va_Qv (fun u : mT => mSet fL fS fN fD X t (x * y) u) (mAt D Q G (mA Q sz)) (mA Q sz)) 0 0 (mA Q sz) := by
  refine m_met (cc := cX5_multiply) (maxL := 10) (ret := none) (by decide) rfl rfl (Nat.le_of_ble_eq_true rfl) ?_
  intro p e s m below meth c hsz C hr hlk
  refine w_sub [(0, .ref (Q 0)), (1, .int (iZ ((t : Int)))), (2, .int (iZ ((a : Int)))), (3, .int (iZ ((b : Int))))] [0, 1, 2, 3] rfl ?_
  obtain ⟨na, hna1, hna2, hna3, hna4, hna5, hna6⟩ := hx
  obtain ⟨nb, hnb1, hnb2, hnb3, hnb4, hnb5, hnb6⟩ := hy
  have hna7 := mNum_size hna3 hna4 hna6 hA
  have hnb7 := mNum_size hnb3 hnb4 hnb6 hB
  have outer : ∀ (d : Nat) (i : Nat) (gL : Nat → Int32), na < i + d → i ≤ na → (∀ j : Nat, (j < 640 * t ∨ 640 * t + (na + nb) ≤ j) → gL j = fL j) → limb gL (640 * t) (na + nb) → (∀ j : Nat, i + nb ≤ j → j < na + nb → gL (640 * t + j) = 0) → zv gL (640 * t) (i + nb) = zv fL (640 * a) i * zv fL (640 * b) nb → ZW p l e ({ frames := 1, cells := 0, slots := 0, locals := 24 }) s m ([.ref (Q 0), .int (iZ ((t : Int))), .int (iZ ((a : Int))), .int (iZ ((b : Int)))] : List Value).toArray below meth c D (mA Q sz) 10 0 0 (MQ below (va_Qv (fun u : mT => mSet fL fS fN fD X t (x * y) u) (mAt D Q G (mA Q sz)) (mA Q sz)) ([.ref (Q 0), .int (iZ ((t : Int))), .int (iZ ((a : Int))), .int (iZ ((b : Int)))] : List Value).toArray s 0 0 (mA Q sz)) (mU Q G (gL, fS, fN, fD, X)) 52 [(6, .int (iZ ((i : Int)))), (5, .int (iZ ((nb : Int)))), (4, .int (iZ ((na : Int)))), (0, .ref (Q 0)), (1, .int (iZ ((t : Int)))), (2, .int (iZ ((a : Int)))), (3, .int (iZ ((b : Int))))] [] := by
    intro d
    induction d with
    | zero =>
      intro i gL hd hi hout hl hz hv
      exact absurd hd (by omega)
    | succ d ih =>
      intro i gL hd hi hout hl hz hv
      refine w_iload C dX5_multiply_52 0 rfl ?_
      refine w_iload C dX5_multiply_54 2 rfl ?_
      refine w_icmp_ge C 185 dX5_multiply_56 (by decide) ⟨⟨by omega, by omega⟩, by omega, by omega⟩ (fun c56 => ?_) (fun c56 => ?_)
      · have hkn : i = na := by omega
        subst hkn
        rw [← hna6, ← hnb6] at hv
        refine w_aload_n C dX5_multiply_185 3 rfl ?_
        refine w_iload_n C dX5_multiply_186 4 rfl ?_
        refine w_iload C dX5_multiply_187 2 rfl ?_
        refine w_iload C dX5_multiply_189 1 rfl ?_
        refine w_iadd C dX5_multiply_191 ?_
        refine w_top C (((i + nb : Nat) : Int)) (by omega) ?_
        refine w_aload_n C dX5_multiply_192 3 rfl ?_
        refine w_get (ci := 5) (ref := "RootIsolatorModel") (T := TX5) (Cn := RX5) (N := 10) C (fun w h => wC_in (inX5 w h)) 0 rfl rfl 3 (by decide) (wC_in fX5_signs) rfl rfl dX5_multiply_193 ?_
        refine w_iload_n C dX5_multiply_196 5 rfl ?_
        refine w_iald C 3 0 rfl rfl (a) (x.sign) ⟨by omega, by omega, by omega⟩ (hna5) dX5_multiply_197 ?_
        refine w_aload_n C dX5_multiply_198 3 rfl ?_
        refine w_get (ci := 5) (ref := "RootIsolatorModel") (T := TX5) (Cn := RX5) (N := 10) C (fun w h => wC_in (inX5 w h)) 0 rfl rfl 3 (by decide) (wC_in fX5_signs) rfl rfl dX5_multiply_199 ?_
        refine w_iload_n C dX5_multiply_202 6 rfl ?_
        refine w_iald C 3 0 rfl rfl (b) (y.sign) ⟨by omega, by omega, by omega⟩ (hnb5) dX5_multiply_203 ?_
        refine w_imul C dX5_multiply_204 ?_
        refine m_callv [.int (iZ ((t : Int))), .int (iZ (((i + nb : Nat) : Int))), .int (iZ (x.sign * y.sign))] hsz C (fun z => cm_trim l D Q G gL fS fN fD X t (i + nb) (x.sign * y.sign) ht (by omega) z) (cwV 3 C.1.2.2.2.2 (wC_V kX5_45 nX5_trim slX5_trim iniX5 cdX5_trim) rfl rfl rfl (by decide +kernel) ⟨Nat.le_of_ble_eq_true rfl, Nat.le_of_ble_eq_true rfl⟩) rfl ⟨Nat.zero_le _, Nat.zero_le _⟩ (Nat.le_of_ble_eq_true rfl) dX5_multiply_205 [.int (iZ (x.sign * y.sign)), .int (iZ (((i + nb : Nat) : Int))), .int (iZ ((t : Int))), .ref (Q 0)] rfl (fun v1 hv1 => ?_)
        obtain ⟨j, hj, hjz, hjt, rfl⟩ := hv1
        have hq := trim_num (gS := upd fS t (iZ (j : Int))) (gN := upd fN t (iZ (if j = 0 then 0 else x.sign * y.sign))) (by omega) hl hj hjz hjt upd_eq upd_eq (by
          rcases sgn_cases x with ⟨h1, h2⟩ | ⟨h1, h2⟩ | ⟨h1, h2⟩ <;> rcases sgn_cases y with ⟨h3, h4⟩ | ⟨h3, h4⟩ | ⟨h3, h4⟩ <;> rw [h2, h4] <;> first | (left; rfl) | (right; left; rfl) | (right; right; refine ⟨rfl, ?_⟩; rw [hv]; first | (rw [h1]; simp; done) | (rw [h3]; simp; done)))
        rw [hv, sgn_mulabs] at hq
        exact m_vret hsz C hr hlk (⟨_, _, _, rfl, ⟨fun c i hc hi2 => hout _ (by omega), fun c hc => upd_ne hc, fun c hc => upd_ne hc⟩, hq⟩) dX5_multiply_208
      · refine w_lconst C 0 dX5_multiply_59 rfl ?_
        refine w_lstore C [(7, .long (lZ (0))), (6, .int (iZ ((i : Int)))), (5, .int (iZ ((nb : Int)))), (4, .int (iZ ((na : Int)))), (0, .ref (Q 0)), (1, .int (iZ ((t : Int)))), (2, .int (iZ ((a : Int)))), (3, .int (iZ ((b : Int))))] dX5_multiply_60 (by decide) rfl ?_
        refine w_iconst C dX5_multiply_62 ?_
        refine w_istore C [(9, .int (iZ (0))), (7, .long (lZ (0))), (6, .int (iZ ((i : Int)))), (5, .int (iZ ((nb : Int)))), (4, .int (iZ ((na : Int)))), (0, .ref (Q 0)), (1, .int (iZ ((t : Int)))), (2, .int (iZ ((a : Int)))), (3, .int (iZ ((b : Int))))] dX5_multiply_63 (by decide) rfl ?_
        have inner : ∀ (d : Nat) (k : Nat) (cy : Int) (hL : Nat → Int32), nb < k + d → k ≤ nb → 0 ≤ cy ∧ cy < 2147483648 → (∀ j : Nat, (j < 640 * t + i ∨ 640 * t + i + k ≤ j) → hL j = gL j) → limb hL (640 * t + i) k → zv hL (640 * t + i) k + cy * 2 ^ (31 * k) = zv gL (640 * t + i) k + (fL (640 * a + i)).toInt * zv fL (640 * b) k → ZW p l e ({ frames := 1, cells := 0, slots := 0, locals := 24 }) s m ([.ref (Q 0), .int (iZ ((t : Int))), .int (iZ ((a : Int))), .int (iZ ((b : Int)))] : List Value).toArray below meth c D (mA Q sz) 10 0 0 (MQ below (va_Qv (fun u : mT => mSet fL fS fN fD X t (x * y) u) (mAt D Q G (mA Q sz)) (mA Q sz)) ([.ref (Q 0), .int (iZ ((t : Int))), .int (iZ ((a : Int))), .int (iZ ((b : Int)))] : List Value).toArray s 0 0 (mA Q sz)) (mU Q G (hL, fS, fN, fD, X)) 65 [(9, .int (iZ ((k : Int)))), (7, .long (lZ (cy))), (6, .int (iZ ((i : Int)))), (5, .int (iZ ((nb : Int)))), (4, .int (iZ ((na : Int)))), (0, .ref (Q 0)), (1, .int (iZ ((t : Int)))), (2, .int (iZ ((a : Int)))), (3, .int (iZ ((b : Int))))] [] := by
          intro d
          induction d with
          | zero =>
            intro k cy hL hd hk hcy ho2 hl2 hv2
            exact absurd hd (by omega)
          | succ d ih2 =>
            intro k cy hL hd hk hcy ho2 hl2 hv2
            refine w_iload C dX5_multiply_65 0 rfl ?_
            refine w_iload C dX5_multiply_67 3 rfl ?_
            refine w_icmp_ge C 160 dX5_multiply_69 (by decide) ⟨⟨by omega, by omega⟩, by omega, by omega⟩ (fun c69 => ?_) (fun c69 => ?_)
            · have hkn : k = nb := by omega
              subst hkn
              refine w_aload_n C dX5_multiply_160 5 rfl ?_
              refine w_get (ci := 5) (ref := "RootIsolatorModel") (T := TX5) (Cn := RX5) (N := 10) C (fun w h => wC_in (inX5 w h)) 0 rfl rfl 1 (by decide) (wC_in fX5_limbs) rfl rfl dX5_multiply_161 ?_
              refine w_sipush C dX5_multiply_164 (by decide) ?_
              refine w_iload_n C dX5_multiply_167 6 rfl ?_
              refine w_imul C dX5_multiply_168 ?_
              refine w_iload C dX5_multiply_169 2 rfl ?_
              refine w_iadd C dX5_multiply_171 ?_
              refine w_iload C dX5_multiply_172 3 rfl ?_
              refine w_iadd C dX5_multiply_174 ?_
              refine w_lload C dX5_multiply_175 1 rfl ?_
              refine w_l2i C dX5_multiply_177 ?_
              refine w_iast C (mU Q G ((upd hL (640 * t + i + k) (iZ (cy))), fS, fN, fD, X)) 1 0 rfl rfl (640 * t + i + k) ⟨by omega, by omega, by omega⟩ rfl dX5_multiply_178 ?_
              refine w_iinc C (((i + 1 : Nat) : Int)) (by omega) [(6, .int (iZ (((i + 1 : Nat) : Int)))), (9, .int (iZ ((k : Int)))), (7, .long (lZ (cy))), (5, .int (iZ ((k : Int)))), (4, .int (iZ ((na : Int)))), (0, .ref (Q 0)), (1, .int (iZ ((t : Int)))), (2, .int (iZ ((a : Int)))), (3, .int (iZ ((b : Int))))] dX5_multiply_179 2 rfl (by decide) rfl ?_
              refine w_goto C 52 dX5_multiply_182 (by decide) ?_
              refine w_sub [(6, .int (iZ (((i + 1 : Nat) : Int)))), (5, .int (iZ ((k : Int)))), (4, .int (iZ ((na : Int)))), (0, .ref (Q 0)), (1, .int (iZ ((t : Int)))), (2, .int (iZ ((a : Int)))), (3, .int (iZ ((b : Int))))] [0, 3, 4, 5, 6, 7, 8] rfl ?_
              exact ih (i + 1) _ (by omega) (by omega) (fun j hj => by rw [upd_ne (by omega)]; exact (ho2 j (by omega)).trans (hout j hj)) (fun j hj => by
                rcases Nat.lt_trichotomy j (i + k) with q | q | q
                · rw [upd_ne (by omega)]
                  rcases Nat.lt_or_ge j i with q2 | q2
                  · rw [ho2 _ (by omega)]; exact hl j hj
                  · have h := hl2 (j - i) (by omega)
                    rw [show 640 * t + i + (j - i) = 640 * t + j by omega] at h; exact h
                · subst q; rw [← Nat.add_assoc, upd_eq, iZ_toInt (by omega) (by omega)]; omega
                · rw [upd_ne (by omega), ho2 _ (by omega)]; exact hl j hj) (fun j h1 h2 => by rw [upd_ne (by omega), ho2 _ (by omega)]; exact hz j (by omega) h2) (by
                rw [show i + 1 + k = i + (k + 1) by omega, zv_split, zv_upd_top, iZ_toInt (by omega) (by omega), hv2]
                have e1 : zv (upd hL (640 * t + i + k) (iZ cy)) (640 * t) i = zv gL (640 * t) i := zv_congr (fun j hj => by rw [upd_ne (by omega)]; exact ho2 _ (by omega))
                rw [e1]
                rw [zv_split] at hv
                exact mul_row hv)
            · refine w_lload C dX5_multiply_72 1 rfl ?_
              refine w_aload_n C dX5_multiply_74 5 rfl ?_
              refine w_get (ci := 5) (ref := "RootIsolatorModel") (T := TX5) (Cn := RX5) (N := 10) C (fun w h => wC_in (inX5 w h)) 0 rfl rfl 1 (by decide) (wC_in fX5_limbs) rfl rfl dX5_multiply_75 ?_
              refine w_sipush C dX5_multiply_78 (by decide) ?_
              refine w_iload_n C dX5_multiply_81 7 rfl ?_
              refine w_imul C dX5_multiply_82 ?_
              refine w_iload C dX5_multiply_83 2 rfl ?_
              refine w_iadd C dX5_multiply_85 ?_
              refine w_iald C 1 0 rfl rfl (640 * a + i) ((fL (640 * a + i)).toInt) ⟨by omega, by omega, by omega⟩ (((ho2 _ (by omega)).trans (hout _ (by omega))).trans (iZ_self _).symm) dX5_multiply_86 ?_
              refine w_i2l C dX5_multiply_87 (i32r _) ?_
              refine w_aload_n C dX5_multiply_88 5 rfl ?_
              refine w_get (ci := 5) (ref := "RootIsolatorModel") (T := TX5) (Cn := RX5) (N := 10) C (fun w h => wC_in (inX5 w h)) 0 rfl rfl 1 (by decide) (wC_in fX5_limbs) rfl rfl dX5_multiply_89 ?_
              refine w_sipush C dX5_multiply_92 (by decide) ?_
              refine w_iload_n C dX5_multiply_95 8 rfl ?_
              refine w_imul C dX5_multiply_96 ?_
              refine w_iload C dX5_multiply_97 0 rfl ?_
              refine w_iadd C dX5_multiply_99 ?_
              refine w_iald C 1 0 rfl rfl (640 * b + k) ((fL (640 * b + k)).toInt) ⟨by omega, by omega, by omega⟩ (((ho2 _ (by omega)).trans (hout _ (by omega))).trans (iZ_self _).symm) dX5_multiply_100 ?_
              refine w_i2l C dX5_multiply_101 (i32r _) ?_
              refine w_lmul C dX5_multiply_102 ?_
              refine w_aload_n C dX5_multiply_103 5 rfl ?_
              refine w_get (ci := 5) (ref := "RootIsolatorModel") (T := TX5) (Cn := RX5) (N := 10) C (fun w h => wC_in (inX5 w h)) 0 rfl rfl 1 (by decide) (wC_in fX5_limbs) rfl rfl dX5_multiply_104 ?_
              refine w_sipush C dX5_multiply_107 (by decide) ?_
              refine w_iload_n C dX5_multiply_110 6 rfl ?_
              refine w_imul C dX5_multiply_111 ?_
              refine w_iload C dX5_multiply_112 2 rfl ?_
              refine w_iadd C dX5_multiply_114 ?_
              refine w_iload C dX5_multiply_115 0 rfl ?_
              refine w_iadd C dX5_multiply_117 ?_
              refine w_iald C 1 0 rfl rfl (640 * t + i + k) ((gL (640 * t + i + k)).toInt) ⟨by omega, by omega, by omega⟩ ((ho2 _ (by omega)).trans (iZ_self _).symm) dX5_multiply_118 ?_
              refine w_i2l C dX5_multiply_119 (i32r _) ?_
              refine w_ladd C dX5_multiply_120 ?_
              obtain ⟨w, hw⟩ : ∃ w : Int, w = cy + ((fL (640 * a + i)).toInt * (fL (640 * b + k)).toInt + (gL (640 * t + i + k)).toInt) := ⟨_, rfl⟩
              have hr1 := i32r (fL (640 * a + i))
              have hr2 := i32r (fL (640 * b + k))
              have hr3 := i32r (gL (640 * t + i + k))
              have hr4 := hna3 i (by omega)
              have hr5 := hnb3 k (by omega)
              have hr6 := hl (i + k) (by omega)
              rw [← Nat.add_assoc] at hr6
              have hp1 := Int.mul_le_mul (show (fL (640 * a + i)).toInt ≤ 2147483647 by omega) (show (fL (640 * b + k)).toInt ≤ 2147483647 by omega) hr5 (show (0 : Int) ≤ 2147483647 by omega)
              have hp0 := Int.mul_nonneg hr4 hr5
              have hwr : 0 ≤ w ∧ w < 4611686018427387904 := by omega
              refine w_ladd C dX5_multiply_121 ?_
              refine w_topl C (w) (hw.symm) ?_
              refine w_lstore C [(7, .long (lZ (w))), (9, .int (iZ ((k : Int)))), (6, .int (iZ ((i : Int)))), (5, .int (iZ ((nb : Int)))), (4, .int (iZ ((na : Int)))), (0, .ref (Q 0)), (1, .int (iZ ((t : Int)))), (2, .int (iZ ((a : Int)))), (3, .int (iZ ((b : Int))))] dX5_multiply_122 (by decide) rfl ?_
              refine w_aload_n C dX5_multiply_124 5 rfl ?_
              refine w_get (ci := 5) (ref := "RootIsolatorModel") (T := TX5) (Cn := RX5) (N := 10) C (fun w h => wC_in (inX5 w h)) 0 rfl rfl 1 (by decide) (wC_in fX5_limbs) rfl rfl dX5_multiply_125 ?_
              refine w_sipush C dX5_multiply_128 (by decide) ?_
              refine w_iload_n C dX5_multiply_131 6 rfl ?_
              refine w_imul C dX5_multiply_132 ?_
              refine w_iload C dX5_multiply_133 2 rfl ?_
              refine w_iadd C dX5_multiply_135 ?_
              refine w_iload C dX5_multiply_136 1 rfl ?_
              refine w_iadd C dX5_multiply_138 ?_
              refine w_lload C dX5_multiply_139 0 rfl ?_
              refine w_ldc2 C (2147483647) dX5_multiply_141 (wC_in kclX5_43) ?_
              refine w_and31 C dX5_multiply_144 ?_
              refine w_l2i C dX5_multiply_145 ?_
              refine w_iast C (mU Q G ((upd hL (640 * t + i + k) (iZ ((w) % 2147483648))), fS, fN, fD, X)) 1 0 rfl rfl (640 * t + i + k) ⟨by omega, by omega, by omega⟩ rfl dX5_multiply_146 ?_
              refine w_lload C dX5_multiply_147 0 rfl ?_
              refine w_bipush C dX5_multiply_149 (by decide) ?_
              refine w_lshr C (31) dX5_multiply_151 ⟨by omega, by omega⟩ ⟨by omega, by omega⟩ ?_
              refine w_topl C (w / 2147483648) (rfl) ?_
              refine w_lstore C [(7, .long (lZ (w / 2147483648))), (9, .int (iZ ((k : Int)))), (6, .int (iZ ((i : Int)))), (5, .int (iZ ((nb : Int)))), (4, .int (iZ ((na : Int)))), (0, .ref (Q 0)), (1, .int (iZ ((t : Int)))), (2, .int (iZ ((a : Int)))), (3, .int (iZ ((b : Int))))] dX5_multiply_152 (by decide) rfl ?_
              refine w_iinc C (((k + 1 : Nat) : Int)) (by omega) [(9, .int (iZ (((k + 1 : Nat) : Int)))), (7, .long (lZ (w / 2147483648))), (6, .int (iZ ((i : Int)))), (5, .int (iZ ((nb : Int)))), (4, .int (iZ ((na : Int)))), (0, .ref (Q 0)), (1, .int (iZ ((t : Int)))), (2, .int (iZ ((a : Int)))), (3, .int (iZ ((b : Int))))] dX5_multiply_154 1 rfl (by decide) rfl ?_
              refine w_goto C 65 dX5_multiply_157 (by decide) ?_
              exact ih2 (k + 1) (w / 2147483648) _ (by omega) (by omega) (by omega) (fun j hj => by rw [upd_ne (by omega)]; exact ho2 j (by omega)) (limb_upd hl2 (by rw [iZ_toInt (by omega) (by omega)]; omega)) (by
                have e1 := dig31 w (2 ^ (31 * k))
                have e2 : w * 2 ^ (31 * k) = cy * 2 ^ (31 * k) + (fL (640 * a + i)).toInt * (fL (640 * b + k)).toInt * 2 ^ (31 * k) + (gL (640 * t + i + k)).toInt * 2 ^ (31 * k) := by rw [hw, Int.add_mul, Int.add_mul]; omega
                rw [zv_upd_top, iZ_toInt (by omega) (by omega), p31]
                simp only [zv]
                have e3 := Int.mul_assoc (fL (640 * a + i)).toInt (fL (640 * b + k)).toInt (2 ^ (31 * k))
                rw [Int.mul_add]
                omega)
        exact inner (nb + 1) 0 0 gL (by omega) (by omega) (by omega) (fun _ _ => rfl) (fun j hj => absurd hj (by omega)) (by simp [zv])
  have zero : ∀ (d : Nat) (k : Nat) (gL : Nat → Int32), na + nb < k + d → k ≤ na + nb → (∀ j : Nat, (j < 640 * t ∨ 640 * t + (na + nb) ≤ j) → gL j = fL j) → (∀ j : Nat, j < k → gL (640 * t + j) = 0) → ZW p l e ({ frames := 1, cells := 0, slots := 0, locals := 24 }) s m ([.ref (Q 0), .int (iZ ((t : Int))), .int (iZ ((a : Int))), .int (iZ ((b : Int)))] : List Value).toArray below meth c D (mA Q sz) 10 0 0 (MQ below (va_Qv (fun u : mT => mSet fL fS fN fD X t (x * y) u) (mAt D Q G (mA Q sz)) (mA Q sz)) ([.ref (Q 0), .int (iZ ((t : Int))), .int (iZ ((a : Int))), .int (iZ ((b : Int)))] : List Value).toArray s 0 0 (mA Q sz)) (mU Q G (gL, fS, fN, fD, X)) 19 [(6, .int (iZ ((k : Int)))), (5, .int (iZ ((nb : Int)))), (4, .int (iZ ((na : Int)))), (0, .ref (Q 0)), (1, .int (iZ ((t : Int)))), (2, .int (iZ ((a : Int)))), (3, .int (iZ ((b : Int))))] [] := by
    intro d
    induction d with
    | zero =>
      intro k gL hd hk hout hz
      exact absurd hd (by omega)
    | succ d ih =>
      intro k gL hd hk hout hz
      refine w_iload C dX5_multiply_19 0 rfl ?_
      refine w_iload C dX5_multiply_21 2 rfl ?_
      refine w_iload C dX5_multiply_23 1 rfl ?_
      refine w_iadd C dX5_multiply_25 ?_
      refine w_icmp_ge C 49 dX5_multiply_26 (by decide) ⟨⟨by omega, by omega⟩, by omega, by omega⟩ (fun c26 => ?_) (fun c26 => ?_)
      · refine w_iconst C dX5_multiply_49 ?_
        refine w_istore C [(6, .int (iZ (0))), (5, .int (iZ ((nb : Int)))), (4, .int (iZ ((na : Int)))), (0, .ref (Q 0)), (1, .int (iZ ((t : Int)))), (2, .int (iZ ((a : Int)))), (3, .int (iZ ((b : Int))))] dX5_multiply_50 (by decide) rfl ?_
        exact outer (na + 1) 0 gL (by omega) (by omega) hout (fun j hj => by rw [hz j (by omega)]; decide) (fun j h1 h2 => hz j (by omega)) (by
          rw [Nat.zero_add, zv_zero (j := 0) (Nat.zero_le _) (fun j h1 h2 => hz j (by omega))]; simp [zv])
      · refine w_aload_n C dX5_multiply_29 3 rfl ?_
        refine w_get (ci := 5) (ref := "RootIsolatorModel") (T := TX5) (Cn := RX5) (N := 10) C (fun w h => wC_in (inX5 w h)) 0 rfl rfl 1 (by decide) (wC_in fX5_limbs) rfl rfl dX5_multiply_30 ?_
        refine w_sipush C dX5_multiply_33 (by decide) ?_
        refine w_iload_n C dX5_multiply_36 4 rfl ?_
        refine w_imul C dX5_multiply_37 ?_
        refine w_iload C dX5_multiply_38 0 rfl ?_
        refine w_iadd C dX5_multiply_40 ?_
        refine w_iconst C dX5_multiply_41 ?_
        refine w_iast C (mU Q G ((upd gL (640 * t + k) (iZ (0))), fS, fN, fD, X)) 1 0 rfl rfl (640 * t + k) ⟨by omega, by omega, by omega⟩ rfl dX5_multiply_42 ?_
        refine w_iinc C (((k + 1 : Nat) : Int)) (by omega) [(6, .int (iZ (((k + 1 : Nat) : Int)))), (5, .int (iZ ((nb : Int)))), (4, .int (iZ ((na : Int)))), (0, .ref (Q 0)), (1, .int (iZ ((t : Int)))), (2, .int (iZ ((a : Int)))), (3, .int (iZ ((b : Int))))] dX5_multiply_43 0 rfl (by decide) rfl ?_
        refine w_goto C 19 dX5_multiply_46 (by decide) ?_
        exact ih (k + 1) _ (by omega) (by omega) (fun j hj => by rw [upd_ne (by omega)]; exact hout j hj) (fun j hj => by
          rcases Nat.lt_or_ge j k with q | q
          · rw [upd_ne (by omega)]; exact hz j q
          · have : j = k := by omega
            subst this; rw [upd_eq]; rfl)
  refine w_aload_n C dX5_multiply_0 0 rfl ?_
  refine w_get (ci := 5) (ref := "RootIsolatorModel") (T := TX5) (Cn := RX5) (N := 10) C (fun w h => wC_in (inX5 w h)) 0 rfl rfl 2 (by decide) (wC_in fX5_sizes) rfl rfl dX5_multiply_1 ?_
  refine w_iload_n C dX5_multiply_4 2 rfl ?_
  refine w_iald C 2 0 rfl rfl (a) ((na : Int)) ⟨by omega, by omega, by omega⟩ (hna2) dX5_multiply_5 ?_
  refine w_istore C [(4, .int (iZ ((na : Int)))), (0, .ref (Q 0)), (1, .int (iZ ((t : Int)))), (2, .int (iZ ((a : Int)))), (3, .int (iZ ((b : Int))))] dX5_multiply_6 (by decide) rfl ?_
  refine w_aload_n C dX5_multiply_8 1 rfl ?_
  refine w_get (ci := 5) (ref := "RootIsolatorModel") (T := TX5) (Cn := RX5) (N := 10) C (fun w h => wC_in (inX5 w h)) 0 rfl rfl 2 (by decide) (wC_in fX5_sizes) rfl rfl dX5_multiply_9 ?_
  refine w_iload_n C dX5_multiply_12 4 rfl ?_
  refine w_iald C 2 0 rfl rfl (b) ((nb : Int)) ⟨by omega, by omega, by omega⟩ (hnb2) dX5_multiply_13 ?_
  refine w_istore C [(5, .int (iZ ((nb : Int)))), (4, .int (iZ ((na : Int)))), (0, .ref (Q 0)), (1, .int (iZ ((t : Int)))), (2, .int (iZ ((a : Int)))), (3, .int (iZ ((b : Int))))] dX5_multiply_14 (by decide) rfl ?_
  refine w_iconst C dX5_multiply_16 ?_
  refine w_istore C [(6, .int (iZ (0))), (5, .int (iZ ((nb : Int)))), (4, .int (iZ ((na : Int)))), (0, .ref (Q 0)), (1, .int (iZ ((t : Int)))), (2, .int (iZ ((a : Int)))), (3, .int (iZ ((b : Int))))] dX5_multiply_17 (by decide) rfl ?_
  exact zero (na + nb + 1) 0 fL (by omega) (by omega) (fun _ _ => rfl) (fun j hj => absurd hj (by omega))
