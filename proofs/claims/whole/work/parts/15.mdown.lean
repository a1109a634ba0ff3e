set_option maxHeartbeats 4000000 in
set_option maxRecDepth 100000 in
/-- bit: a bit of a magnitude -/
theorem cm_bit (l : Launch) (D : va_G) (Q : Nat → Nat) (G : Nat → ClassId) (fL fS fN fD : Nat → Int32) (X : mX) (a pw n : Nat) (ha : a < 141) (hn : n ≤ 640) (hl : limb fL (640 * a) n) (hk : pw < 31 * n) (sz : Nat) : Met l yX5_bit (wC yX5_bit cX5_bit 3 (some .boolean)) ({ frames := 0, cells := 0, slots := 0, locals := 0 }) (va_Pc [.ref (Q 0), .int (iZ ((a : Int))), .int (iZ ((pw : Int)))] (mPre D Q G (fL, fS, fN, fD, X) sz)) (va_Qi (fun (r : Int32) (u : mT) => r = iZ (zv fL (640 * a) n / 2 ^ pw % 2) ∧ u = (fL, fS, fN, fD, X)) (mAt D Q G (mA Q sz)) (mA Q sz)) 0 0 (mA Q sz) := by
  refine m_met (cc := cX5_bit) (maxL := 3) (ret := (some .boolean)) (by decide) rfl rfl (Nat.le_of_ble_eq_true rfl) ?_
  intro p e s m below meth c hsz C hr hlk
  refine w_sub [(0, .ref (Q 0)), (1, .int (iZ ((a : Int)))), (2, .int (iZ ((pw : Int))))] [0, 1, 2] rfl ?_
  obtain ⟨far, hfar⟩ : ∃ f : Nat, f = pw / 31 := ⟨_, rfl⟩
  obtain ⟨near, hnear⟩ : ∃ f : Nat, f = pw % 31 := ⟨_, rfl⟩
  have hnr : near < 31 := by omega
  have hpw : pw = 31 * far + near := by omega
  have hb := bit_zv hl hk
  rw [← hfar, ← hnear] at hb
  have hli := hl far (by omega)
  have hlr := i32r (fL (640 * a + far))
  obtain ⟨w, hw⟩ : ∃ w : Int, w = (fL (640 * a + far)).toInt / 2 ^ near := ⟨_, rfl⟩
  have hw0 : 0 ≤ w := by rw [hw]; exact Int.ediv_nonneg hli (Int.le_of_lt (i2pos near))
  have hw1 : w < 2147483648 := by rw [hw]; exact Int.lt_of_le_of_lt (Int.ediv_le_self _ hli) hlr.2
  rw [← hw] at hb
  refine w_aload_n C dX5_bit_0 0 rfl ?_
  refine w_get (ci := 5) (ref := "RootIsolatorModel") (T := TX5) (Cn := RX5) (N := 10) C (fun w h => wC_in (inX5 w h)) 0 rfl rfl 1 (by decide) (wC_in fX5_limbs) rfl rfl dX5_bit_1 ?_
  refine w_sipush C dX5_bit_4 (by decide) ?_
  refine w_iload_n C dX5_bit_7 1 rfl ?_
  refine w_imul C dX5_bit_8 ?_
  refine w_iload_n C dX5_bit_9 2 rfl ?_
  refine w_bipush C dX5_bit_10 (by decide) ?_
  refine w_idiv C dX5_bit_12 (by decide) (v := (iZ ((far : Int)))) (by rw [hfar]; exact iZ_divN pw 31 (by omega) (by omega) (by omega)) ?_
  refine w_iadd C dX5_bit_13 ?_
  refine w_iald C 1 0 rfl rfl (640 * a + far) ((fL (640 * a + far)).toInt) ⟨by omega, by omega, by omega⟩ ((iZ_self _).symm) dX5_bit_14 ?_
  refine w_iload_n C dX5_bit_15 2 rfl ?_
  refine w_bipush C dX5_bit_16 (by decide) ?_
  refine w_irem C dX5_bit_18 (by decide) (v := (iZ ((near : Int)))) (by rw [hnear]; exact iZ_remN pw 31 (by omega) (by omega) (by omega)) ?_
  refine w_ishr C dX5_bit_19 (v := (iZ (w))) (by rw [hw]; exact iZ_shr near (by omega) hlr.1 hlr.2) ?_
  refine w_iconst C dX5_bit_20 ?_
  refine w_iand C dX5_bit_21 (v := (iZ (w % 2))) (iZ_and1 hw0 hw1) ?_
  refine w_iconst C dX5_bit_22 ?_
  refine w_icmp_ne C 30 dX5_bit_23 (by decide) ⟨⟨by omega, by omega⟩, by omega, by omega⟩ (fun c23 => ?_) (fun c23 => ?_)
  · have hr1 : zv fL (640 * a) n / 2 ^ pw % 2 = 0 := by omega
    refine w_iconst C dX5_bit_30 ?_
    exact m_zret hsz C hr rfl hlk (⟨by rw [hr1], rfl⟩) dX5_bit_31
  · have hr1 : zv fL (640 * a) n / 2 ^ pw % 2 = 1 := by omega
    refine w_iconst C dX5_bit_26 ?_
    refine w_goto C 31 dX5_bit_27 (by decide) ?_
    exact m_zret hsz C hr rfl hlk (⟨by rw [hr1], rfl⟩) dX5_bit_31
set_option maxHeartbeats 4000000 in
set_option maxRecDepth 100000 in
/-- down: by a power of two -/
theorem cm_down (l : Launch) (D : va_G) (Q : Nat → Nat) (G : Nat → ClassId) (fL fS fN fD : Nat → Int32) (X : mX) (a pw : Nat) (x : Int) (ha : a < 141) (hpw2 : pw < 2147483648) (hx : mNum fL fS fN a x) (sz : Nat) : Met l yX5_down (wC yX5_down cX5_down 9 none) ({ frames := 1, cells := 0, slots := 0, locals := 24 }) (va_Pc [.ref (Q 0), .int (iZ ((a : Int))), .int (iZ ((pw : Int)))] (mPre D Q G (fL, fS, fN, fD, X) sz)) (va_Qv (fun u : mT => mSet fL fS fN fD X a (x.sign * ((x.natAbs : Int) / 2 ^ pw)) u) (mAt D Q G (mA Q sz)) (mA Q sz)) 0 0 (mA Q sz) := by
  refine m_met (cc := cX5_down) (maxL := 9) (ret := none) (by decide) rfl rfl (Nat.le_of_ble_eq_true rfl) ?_
  intro p e s m below meth c hsz C hr hlk
  refine w_sub [(0, .ref (Q 0)), (1, .int (iZ ((a : Int)))), (2, .int (iZ ((pw : Int))))] [0, 1, 2] rfl ?_
  obtain ⟨far, hfar⟩ : ∃ f : Nat, f = pw / 31 := ⟨_, rfl⟩
  obtain ⟨near, hnear⟩ : ∃ f : Nat, f = pw % 31 := ⟨_, rfl⟩
  have hnr : near < 31 := by omega
  have hpw : pw = 31 * far + near := by omega
  obtain ⟨n, hn1, hn2, hn3, hn4, hn5, hn6⟩ := id hx
  have hp0 := i2pos near
  have hT0 : zv fL (640 * a + far) (n - far) / 2 ^ near = (x.natAbs : Int) / 2 ^ pw := by
    rw [hpw, Int.pow_add, ← Int.ediv_ediv_of_nonneg (Int.le_of_lt (i2pos _)), hn6]
    congr 1
    rcases Nat.lt_or_ge far n with q | q
    · have e : n = far + (n - far) := by omega
      have h1 := zv_lt (n := far) (fun i hi => hn3 i (by omega) : limb fL (640 * a) far)
      have h2 := zv_nonneg (n := far) (fun i hi => hn3 i (by omega) : limb fL (640 * a) far)
      have h3 : zv fL (640 * a) n = zv fL (640 * a) far + 2 ^ (31 * far) * zv fL (640 * a + far) (n - far) := by
        have h4 := zv_split (f := fL) (o := 640 * a) (i := far) (k := n - far)
        rw [← e] at h4; exact h4
      rw [h3, Int.add_mul_ediv_left _ _ (by have := i2pos (31 * far); omega), Int.ediv_eq_zero_of_lt h2 h1, Int.zero_add]
    · rw [show n - far = 0 by omega]
      have h1 := zv_lt hn3
      have h2 := zv_nonneg hn3
      have h3 := pw31_le q
      rw [Int.ediv_eq_zero_of_lt h2 (by omega)]; rfl
  have loop : ∀ (d : Nat) (i : Nat) (gL : Nat → Int32), n < i + d → (i = 0 ∨ far + i ≤ n) → (∀ j : Nat, (j < 640 * a ∨ 640 * a + i ≤ j) → gL j = fL j) → limb gL (640 * a) i → zv gL (640 * a) i + 2 ^ (31 * i) * (zv fL (640 * a + (far + i)) (n - (far + i)) / 2 ^ near) = (x.natAbs : Int) / 2 ^ pw → ZW p l e ({ frames := 1, cells := 0, slots := 0, locals := 24 }) s m ([.ref (Q 0), .int (iZ ((a : Int))), .int (iZ ((pw : Int)))] : List Value).toArray below meth c D (mA Q sz) 9 0 0 (MQ below (va_Qv (fun u : mT => mSet fL fS fN fD X a (x.sign * ((x.natAbs : Int) / 2 ^ pw)) u) (mAt D Q G (mA Q sz)) (mA Q sz)) ([.ref (Q 0), .int (iZ ((a : Int))), .int (iZ ((pw : Int)))] : List Value).toArray s 0 0 (mA Q sz)) (mU Q G (gL, fS, fN, fD, X)) 22 [(6, .int (iZ (((far + i : Nat) : Int)))), (5, .int (iZ ((n : Int)))), (4, .int (iZ ((near : Int)))), (3, .int (iZ ((far : Int)))), (0, .ref (Q 0)), (1, .int (iZ ((a : Int)))), (2, .int (iZ ((pw : Int))))] [] := by
    intro d
    induction d with
    | zero =>
      intro i gL hd hi hout hl hv
      exact absurd hd (by omega)
    | succ d ih =>
      intro i gL hd hi hout hl hv
      refine w_iload C dX5_down_22 0 rfl ?_
      refine w_iload C dX5_down_24 1 rfl ?_
      refine w_icmp_ge C 109 dX5_down_26 (by decide) ⟨⟨by omega, by omega⟩, by omega, by omega⟩ (fun c26 => ?_) (fun c26 => ?_)
      · refine w_aload_n C dX5_down_109 4 rfl ?_
        refine w_iload_n C dX5_down_110 5 rfl ?_
        refine w_iload C dX5_down_111 1 rfl ?_
        refine w_iload_n C dX5_down_113 3 rfl ?_
        have hTn : zv gL (640 * a) i = (x.natAbs : Int) / 2 ^ pw := by
          rw [show n - (far + i) = 0 by omega] at hv
          rw [← hv]; simp [zv]
        have hsg2 : x.sign = 1 ∨ x.sign = -1 ∨ (x.sign = 0 ∧ zv gL (640 * a) i = 0) := by
          rcases sgn_cases x with ⟨h1, h2⟩ | ⟨h1, h2⟩ | ⟨h1, h2⟩
          · exact Or.inl h2
          · exact Or.inr (Or.inr ⟨h2, by rw [hTn, h1]; simp⟩)
          · exact Or.inr (Or.inl h2)
        have J1 : ZW p l e ({ frames := 1, cells := 0, slots := 0, locals := 24 }) s m ([.ref (Q 0), .int (iZ ((a : Int))), .int (iZ ((pw : Int)))] : List Value).toArray below meth c D (mA Q sz) 9 0 0 (MQ below (va_Qv (fun u : mT => mSet fL fS fN fD X a (x.sign * ((x.natAbs : Int) / 2 ^ pw)) u) (mAt D Q G (mA Q sz)) (mA Q sz)) ([.ref (Q 0), .int (iZ ((a : Int))), .int (iZ ((pw : Int)))] : List Value).toArray s 0 0 (mA Q sz)) (mU Q G (gL, fS, fN, fD, X)) 125 [(6, .int (iZ (((far + i : Nat) : Int)))), (5, .int (iZ ((n : Int)))), (4, .int (iZ ((near : Int)))), (3, .int (iZ ((far : Int)))), (0, .ref (Q 0)), (1, .int (iZ ((a : Int)))), (2, .int (iZ ((pw : Int))))] [.int (iZ ((i : Int))), .int (iZ ((a : Int))), .ref (Q 0)] := by
          refine w_aload_n C dX5_down_125 4 rfl ?_
          refine w_get (ci := 5) (ref := "RootIsolatorModel") (T := TX5) (Cn := RX5) (N := 10) C (fun w h => wC_in (inX5 w h)) 0 rfl rfl 3 (by decide) (wC_in fX5_signs) rfl rfl dX5_down_126 ?_
          refine w_iload_n C dX5_down_129 5 rfl ?_
          refine w_iald C 3 0 rfl rfl (a) (x.sign) ⟨by omega, by omega, by omega⟩ (hn5) dX5_down_130 ?_
          refine m_callv [.int (iZ ((a : Int))), .int (iZ ((i : Int))), .int (iZ (x.sign))] hsz C (fun z => cm_trim l D Q G gL fS fN fD X a i x.sign ha (by omega) z) (cwV 3 C.1.2.2.2.2 (wC_V kX5_45 nX5_trim slX5_trim iniX5 cdX5_trim) rfl rfl rfl (by decide +kernel) ⟨Nat.le_of_ble_eq_true rfl, Nat.le_of_ble_eq_true rfl⟩) rfl ⟨Nat.zero_le _, Nat.zero_le _⟩ (Nat.le_of_ble_eq_true rfl) dX5_down_131 [.int (iZ (x.sign)), .int (iZ ((i : Int))), .int (iZ ((a : Int))), .ref (Q 0)] rfl (fun v2 hv2 => ?_)
          obtain ⟨j, hj, hjz, hjt, rfl⟩ := hv2
          have hq := trim_num (gS := upd fS a (iZ (j : Int))) (gN := upd fN a (iZ (if j = 0 then 0 else x.sign))) (by omega) hl hj hjz hjt upd_eq upd_eq hsg2
          rw [hTn] at hq
          exact m_vret hsz C hr hlk (⟨_, _, _, rfl, ⟨fun c i hc hi2 => hout _ (by omega), fun c hc => upd_ne hc, fun c hc => upd_ne hc⟩, hq⟩) dX5_down_134
        refine w_icmp_le C 124 dX5_down_114 (by decide) ⟨⟨by omega, by omega⟩, by omega, by omega⟩ (fun c114 => ?_) (fun c114 => ?_)
        · refine w_iconst C dX5_down_124 ?_
          refine w_top C ((i : Int)) (by omega) ?_
          exact J1
        · refine w_iload C dX5_down_117 1 rfl ?_
          refine w_iload_n C dX5_down_119 3 rfl ?_
          refine w_isub C dX5_down_120 ?_
          refine w_goto C 125 dX5_down_121 (by decide) ?_
          refine w_top C ((i : Int)) (by omega) ?_
          exact J1
      · refine w_aload_n C dX5_down_29 4 rfl ?_
        refine w_get (ci := 5) (ref := "RootIsolatorModel") (T := TX5) (Cn := RX5) (N := 10) C (fun w h => wC_in (inX5 w h)) 0 rfl rfl 1 (by decide) (wC_in fX5_limbs) rfl rfl dX5_down_30 ?_
        refine w_sipush C dX5_down_33 (by decide) ?_
        refine w_iload_n C dX5_down_36 5 rfl ?_
        refine w_imul C dX5_down_37 ?_
        refine w_iload C dX5_down_38 0 rfl ?_
        refine w_iadd C dX5_down_40 ?_
        have hli := hn3 (far + i) (by omega)
        have hlr := i32r (fL (640 * a + (far + i)))
        have hdr := dv_r hn3 (far + i + 1)
        obtain ⟨w, hw⟩ : ∃ w : Int, w = dv fL (640 * a) n (far + i + 1) * 2147483648 + (fL (640 * a + (far + i))).toInt := ⟨_, rfl⟩
        have hwr : 0 ≤ w ∧ w < 4611686018427387904 := by omega
        obtain ⟨y, hy⟩ : ∃ y : Int, y = w / 2 ^ near := ⟨_, rfl⟩
        refine w_iald C 1 0 rfl rfl (640 * a + (far + i)) ((fL (640 * a + (far + i))).toInt) ⟨by omega, by omega, by omega⟩ ((hout _ (by omega)).trans (iZ_self _).symm) dX5_down_41 ?_
        refine w_i2l C dX5_down_42 (i32r _) ?_
        refine w_iload C dX5_down_43 0 rfl ?_
        refine w_iconst C dX5_down_45 ?_
        refine w_iadd C dX5_down_46 ?_
        refine w_iload C dX5_down_47 1 rfl ?_
        have J3 : ZW p l e ({ frames := 1, cells := 0, slots := 0, locals := 24 }) s m ([.ref (Q 0), .int (iZ ((a : Int))), .int (iZ ((pw : Int)))] : List Value).toArray below meth c D (mA Q sz) 9 0 0 (MQ below (va_Qv (fun u : mT => mSet fL fS fN fD X a (x.sign * ((x.natAbs : Int) / 2 ^ pw)) u) (mAt D Q G (mA Q sz)) (mA Q sz)) ([.ref (Q 0), .int (iZ ((a : Int))), .int (iZ ((pw : Int)))] : List Value).toArray s 0 0 (mA Q sz)) (mU Q G (gL, fS, fN, fD, X)) 75 [(6, .int (iZ (((far + i : Nat) : Int)))), (5, .int (iZ ((n : Int)))), (4, .int (iZ ((near : Int)))), (3, .int (iZ ((far : Int)))), (0, .ref (Q 0)), (1, .int (iZ ((a : Int)))), (2, .int (iZ ((pw : Int))))] [.long (lZ (dv fL (640 * a) n (far + i + 1) * 2147483648)), .long (lZ ((fL (640 * a + (far + i))).toInt))] := by
          refine w_lor C dX5_down_75 (v := (lZ (w))) (by rw [Int64.or_comm, hw]; exact lZ_or_add (k := 31) (by omega) (by omega) (Int.dvd_mul_left _ _) hli (by omega) (by omega)) ?_
          refine w_lstore C [(7, .long (lZ (w))), (6, .int (iZ (((far + i : Nat) : Int)))), (5, .int (iZ ((n : Int)))), (4, .int (iZ ((near : Int)))), (3, .int (iZ ((far : Int)))), (0, .ref (Q 0)), (1, .int (iZ ((a : Int)))), (2, .int (iZ ((pw : Int))))] dX5_down_76 (by decide) rfl ?_
          refine w_aload_n C dX5_down_78 5 rfl ?_
          refine w_get (ci := 5) (ref := "RootIsolatorModel") (T := TX5) (Cn := RX5) (N := 10) C (fun w h => wC_in (inX5 w h)) 0 rfl rfl 1 (by decide) (wC_in fX5_limbs) rfl rfl dX5_down_79 ?_
          refine w_sipush C dX5_down_82 (by decide) ?_
          refine w_iload_n C dX5_down_85 6 rfl ?_
          refine w_imul C dX5_down_86 ?_
          refine w_iload C dX5_down_87 1 rfl ?_
          refine w_iadd C dX5_down_89 ?_
          refine w_iload_n C dX5_down_90 4 rfl ?_
          refine w_isub C dX5_down_91 ?_
          refine w_top C (((640 * a + i : Nat) : Int)) (by omega) ?_
          refine w_lload C dX5_down_92 0 rfl ?_
          refine w_iload C dX5_down_94 3 rfl ?_
          refine w_lshr C (near) dX5_down_96 ⟨by omega, by omega⟩ ⟨by omega, by omega⟩ ?_
          refine w_topl C (y) (hy.symm) ?_
          refine w_ldc2 C (2147483647) dX5_down_97 (wC_in kclX5_43) ?_
          refine w_and31 C dX5_down_100 ?_
          refine w_l2i C dX5_down_101 ?_
          refine w_iast C (mU Q G ((upd gL (640 * a + i) (iZ ((y) % 2147483648))), fS, fN, fD, X)) 1 0 rfl rfl (640 * a + i) ⟨by omega, by omega, by omega⟩ rfl dX5_down_102 ?_
          refine w_iinc C (((far + (i + 1) : Nat) : Int)) (by omega) [(6, .int (iZ (((far + (i + 1) : Nat) : Int)))), (7, .long (lZ (w))), (5, .int (iZ ((n : Int)))), (4, .int (iZ ((near : Int)))), (3, .int (iZ ((far : Int)))), (0, .ref (Q 0)), (1, .int (iZ ((a : Int)))), (2, .int (iZ ((pw : Int))))] dX5_down_103 1 rfl (by decide) rfl ?_
          refine w_goto C 22 dX5_down_106 (by decide) ?_
          refine w_sub [(6, .int (iZ (((far + (i + 1) : Nat) : Int)))), (5, .int (iZ ((n : Int)))), (4, .int (iZ ((near : Int)))), (3, .int (iZ ((far : Int)))), (0, .ref (Q 0)), (1, .int (iZ ((a : Int)))), (2, .int (iZ ((pw : Int))))] [0, 2, 3, 4, 5, 6, 7] rfl ?_
          have hym := Int.emod_lt_of_pos y (show (0 : Int) < 2147483648 by omega)
          have hyn := Int.emod_nonneg y (show (2147483648 : Int) ≠ 0 by omega)
          exact ih (i + 1) _ (by omega) (by omega) (fun j hj => by rw [upd_ne (by omega)]; exact hout j (by omega)) (limb_upd hl (by rw [iZ_toInt (by omega) (by omega)]; exact hyn)) (by
            rw [zv_upd_top, iZ_toInt (by omega) (by omega), p31, ← hv]
            have e1 : n - (far + i) = (n - (far + i) - 1) + 1 := by omega
            have e2 : zv fL (640 * a + (far + i)) (n - (far + i)) = (fL (640 * a + (far + i))).toInt + 2147483648 * zv fL (640 * a + (far + (i + 1))) (n - (far + (i + 1))) := by
              rw [e1, zv_cons, show n - (far + i) - 1 = n - (far + (i + 1)) by omega, show 640 * a + (far + i) + 1 = 640 * a + (far + (i + 1)) by omega]
            have e3 : ∃ R : Int, zv fL (640 * a + (far + (i + 1))) (n - (far + (i + 1))) = dv fL (640 * a) n (far + i + 1) + 2147483648 * R := by
              rcases Nat.lt_or_ge (far + i + 1) n with q | q
              · refine ⟨zv fL (640 * a + (far + (i + 1)) + 1) (n - (far + (i + 1)) - 1), ?_⟩
                rw [dv_in q, show n - (far + (i + 1)) = (n - (far + (i + 1)) - 1) + 1 by omega, zv_cons]; rfl
              · exact ⟨0, by rw [dv_out (by omega), show n - (far + (i + 1)) = 0 by omega]; simp [zv]⟩
            obtain ⟨R, hR⟩ := e3
            have e4 := down_step (near := near) (by omega) hli hlr.2 hR
            rw [e2, e4, ← hw, ← hy, Int.mul_add, Int.mul_assoc, Int.mul_comm (y % 2147483648)]
            omega)
        refine w_icmp_ge C 74 dX5_down_49 (by decide) ⟨⟨by omega, by omega⟩, by omega, by omega⟩ (fun c49 => ?_) (fun c49 => ?_)
        · refine w_lconst C 0 dX5_down_74 rfl ?_
          refine w_topl C (dv fL (640 * a) n (far + i + 1) * 2147483648) (by rw [dv_out (by omega)]; rfl) ?_
          exact J3
        · refine w_aload_n C dX5_down_52 4 rfl ?_
          refine w_get (ci := 5) (ref := "RootIsolatorModel") (T := TX5) (Cn := RX5) (N := 10) C (fun w h => wC_in (inX5 w h)) 0 rfl rfl 1 (by decide) (wC_in fX5_limbs) rfl rfl dX5_down_53 ?_
          refine w_sipush C dX5_down_56 (by decide) ?_
          refine w_iload_n C dX5_down_59 5 rfl ?_
          refine w_imul C dX5_down_60 ?_
          refine w_iload C dX5_down_61 0 rfl ?_
          refine w_iadd C dX5_down_63 ?_
          refine w_iconst C dX5_down_64 ?_
          refine w_iadd C dX5_down_65 ?_
          refine w_iald C 1 0 rfl rfl (640 * a + (far + i + 1)) ((fL (640 * a + (far + i + 1))).toInt) ⟨by omega, by omega, by omega⟩ ((hout _ (by omega)).trans (iZ_self _).symm) dX5_down_66 ?_
          refine w_i2l C dX5_down_67 (i32r _) ?_
          refine w_bipush C dX5_down_68 (by decide) ?_
          refine w_lshl C (31) dX5_down_70 ⟨by omega, by omega⟩ ?_
          refine w_goto C 75 dX5_down_71 (by decide) ?_
          refine w_topl C (dv fL (640 * a) n (far + i + 1) * 2147483648) (by rw [dv_in (by omega)]; rfl) ?_
          exact J3
  refine w_iload_n C dX5_down_0 2 rfl ?_
  refine w_bipush C dX5_down_1 (by decide) ?_
  refine w_idiv C dX5_down_3 (by decide) (v := (iZ ((far : Int)))) (by rw [hfar]; exact iZ_divN pw 31 (by omega) (by omega) (by omega)) ?_
  refine w_istore_n C [(3, .int (iZ ((far : Int)))), (0, .ref (Q 0)), (1, .int (iZ ((a : Int)))), (2, .int (iZ ((pw : Int))))] dX5_down_4 rfl (by decide) rfl ?_
  refine w_iload_n C dX5_down_5 3 rfl ?_
  refine w_bipush C dX5_down_6 (by decide) ?_
  refine w_irem C dX5_down_8 (by decide) (v := (iZ ((near : Int)))) (by rw [hnear]; exact iZ_remN pw 31 (by omega) (by omega) (by omega)) ?_
  refine w_istore C [(4, .int (iZ ((near : Int)))), (3, .int (iZ ((far : Int)))), (0, .ref (Q 0)), (1, .int (iZ ((a : Int)))), (2, .int (iZ ((pw : Int))))] dX5_down_9 (by decide) rfl ?_
  refine w_aload_n C dX5_down_11 2 rfl ?_
  refine w_get (ci := 5) (ref := "RootIsolatorModel") (T := TX5) (Cn := RX5) (N := 10) C (fun w h => wC_in (inX5 w h)) 0 rfl rfl 2 (by decide) (wC_in fX5_sizes) rfl rfl dX5_down_12 ?_
  refine w_iload_n C dX5_down_15 3 rfl ?_
  refine w_iald C 2 0 rfl rfl (a) ((n : Int)) ⟨by omega, by omega, by omega⟩ (hn2) dX5_down_16 ?_
  refine w_istore C [(5, .int (iZ ((n : Int)))), (4, .int (iZ ((near : Int)))), (3, .int (iZ ((far : Int)))), (0, .ref (Q 0)), (1, .int (iZ ((a : Int)))), (2, .int (iZ ((pw : Int))))] dX5_down_17 (by decide) rfl ?_
  refine w_iload_n C dX5_down_19 2 rfl ?_
  refine w_istore C [(6, .int (iZ ((far : Int)))), (5, .int (iZ ((n : Int)))), (4, .int (iZ ((near : Int)))), (3, .int (iZ ((far : Int)))), (0, .ref (Q 0)), (1, .int (iZ ((a : Int)))), (2, .int (iZ ((pw : Int))))] dX5_down_20 (by decide) rfl ?_
  exact loop (n + 1) 0 fL (by omega) (Or.inl rfl) (fun _ _ => rfl) (fun j hj => absurd hj (by omega)) (by rw [Nat.add_zero, hT0]; simp [zv])
