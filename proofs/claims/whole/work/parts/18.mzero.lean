/-- the number t becomes z, all others stay; where z is 0 the contents are as P says -/
def mSet0 (fL fS fN fD : Nat → Int32) (X : mX) (t : Nat) (z : Int) (P : (Nat → Int32) → Prop) (u : mT) : Prop := ∃ gL gS gN : Nat → Int32, u = (gL, gS, gN, fD, X) ∧ mFr t fL fS fN gL gS gN ∧ mNum gL gS gN t z ∧ (z = 0 → P gL)
theorem mNum_0 {f : Nat → Int32} {o n j : Nat} (hl : limb f o n) (hj : j ≤ n) (hz : ∀ k, j ≤ k → k < n → f (o + k) = 0) (htop : ∀ i, j = i + 1 → f (o + i) ≠ 0) (h0 : zv f o n = 0) (hn : 0 < n) : f o = 0 := by
  rcases Nat.eq_zero_or_pos j with q | q
  · exact hz 0 (by omega) hn
  · obtain ⟨i, rfl⟩ : ∃ i, j = i + 1 := ⟨j - 1, by omega⟩
    have h1 := zv_top (fun k hk => hl k (by omega) : limb f o (i + 1)) (htop i rfl)
    have h2 := zv_zero hj hz
    have h3 := p31_pos i
    omega
theorem zv_set {f : Nat → Int32} {o q : Nat} {v : Int32} : ∀ {n : Nat}, q < n → zv (upd f (o + q) v) o n = zv f o n + (v.toInt - (f (o + q)).toInt) * 2 ^ (31 * q)
  | 0, h => absurd h (by omega)
  | n + 1, h => by
    rcases Nat.lt_or_ge q n with g | g
    · have h1 := zv_set (f := f) (o := o) (q := q) (v := v) (n := n) g
      simp only [zv]
      rw [h1, upd_ne (by omega)]; omega
    · have : q = n := by omega
      subst this
      rw [zv_upd_top, Int.sub_mul]
      simp only [zv]; omega
theorem setbit {f : Nat → Int32} {o n i : Nat} {q : Int} (hl : limb f o n) (hi : i < 31 * n) (hv : zv f o n = q * 2 ^ (i + 1)) : (2 : Int) ^ (i % 31 + 1) ∣ (f (o + i / 31)).toInt := by
  obtain ⟨Q, hQ⟩ : ∃ Q : Nat, Q = i / 31 := ⟨_, rfl⟩
  obtain ⟨r, hr⟩ : ∃ r : Nat, r = i % 31 := ⟨_, rfl⟩
  rw [← hQ, ← hr]
  have e : zv f o n = zv f o Q + 2 ^ (31 * Q) * zv f (o + Q) ((n - Q - 1) + 1) := by
    have h := zv_split (f := f) (o := o) (i := Q) (k := (n - Q - 1) + 1)
    rw [show Q + ((n - Q - 1) + 1) = n by omega] at h; exact h
  rw [zv_cons] at e
  have h1 := zv_lt (n := Q) (fun k hk => hl k (by omega) : limb f o Q)
  have h2 := zv_nonneg (n := Q) (fun k hk => hl k (by omega) : limb f o Q)
  have hp := i2pos (31 * Q)
  have e2 : (2 : Int) ^ (i + 1) = 2 ^ (31 * Q) * 2 ^ (r + 1) := by rw [← Int.pow_add]; congr 1; omega
  have hd : (2 : Int) ^ (31 * Q) ∣ zv f o Q := by
    have h3 : zv f o Q = 2 ^ (31 * Q) * (q * 2 ^ (r + 1) - ((f (o + Q)).toInt + 2147483648 * zv f (o + Q + 1) (n - Q - 1))) := by
      rw [Int.mul_sub, ← Int.mul_assoc, Int.mul_comm (2 ^ (31 * Q)) q, Int.mul_assoc q, ← e2]; omega
    exact ⟨_, h3⟩
  have h0 : zv f o Q = 0 := by
    obtain ⟨c, hc⟩ := hd
    rcases Int.lt_or_le 0 c with g | g
    · have h4 := Int.mul_le_mul_of_nonneg_left (show 1 ≤ c by omega) (Int.le_of_lt hp)
      omega
    · have h4 := Int.mul_le_mul_of_nonneg_left g (Int.le_of_lt hp)
      omega
  rw [h0, Int.zero_add, hv, e2, Int.mul_left_comm] at e
  have e3 := Int.eq_of_mul_eq_mul_left (by omega) e
  have h6 : (2 : Int) ^ (r + 1) ∣ 2147483648 * zv f (o + Q + 1) (n - Q - 1) := Int.dvd_trans ⟨_, pow31s (near := r + 1) (by omega)⟩ (Int.dvd_mul_right _ _)
  have h7 : (f (o + Q)).toInt = q * 2 ^ (r + 1) - 2147483648 * zv f (o + Q + 1) (n - Q - 1) := by omega
  rw [h7]
  exact Int.dvd_sub (Int.dvd_mul_left _ _) h6
theorem bit_room {g : Int} {r : Nat} (hr : r < 31) (h0 : 0 ≤ g) (h1 : g < 2147483648) (hd : (2 : Int) ^ (r + 1) ∣ g) : g + 2 ^ r < 2147483648 := by
  obtain ⟨c, rfl⟩ := hd
  have hp := i2pos (r + 1)
  have h3 := pow31s (near := r + 1) (by omega)
  have h4 : c < 2 ^ (31 - (r + 1)) := Int.lt_of_mul_lt_mul_left (show 2 ^ (r + 1) * c < 2 ^ (r + 1) * 2 ^ (31 - (r + 1)) by omega) (Int.le_of_lt hp)
  have h5 := Int.mul_le_mul_of_nonneg_left (show c ≤ 2 ^ (31 - (r + 1)) - 1 by omega) (Int.le_of_lt hp)
  rw [Int.mul_sub] at h5
  have h6 : (2 : Int) ^ (r + 1) = 2 ^ r * 2 := by rw [Int.pow_succ]
  have h7 := i2pos r
  omega
set_option maxHeartbeats 4000000 in
set_option maxRecDepth 100000 in
/-- lessSizes: the smaller magnitude is taken from the greater -/
theorem cm_lessSizes0 (l : Launch) (D : va_G) (Q : Nat → Nat) (G : Nat → ClassId) (fL fS fN fD : Nat → Int32) (X : mX) (t a b : Nat) (sg x y : Int) (ht : t < 141) (ha : a < 141) (hb : b < 141) (hx : mNum fL fS fN a x) (hy : mNum fL fS fN b y) (hge : (y.natAbs : Int) ≤ (x.natAbs : Int)) (hsg : sg = 1 ∨ sg = -1) (sz : Nat) : Met l yX5_lessSizes (wC yX5_lessSizes cX5_lessSizes 12 none) ({ frames := 1, cells := 0, slots := 0, locals := 24 }) (va_Pc [.ref (Q 0), .int (iZ ((t : Int))), .int (iZ ((a : Int))), .int (iZ ((b : Int))), .int (iZ (sg))] (mPre D Q G (fL, fS, fN, fD, X) sz)) (va_Qv (fun u : mT => mSet0 fL fS fN fD X t (sg * ((x.natAbs : Int) - (y.natAbs : Int))) (fun gL => x ≠ 0 → gL (640 * t) = 0) u) (mAt D Q G (mA Q sz)) (mA Q sz)) 0 0 (mA Q sz) := by
  refine m_met (cc := cX5_lessSizes) (maxL := 12) (ret := none) (by decide) rfl rfl (Nat.le_of_ble_eq_true rfl) ?_
  intro p e s m below meth c hsz C hr hlk
  refine w_sub [(0, .ref (Q 0)), (1, .int (iZ ((t : Int)))), (2, .int (iZ ((a : Int)))), (3, .int (iZ ((b : Int)))), (4, .int (iZ (sg)))] [0, 1, 2, 3, 4] rfl ?_
  obtain ⟨na, hna1, hna2, hna3, hna4, hna5, hna6⟩ := hx
  obtain ⟨nb, hnb1, hnb2, hnb3, hnb4, hnb5, hnb6⟩ := hy
  have hnb7 : nb ≤ na := mNum_size (N := na) hnb3 hnb4 hnb6 (by have := zv_lt hna3; omega)
  have loop : ∀ (d : Nat) (k : Nat) (bw : Int) (gL : Nat → Int32), na < k + d → k ≤ na → 0 ≤ bw ∧ bw ≤ 1 → (∀ j : Nat, (j < 640 * t ∨ 640 * t + k ≤ j) → gL j = fL j) → limb gL (640 * t) k → zv gL (640 * t) k - bw * 2 ^ (31 * k) = zd (dv fL (640 * a) na) k - zd (dv fL (640 * b) nb) k → ZW p l e ({ frames := 1, cells := 0, slots := 0, locals := 24 }) s m ([.ref (Q 0), .int (iZ ((t : Int))), .int (iZ ((a : Int))), .int (iZ ((b : Int))), .int (iZ (sg))] : List Value).toArray below meth c D (mA Q sz) 12 0 0 (MQ below (va_Qv (fun u : mT => mSet0 fL fS fN fD X t (sg * ((x.natAbs : Int) - (y.natAbs : Int))) (fun gL => x ≠ 0 → gL (640 * t) = 0) u) (mAt D Q G (mA Q sz)) (mA Q sz)) ([.ref (Q 0), .int (iZ ((t : Int))), .int (iZ ((a : Int))), .int (iZ ((b : Int))), .int (iZ (sg))] : List Value).toArray s 0 0 (mA Q sz)) (mU Q G (gL, fS, fN, fD, X)) 22 [(9, .int (iZ ((k : Int)))), (7, .long (lZ (bw))), (6, .int (iZ ((nb : Int)))), (5, .int (iZ ((na : Int)))), (0, .ref (Q 0)), (1, .int (iZ ((t : Int)))), (2, .int (iZ ((a : Int)))), (3, .int (iZ ((b : Int)))), (4, .int (iZ (sg)))] [] := by
    intro d
    induction d with
    | zero =>
      intro k bw gL hd hk hbw hout hl hv
      exact absurd hd (by omega)
    | succ d ih =>
      intro k bw gL hd hk hbw hout hl hv
      refine w_iload C dX5_lessSizes_22 0 rfl ?_
      refine w_iload C dX5_lessSizes_24 3 rfl ?_
      refine w_icmp_ge C 114 dX5_lessSizes_26 (by decide) ⟨⟨by omega, by omega⟩, by omega, by omega⟩ (fun c26 => ?_) (fun c26 => ?_)
      · have hkn : k = na := by omega
        subst hkn
        have hbz : zv gL (640 * t) k = (x.natAbs : Int) - (y.natAbs : Int) := by
          rw [zd_dv (Nat.le_refl _), zd_dv hnb7] at hv
          have h1 := zv_lt hl
          have h2 := p31_pos k
          rcases (show bw = 0 ∨ bw = 1 by omega) with q | q
          · subst q; omega
          · subst q; omega
        refine w_aload_n C dX5_lessSizes_114 4 rfl ?_
        refine w_iload_n C dX5_lessSizes_115 5 rfl ?_
        refine w_iload C dX5_lessSizes_116 3 rfl ?_
        refine w_iload C dX5_lessSizes_118 8 rfl ?_
        refine m_callv [.int (iZ ((t : Int))), .int (iZ ((k : Int))), .int (iZ (sg))] hsz C (fun z => cm_trim l D Q G gL fS fN fD X t k sg ht (by omega) z) (cwV 3 C.1.2.2.2.2 (wC_V kX5_45 nX5_trim slX5_trim iniX5 cdX5_trim) rfl rfl rfl (by decide +kernel) ⟨Nat.le_of_ble_eq_true rfl, Nat.le_of_ble_eq_true rfl⟩) rfl ⟨Nat.zero_le _, Nat.zero_le _⟩ (Nat.le_of_ble_eq_true rfl) dX5_lessSizes_120 [.int (iZ (sg)), .int (iZ ((k : Int))), .int (iZ ((t : Int))), .ref (Q 0)] rfl (fun v1 hv1 => ?_)
        obtain ⟨j, hj, hjz, hjt, rfl⟩ := hv1
        have hq := trim_num (gS := upd fS t (iZ (j : Int))) (gN := upd fN t (iZ (if j = 0 then 0 else sg))) (by omega) hl hj hjz hjt upd_eq upd_eq (by rcases hsg with q | q; exact Or.inl q; exact Or.inr (Or.inl q))
        rw [hbz] at hq
        exact m_vret hsz C hr hlk (⟨_, _, _, rfl, ⟨fun c i hc hi2 => hout _ (by omega), fun c hc => upd_ne hc, fun c hc => upd_ne hc⟩, hq, fun h0 hx0 => mNum_0 hl hj hjz hjt (by rw [hbz]; rcases hsg with rfl | rfl <;> omega) (Nat.pos_of_ne_zero (fun g => hx0 (by subst g; simp only [zv] at hna6; omega)))⟩) dX5_lessSizes_123
      · refine w_aload_n C dX5_lessSizes_29 4 rfl ?_
        refine w_get (ci := 5) (ref := "RootIsolatorModel") (T := TX5) (Cn := RX5) (N := 10) C (fun w h => wC_in (inX5 w h)) 0 rfl rfl 1 (by decide) (wC_in fX5_limbs) rfl rfl dX5_lessSizes_30 ?_
        refine w_sipush C dX5_lessSizes_33 (by decide) ?_
        refine w_iload_n C dX5_lessSizes_36 6 rfl ?_
        refine w_imul C dX5_lessSizes_37 ?_
        refine w_iload C dX5_lessSizes_38 0 rfl ?_
        refine w_iadd C dX5_lessSizes_40 ?_
        refine w_iald C 1 0 rfl rfl (640 * a + k) ((fL (640 * a + k)).toInt) ⟨by omega, by omega, by omega⟩ ((hout _ (by omega)).trans (iZ_self _).symm) dX5_lessSizes_41 ?_
        refine w_i2l C dX5_lessSizes_42 (i32r _) ?_
        refine w_topl C (dv fL (640 * a) na k) ((dv_in (by omega)).symm) ?_
        refine w_iload C dX5_lessSizes_43 0 rfl ?_
        refine w_iload C dX5_lessSizes_45 2 rfl ?_
        have J2 : ZW p l e ({ frames := 1, cells := 0, slots := 0, locals := 24 }) s m ([.ref (Q 0), .int (iZ ((t : Int))), .int (iZ ((a : Int))), .int (iZ ((b : Int))), .int (iZ (sg))] : List Value).toArray below meth c D (mA Q sz) 12 0 0 (MQ below (va_Qv (fun u : mT => mSet0 fL fS fN fD X t (sg * ((x.natAbs : Int) - (y.natAbs : Int))) (fun gL => x ≠ 0 → gL (640 * t) = 0) u) (mAt D Q G (mA Q sz)) (mA Q sz)) ([.ref (Q 0), .int (iZ ((t : Int))), .int (iZ ((a : Int))), .int (iZ ((b : Int))), .int (iZ (sg))] : List Value).toArray s 0 0 (mA Q sz)) (mU Q G (gL, fS, fN, fD, X)) 68 [(9, .int (iZ ((k : Int)))), (7, .long (lZ (bw))), (6, .int (iZ ((nb : Int)))), (5, .int (iZ ((na : Int)))), (0, .ref (Q 0)), (1, .int (iZ ((t : Int)))), (2, .int (iZ ((a : Int)))), (3, .int (iZ ((b : Int)))), (4, .int (iZ (sg)))] [.long (lZ (dv fL (640 * b) nb k)), .long (lZ (dv fL (640 * a) na k))] := by
          refine w_lsub C dX5_lessSizes_68 ?_
          refine w_lload C dX5_lessSizes_69 1 rfl ?_
          obtain ⟨w, hw⟩ : ∃ w : Int, w = (dv fL (640 * a) na k - dv fL (640 * b) nb k) - bw := ⟨_, rfl⟩
          have hd1 := dv_r hna3 k
          have hd2 := dv_r hnb3 k
          have hxr : -2147483648 ≤ w ∧ w < 2147483648 := by omega
          refine w_lsub C dX5_lessSizes_71 ?_
          refine w_topl C (w) (hw.symm) ?_
          refine w_lstore C [(10, .long (lZ (w))), (9, .int (iZ ((k : Int)))), (7, .long (lZ (bw))), (6, .int (iZ ((nb : Int)))), (5, .int (iZ ((na : Int)))), (0, .ref (Q 0)), (1, .int (iZ ((t : Int)))), (2, .int (iZ ((a : Int)))), (3, .int (iZ ((b : Int)))), (4, .int (iZ (sg)))] dX5_lessSizes_72 (by decide) rfl ?_
          refine w_aload_n C dX5_lessSizes_74 5 rfl ?_
          refine w_get (ci := 5) (ref := "RootIsolatorModel") (T := TX5) (Cn := RX5) (N := 10) C (fun w h => wC_in (inX5 w h)) 0 rfl rfl 1 (by decide) (wC_in fX5_limbs) rfl rfl dX5_lessSizes_75 ?_
          refine w_sipush C dX5_lessSizes_78 (by decide) ?_
          refine w_iload_n C dX5_lessSizes_81 6 rfl ?_
          refine w_imul C dX5_lessSizes_82 ?_
          refine w_iload C dX5_lessSizes_83 1 rfl ?_
          refine w_iadd C dX5_lessSizes_85 ?_
          refine w_lload C dX5_lessSizes_86 0 rfl ?_
          refine w_ldc2 C (2147483647) dX5_lessSizes_88 (wC_in kclX5_43) ?_
          refine w_and31 C dX5_lessSizes_91 ?_
          refine w_l2i C dX5_lessSizes_92 ?_
          refine w_iast C (mU Q G ((upd gL (640 * t + k) (iZ ((w) % 2147483648))), fS, fN, fD, X)) 1 0 rfl rfl (640 * t + k) ⟨by omega, by omega, by omega⟩ rfl dX5_lessSizes_93 ?_
          refine w_lload C dX5_lessSizes_94 0 rfl ?_
          refine w_lconst C 0 dX5_lessSizes_96 rfl ?_
          have J3 : ZW p l e ({ frames := 1, cells := 0, slots := 0, locals := 24 }) s m ([.ref (Q 0), .int (iZ ((t : Int))), .int (iZ ((a : Int))), .int (iZ ((b : Int))), .int (iZ (sg))] : List Value).toArray below meth c D (mA Q sz) 12 0 0 (MQ below (va_Qv (fun u : mT => mSet0 fL fS fN fD X t (sg * ((x.natAbs : Int) - (y.natAbs : Int))) (fun gL => x ≠ 0 → gL (640 * t) = 0) u) (mAt D Q G (mA Q sz)) (mA Q sz)) ([.ref (Q 0), .int (iZ ((t : Int))), .int (iZ ((a : Int))), .int (iZ ((b : Int))), .int (iZ (sg))] : List Value).toArray s 0 0 (mA Q sz)) (mU Q G ((upd gL (640 * t + k) (iZ ((w) % 2147483648))), fS, fN, fD, X)) 106 [(10, .long (lZ (w))), (9, .int (iZ ((k : Int)))), (7, .long (lZ (bw))), (6, .int (iZ ((nb : Int)))), (5, .int (iZ ((na : Int)))), (0, .ref (Q 0)), (1, .int (iZ ((t : Int)))), (2, .int (iZ ((a : Int)))), (3, .int (iZ ((b : Int)))), (4, .int (iZ (sg)))] [.long (lZ (-(w / 2147483648)))] := by
            refine w_lstore C [(7, .long (lZ (-(w / 2147483648)))), (10, .long (lZ (w))), (9, .int (iZ ((k : Int)))), (6, .int (iZ ((nb : Int)))), (5, .int (iZ ((na : Int)))), (0, .ref (Q 0)), (1, .int (iZ ((t : Int)))), (2, .int (iZ ((a : Int)))), (3, .int (iZ ((b : Int)))), (4, .int (iZ (sg)))] dX5_lessSizes_106 (by decide) rfl ?_
            refine w_iinc C (((k + 1 : Nat) : Int)) (by omega) [(9, .int (iZ (((k + 1 : Nat) : Int)))), (7, .long (lZ (-(w / 2147483648)))), (10, .long (lZ (w))), (6, .int (iZ ((nb : Int)))), (5, .int (iZ ((na : Int)))), (0, .ref (Q 0)), (1, .int (iZ ((t : Int)))), (2, .int (iZ ((a : Int)))), (3, .int (iZ ((b : Int)))), (4, .int (iZ (sg)))] dX5_lessSizes_108 2 rfl (by decide) rfl ?_
            refine w_goto C 22 dX5_lessSizes_111 (by decide) ?_
            refine w_sub [(9, .int (iZ (((k + 1 : Nat) : Int)))), (7, .long (lZ (-(w / 2147483648)))), (6, .int (iZ ((nb : Int)))), (5, .int (iZ ((na : Int)))), (0, .ref (Q 0)), (1, .int (iZ ((t : Int)))), (2, .int (iZ ((a : Int)))), (3, .int (iZ ((b : Int)))), (4, .int (iZ (sg)))] [0, 1, 3, 4, 5, 6, 7, 8, 9] rfl ?_
            exact ih (k + 1) (-(w / 2147483648)) _ (by omega) (by omega) (by omega) (fun j hj => by rw [upd_ne (by omega)]; exact hout j (by omega)) (limb_upd hl (by rw [iZ_toInt (by omega) (by omega)]; omega)) (by
              have e1 := dig31 w (2 ^ (31 * k))
              have e2 : w * 2 ^ (31 * k) = dv fL (640 * a) na k * 2 ^ (31 * k) - dv fL (640 * b) nb k * 2 ^ (31 * k) - bw * 2 ^ (31 * k) := by rw [hw, Int.sub_mul, Int.sub_mul]
              rw [zv_upd_top, iZ_toInt (by omega) (by omega), p31, Int.neg_mul]
              simp only [zd]
              omega)
          refine w_lif_ge C 105 dX5_lessSizes_97 dX5_lessSizes_98 (by decide) ⟨⟨by omega, by omega⟩, by omega, by omega⟩ (fun c97 => ?_) (fun c97 => ?_)
          · refine w_lconst C 0 dX5_lessSizes_105 rfl ?_
            refine w_topl C (-(w / 2147483648)) (by omega) ?_
            exact J3
          · refine w_lconst C 1 dX5_lessSizes_101 rfl ?_
            refine w_goto C 106 dX5_lessSizes_102 (by decide) ?_
            refine w_topl C (-(w / 2147483648)) (by omega) ?_
            exact J3
        refine w_icmp_ge C 67 dX5_lessSizes_47 (by decide) ⟨⟨by omega, by omega⟩, by omega, by omega⟩ (fun c47 => ?_) (fun c47 => ?_)
        · refine w_lconst C 0 dX5_lessSizes_67 rfl ?_
          refine w_topl C (dv fL (640 * b) nb k) ((dv_out (by omega)).symm) ?_
          exact J2
        · refine w_aload_n C dX5_lessSizes_50 4 rfl ?_
          refine w_get (ci := 5) (ref := "RootIsolatorModel") (T := TX5) (Cn := RX5) (N := 10) C (fun w h => wC_in (inX5 w h)) 0 rfl rfl 1 (by decide) (wC_in fX5_limbs) rfl rfl dX5_lessSizes_51 ?_
          refine w_sipush C dX5_lessSizes_54 (by decide) ?_
          refine w_iload_n C dX5_lessSizes_57 7 rfl ?_
          refine w_imul C dX5_lessSizes_58 ?_
          refine w_iload C dX5_lessSizes_59 0 rfl ?_
          refine w_iadd C dX5_lessSizes_61 ?_
          refine w_iald C 1 0 rfl rfl (640 * b + k) ((fL (640 * b + k)).toInt) ⟨by omega, by omega, by omega⟩ ((hout _ (by omega)).trans (iZ_self _).symm) dX5_lessSizes_62 ?_
          refine w_i2l C dX5_lessSizes_63 (i32r _) ?_
          refine w_goto C 68 dX5_lessSizes_64 (by decide) ?_
          refine w_topl C (dv fL (640 * b) nb k) ((dv_in (by omega)).symm) ?_
          exact J2
  refine w_aload_n C dX5_lessSizes_0 0 rfl ?_
  refine w_get (ci := 5) (ref := "RootIsolatorModel") (T := TX5) (Cn := RX5) (N := 10) C (fun w h => wC_in (inX5 w h)) 0 rfl rfl 2 (by decide) (wC_in fX5_sizes) rfl rfl dX5_lessSizes_1 ?_
  refine w_iload_n C dX5_lessSizes_4 2 rfl ?_
  refine w_iald C 2 0 rfl rfl (a) ((na : Int)) ⟨by omega, by omega, by omega⟩ (hna2) dX5_lessSizes_5 ?_
  refine w_istore C [(5, .int (iZ ((na : Int)))), (0, .ref (Q 0)), (1, .int (iZ ((t : Int)))), (2, .int (iZ ((a : Int)))), (3, .int (iZ ((b : Int)))), (4, .int (iZ (sg)))] dX5_lessSizes_6 (by decide) rfl ?_
  refine w_aload_n C dX5_lessSizes_8 1 rfl ?_
  refine w_get (ci := 5) (ref := "RootIsolatorModel") (T := TX5) (Cn := RX5) (N := 10) C (fun w h => wC_in (inX5 w h)) 0 rfl rfl 2 (by decide) (wC_in fX5_sizes) rfl rfl dX5_lessSizes_9 ?_
  refine w_iload_n C dX5_lessSizes_12 4 rfl ?_
  refine w_iald C 2 0 rfl rfl (b) ((nb : Int)) ⟨by omega, by omega, by omega⟩ (hnb2) dX5_lessSizes_13 ?_
  refine w_istore C [(6, .int (iZ ((nb : Int)))), (5, .int (iZ ((na : Int)))), (0, .ref (Q 0)), (1, .int (iZ ((t : Int)))), (2, .int (iZ ((a : Int)))), (3, .int (iZ ((b : Int)))), (4, .int (iZ (sg)))] dX5_lessSizes_14 (by decide) rfl ?_
  refine w_lconst C 0 dX5_lessSizes_16 rfl ?_
  refine w_lstore C [(7, .long (lZ (0))), (6, .int (iZ ((nb : Int)))), (5, .int (iZ ((na : Int)))), (0, .ref (Q 0)), (1, .int (iZ ((t : Int)))), (2, .int (iZ ((a : Int)))), (3, .int (iZ ((b : Int)))), (4, .int (iZ (sg)))] dX5_lessSizes_17 (by decide) rfl ?_
  refine w_iconst C dX5_lessSizes_19 ?_
  refine w_istore C [(9, .int (iZ (0))), (7, .long (lZ (0))), (6, .int (iZ ((nb : Int)))), (5, .int (iZ ((na : Int)))), (0, .ref (Q 0)), (1, .int (iZ ((t : Int)))), (2, .int (iZ ((a : Int)))), (3, .int (iZ ((b : Int)))), (4, .int (iZ (sg)))] dX5_lessSizes_20 (by decide) rfl ?_
  exact loop (na + 1) 0 0 fL (by omega) (by omega) (by omega) (fun _ _ => rfl) (fun i hi2 => absurd hi2 (by omega)) (by simp [zv, zd])
set_option maxHeartbeats 4000000 in
set_option maxRecDepth 100000 in
/-- up: times a power of two -/
theorem cm_up0 (l : Launch) (D : va_G) (Q : Nat → Nat) (G : Nat → ClassId) (fL fS fN fD : Nat → Int32) (X : mX) (a pw p : Nat) (x : Int) (ha : a < 141) (hx : mNum fL fS fN a x) (hA : (x.natAbs : Int) < 2 ^ (31 * p)) (hp : p + pw / 31 + 1 ≤ 640) (sz : Nat) : Met l yX5_up (wC yX5_up cX5_up 9 none) ({ frames := 1, cells := 0, slots := 0, locals := 24 }) (va_Pc [.ref (Q 0), .int (iZ ((a : Int))), .int (iZ ((pw : Int)))] (mPre D Q G (fL, fS, fN, fD, X) sz)) (va_Qv (fun u : mT => mSet0 fL fS fN fD X a (x * 2 ^ pw) (fun gL => gL (640 * a) = fL (640 * a)) u) (mAt D Q G (mA Q sz)) (mA Q sz)) 0 0 (mA Q sz) := by
  refine m_met (cc := cX5_up) (maxL := 9) (ret := none) (by decide) rfl rfl (Nat.le_of_ble_eq_true rfl) ?_
  intro p e s m below meth c hsz C hr hlk
  refine w_sub [(0, .ref (Q 0)), (1, .int (iZ ((a : Int)))), (2, .int (iZ ((pw : Int))))] [0, 1, 2] rfl ?_
  obtain ⟨far, hfar⟩ : ∃ f : Nat, f = pw / 31 := ⟨_, rfl⟩
  obtain ⟨near, hnear⟩ : ∃ f : Nat, f = pw % 31 := ⟨_, rfl⟩
  have hnr : near < 31 := by omega
  have hpw : pw = 31 * far + near := by omega
  obtain ⟨n, hn1, hn2, hn3, hn4, hn5, hn6⟩ := id hx
  have hn7 := mNum_size hn3 hn4 hn6 hA
  have zl : ∀ (d : Nat) (k : Nat) (gL : Nat → Int32), far < k + d → k ≤ far → (∀ j : Nat, (j < 640 * a ∨ 640 * a + 640 ≤ j) → gL j = fL j) → limb gL (640 * a + far) (n + 1) → zv gL (640 * a + far) (n + 1) = (x.natAbs : Int) * 2 ^ near → (∀ j : Nat, j < k → gL (640 * a + j) = 0) → x ≠ 0 → ZW p l e ({ frames := 1, cells := 0, slots := 0, locals := 24 }) s m ([.ref (Q 0), .int (iZ ((a : Int))), .int (iZ ((pw : Int)))] : List Value).toArray below meth c D (mA Q sz) 9 0 0 (MQ below (va_Qv (fun u : mT => mSet0 fL fS fN fD X a (x * 2 ^ pw) (fun gL => gL (640 * a) = fL (640 * a)) u) (mAt D Q G (mA Q sz)) (mA Q sz)) ([.ref (Q 0), .int (iZ ((a : Int))), .int (iZ ((pw : Int)))] : List Value).toArray s 0 0 (mA Q sz)) (mU Q G (gL, fS, fN, fD, X)) 128 [(6, .int (iZ ((k : Int)))), (5, .int (iZ ((n : Int)))), (4, .int (iZ ((near : Int)))), (3, .int (iZ ((far : Int)))), (0, .ref (Q 0)), (1, .int (iZ ((a : Int)))), (2, .int (iZ ((pw : Int))))] [] := by
    intro d
    induction d with
    | zero =>
      intro k gL hd hk hout hl hv hz hxne
      exact absurd hd (by omega)
    | succ d ih =>
      intro k gL hd hk hout hl hv hz hxne
      refine w_iload C dX5_up_128 0 rfl ?_
      refine w_iload_n C dX5_up_130 3 rfl ?_
      refine w_icmp_ge C 154 dX5_up_131 (by decide) ⟨⟨by omega, by omega⟩, by omega, by omega⟩ (fun c131 => ?_) (fun c131 => ?_)
      · have hkf : k = far := by omega
        subst hkf
        have hval : zv gL (640 * a) (n + k + 1) = (x.natAbs : Int) * 2 ^ pw := by
          rw [show n + k + 1 = k + (n + 1) by omega, zv_split, hv, zv_zero (j := 0) (Nat.zero_le _) (fun j _ h2 => hz j h2), hpw, Int.pow_add]
          simp only [zv]
          rw [Int.zero_add, Int.mul_left_comm]
        have hl0 : limb gL (640 * a) (n + k + 1) := fun j hj => by
          rcases Nat.lt_or_ge j k with q | q
          · rw [hz j q]; decide
          · have h := hl (j - k) (by omega)
            rw [show 640 * a + k + (j - k) = 640 * a + j by omega] at h; exact h
        refine w_aload_n C dX5_up_154 4 rfl ?_
        refine w_iload_n C dX5_up_155 5 rfl ?_
        refine w_iload C dX5_up_156 1 rfl ?_
        refine w_iload_n C dX5_up_158 3 rfl ?_
        refine w_iadd C dX5_up_159 ?_
        refine w_iconst C dX5_up_160 ?_
        refine w_iadd C dX5_up_161 ?_
        refine w_top C (((n + k + 1 : Nat) : Int)) (by omega) ?_
        refine w_aload_n C dX5_up_162 4 rfl ?_
        refine w_get (ci := 5) (ref := "RootIsolatorModel") (T := TX5) (Cn := RX5) (N := 10) C (fun w h => wC_in (inX5 w h)) 0 rfl rfl 3 (by decide) (wC_in fX5_signs) rfl rfl dX5_up_163 ?_
        refine w_iload_n C dX5_up_166 5 rfl ?_
        refine w_iald C 3 0 rfl rfl (a) (x.sign) ⟨by omega, by omega, by omega⟩ (hn5) dX5_up_167 ?_
        refine m_callv [.int (iZ ((a : Int))), .int (iZ (((n + k + 1 : Nat) : Int))), .int (iZ (x.sign))] hsz C (fun z => cm_trim l D Q G gL fS fN fD X a (n + k + 1) x.sign ha (by omega) z) (cwV 3 C.1.2.2.2.2 (wC_V kX5_45 nX5_trim slX5_trim iniX5 cdX5_trim) rfl rfl rfl (by decide +kernel) ⟨Nat.le_of_ble_eq_true rfl, Nat.le_of_ble_eq_true rfl⟩) rfl ⟨Nat.zero_le _, Nat.zero_le _⟩ (Nat.le_of_ble_eq_true rfl) dX5_up_168 [.int (iZ (x.sign)), .int (iZ (((n + k + 1 : Nat) : Int))), .int (iZ ((a : Int))), .ref (Q 0)] rfl (fun v1 hv1 => ?_)
        obtain ⟨j, hj, hjz, hjt, rfl⟩ := hv1
        have hq := trim_num (gS := upd fS a (iZ (j : Int))) (gN := upd fN a (iZ (if j = 0 then 0 else x.sign))) (by omega) hl0 hj hjz hjt upd_eq upd_eq (by
          rcases sgn_cases x with ⟨h1, h2⟩ | ⟨h1, h2⟩ | ⟨h1, h2⟩
          · exact Or.inl h2
          · exact Or.inr (Or.inr ⟨h2, by rw [hval, h1]; simp⟩)
          · exact Or.inr (Or.inl h2))
        rw [hval, ← Int.mul_assoc, Int.sign_mul_natAbs] at hq
        exact m_vret hsz C hr hlk (⟨_, _, _, rfl, ⟨fun c i hc hi2 => hout _ (by omega), fun c hc => upd_ne hc, fun c hc => upd_ne hc⟩, hq, fun h0 => absurd h0 (fun g => by rcases Int.mul_eq_zero.1 g with g | g; exact hxne g; have := i2pos pw; omega)⟩) dX5_up_171
      · refine w_aload_n C dX5_up_134 4 rfl ?_
        refine w_get (ci := 5) (ref := "RootIsolatorModel") (T := TX5) (Cn := RX5) (N := 10) C (fun w h => wC_in (inX5 w h)) 0 rfl rfl 1 (by decide) (wC_in fX5_limbs) rfl rfl dX5_up_135 ?_
        refine w_sipush C dX5_up_138 (by decide) ?_
        refine w_iload_n C dX5_up_141 5 rfl ?_
        refine w_imul C dX5_up_142 ?_
        refine w_iload C dX5_up_143 0 rfl ?_
        refine w_iadd C dX5_up_145 ?_
        refine w_iconst C dX5_up_146 ?_
        refine w_iast C (mU Q G ((upd gL (640 * a + k) (iZ (0))), fS, fN, fD, X)) 1 0 rfl rfl (640 * a + k) ⟨by omega, by omega, by omega⟩ rfl dX5_up_147 ?_
        refine w_iinc C (((k + 1 : Nat) : Int)) (by omega) [(6, .int (iZ (((k + 1 : Nat) : Int)))), (5, .int (iZ ((n : Int)))), (4, .int (iZ ((near : Int)))), (3, .int (iZ ((far : Int)))), (0, .ref (Q 0)), (1, .int (iZ ((a : Int)))), (2, .int (iZ ((pw : Int))))] dX5_up_148 0 rfl (by decide) rfl ?_
        refine w_goto C 128 dX5_up_151 (by decide) ?_
        exact ih (k + 1) _ (by omega) (by omega) (fun j hj => by rw [upd_ne (by omega)]; exact hout j hj) (fun j hj => by rw [upd_ne (by omega)]; exact hl j hj) (by rw [← hv]; exact zv_congr (fun j hj => upd_ne (by omega))) (fun j hj => by
          rcases Nat.lt_or_ge j k with q | q
          · rw [upd_ne (by omega)]; exact hz j q
          · have : j = k := by omega
            subst this; rw [upd_eq]; rfl) hxne
  have dl : ∀ (d : Nat) (j : Nat) (gL : Nat → Int32), j < d → j ≤ n → (∀ j : Nat, (j < 640 * a ∨ 640 * a + 640 ≤ j) → gL j = fL j) → (∀ i : Nat, i < j → gL (640 * a + i) = fL (640 * a + i)) → limb gL (640 * a + far + j) (n - j + 1) → zv gL (640 * a + far + j) (n - j + 1) = zv fL (640 * a + j) (n - j) * 2 ^ near → (2 : Int) ^ near ∣ (gL (640 * a + far + j)).toInt → x ≠ 0 → ZW p l e ({ frames := 1, cells := 0, slots := 0, locals := 24 }) s m ([.ref (Q 0), .int (iZ ((a : Int))), .int (iZ ((pw : Int)))] : List Value).toArray below meth c D (mA Q sz) 9 0 0 (MQ below (va_Qv (fun u : mT => mSet0 fL fS fN fD X a (x * 2 ^ pw) (fun gL => gL (640 * a) = fL (640 * a)) u) (mAt D Q G (mA Q sz)) (mA Q sz)) ([.ref (Q 0), .int (iZ ((a : Int))), .int (iZ ((pw : Int)))] : List Value).toArray s 0 0 (mA Q sz)) (mU Q G (gL, fS, fN, fD, X)) 47 [(6, .int (iZ ((j : Int) - 1))), (5, .int (iZ ((n : Int)))), (4, .int (iZ ((near : Int)))), (3, .int (iZ ((far : Int)))), (0, .ref (Q 0)), (1, .int (iZ ((a : Int)))), (2, .int (iZ ((pw : Int))))] [] := by
    intro d
    induction d with
    | zero =>
      intro j gL hd hj hout hlow hl hv hdv hxne
      exact absurd hd (by omega)
    | succ d ih =>
      intro j gL hd hj hout hlow hl hv hdv hxne
      refine w_iload C dX5_up_47 0 rfl ?_
      refine w_if_lt C 125 dX5_up_49 (by decide) ⟨by omega, by omega⟩ (fun c49 => ?_) (fun c49 => ?_)
      · have hj0 : j = 0 := by omega
        subst hj0
        refine w_iconst C dX5_up_125 ?_
        refine w_istore C [(6, .int (iZ (0))), (5, .int (iZ ((n : Int)))), (4, .int (iZ ((near : Int)))), (3, .int (iZ ((far : Int)))), (0, .ref (Q 0)), (1, .int (iZ ((a : Int)))), (2, .int (iZ ((pw : Int))))] dX5_up_126 (by decide) rfl ?_
        exact zl (far + 1) 0 gL (by omega) (by omega) hout (by rw [Nat.add_zero] at hl; exact hl) (by rw [Nat.add_zero] at hv; rw [hn6]; exact hv) (fun j hj => absurd hj (by omega)) hxne
      · obtain ⟨i, rfl⟩ : ∃ i, j = i + 1 := ⟨j - 1, by omega⟩
        have hli := hn3 i (by omega)
        have hli2 := i32r (fL (640 * a + i))
        obtain ⟨v, hv0⟩ : ∃ v : Int, v = (fL (640 * a + i)).toInt * 2 ^ near := ⟨_, rfl⟩
        have hp31 := pow_le31 (show near ≤ 31 by omega)
        have hp0 := i2pos near
        have hvr : 0 ≤ v ∧ v < 4611686018427387904 := by
          have h1 := Int.mul_le_mul (show (fL (640 * a + i)).toInt ≤ 2147483647 by omega) hp31 (Int.le_of_lt hp0) (show (0 : Int) ≤ 2147483647 by omega)
          have h2 := Int.mul_nonneg hli (Int.le_of_lt hp0)
          omega
        have hvh : v / 2147483648 < 2 ^ near := by
          have h1 := Int.mul_lt_mul_of_pos_right (show (fL (640 * a + i)).toInt < 2147483648 by omega) hp0
          rw [← hv0] at h1
          exact Int.ediv_lt_of_lt_mul (by omega) (by rw [Int.mul_comm]; exact h1)
        have hg := i32r (gL (640 * a + far + (i + 1)))
        have hg0 := hl 0 (by omega)
        rw [Nat.add_zero] at hg0
        obtain ⟨g, hgg⟩ : ∃ g : Int, g = (gL (640 * a + far + (i + 1))).toInt := ⟨_, rfl⟩
        rw [← hgg] at hdv hg hg0
        have hgs : g + v / 2147483648 < 2147483648 := by
          obtain ⟨q, hq⟩ := hdv
          have h3 : (2147483648 : Int) = 2 ^ near * 2 ^ (31 - near) := by rw [← Int.pow_add, Nat.add_sub_cancel' (by omega)]; rfl
          have h4 : q < 2 ^ (31 - near) := Int.lt_of_mul_lt_mul_left (show 2 ^ near * q < 2 ^ near * 2 ^ (31 - near) by omega) (Int.le_of_lt hp0)
          have h5 := Int.mul_le_mul_of_nonneg_left (show q ≤ 2 ^ (31 - near) - 1 by omega) (Int.le_of_lt hp0)
          rw [Int.mul_sub] at h5
          omega
        refine w_aload_n C dX5_up_52 4 rfl ?_
        refine w_get (ci := 5) (ref := "RootIsolatorModel") (T := TX5) (Cn := RX5) (N := 10) C (fun w h => wC_in (inX5 w h)) 0 rfl rfl 1 (by decide) (wC_in fX5_limbs) rfl rfl dX5_up_53 ?_
        refine w_sipush C dX5_up_56 (by decide) ?_
        refine w_iload_n C dX5_up_59 5 rfl ?_
        refine w_imul C dX5_up_60 ?_
        refine w_iload C dX5_up_61 0 rfl ?_
        refine w_iadd C dX5_up_63 ?_
        refine w_iald C 1 0 rfl rfl (640 * a + i) ((fL (640 * a + i)).toInt) ⟨by omega, by omega, by omega⟩ ((hlow i (by omega)).trans (iZ_self _).symm) dX5_up_64 ?_
        refine w_i2l C dX5_up_65 (i32r _) ?_
        refine w_iload C dX5_up_66 2 rfl ?_
        refine w_lshl C (near) dX5_up_68 ⟨by omega, by omega⟩ ?_
        refine w_topl C (v) (hv0.symm) ?_
        refine w_lstore C [(7, .long (lZ (v))), (6, .int (iZ (((i + 1 : Nat) : Int) - 1))), (5, .int (iZ ((n : Int)))), (4, .int (iZ ((near : Int)))), (3, .int (iZ ((far : Int)))), (0, .ref (Q 0)), (1, .int (iZ ((a : Int)))), (2, .int (iZ ((pw : Int))))] dX5_up_69 (by decide) rfl ?_
        refine w_aload_n C dX5_up_71 5 rfl ?_
        refine w_get (ci := 5) (ref := "RootIsolatorModel") (T := TX5) (Cn := RX5) (N := 10) C (fun w h => wC_in (inX5 w h)) 0 rfl rfl 1 (by decide) (wC_in fX5_limbs) rfl rfl dX5_up_72 ?_
        refine w_sipush C dX5_up_75 (by decide) ?_
        refine w_iload_n C dX5_up_78 6 rfl ?_
        refine w_imul C dX5_up_79 ?_
        refine w_iload C dX5_up_80 1 rfl ?_
        refine w_iadd C dX5_up_82 ?_
        refine w_iload_n C dX5_up_83 4 rfl ?_
        refine w_iadd C dX5_up_84 ?_
        refine w_iconst C dX5_up_85 ?_
        refine w_iadd C dX5_up_86 ?_
        refine w_dup2 C dX5_up_87 rfl rfl ?_
        refine w_iald C 1 0 rfl rfl (640 * a + far + (i + 1)) (g) ⟨by omega, by omega, by omega⟩ (by rw [hgg]; exact (iZ_self _).symm) dX5_up_88 ?_
        refine w_lload C dX5_up_89 0 rfl ?_
        refine w_bipush C dX5_up_91 (by decide) ?_
        refine w_lshr C (31) dX5_up_93 ⟨by omega, by omega⟩ ⟨by omega, by omega⟩ ?_
        refine w_topl C (v / 2147483648) (rfl) ?_
        refine w_l2i C dX5_up_94 ?_
        refine w_ior C dX5_up_95 (v := (iZ (g + v / 2147483648))) (iZ_or_add hg0 (by omega) hdv (by omega) hvh (by omega)) ?_
        refine w_iast C (mU Q G ((upd gL (640 * a + far + (i + 1)) (iZ (g + v / 2147483648))), fS, fN, fD, X)) 1 0 rfl rfl (640 * a + far + (i + 1)) ⟨by omega, by omega, by omega⟩ rfl dX5_up_96 ?_
        refine w_aload_n C dX5_up_97 5 rfl ?_
        refine w_get (ci := 5) (ref := "RootIsolatorModel") (T := TX5) (Cn := RX5) (N := 10) C (fun w h => wC_in (inX5 w h)) 0 rfl rfl 1 (by decide) (wC_in fX5_limbs) rfl rfl dX5_up_98 ?_
        refine w_sipush C dX5_up_101 (by decide) ?_
        refine w_iload_n C dX5_up_104 6 rfl ?_
        refine w_imul C dX5_up_105 ?_
        refine w_iload C dX5_up_106 1 rfl ?_
        refine w_iadd C dX5_up_108 ?_
        refine w_iload_n C dX5_up_109 4 rfl ?_
        refine w_iadd C dX5_up_110 ?_
        refine w_lload C dX5_up_111 0 rfl ?_
        refine w_ldc2 C (2147483647) dX5_up_113 (wC_in kclX5_43) ?_
        refine w_and31 C dX5_up_116 ?_
        refine w_l2i C dX5_up_117 ?_
        refine w_iast C (mU Q G ((upd (upd gL (640 * a + far + (i + 1)) (iZ (g + v / 2147483648))) (640 * a + far + i) (iZ ((v) % 2147483648))), fS, fN, fD, X)) 1 0 rfl rfl (640 * a + far + i) ⟨by omega, by omega, by omega⟩ rfl dX5_up_118 ?_
        refine w_iinc C ((i : Int) - 1) (by omega) [(6, .int (iZ ((i : Int) - 1))), (7, .long (lZ (v))), (5, .int (iZ ((n : Int)))), (4, .int (iZ ((near : Int)))), (3, .int (iZ ((far : Int)))), (0, .ref (Q 0)), (1, .int (iZ ((a : Int)))), (2, .int (iZ ((pw : Int))))] dX5_up_119 1 rfl (by decide) rfl ?_
        refine w_goto C 47 dX5_up_122 (by decide) ?_
        refine w_sub [(6, .int (iZ ((i : Int) - 1))), (5, .int (iZ ((n : Int)))), (4, .int (iZ ((near : Int)))), (3, .int (iZ ((far : Int)))), (0, .ref (Q 0)), (1, .int (iZ ((a : Int)))), (2, .int (iZ ((pw : Int))))] [0, 2, 3, 4, 5, 6, 7] rfl ?_
        exact ih i _ (by omega) (by omega) (fun j hj => by rw [upd_ne (by omega), upd_ne (by omega)]; exact hout j hj) (fun q hq => by rw [upd_ne (by omega), upd_ne (by omega)]; exact hlow q (by omega)) (fun q hq => by
          rcases Nat.eq_zero_or_pos q with h0 | h0
          · subst h0; rw [show 640 * a + far + i + 0 = 640 * a + far + i from rfl, upd_eq, iZ_toInt (by omega) (by omega)]; omega
          · rw [upd_ne (by omega)]
            by_cases h1 : q = 1
            · subst h1; rw [show 640 * a + far + i + 1 = 640 * a + far + (i + 1) by omega, upd_eq, iZ_toInt (by omega) (by omega)]; omega
            · rw [upd_ne (by omega)]
              have h := hl (q - 1) (by omega)
              rw [show 640 * a + far + (i + 1) + (q - 1) = 640 * a + far + i + q by omega] at h; exact h) (by
          rw [show n - i + 1 = (n - (i + 1) + 1) + 1 by omega, zv_cons, upd_eq, iZ_toInt (by omega) (by omega), show n - i = n - (i + 1) + 1 by omega, zv_cons (o := 640 * a + i), Int.add_mul, ← hv0, Int.mul_assoc, show 640 * a + i + 1 = 640 * a + (i + 1) by omega, ← hv]
          have e1 : zv (upd (upd gL (640 * a + far + (i + 1)) (iZ (g + v / 2147483648))) (640 * a + far + i) (iZ (v % 2147483648))) (640 * a + far + i + 1) (n - (i + 1) + 1) = v / 2147483648 + zv gL (640 * a + far + (i + 1)) (n - (i + 1) + 1) := by
            rw [zv_cons, zv_cons (f := gL), upd_ne (by omega), show 640 * a + far + i + 1 = 640 * a + far + (i + 1) by omega, upd_eq, iZ_toInt (by omega) (by omega), ← hgg]
            have e2 : zv (upd (upd gL (640 * a + far + (i + 1)) (iZ (g + v / 2147483648))) (640 * a + far + i) (iZ (v % 2147483648))) (640 * a + far + (i + 1) + 1) (n - (i + 1)) = zv gL (640 * a + far + (i + 1) + 1) (n - (i + 1)) := zv_congr (fun k hk => by rw [upd_ne (by omega), upd_ne (by omega)])
            rw [e2]; omega
          rw [e1]; omega) (by rw [upd_eq, iZ_toInt (by omega) (by omega)]; exact dvd_mod_pow (by omega) (by rw [hv0]; exact Int.dvd_mul_left _ _)) hxne
  refine w_iload_n C dX5_up_0 2 rfl ?_
  refine w_bipush C dX5_up_1 (by decide) ?_
  refine w_idiv C dX5_up_3 (by decide) (v := (iZ ((far : Int)))) (by rw [hfar]; exact iZ_divN pw 31 (by omega) (by omega) (by omega)) ?_
  refine w_istore_n C [(3, .int (iZ ((far : Int)))), (0, .ref (Q 0)), (1, .int (iZ ((a : Int)))), (2, .int (iZ ((pw : Int))))] dX5_up_4 rfl (by decide) rfl ?_
  refine w_iload_n C dX5_up_5 3 rfl ?_
  refine w_bipush C dX5_up_6 (by decide) ?_
  refine w_irem C dX5_up_8 (by decide) (v := (iZ ((near : Int)))) (by rw [hnear]; exact iZ_remN pw 31 (by omega) (by omega) (by omega)) ?_
  refine w_istore C [(4, .int (iZ ((near : Int)))), (3, .int (iZ ((far : Int)))), (0, .ref (Q 0)), (1, .int (iZ ((a : Int)))), (2, .int (iZ ((pw : Int))))] dX5_up_9 (by decide) rfl ?_
  refine w_aload_n C dX5_up_11 2 rfl ?_
  refine w_get (ci := 5) (ref := "RootIsolatorModel") (T := TX5) (Cn := RX5) (N := 10) C (fun w h => wC_in (inX5 w h)) 0 rfl rfl 2 (by decide) (wC_in fX5_sizes) rfl rfl dX5_up_12 ?_
  refine w_iload_n C dX5_up_15 3 rfl ?_
  refine w_iald C 2 0 rfl rfl (a) ((n : Int)) ⟨by omega, by omega, by omega⟩ (hn2) dX5_up_16 ?_
  refine w_istore C [(5, .int (iZ ((n : Int)))), (4, .int (iZ ((near : Int)))), (3, .int (iZ ((far : Int)))), (0, .ref (Q 0)), (1, .int (iZ ((a : Int)))), (2, .int (iZ ((pw : Int))))] dX5_up_17 (by decide) rfl ?_
  refine w_iload C dX5_up_19 0 rfl ?_
  refine w_if_ne C 25 dX5_up_21 (by decide) ⟨by omega, by omega⟩ (fun c21 => ?_) (fun c21 => ?_)
  · refine w_aload_n C dX5_up_25 3 rfl ?_
    refine w_get (ci := 5) (ref := "RootIsolatorModel") (T := TX5) (Cn := RX5) (N := 10) C (fun w h => wC_in (inX5 w h)) 0 rfl rfl 1 (by decide) (wC_in fX5_limbs) rfl rfl dX5_up_26 ?_
    refine w_sipush C dX5_up_29 (by decide) ?_
    refine w_iload_n C dX5_up_32 4 rfl ?_
    refine w_imul C dX5_up_33 ?_
    refine w_iload C dX5_up_34 0 rfl ?_
    refine w_iadd C dX5_up_36 ?_
    refine w_iload_n C dX5_up_37 2 rfl ?_
    refine w_iadd C dX5_up_38 ?_
    refine w_iconst C dX5_up_39 ?_
    refine w_iast C (mU Q G ((upd fL (640 * a + far + n) (iZ (0))), fS, fN, fD, X)) 1 0 rfl rfl (640 * a + far + n) ⟨by omega, by omega, by omega⟩ rfl dX5_up_40 ?_
    refine w_iload C dX5_up_41 0 rfl ?_
    refine w_iconst C dX5_up_43 ?_
    refine w_isub C dX5_up_44 ?_
    refine w_istore C [(6, .int (iZ ((n : Int) - 1))), (5, .int (iZ ((n : Int)))), (4, .int (iZ ((near : Int)))), (3, .int (iZ ((far : Int)))), (0, .ref (Q 0)), (1, .int (iZ ((a : Int)))), (2, .int (iZ ((pw : Int))))] dX5_up_45 (by decide) rfl ?_
    have hxne : x ≠ 0 := fun g => by rw [g] at hn6; obtain ⟨i, rfl⟩ : ∃ i, n = i + 1 := ⟨n - 1, by omega⟩; have h1 := zv_top hn3 (hn4 i rfl); have h2 := p31_pos i; simp at hn6; omega
    exact dl (n + 1) n _ (by omega) (by omega) (fun j hj => by rw [upd_ne (by omega)]) (fun i hi => by rw [upd_ne (by omega)]) (fun q hq => by rw [show q = 0 by omega, Nat.add_zero, upd_eq]; decide) (by rw [Nat.sub_self, zv_cons, upd_eq]; simp [zv, iZ]) (by rw [upd_eq]; exact ⟨0, by simp [iZ]⟩) hxne
  · have hn0 : n = 0 := by omega
    subst hn0
    have hx0 : x = 0 := by simp only [zv] at hn6; omega
    have hz0 : mNum fL fS fN a (x * 2 ^ pw) := by rw [hx0, Int.zero_mul, ← hx0]; exact hx
    exact m_vret hsz C hr hlk (⟨_, _, _, rfl, mFr_rf, hz0, fun _ => rfl⟩) dX5_up_24
set_option maxHeartbeats 4000000 in
set_option maxRecDepth 100000 in
/-- setLong: a number becomes a long -/
theorem cm_setLong0 (l : Launch) (D : va_G) (Q : Nat → Nat) (G : Nat → ClassId) (fL fS fN fD : Nat → Int32) (X : mX) (a : Nat) (z : Int) (ha : a < 141) (hz1 : -9223372036854775808 ≤ z) (hz2 : z < 9223372036854775808) (sz : Nat) : Met l yX5_setLong (wC yX5_setLong cX5_setLong 12 none) ({ frames := 0, cells := 0, slots := 0, locals := 0 }) (va_Pc [.ref (Q 0), .int (iZ ((a : Int))), .long (lZ (z))] (mPre D Q G (fL, fS, fN, fD, X) sz)) (va_Qv (fun u : mT => mSet0 fL fS fN fD X a z (fun gL => gL (640 * a) = 0) u) (mAt D Q G (mA Q sz)) (mA Q sz)) 0 0 (mA Q sz) := by
  refine m_met (cc := cX5_setLong) (maxL := 12) (ret := none) (by decide) rfl rfl (Nat.le_of_ble_eq_true rfl) ?_
  intro p e s m below meth c hsz C hr hlk
  refine w_sub [(0, .ref (Q 0)), (1, .int (iZ ((a : Int)))), (2, .long (lZ (z)))] [0, 1, 2] rfl ?_
  have hcz := sgn_cases z
  have hp62 : (2 : Int) ^ (31 * 2) = 4611686018427387904 := by decide
  have hp31 : (2 : Int) ^ (31 * 1) = 2147483648 := by decide
  have hp0 : (2 : Int) ^ (31 * 0) = 1 := by decide
  have fin : ∀ (gL : Nat → Int32) (j : Nat), (∀ j : Nat, (j < 640 * a ∨ 640 * a + 3 ≤ j) → gL j = fL j) → limb gL (640 * a) 3 → zv gL (640 * a) 3 = (z.natAbs : Int) → j ≤ 3 → (∀ k : Nat, j ≤ k → k < 3 → gL (640 * a + k) = 0) → (∀ i : Nat, j = i + 1 → gL (640 * a + i) ≠ 0) → ZW p l e ({ frames := 0, cells := 0, slots := 0, locals := 0 }) s m ([.ref (Q 0), .int (iZ ((a : Int))), .long (lZ (z))] : List Value).toArray below meth c D (mA Q sz) 12 0 0 (MQ below (va_Qv (fun u : mT => mSet0 fL fS fN fD X a z (fun gL => gL (640 * a) = 0) u) (mAt D Q G (mA Q sz)) (mA Q sz)) ([.ref (Q 0), .int (iZ ((a : Int))), .long (lZ (z))] : List Value).toArray s 0 0 (mA Q sz)) (mU Q G (gL, fS, (upd fN a (iZ z.sign)), fD, X)) 187 [(6, .int (iZ ((j : Int)))), (0, .ref (Q 0)), (1, .int (iZ ((a : Int)))), (2, .long (lZ (z)))] [] := by
    intro gL j hout hl hv hj hzz htop
    have hq := trim_num (gS := upd fS a (iZ (j : Int))) (gN := upd fN a (iZ (if j = 0 then 0 else z.sign))) (t := a) (sg := z.sign) (by omega) hl hj hzz htop upd_eq upd_eq (by
      rcases hcz with ⟨h1, h2⟩ | ⟨h1, h2⟩ | ⟨h1, h2⟩
      · exact Or.inl h2
      · exact Or.inr (Or.inr ⟨h2, by rw [hv]; omega⟩)
      · exact Or.inr (Or.inl h2))
    rw [hv, Int.sign_mul_natAbs] at hq
    have hsg : (if j = 0 then 0 else z.sign) = z.sign := by
      by_cases q : j = 0
      · subst q
        have h0 := zv_zero (Nat.zero_le 3) hzz
        simp only [zv] at h0 hv
        rw [if_pos rfl, show z = 0 by omega]; rfl
      · rw [if_neg q]
    rw [hsg] at hq
    refine w_aload_n C dX5_setLong_187 1 rfl ?_
    refine w_get (ci := 5) (ref := "RootIsolatorModel") (T := TX5) (Cn := RX5) (N := 10) C (fun w h => wC_in (inX5 w h)) 0 rfl rfl 2 (by decide) (wC_in fX5_sizes) rfl rfl dX5_setLong_188 ?_
    refine w_iload_n C dX5_setLong_191 2 rfl ?_
    refine w_iload C dX5_setLong_192 0 rfl ?_
    refine w_iast C (mU Q G (gL, (upd fS (a) (iZ ((j : Int)))), (upd fN a (iZ z.sign)), fD, X)) 2 0 rfl rfl (a) ⟨by omega, by omega, by omega⟩ rfl dX5_setLong_194 ?_
    exact m_vret hsz C hr hlk (⟨_, _, _, rfl, ⟨fun c i hc hi2 => hout _ (by omega), fun c hc => upd_ne hc, fun c hc => upd_ne hc⟩, hq, fun h0 => mNum_0 hl hj hzz htop (by rw [hv]; omega) (by omega)⟩) dX5_setLong_195
  have loop : ∀ (gL : Nat → Int32) (j : Nat), (∀ j : Nat, (j < 640 * a ∨ 640 * a + 3 ≤ j) → gL j = fL j) → limb gL (640 * a) 3 → zv gL (640 * a) 3 = (z.natAbs : Int) → j ≤ 3 → (∀ k : Nat, j ≤ k → k < 3 → gL (640 * a + k) = 0) → ZW p l e ({ frames := 0, cells := 0, slots := 0, locals := 0 }) s m ([.ref (Q 0), .int (iZ ((a : Int))), .long (lZ (z))] : List Value).toArray below meth c D (mA Q sz) 12 0 0 (MQ below (va_Qv (fun u : mT => mSet0 fL fS fN fD X a z (fun gL => gL (640 * a) = 0) u) (mAt D Q G (mA Q sz)) (mA Q sz)) ([.ref (Q 0), .int (iZ ((a : Int))), .long (lZ (z))] : List Value).toArray s 0 0 (mA Q sz)) (mU Q G (gL, fS, (upd fN a (iZ z.sign)), fD, X)) 158 [(6, .int (iZ ((j : Int)))), (0, .ref (Q 0)), (1, .int (iZ ((a : Int)))), (2, .long (lZ (z)))] [] := by
    intro gL j hout hl hv
    induction j with
    | zero =>
      intro hj hzz
      refine w_iload C dX5_setLong_158 0 rfl ?_
      refine w_if_le C 187 dX5_setLong_160 (by decide) ⟨by omega, by omega⟩ (fun c0 => ?_) (fun c0 => absurd c0 (by omega))
      exact fin gL 0 hout hl hv hj hzz (fun i h => absurd h (by omega))
    | succ i ih =>
      intro hj hzz
      refine w_iload C dX5_setLong_158 0 rfl ?_
      refine w_if_le C 187 dX5_setLong_160 (by decide) ⟨by omega, by omega⟩ (fun c1 => ?_) (fun c1 => ?_)
      · exact absurd c1 (by omega)
      · refine w_aload_n C dX5_setLong_163 1 rfl ?_
        refine w_get (ci := 5) (ref := "RootIsolatorModel") (T := TX5) (Cn := RX5) (N := 10) C (fun w h => wC_in (inX5 w h)) 0 rfl rfl 1 (by decide) (wC_in fX5_limbs) rfl rfl dX5_setLong_164 ?_
        refine w_sipush C dX5_setLong_167 (by decide) ?_
        refine w_iload_n C dX5_setLong_170 2 rfl ?_
        refine w_imul C dX5_setLong_171 ?_
        refine w_iload C dX5_setLong_172 0 rfl ?_
        refine w_iadd C dX5_setLong_174 ?_
        refine w_iconst C dX5_setLong_175 ?_
        refine w_isub C dX5_setLong_176 ?_
        refine w_iald C 1 0 rfl rfl (640 * a + i) ((gL (640 * a + i)).toInt) ⟨by omega, by omega, by omega⟩ ((iZ_self _).symm) dX5_setLong_177 ?_
        refine w_if_ne C 187 dX5_setLong_178 (by decide) (i32r _) (fun ct => ?_) (fun ct => ?_)
        · exact fin gL (i + 1) hout hl hv hj hzz (fun k h => by
            have : k = i := by omega
            subst this
            intro q; rw [q] at ct; exact ct rfl)
        · refine w_iinc C ((i : Int)) (by omega) [(6, .int (iZ ((i : Int)))), (0, .ref (Q 0)), (1, .int (iZ ((a : Int)))), (2, .long (lZ (z)))] dX5_setLong_181 0 rfl (by decide) rfl ?_
          refine w_goto C 158 dX5_setLong_184 (by decide) ?_
          exact ih (by omega) (fun k h1 h2 => by
            rcases Nat.lt_or_ge i k with q | q
            · exact hzz k (by omega) h2
            · have : k = i := by omega
              subst this
              rw [← iZ_self (gL (640 * a + k)), ct]; rfl)
  refine w_lload_n C dX5_setLong_0 2 rfl ?_
  refine w_lstore C [(4, .long (lZ (z))), (0, .ref (Q 0)), (1, .int (iZ ((a : Int)))), (2, .long (lZ (z)))] dX5_setLong_1 (by decide) rfl ?_
  refine w_aload_n C dX5_setLong_3 1 rfl ?_
  refine w_get (ci := 5) (ref := "RootIsolatorModel") (T := TX5) (Cn := RX5) (N := 10) C (fun w h => wC_in (inX5 w h)) 0 rfl rfl 3 (by decide) (wC_in fX5_signs) rfl rfl dX5_setLong_4 ?_
  refine w_iload_n C dX5_setLong_7 2 rfl ?_
  refine w_lload_n C dX5_setLong_8 3 rfl ?_
  refine w_lconst C 0 dX5_setLong_9 rfl ?_
  have J2 : ZW p l e ({ frames := 0, cells := 0, slots := 0, locals := 0 }) s m ([.ref (Q 0), .int (iZ ((a : Int))), .long (lZ (z))] : List Value).toArray below meth c D (mA Q sz) 12 0 0 (MQ below (va_Qv (fun u : mT => mSet0 fL fS fN fD X a z (fun gL => gL (640 * a) = 0) u) (mAt D Q G (mA Q sz)) (mA Q sz)) ([.ref (Q 0), .int (iZ ((a : Int))), .long (lZ (z))] : List Value).toArray s 0 0 (mA Q sz)) (mU Q G (fL, fS, fN, fD, X)) 29 [(4, .long (lZ (z))), (0, .ref (Q 0)), (1, .int (iZ ((a : Int)))), (2, .long (lZ (z)))] [.int (iZ (z.sign)), .int (iZ ((a : Int))), .ref (Q 3)] := by
    refine w_iast C (mU Q G (fL, fS, (upd fN (a) (iZ (z.sign))), fD, X)) 3 0 rfl rfl (a) ⟨by omega, by omega, by omega⟩ rfl dX5_setLong_29 ?_
    refine w_iconst C dX5_setLong_30 ?_
    refine w_istore C [(6, .int (iZ (0))), (4, .long (lZ (z))), (0, .ref (Q 0)), (1, .int (iZ ((a : Int)))), (2, .long (lZ (z)))] dX5_setLong_31 (by decide) rfl ?_
    refine w_iconst C dX5_setLong_33 ?_
    refine w_istore C [(7, .int (iZ (0))), (6, .int (iZ (0))), (4, .long (lZ (z))), (0, .ref (Q 0)), (1, .int (iZ ((a : Int)))), (2, .long (lZ (z)))] dX5_setLong_34 (by decide) rfl ?_
    refine w_iload C dX5_setLong_36 0 rfl ?_
    refine w_iconst C dX5_setLong_38 ?_
    refine w_icmp_ge C 79 dX5_setLong_39 (by decide) ⟨⟨by omega, by omega⟩, by omega, by omega⟩ (fun c3 => ?_) (fun c3 => ?_)
    · exact absurd c3 (by omega)
    · refine w_lload C dX5_setLong_42 2 rfl ?_
      refine w_ldc2 C (2147483647) dX5_setLong_44 (wC_in kclX5_43) ?_
      refine w_and31 C dX5_setLong_47 ?_
      refine w_lstore C [(8, .long (lZ ((z) % 2147483648))), (7, .int (iZ (0))), (6, .int (iZ (0))), (4, .long (lZ (z))), (0, .ref (Q 0)), (1, .int (iZ ((a : Int)))), (2, .long (lZ (z)))] dX5_setLong_48 (by decide) rfl ?_
      refine w_aload_n C dX5_setLong_50 4 rfl ?_
      refine w_get (ci := 5) (ref := "RootIsolatorModel") (T := TX5) (Cn := RX5) (N := 10) C (fun w h => wC_in (inX5 w h)) 0 rfl rfl 1 (by decide) (wC_in fX5_limbs) rfl rfl dX5_setLong_51 ?_
      refine w_sipush C dX5_setLong_54 (by decide) ?_
      refine w_iload_n C dX5_setLong_57 5 rfl ?_
      refine w_imul C dX5_setLong_58 ?_
      refine w_iload C dX5_setLong_59 1 rfl ?_
      refine w_iadd C dX5_setLong_61 ?_
      refine w_lload C dX5_setLong_62 0 rfl ?_
      refine w_l2i C dX5_setLong_64 ?_
      refine w_iast C (mU Q G ((upd fL (640 * a + 0) (iZ ((z) % 2147483648))), fS, (upd fN (a) (iZ (z.sign))), fD, X)) 1 0 rfl rfl (640 * a + 0) ⟨by omega, by omega, by omega⟩ rfl dX5_setLong_65 ?_
      refine w_lload C dX5_setLong_66 3 rfl ?_
      refine w_bipush C dX5_setLong_68 (by decide) ?_
      refine w_lshr C (31) dX5_setLong_70 ⟨by omega, by omega⟩ ⟨by omega, by omega⟩ ?_
      refine w_topl C (z / 2147483648) (rfl) ?_
      refine w_lstore C [(4, .long (lZ (z / 2147483648))), (8, .long (lZ ((z) % 2147483648))), (7, .int (iZ (0))), (6, .int (iZ (0))), (0, .ref (Q 0)), (1, .int (iZ ((a : Int)))), (2, .long (lZ (z)))] dX5_setLong_71 (by decide) rfl ?_
      refine w_iinc C (1) (by omega) [(7, .int (iZ (1))), (4, .long (lZ (z / 2147483648))), (8, .long (lZ ((z) % 2147483648))), (6, .int (iZ (0))), (0, .ref (Q 0)), (1, .int (iZ ((a : Int)))), (2, .long (lZ (z)))] dX5_setLong_73 2 rfl (by decide) rfl ?_
      refine w_goto C 36 dX5_setLong_76 (by decide) ?_
      refine w_iload C dX5_setLong_36 0 rfl ?_
      refine w_iconst C dX5_setLong_38 ?_
      refine w_icmp_ge C 79 dX5_setLong_39 (by decide) ⟨⟨by omega, by omega⟩, by omega, by omega⟩ (fun c4 => ?_) (fun c4 => ?_)
      · exact absurd c4 (by omega)
      · refine w_lload C dX5_setLong_42 1 rfl ?_
        refine w_ldc2 C (2147483647) dX5_setLong_44 (wC_in kclX5_43) ?_
        refine w_and31 C dX5_setLong_47 ?_
        refine w_lstore C [(8, .long (lZ ((z / 2147483648) % 2147483648))), (7, .int (iZ (1))), (4, .long (lZ (z / 2147483648))), (6, .int (iZ (0))), (0, .ref (Q 0)), (1, .int (iZ ((a : Int)))), (2, .long (lZ (z)))] dX5_setLong_48 (by decide) rfl ?_
        refine w_aload_n C dX5_setLong_50 4 rfl ?_
        refine w_get (ci := 5) (ref := "RootIsolatorModel") (T := TX5) (Cn := RX5) (N := 10) C (fun w h => wC_in (inX5 w h)) 0 rfl rfl 1 (by decide) (wC_in fX5_limbs) rfl rfl dX5_setLong_51 ?_
        refine w_sipush C dX5_setLong_54 (by decide) ?_
        refine w_iload_n C dX5_setLong_57 5 rfl ?_
        refine w_imul C dX5_setLong_58 ?_
        refine w_iload C dX5_setLong_59 1 rfl ?_
        refine w_iadd C dX5_setLong_61 ?_
        refine w_lload C dX5_setLong_62 0 rfl ?_
        refine w_l2i C dX5_setLong_64 ?_
        refine w_iast C (mU Q G ((upd (upd fL (640 * a + 0) (iZ ((z) % 2147483648))) (640 * a + 1) (iZ ((z / 2147483648) % 2147483648))), fS, (upd fN (a) (iZ (z.sign))), fD, X)) 1 0 rfl rfl (640 * a + 1) ⟨by omega, by omega, by omega⟩ rfl dX5_setLong_65 ?_
        refine w_lload C dX5_setLong_66 2 rfl ?_
        refine w_bipush C dX5_setLong_68 (by decide) ?_
        refine w_lshr C (31) dX5_setLong_70 ⟨by omega, by omega⟩ ⟨by omega, by omega⟩ ?_
        refine w_topl C (z / 2147483648 / 2147483648) (rfl) ?_
        refine w_lstore C [(4, .long (lZ (z / 2147483648 / 2147483648))), (8, .long (lZ ((z / 2147483648) % 2147483648))), (7, .int (iZ (1))), (6, .int (iZ (0))), (0, .ref (Q 0)), (1, .int (iZ ((a : Int)))), (2, .long (lZ (z)))] dX5_setLong_71 (by decide) rfl ?_
        refine w_iinc C (2) (by omega) [(7, .int (iZ (2))), (4, .long (lZ (z / 2147483648 / 2147483648))), (8, .long (lZ ((z / 2147483648) % 2147483648))), (6, .int (iZ (0))), (0, .ref (Q 0)), (1, .int (iZ ((a : Int)))), (2, .long (lZ (z)))] dX5_setLong_73 2 rfl (by decide) rfl ?_
        refine w_goto C 36 dX5_setLong_76 (by decide) ?_
        refine w_iload C dX5_setLong_36 0 rfl ?_
        refine w_iconst C dX5_setLong_38 ?_
        refine w_icmp_ge C 79 dX5_setLong_39 (by decide) ⟨⟨by omega, by omega⟩, by omega, by omega⟩ (fun c5 => ?_) (fun c5 => ?_)
        · exact absurd c5 (by omega)
        · refine w_lload C dX5_setLong_42 1 rfl ?_
          refine w_ldc2 C (2147483647) dX5_setLong_44 (wC_in kclX5_43) ?_
          refine w_and31 C dX5_setLong_47 ?_
          refine w_lstore C [(8, .long (lZ ((z / 2147483648 / 2147483648) % 2147483648))), (7, .int (iZ (2))), (4, .long (lZ (z / 2147483648 / 2147483648))), (6, .int (iZ (0))), (0, .ref (Q 0)), (1, .int (iZ ((a : Int)))), (2, .long (lZ (z)))] dX5_setLong_48 (by decide) rfl ?_
          refine w_aload_n C dX5_setLong_50 4 rfl ?_
          refine w_get (ci := 5) (ref := "RootIsolatorModel") (T := TX5) (Cn := RX5) (N := 10) C (fun w h => wC_in (inX5 w h)) 0 rfl rfl 1 (by decide) (wC_in fX5_limbs) rfl rfl dX5_setLong_51 ?_
          refine w_sipush C dX5_setLong_54 (by decide) ?_
          refine w_iload_n C dX5_setLong_57 5 rfl ?_
          refine w_imul C dX5_setLong_58 ?_
          refine w_iload C dX5_setLong_59 1 rfl ?_
          refine w_iadd C dX5_setLong_61 ?_
          refine w_lload C dX5_setLong_62 0 rfl ?_
          refine w_l2i C dX5_setLong_64 ?_
          refine w_iast C (mU Q G ((upd (upd (upd fL (640 * a + 0) (iZ ((z) % 2147483648))) (640 * a + 1) (iZ ((z / 2147483648) % 2147483648))) (640 * a + 2) (iZ ((z / 2147483648 / 2147483648) % 2147483648))), fS, (upd fN (a) (iZ (z.sign))), fD, X)) 1 0 rfl rfl (640 * a + 2) ⟨by omega, by omega, by omega⟩ rfl dX5_setLong_65 ?_
          refine w_lload C dX5_setLong_66 2 rfl ?_
          refine w_bipush C dX5_setLong_68 (by decide) ?_
          refine w_lshr C (31) dX5_setLong_70 ⟨by omega, by omega⟩ ⟨by omega, by omega⟩ ?_
          refine w_topl C (z / 2147483648 / 2147483648 / 2147483648) (rfl) ?_
          refine w_lstore C [(4, .long (lZ (z / 2147483648 / 2147483648 / 2147483648))), (8, .long (lZ ((z / 2147483648 / 2147483648) % 2147483648))), (7, .int (iZ (2))), (6, .int (iZ (0))), (0, .ref (Q 0)), (1, .int (iZ ((a : Int)))), (2, .long (lZ (z)))] dX5_setLong_71 (by decide) rfl ?_
          refine w_iinc C (3) (by omega) [(7, .int (iZ (3))), (4, .long (lZ (z / 2147483648 / 2147483648 / 2147483648))), (8, .long (lZ ((z / 2147483648 / 2147483648) % 2147483648))), (6, .int (iZ (0))), (0, .ref (Q 0)), (1, .int (iZ ((a : Int)))), (2, .long (lZ (z)))] dX5_setLong_73 2 rfl (by decide) rfl ?_
          refine w_goto C 36 dX5_setLong_76 (by decide) ?_
          refine w_iload C dX5_setLong_36 0 rfl ?_
          refine w_iconst C dX5_setLong_38 ?_
          refine w_icmp_ge C 79 dX5_setLong_39 (by decide) ⟨⟨by omega, by omega⟩, by omega, by omega⟩ (fun c6 => ?_) (fun c6 => ?_)
          · refine w_lload_n C dX5_setLong_79 6 rfl ?_
            refine w_lconst C 0 dX5_setLong_80 rfl ?_
            refine w_lif_ge C 155 dX5_setLong_81 dX5_setLong_82 (by decide) ⟨⟨by omega, by omega⟩, by omega, by omega⟩ (fun c81 => ?_) (fun c81 => ?_)
            · refine w_iconst C dX5_setLong_155 ?_
              refine w_istore C [(6, .int (iZ (3))), (7, .int (iZ (3))), (4, .long (lZ (z / 2147483648 / 2147483648 / 2147483648))), (8, .long (lZ ((z / 2147483648 / 2147483648) % 2147483648))), (0, .ref (Q 0)), (1, .int (iZ ((a : Int)))), (2, .long (lZ (z)))] dX5_setLong_156 (by decide) rfl ?_
              refine w_sub [(6, .int (iZ (3))), (0, .ref (Q 0)), (1, .int (iZ ((a : Int)))), (2, .long (lZ (z)))] [0, 4, 5, 6] rfl ?_
              have hL0 : (upd (upd (upd fL (640 * a + 0) (iZ ((z) % 2147483648))) (640 * a + 1) (iZ ((z / 2147483648) % 2147483648))) (640 * a + 2) (iZ ((z / 2147483648 / 2147483648) % 2147483648))) (640 * a + 0) = iZ (z % 2147483648) := by rw [upd_ne (by omega), upd_ne (by omega), upd_eq]
              have hL1 : (upd (upd (upd fL (640 * a + 0) (iZ ((z) % 2147483648))) (640 * a + 1) (iZ ((z / 2147483648) % 2147483648))) (640 * a + 2) (iZ ((z / 2147483648 / 2147483648) % 2147483648))) (640 * a + 1) = iZ (z / 2147483648 % 2147483648) := by rw [upd_ne (by omega), upd_eq]
              have hL2 : (upd (upd (upd fL (640 * a + 0) (iZ ((z) % 2147483648))) (640 * a + 1) (iZ ((z / 2147483648) % 2147483648))) (640 * a + 2) (iZ ((z / 2147483648 / 2147483648) % 2147483648))) (640 * a + 2) = iZ (z / 2147483648 / 2147483648 % 2147483648) := by rw [upd_eq]
              refine loop _ 3 (fun j hj => by rw [upd_ne (by omega), upd_ne (by omega), upd_ne (by omega)]) (fun j hj => ?_) ?_ (by omega) (fun k h1 h2 => absurd h1 (by omega))
              · rcases (show j = 0 ∨ j = 1 ∨ j = 2 by omega) with rfl | rfl | rfl
                · rw [hL0, iZ_toInt (by omega) (by omega)]; omega
                · rw [hL1, iZ_toInt (by omega) (by omega)]; omega
                · rw [hL2, iZ_toInt (by omega) (by omega)]; omega
              · simp only [zv]
                rw [hL0, hL1, hL2, iZ_toInt (by omega) (by omega), iZ_toInt (by omega) (by omega), iZ_toInt (by omega) (by omega), hp62, hp31, hp0]
                omega
            · refine w_lconst C 1 dX5_setLong_85 rfl ?_
              refine w_lstore C [(7, .long (lZ (1))), (4, .long (lZ (z / 2147483648 / 2147483648 / 2147483648))), (6, .int (iZ (0))), (0, .ref (Q 0)), (1, .int (iZ ((a : Int)))), (2, .long (lZ (z)))] dX5_setLong_86 (by decide) rfl ?_
              refine w_iconst C dX5_setLong_88 ?_
              refine w_istore C [(9, .int (iZ (0))), (7, .long (lZ (1))), (4, .long (lZ (z / 2147483648 / 2147483648 / 2147483648))), (6, .int (iZ (0))), (0, .ref (Q 0)), (1, .int (iZ ((a : Int)))), (2, .long (lZ (z)))] dX5_setLong_89 (by decide) rfl ?_
              refine w_iload C dX5_setLong_91 0 rfl ?_
              refine w_iconst C dX5_setLong_93 ?_
              refine w_icmp_ge C 155 dX5_setLong_94 (by decide) ⟨⟨by omega, by omega⟩, by omega, by omega⟩ (fun c7 => ?_) (fun c7 => ?_)
              · exact absurd c7 (by omega)
              · refine w_aload_n C dX5_setLong_97 4 rfl ?_
                refine w_get (ci := 5) (ref := "RootIsolatorModel") (T := TX5) (Cn := RX5) (N := 10) C (fun w h => wC_in (inX5 w h)) 0 rfl rfl 1 (by decide) (wC_in fX5_limbs) rfl rfl dX5_setLong_98 ?_
                refine w_sipush C dX5_setLong_101 (by decide) ?_
                refine w_iload_n C dX5_setLong_104 5 rfl ?_
                refine w_imul C dX5_setLong_105 ?_
                refine w_iload C dX5_setLong_106 0 rfl ?_
                refine w_iadd C dX5_setLong_108 ?_
                obtain ⟨d0, hd0⟩ : ∃ d : Int, d = z % 2147483648 := ⟨_, rfl⟩
                obtain ⟨d1, hd1⟩ : ∃ d : Int, d = z / 2147483648 % 2147483648 := ⟨_, rfl⟩
                obtain ⟨d2, hd2⟩ : ∃ d : Int, d = z / 2147483648 / 2147483648 % 2147483648 := ⟨_, rfl⟩
                have hdr : 0 ≤ d0 ∧ d0 < 2147483648 ∧ 0 ≤ d1 ∧ d1 < 2147483648 ∧ 0 ≤ d2 ∧ d2 < 2147483648 := by omega
                refine w_iald C 1 0 rfl rfl (640 * a + 0) (d0) ⟨by omega, by omega, by omega⟩ (by show (upd (upd (upd fL (640 * a + 0) (iZ ((z) % 2147483648))) (640 * a + 1) (iZ ((z / 2147483648) % 2147483648))) (640 * a + 2) (iZ ((z / 2147483648 / 2147483648) % 2147483648))) _ = _; rw [upd_ne (by omega), upd_ne (by omega), upd_eq, hd0]) dX5_setLong_109 ?_
                refine w_iconst C dX5_setLong_110 ?_
                refine w_ixor C dX5_setLong_111 (v := (iZ (-1 - d0))) (iZ_not d0) ?_
                refine w_i2l C dX5_setLong_112 ⟨by omega, by omega⟩ ?_
                refine w_ldc2 C (2147483647) dX5_setLong_113 (wC_in kclX5_43) ?_
                refine w_and31 C dX5_setLong_116 ?_
                refine w_lload C dX5_setLong_117 1 rfl ?_
                obtain ⟨x0, hx0⟩ : ∃ x : Int, x = (-1 - d0) % 2147483648 + 1 := ⟨_, rfl⟩
                have hxr0 : 0 ≤ x0 ∧ x0 < 4294967296 := by omega
                refine w_ladd C dX5_setLong_119 ?_
                refine w_topl C (x0) (hx0.symm) ?_
                refine w_lstore C [(10, .long (lZ (x0))), (9, .int (iZ (0))), (7, .long (lZ (1))), (4, .long (lZ (z / 2147483648 / 2147483648 / 2147483648))), (6, .int (iZ (0))), (0, .ref (Q 0)), (1, .int (iZ ((a : Int)))), (2, .long (lZ (z)))] dX5_setLong_120 (by decide) rfl ?_
                refine w_aload_n C dX5_setLong_122 5 rfl ?_
                refine w_get (ci := 5) (ref := "RootIsolatorModel") (T := TX5) (Cn := RX5) (N := 10) C (fun w h => wC_in (inX5 w h)) 0 rfl rfl 1 (by decide) (wC_in fX5_limbs) rfl rfl dX5_setLong_123 ?_
                refine w_sipush C dX5_setLong_126 (by decide) ?_
                refine w_iload_n C dX5_setLong_129 6 rfl ?_
                refine w_imul C dX5_setLong_130 ?_
                refine w_iload C dX5_setLong_131 1 rfl ?_
                refine w_iadd C dX5_setLong_133 ?_
                refine w_lload C dX5_setLong_134 0 rfl ?_
                refine w_ldc2 C (2147483647) dX5_setLong_136 (wC_in kclX5_43) ?_
                refine w_and31 C dX5_setLong_139 ?_
                refine w_l2i C dX5_setLong_140 ?_
                refine w_iast C (mU Q G ((upd (upd (upd (upd fL (640 * a + 0) (iZ ((z) % 2147483648))) (640 * a + 1) (iZ ((z / 2147483648) % 2147483648))) (640 * a + 2) (iZ ((z / 2147483648 / 2147483648) % 2147483648))) (640 * a + 0) (iZ ((x0) % 2147483648))), fS, (upd fN (a) (iZ (z.sign))), fD, X)) 1 0 rfl rfl (640 * a + 0) ⟨by omega, by omega, by omega⟩ rfl dX5_setLong_141 ?_
                refine w_lload C dX5_setLong_142 0 rfl ?_
                refine w_bipush C dX5_setLong_144 (by decide) ?_
                refine w_lshr C (31) dX5_setLong_146 ⟨by omega, by omega⟩ ⟨by omega, by omega⟩ ?_
                refine w_topl C (x0 / 2147483648) (rfl) ?_
                refine w_lstore C [(7, .long (lZ (x0 / 2147483648))), (10, .long (lZ (x0))), (9, .int (iZ (0))), (4, .long (lZ (z / 2147483648 / 2147483648 / 2147483648))), (6, .int (iZ (0))), (0, .ref (Q 0)), (1, .int (iZ ((a : Int)))), (2, .long (lZ (z)))] dX5_setLong_147 (by decide) rfl ?_
                refine w_iinc C (1) (by omega) [(9, .int (iZ (1))), (7, .long (lZ (x0 / 2147483648))), (10, .long (lZ (x0))), (4, .long (lZ (z / 2147483648 / 2147483648 / 2147483648))), (6, .int (iZ (0))), (0, .ref (Q 0)), (1, .int (iZ ((a : Int)))), (2, .long (lZ (z)))] dX5_setLong_149 2 rfl (by decide) rfl ?_
                refine w_goto C 91 dX5_setLong_152 (by decide) ?_
                refine w_iload C dX5_setLong_91 0 rfl ?_
                refine w_iconst C dX5_setLong_93 ?_
                refine w_icmp_ge C 155 dX5_setLong_94 (by decide) ⟨⟨by omega, by omega⟩, by omega, by omega⟩ (fun c8 => ?_) (fun c8 => ?_)
                · exact absurd c8 (by omega)
                · refine w_aload_n C dX5_setLong_97 5 rfl ?_
                  refine w_get (ci := 5) (ref := "RootIsolatorModel") (T := TX5) (Cn := RX5) (N := 10) C (fun w h => wC_in (inX5 w h)) 0 rfl rfl 1 (by decide) (wC_in fX5_limbs) rfl rfl dX5_setLong_98 ?_
                  refine w_sipush C dX5_setLong_101 (by decide) ?_
                  refine w_iload_n C dX5_setLong_104 6 rfl ?_
                  refine w_imul C dX5_setLong_105 ?_
                  refine w_iload C dX5_setLong_106 0 rfl ?_
                  refine w_iadd C dX5_setLong_108 ?_
                  refine w_iald C 1 0 rfl rfl (640 * a + 1) (d1) ⟨by omega, by omega, by omega⟩ (by show (upd (upd (upd (upd fL (640 * a + 0) (iZ ((z) % 2147483648))) (640 * a + 1) (iZ ((z / 2147483648) % 2147483648))) (640 * a + 2) (iZ ((z / 2147483648 / 2147483648) % 2147483648))) (640 * a + 0) (iZ ((x0) % 2147483648))) _ = _; rw [upd_ne (by omega), upd_ne (by omega), upd_eq, hd1]) dX5_setLong_109 ?_
                  refine w_iconst C dX5_setLong_110 ?_
                  refine w_ixor C dX5_setLong_111 (v := (iZ (-1 - d1))) (iZ_not d1) ?_
                  refine w_i2l C dX5_setLong_112 ⟨by omega, by omega⟩ ?_
                  refine w_ldc2 C (2147483647) dX5_setLong_113 (wC_in kclX5_43) ?_
                  refine w_and31 C dX5_setLong_116 ?_
                  refine w_lload C dX5_setLong_117 1 rfl ?_
                  obtain ⟨x1, hx1⟩ : ∃ x : Int, x = (-1 - d1) % 2147483648 + x0 / 2147483648 := ⟨_, rfl⟩
                  have hxr1 : 0 ≤ x1 ∧ x1 < 4294967296 := by omega
                  refine w_ladd C dX5_setLong_119 ?_
                  refine w_topl C (x1) (hx1.symm) ?_
                  refine w_lstore C [(10, .long (lZ (x1))), (9, .int (iZ (1))), (7, .long (lZ (x0 / 2147483648))), (4, .long (lZ (z / 2147483648 / 2147483648 / 2147483648))), (6, .int (iZ (0))), (0, .ref (Q 0)), (1, .int (iZ ((a : Int)))), (2, .long (lZ (z)))] dX5_setLong_120 (by decide) rfl ?_
                  refine w_aload_n C dX5_setLong_122 5 rfl ?_
                  refine w_get (ci := 5) (ref := "RootIsolatorModel") (T := TX5) (Cn := RX5) (N := 10) C (fun w h => wC_in (inX5 w h)) 0 rfl rfl 1 (by decide) (wC_in fX5_limbs) rfl rfl dX5_setLong_123 ?_
                  refine w_sipush C dX5_setLong_126 (by decide) ?_
                  refine w_iload_n C dX5_setLong_129 6 rfl ?_
                  refine w_imul C dX5_setLong_130 ?_
                  refine w_iload C dX5_setLong_131 1 rfl ?_
                  refine w_iadd C dX5_setLong_133 ?_
                  refine w_lload C dX5_setLong_134 0 rfl ?_
                  refine w_ldc2 C (2147483647) dX5_setLong_136 (wC_in kclX5_43) ?_
                  refine w_and31 C dX5_setLong_139 ?_
                  refine w_l2i C dX5_setLong_140 ?_
                  refine w_iast C (mU Q G ((upd (upd (upd (upd (upd fL (640 * a + 0) (iZ ((z) % 2147483648))) (640 * a + 1) (iZ ((z / 2147483648) % 2147483648))) (640 * a + 2) (iZ ((z / 2147483648 / 2147483648) % 2147483648))) (640 * a + 0) (iZ ((x0) % 2147483648))) (640 * a + 1) (iZ ((x1) % 2147483648))), fS, (upd fN (a) (iZ (z.sign))), fD, X)) 1 0 rfl rfl (640 * a + 1) ⟨by omega, by omega, by omega⟩ rfl dX5_setLong_141 ?_
                  refine w_lload C dX5_setLong_142 0 rfl ?_
                  refine w_bipush C dX5_setLong_144 (by decide) ?_
                  refine w_lshr C (31) dX5_setLong_146 ⟨by omega, by omega⟩ ⟨by omega, by omega⟩ ?_
                  refine w_topl C (x1 / 2147483648) (rfl) ?_
                  refine w_lstore C [(7, .long (lZ (x1 / 2147483648))), (10, .long (lZ (x1))), (9, .int (iZ (1))), (4, .long (lZ (z / 2147483648 / 2147483648 / 2147483648))), (6, .int (iZ (0))), (0, .ref (Q 0)), (1, .int (iZ ((a : Int)))), (2, .long (lZ (z)))] dX5_setLong_147 (by decide) rfl ?_
                  refine w_iinc C (2) (by omega) [(9, .int (iZ (2))), (7, .long (lZ (x1 / 2147483648))), (10, .long (lZ (x1))), (4, .long (lZ (z / 2147483648 / 2147483648 / 2147483648))), (6, .int (iZ (0))), (0, .ref (Q 0)), (1, .int (iZ ((a : Int)))), (2, .long (lZ (z)))] dX5_setLong_149 2 rfl (by decide) rfl ?_
                  refine w_goto C 91 dX5_setLong_152 (by decide) ?_
                  refine w_iload C dX5_setLong_91 0 rfl ?_
                  refine w_iconst C dX5_setLong_93 ?_
                  refine w_icmp_ge C 155 dX5_setLong_94 (by decide) ⟨⟨by omega, by omega⟩, by omega, by omega⟩ (fun c9 => ?_) (fun c9 => ?_)
                  · exact absurd c9 (by omega)
                  · refine w_aload_n C dX5_setLong_97 5 rfl ?_
                    refine w_get (ci := 5) (ref := "RootIsolatorModel") (T := TX5) (Cn := RX5) (N := 10) C (fun w h => wC_in (inX5 w h)) 0 rfl rfl 1 (by decide) (wC_in fX5_limbs) rfl rfl dX5_setLong_98 ?_
                    refine w_sipush C dX5_setLong_101 (by decide) ?_
                    refine w_iload_n C dX5_setLong_104 6 rfl ?_
                    refine w_imul C dX5_setLong_105 ?_
                    refine w_iload C dX5_setLong_106 0 rfl ?_
                    refine w_iadd C dX5_setLong_108 ?_
                    refine w_iald C 1 0 rfl rfl (640 * a + 2) (d2) ⟨by omega, by omega, by omega⟩ (by show (upd (upd (upd (upd (upd fL (640 * a + 0) (iZ ((z) % 2147483648))) (640 * a + 1) (iZ ((z / 2147483648) % 2147483648))) (640 * a + 2) (iZ ((z / 2147483648 / 2147483648) % 2147483648))) (640 * a + 0) (iZ ((x0) % 2147483648))) (640 * a + 1) (iZ ((x1) % 2147483648))) _ = _; rw [upd_ne (by omega), upd_ne (by omega), upd_eq, hd2]) dX5_setLong_109 ?_
                    refine w_iconst C dX5_setLong_110 ?_
                    refine w_ixor C dX5_setLong_111 (v := (iZ (-1 - d2))) (iZ_not d2) ?_
                    refine w_i2l C dX5_setLong_112 ⟨by omega, by omega⟩ ?_
                    refine w_ldc2 C (2147483647) dX5_setLong_113 (wC_in kclX5_43) ?_
                    refine w_and31 C dX5_setLong_116 ?_
                    refine w_lload C dX5_setLong_117 1 rfl ?_
                    obtain ⟨x2, hx2⟩ : ∃ x : Int, x = (-1 - d2) % 2147483648 + x1 / 2147483648 := ⟨_, rfl⟩
                    have hxr2 : 0 ≤ x2 ∧ x2 < 4294967296 := by omega
                    refine w_ladd C dX5_setLong_119 ?_
                    refine w_topl C (x2) (hx2.symm) ?_
                    refine w_lstore C [(10, .long (lZ (x2))), (9, .int (iZ (2))), (7, .long (lZ (x1 / 2147483648))), (4, .long (lZ (z / 2147483648 / 2147483648 / 2147483648))), (6, .int (iZ (0))), (0, .ref (Q 0)), (1, .int (iZ ((a : Int)))), (2, .long (lZ (z)))] dX5_setLong_120 (by decide) rfl ?_
                    refine w_aload_n C dX5_setLong_122 5 rfl ?_
                    refine w_get (ci := 5) (ref := "RootIsolatorModel") (T := TX5) (Cn := RX5) (N := 10) C (fun w h => wC_in (inX5 w h)) 0 rfl rfl 1 (by decide) (wC_in fX5_limbs) rfl rfl dX5_setLong_123 ?_
                    refine w_sipush C dX5_setLong_126 (by decide) ?_
                    refine w_iload_n C dX5_setLong_129 6 rfl ?_
                    refine w_imul C dX5_setLong_130 ?_
                    refine w_iload C dX5_setLong_131 1 rfl ?_
                    refine w_iadd C dX5_setLong_133 ?_
                    refine w_lload C dX5_setLong_134 0 rfl ?_
                    refine w_ldc2 C (2147483647) dX5_setLong_136 (wC_in kclX5_43) ?_
                    refine w_and31 C dX5_setLong_139 ?_
                    refine w_l2i C dX5_setLong_140 ?_
                    refine w_iast C (mU Q G ((upd (upd (upd (upd (upd (upd fL (640 * a + 0) (iZ ((z) % 2147483648))) (640 * a + 1) (iZ ((z / 2147483648) % 2147483648))) (640 * a + 2) (iZ ((z / 2147483648 / 2147483648) % 2147483648))) (640 * a + 0) (iZ ((x0) % 2147483648))) (640 * a + 1) (iZ ((x1) % 2147483648))) (640 * a + 2) (iZ ((x2) % 2147483648))), fS, (upd fN (a) (iZ (z.sign))), fD, X)) 1 0 rfl rfl (640 * a + 2) ⟨by omega, by omega, by omega⟩ rfl dX5_setLong_141 ?_
                    refine w_lload C dX5_setLong_142 0 rfl ?_
                    refine w_bipush C dX5_setLong_144 (by decide) ?_
                    refine w_lshr C (31) dX5_setLong_146 ⟨by omega, by omega⟩ ⟨by omega, by omega⟩ ?_
                    refine w_topl C (x2 / 2147483648) (rfl) ?_
                    refine w_lstore C [(7, .long (lZ (x2 / 2147483648))), (10, .long (lZ (x2))), (9, .int (iZ (2))), (4, .long (lZ (z / 2147483648 / 2147483648 / 2147483648))), (6, .int (iZ (0))), (0, .ref (Q 0)), (1, .int (iZ ((a : Int)))), (2, .long (lZ (z)))] dX5_setLong_147 (by decide) rfl ?_
                    refine w_iinc C (3) (by omega) [(9, .int (iZ (3))), (7, .long (lZ (x2 / 2147483648))), (10, .long (lZ (x2))), (4, .long (lZ (z / 2147483648 / 2147483648 / 2147483648))), (6, .int (iZ (0))), (0, .ref (Q 0)), (1, .int (iZ ((a : Int)))), (2, .long (lZ (z)))] dX5_setLong_149 2 rfl (by decide) rfl ?_
                    refine w_goto C 91 dX5_setLong_152 (by decide) ?_
                    refine w_iload C dX5_setLong_91 0 rfl ?_
                    refine w_iconst C dX5_setLong_93 ?_
                    refine w_icmp_ge C 155 dX5_setLong_94 (by decide) ⟨⟨by omega, by omega⟩, by omega, by omega⟩ (fun c10 => ?_) (fun c10 => ?_)
                    · refine w_iconst C dX5_setLong_155 ?_
                      refine w_istore C [(6, .int (iZ (3))), (9, .int (iZ (3))), (7, .long (lZ (x2 / 2147483648))), (10, .long (lZ (x2))), (4, .long (lZ (z / 2147483648 / 2147483648 / 2147483648))), (0, .ref (Q 0)), (1, .int (iZ ((a : Int)))), (2, .long (lZ (z)))] dX5_setLong_156 (by decide) rfl ?_
                      refine w_sub [(6, .int (iZ (3))), (0, .ref (Q 0)), (1, .int (iZ ((a : Int)))), (2, .long (lZ (z)))] [0, 5, 6, 7] rfl ?_
                      have hL0 : (upd (upd (upd (upd (upd (upd fL (640 * a + 0) (iZ ((z) % 2147483648))) (640 * a + 1) (iZ ((z / 2147483648) % 2147483648))) (640 * a + 2) (iZ ((z / 2147483648 / 2147483648) % 2147483648))) (640 * a + 0) (iZ ((x0) % 2147483648))) (640 * a + 1) (iZ ((x1) % 2147483648))) (640 * a + 2) (iZ ((x2) % 2147483648))) (640 * a + 0) = iZ (x0 % 2147483648) := by rw [upd_ne (by omega), upd_ne (by omega), upd_eq]
                      have hL1 : (upd (upd (upd (upd (upd (upd fL (640 * a + 0) (iZ ((z) % 2147483648))) (640 * a + 1) (iZ ((z / 2147483648) % 2147483648))) (640 * a + 2) (iZ ((z / 2147483648 / 2147483648) % 2147483648))) (640 * a + 0) (iZ ((x0) % 2147483648))) (640 * a + 1) (iZ ((x1) % 2147483648))) (640 * a + 2) (iZ ((x2) % 2147483648))) (640 * a + 1) = iZ (x1 % 2147483648) := by rw [upd_ne (by omega), upd_eq]
                      have hL2 : (upd (upd (upd (upd (upd (upd fL (640 * a + 0) (iZ ((z) % 2147483648))) (640 * a + 1) (iZ ((z / 2147483648) % 2147483648))) (640 * a + 2) (iZ ((z / 2147483648 / 2147483648) % 2147483648))) (640 * a + 0) (iZ ((x0) % 2147483648))) (640 * a + 1) (iZ ((x1) % 2147483648))) (640 * a + 2) (iZ ((x2) % 2147483648))) (640 * a + 2) = iZ (x2 % 2147483648) := by rw [upd_eq]
                      refine loop _ 3 (fun j hj => by rw [upd_ne (by omega), upd_ne (by omega), upd_ne (by omega), upd_ne (by omega), upd_ne (by omega), upd_ne (by omega)]) (fun j hj => ?_) ?_ (by omega) (fun k h1 h2 => absurd h1 (by omega))
                      · rcases (show j = 0 ∨ j = 1 ∨ j = 2 by omega) with rfl | rfl | rfl
                        · rw [hL0, iZ_toInt (by omega) (by omega)]; omega
                        · rw [hL1, iZ_toInt (by omega) (by omega)]; omega
                        · rw [hL2, iZ_toInt (by omega) (by omega)]; omega
                      · simp only [zv]
                        rw [hL0, hL1, hL2, iZ_toInt (by omega) (by omega), iZ_toInt (by omega) (by omega), iZ_toInt (by omega) (by omega), hp62, hp31, hp0]
                        omega
                    · exact absurd c10 (by omega)
          · exact absurd c6 (by omega)
  refine w_lif_ge C 18 dX5_setLong_10 dX5_setLong_11 (by decide) ⟨⟨by omega, by omega⟩, by omega, by omega⟩ (fun c10 => ?_) (fun c10 => ?_)
  · refine w_lload_n C dX5_setLong_18 3 rfl ?_
    refine w_lconst C 0 dX5_setLong_19 rfl ?_
    refine w_lif_le C 28 dX5_setLong_20 dX5_setLong_21 (by decide) ⟨⟨by omega, by omega⟩, by omega, by omega⟩ (fun c20 => ?_) (fun c20 => ?_)
    · refine w_iconst C dX5_setLong_28 ?_
      refine w_top C (z.sign) (by rcases hcz with ⟨h1, h2⟩ | ⟨h1, h2⟩ | ⟨h1, h2⟩ <;> omega) ?_
      exact J2
    · refine w_iconst C dX5_setLong_24 ?_
      refine w_goto C 29 dX5_setLong_25 (by decide) ?_
      refine w_top C (z.sign) (by rcases hcz with ⟨h1, h2⟩ | ⟨h1, h2⟩ | ⟨h1, h2⟩ <;> omega) ?_
      exact J2
  · refine w_iconst C dX5_setLong_14 ?_
    refine w_goto C 29 dX5_setLong_15 (by decide) ?_
    refine w_top C (z.sign) (by rcases hcz with ⟨h1, h2⟩ | ⟨h1, h2⟩ | ⟨h1, h2⟩ <;> omega) ?_
    exact J2
