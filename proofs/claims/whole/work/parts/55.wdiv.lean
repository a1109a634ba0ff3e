theorem odd_cancel {Y : Int} (hY : Y % 2 = 1) : ∀ (N : Nat) (d c : Int), Y * d = c * 2 ^ N → ∃ t : Int, d = t * 2 ^ N := by
  intro N
  induction N with
  | zero => intro d c _; exact ⟨d, by rw [Int.pow_zero, Int.mul_one]⟩
  | succ N ih =>
    intro d c h
    rw [Int.pow_succ] at h
    have h1 : d % 2 = 0 := by
      have h2 : (Y * d) % 2 = 0 := by rw [h, ← Int.mul_assoc]; exact Int.mul_emod_left _ _
      rw [Int.mul_emod, hY, Int.one_mul] at h2
      omega
    obtain ⟨d', rfl⟩ : ∃ d', d = 2 * d' := ⟨d / 2, by omega⟩
    have h3 : Y * d' = c * 2 ^ N := by
      have : 2 * (Y * d') = 2 * (c * 2 ^ N) := by grind
      omega
    obtain ⟨t, rfl⟩ := ih d' c h3
    exact ⟨t, by rw [Int.pow_succ]; grind⟩
theorem odd_same {Y A B c : Int} {N : Nat} (hY : Y % 2 = 1) (h : Y * A = Y * B + c * 2 ^ N) (hA : 0 ≤ A ∧ A < 2 ^ N) (hB : 0 ≤ B ∧ B < 2 ^ N) : A = B := by
  obtain ⟨t, ht⟩ := odd_cancel hY N (A - B) c (by rw [Int.mul_sub]; omega)
  have hp : (0 : Int) < 2 ^ N := Int.pow_pos (by omega)
  by_cases h1 : t = 0
  · rw [h1, Int.zero_mul] at ht; omega
  · exfalso
    by_cases h2 : 0 < t
    · have := Int.mul_le_mul_of_nonneg_right (show 1 ≤ t by omega) (Int.le_of_lt hp)
      omega
    · have := Int.mul_le_mul_of_nonneg_right (show t ≤ -1 by omega) (Int.le_of_lt hp)
      omega
theorem div_in {lf gj h cy w : Int} (hw : w = h - lf * gj - cy) (h1 : 0 ≤ lf ∧ lf < 1073741824) (h2 : 0 ≤ gj ∧ gj < 1073741824) (h3 : 0 ≤ h ∧ h < 1073741824) (h4 : 0 ≤ cy ∧ cy < 1073741824) : -1152921503533105152 ≤ w ∧ w < 1073741824 := by
  have a1 : 0 ≤ lf * gj := Int.mul_nonneg h1.1 h2.1
  have a2 : lf * gj ≤ 1073741823 * 1073741823 := Int.mul_le_mul (by omega) (by omega) h2.1 (by omega)
  omega
theorem zw_down30 {h : Nat → Int32} {K t : Nat} {w V bw P : Int} (ht : t < K) (hw : w = (h t).toInt - P - bw) (hV : zw h K - bw * 2 ^ (30 * t) = V) :
    zw (upd h t (iZ (w % 1073741824))) K - (-(w / 1073741824)) * 2 ^ (30 * (t + 1)) = V - P * 2 ^ (30 * t) := by
  have e1 := dig30 w (2 ^ (30 * t))
  have e2 : w * 2 ^ (30 * t) = (h t).toInt * 2 ^ (30 * t) - P * 2 ^ (30 * t) - bw * 2 ^ (30 * t) := by rw [hw, Int.sub_mul, Int.sub_mul]
  rw [zw_set ht, iZ_toInt (by omega) (by omega), p30, Int.sub_mul, Int.neg_mul]
  omega
theorem q_dig {hi iv g0 q : Int} (hq : q = hi * iv % 1073741824) (hv : g0 * iv % 1073741824 = 1) (hr : 0 ≤ hi ∧ hi < 1073741824) : (hi - q * g0) % 1073741824 = 0 := by
  have e1 := Int.emod_add_mul_ediv (hi * iv) 1073741824
  have e2 := Int.emod_add_mul_ediv (g0 * iv) 1073741824
  rw [← hq] at e1
  rw [hv] at e2
  generalize hi * iv / 1073741824 = c1 at *
  generalize g0 * iv / 1073741824 = c2 at *
  have e3 : hi - q * g0 = 1073741824 * (c1 * g0 - hi * c2) := by
    have a1 : q = hi * iv - 1073741824 * c1 := by omega
    have a2 : g0 * iv = 1 + 1073741824 * c2 := by omega
    rw [a1]
    have a3 : hi * (g0 * iv) = hi * (1 + 1073741824 * c2) := by rw [a2]
    grind
  rw [e3]; exact Int.mul_emod_right _ _
theorem quo_lt {f g : Nat → Int32} {n n2 k k2 : Nat} {x y Q : Int} (hx : wN n f k x) (hy : wN n2 g k2 y) (hQ : x = Q * y) (hk : k2 ≤ k) (h2 : 1 ≤ k2) : (Q.natAbs : Int) < 2 ^ (30 * (k - k2 + 1)) := by
  have h1 := wN_lt hx
  obtain ⟨i, rfl⟩ : ∃ i, k2 = i + 1 := ⟨k2 - 1, by omega⟩
  have h3 := zw_top hy.2.1 (hy.2.2.1 i rfl)
  rw [← hy.2.2.2] at h3
  rw [hQ, Int.natAbs_mul, Int.natCast_mul] at h1
  have h4 := Int.mul_le_mul_of_nonneg_left h3 (show (0 : Int) ≤ (Q.natAbs : Int) by omega)
  have h5 : (2 : Int) ^ (30 * k) = 2 ^ (30 * (k - (i + 1) + 1)) * 2 ^ (30 * i) := by rw [← Int.pow_add]; congr 1; omega
  rw [h5] at h1
  exact Int.lt_of_mul_lt_mul_right (Int.lt_of_le_of_lt h4 h1) (Int.le_of_lt (p30_pos i))
theorem sgn_quo {x y Q : Int} (hy : y ≠ 0) (h : x = Q * y) : x.sign * y.sign * (Q.natAbs : Int) = Q := by
  rw [h, Int.sign_mul, Int.mul_assoc Q.sign, show y.sign * y.sign = 1 by rcases sgn_cases y with ⟨a, b⟩ | ⟨a, b⟩ | ⟨a, b⟩ <;> rw [b] <;> omega, Int.mul_one, Int.sign_mul_natAbs]
set_option maxHeartbeats 4000000 in
set_option maxRecDepth 100000 in
/-- divideByOdd: an exact division -/
theorem cw_divideByOdd (l : Launch) (D : va_G) (G : Nat → ClassId) (X : va_W) (a b n k a2 b2 n2 k2 : Nat) (f g : Nat → Int32) (x y Q : Int) (hn1 : 1 ≤ n) (hn : n ≤ 2048) (hn2 : n2 ≤ 2048) (hx : wN n f k x) (hy : wN n2 g k2 y) (ho : y % 2 = 1) (hQ : x = Q * y) (sz hs : Nat) : Met l yX3_divideByOdd (wC yX3_divideByOdd cX3_divideByOdd 11 none) ({ frames := 1, cells := 0, slots := 0, locals := 22 }) (va_Pc [.ref a, .ref a2] (cPre nT D G ((a, .inr (3, [.ref b, .int (iZ ((k : Int))), .int (iZ (x.sign))])) :: (b, .inl (G 0, n, .inl f)) :: (a2, .inr (3, [.ref b2, .int (iZ ((k2 : Int))), .int (iZ (y.sign))])) :: (b2, .inl (G 0, n2, .inl g)) :: X : va_W) sz hs)) (va_Qv (fun u : cS => ∃ (k1 : Nat) (f1 : Nat → Int32), wN n f1 k1 Q ∧ u = (((a, .inr (3, [.ref b, .int (iZ ((k1 : Int))), .int (iZ (Q.sign))])) :: (b, .inl (G 0, n, .inl f1)) :: (a2, .inr (3, [.ref b2, .int (iZ ((k2 : Int))), .int (iZ (y.sign))])) :: (b2, .inl (G 0, n2, .inl g)) :: X : va_W), 0, 0)) (cAt D G (va_A ((a, .inr (3, [.ref b, .int (iZ ((k : Int))), .int (iZ (x.sign))])) :: (b, .inl (G 0, n, .inl f)) :: (a2, .inr (3, [.ref b2, .int (iZ ((k2 : Int))), .int (iZ (y.sign))])) :: (b2, .inl (G 0, n2, .inl g)) :: X : va_W) sz) sz hs) (va_A ((a, .inr (3, [.ref b, .int (iZ ((k : Int))), .int (iZ (x.sign))])) :: (b, .inl (G 0, n, .inl f)) :: (a2, .inr (3, [.ref b2, .int (iZ ((k2 : Int))), .int (iZ (y.sign))])) :: (b2, .inl (G 0, n2, .inl g)) :: X : va_W) sz)) 0 0 (va_A ((a, .inr (3, [.ref b, .int (iZ ((k : Int))), .int (iZ (x.sign))])) :: (b, .inl (G 0, n, .inl f)) :: (a2, .inr (3, [.ref b2, .int (iZ ((k2 : Int))), .int (iZ (y.sign))])) :: (b2, .inl (G 0, n2, .inl g)) :: X : va_W) sz) := by
  refine g_met (cc := cX3_divideByOdd) (maxL := 11) (ret := none) (own := RX3) (by decide) rfl rfl (Nat.le_of_ble_eq_true rfl) ?_
  intro p e s m below meth c hsz hhs hNs hA C hr hlk
  refine w_sub [(0, .ref a), (1, .ref a2)] [0, 1] rfl ?_
  obtain ⟨hx1, hx2, hx3, hx4⟩ := id hx
  obtain ⟨hy1, hy2, hy3, hy4⟩ := id hy
  have hs1 := sgn_r x
  have hs2 := sgn_r y
  have hy0 : y ≠ 0 := by omega
  have hk2 : 1 ≤ k2 := by
    rcases Nat.eq_zero_or_pos k2 with q | q
    · subst q; exact absurd (wN_0 hy) hy0
    · exact q
  refine w_aload_n C dX3_divideByOdd_0 0 rfl ?_
  refine w_get (ci := 3) (ref := "RootIsolator$Whole") (T := TX3) (Cn := RX3) (N := 3) C (fun w h => wC_in (inX3 w h)) 0 rfl rfl 1 (by decide) (wC_in fX3_13) rfl rfl dX3_divideByOdd_1 ?_
  refine w_aload_n C dX3_divideByOdd_4 1 rfl ?_
  refine w_get (ci := 3) (ref := "RootIsolator$Whole") (T := TX3) (Cn := RX3) (N := 3) C (fun w h => wC_in (inX3 w h)) 2 rfl rfl 1 (by decide) (wC_in fX3_13) rfl rfl dX3_divideByOdd_5 ?_
  refine w_isub C dX3_divideByOdd_8 ?_
  refine w_iconst C dX3_divideByOdd_9 ?_
  refine w_iadd C dX3_divideByOdd_10 ?_
  refine w_istore_n C [(2, .int (iZ (((k : Int) - (k2 : Int)) + 1))), (0, .ref a), (1, .ref a2)] dX3_divideByOdd_11 rfl (by decide) rfl ?_
  refine w_aload_n C dX3_divideByOdd_12 1 rfl ?_
  refine w_get (ci := 3) (ref := "RootIsolator$Whole") (T := TX3) (Cn := RX3) (N := 3) C (fun w h => wC_in (inX3 w h)) 0 rfl rfl 2 (by decide) (wC_in fX3_17) rfl rfl dX3_divideByOdd_13 ?_
  refine w_if_eq C 30 dX3_divideByOdd_16 (by decide) ⟨by omega, by omega⟩ (fun c16 => ?_) (fun c16 => ?_)
  · refine w_aload_n C dX3_divideByOdd_30 1 rfl ?_
    refine w_iconst C dX3_divideByOdd_31 ?_
    refine g_callv [.int (iZ (0))] hA C hNs nT_ok (cw_trim l D G ((a2, .inr (3, [.ref b2, .int (iZ ((k2 : Int))), .int (iZ (y.sign))])) :: (b2, .inl (G 0, n2, .inl g)) :: X : va_W) a b n 0 f (iZ (k : Int)) (x.sign) (by omega) (by omega) (sgn_r _)) (cwV 1 C.1.2.2.2.2 (wC_V kX3_36 nX3_trim slX3_trim iniX3 cdX3_trim) rfl rfl rfl (by decide +kernel) ⟨Nat.le_of_ble_eq_true rfl, Nat.le_of_ble_eq_true rfl⟩) (q0 := 0) rfl rfl rfl rfl ⟨Nat.le_of_ble_eq_true rfl, Nat.le_of_ble_eq_true rfl⟩ (Nat.le_of_ble_eq_true rfl) dX3_divideByOdd_32 [.int (iZ (0)), .ref a] rfl (fun v1 hv1 => ?_)
    obtain ⟨j, j1, j2, j3, rfl⟩ := hv1
    have j0 : j = 0 := by omega
    subst j0
    have hQ0 : Q = 0 := by
      rcases Int.mul_eq_zero.1 (hQ.symm.trans (sgn_zero c16)) with q | q
      · exact q
      · exact absurd q hy0
    have t1 : wN n f 0 Q := by rw [hQ0]; exact ⟨by omega, fun i hi => absurd hi (by omega), fun i hi => absurd hi (by omega), rfl⟩
    exact g_vret hsz hhs C hr hlk ⟨by omega, by omega⟩ (⟨0, f, t1, by rw [hQ0]; rfl⟩) dX3_divideByOdd_35
  · have hx0 : x ≠ 0 := fun h => c16 (by rw [h]; rfl)
    have hkk : k2 ≤ k := by
      have hle : y.natAbs ≤ x.natAbs := by
        rw [hQ, Int.natAbs_mul]
        have hQ1 : 1 ≤ Q.natAbs := by
          rcases Nat.eq_zero_or_pos Q.natAbs with q | q
          · exact absurd (by rw [hQ, Int.natAbs_eq_zero.1 q, Int.zero_mul]) hx0
          · exact q
        exact Nat.le_mul_of_pos_left _ hQ1
      exact wN_size hy (by have := wN_lt hx; omega)
    obtain ⟨L, hL⟩ : ∃ L : Nat, (L : Int) = ((k : Int) - (k2 : Int)) + 1 := ⟨k - k2 + 1, by omega⟩
    have hg0 : (g 0).toInt % 2 = 1 := by
      have e := zw_bit (k := k2) (i := 0) (r := 0) hy2 (by omega) (by omega)
      rw [← hy4] at e
      simp only [Nat.mul_zero, Nat.add_zero, Int.pow_zero, Int.ediv_one] at e
      omega
    refine w_aload_n C dX3_divideByOdd_19 2 rfl ?_
    refine w_get (ci := 3) (ref := "RootIsolator$Whole") (T := TX3) (Cn := RX3) (N := 3) C (fun w h => wC_in (inX3 w h)) 2 rfl rfl 2 (by decide) (wC_in fX3_17) rfl rfl dX3_divideByOdd_20 ?_
    refine w_if_eq C 30 dX3_divideByOdd_23 (by decide) ⟨by omega, by omega⟩ (fun c23 => ?_) (fun c23 => ?_)
    · exact absurd (sgn_zero c23) hy0
    · refine w_iload_n C dX3_divideByOdd_26 0 rfl ?_
      refine w_if_gt C 36 dX3_divideByOdd_27 (by decide) ⟨by omega, by omega⟩ (fun c27 => ?_) (fun c27 => ?_)
      · refine w_sub [(2, .int (iZ ((L : Int)))), (0, .ref a), (1, .ref a2)] [0, 1, 2] (by rw [hL]; rfl) ?_
        refine w_aload_n C dX3_divideByOdd_36 2 rfl ?_
        refine w_get (ci := 3) (ref := "RootIsolator$Whole") (T := TX3) (Cn := RX3) (N := 3) C (fun w h => wC_in (inX3 w h)) 2 rfl rfl 0 (by decide) (wC_in fX3_9) rfl rfl dX3_divideByOdd_37 ?_
        refine w_iconst C dX3_divideByOdd_40 ?_
        refine w_iald C 3 0 rfl rfl (0) ((g (0)).toInt) ⟨by omega, by omega, by omega⟩ ((iZ_self _).symm) dX3_divideByOdd_41 ?_
        refine g_callSi [.int (iZ ((g (0)).toInt))] hA C hNs nT_ok (cw_inverseOf l D G ((a, .inr (3, [.ref b, .int (iZ ((k : Int))), .int (iZ (x.sign))])) :: (b, .inl (G 0, n, .inl f)) :: (a2, .inr (3, [.ref b2, .int (iZ ((k2 : Int))), .int (iZ (y.sign))])) :: (b2, .inl (G 0, n2, .inl g)) :: X : va_W) (g 0).toInt hg0) (cwS 1 C.1.2.2.2.2 (wC_S kX3_51 stX3_inverseOf iniX3 cdX3_inverseOf) rfl rfl rfl (by decide +kernel) ⟨Nat.le_of_ble_eq_true rfl, Nat.le_of_ble_eq_true rfl⟩) rfl ⟨Nat.le_of_ble_eq_true rfl, Nat.le_of_ble_eq_true rfl⟩ (Nat.le_of_ble_eq_true rfl) dX3_divideByOdd_42 [.int (iZ ((g (0)).toInt))] rfl (fun r v2 hv2 => ?_)
        obtain ⟨iv, rfl, hiv, rfl⟩ := hv2
        refine w_cs 0 0 rfl rfl ?_
        refine w_istore_n C [(3, .int (iZ (iv))), (2, .int (iZ ((L : Int)))), (0, .ref a), (1, .ref a2)] dX3_divideByOdd_45 rfl (by decide) rfl ?_
        refine w_iconst C dX3_divideByOdd_46 ?_
        refine w_istore C [(4, .int (iZ (0))), (3, .int (iZ (iv))), (2, .int (iZ ((L : Int)))), (0, .ref a), (1, .ref a2)] dX3_divideByOdd_47 (by decide) rfl ?_
        have lp1 : ∀ (d : Nat) (i : Nat) (h : Nat → Int32), L < i + d → i ≤ L → lim h L → (∃ cc : Int, zw h L - zw h i = (x.natAbs : Int) - (y.natAbs : Int) * zw h i + cc * 2 ^ (30 * L)) → ZW p l e ({ frames := 1, cells := 0, slots := 0, locals := 22 }) s m ([.ref a, .ref a2] : List Value).toArray below meth c D (va_A ((a, .inr (3, [.ref b, .int (iZ ((k : Int))), .int (iZ (x.sign))])) :: (b, .inl (G 0, n, .inl f)) :: (a2, .inr (3, [.ref b2, .int (iZ ((k2 : Int))), .int (iZ (y.sign))])) :: (b2, .inl (G 0, n2, .inl g)) :: X : va_W) sz) 11 0 0 (MQ below (va_Qv (fun u : cS => ∃ (k1 : Nat) (f1 : Nat → Int32), wN n f1 k1 Q ∧ u = (((a, .inr (3, [.ref b, .int (iZ ((k1 : Int))), .int (iZ (Q.sign))])) :: (b, .inl (G 0, n, .inl f1)) :: (a2, .inr (3, [.ref b2, .int (iZ ((k2 : Int))), .int (iZ (y.sign))])) :: (b2, .inl (G 0, n2, .inl g)) :: X : va_W), 0, 0)) (cAt D G (va_A ((a, .inr (3, [.ref b, .int (iZ ((k : Int))), .int (iZ (x.sign))])) :: (b, .inl (G 0, n, .inl f)) :: (a2, .inr (3, [.ref b2, .int (iZ ((k2 : Int))), .int (iZ (y.sign))])) :: (b2, .inl (G 0, n2, .inl g)) :: X : va_W) sz) sz hs) (va_A ((a, .inr (3, [.ref b, .int (iZ ((k : Int))), .int (iZ (x.sign))])) :: (b, .inl (G 0, n, .inl f)) :: (a2, .inr (3, [.ref b2, .int (iZ ((k2 : Int))), .int (iZ (y.sign))])) :: (b2, .inl (G 0, n2, .inl g)) :: X : va_W) sz)) ([.ref a, .ref a2] : List Value).toArray s 0 0 (va_A ((a, .inr (3, [.ref b, .int (iZ ((k : Int))), .int (iZ (x.sign))])) :: (b, .inl (G 0, n, .inl f)) :: (a2, .inr (3, [.ref b2, .int (iZ ((k2 : Int))), .int (iZ (y.sign))])) :: (b2, .inl (G 0, n2, .inl g)) :: X : va_W) sz)) ((a, .inr (3, [.ref b, .int (iZ ((k : Int))), .int (iZ (x.sign))])) :: (b, .inl (G 0, n, .inl h)) :: (a2, .inr (3, [.ref b2, .int (iZ ((k2 : Int))), .int (iZ (y.sign))])) :: (b2, .inl (G 0, n2, .inl g)) :: X : va_W) 49 [(4, .int (iZ ((i : Int)))), (3, .int (iZ (iv))), (2, .int (iZ ((L : Int)))), (0, .ref a), (1, .ref a2)] [] := by
          intro d
          induction d with
          | zero =>
            intro i h hd hi hl1 hv1
            exact absurd hd (by omega)
          | succ d ih2 =>
            intro i h hd hi hl1 hv1
            refine w_iload C dX3_divideByOdd_49 0 rfl ?_
            refine w_iload_n C dX3_divideByOdd_51 2 rfl ?_
            refine w_icmp_ge C 231 dX3_divideByOdd_52 (by decide) ⟨⟨by omega, by omega⟩, by omega, by omega⟩ (fun c52 => ?_) (fun c52 => ?_)
            · have hiL : i = L := by omega
              subst hiL
              obtain ⟨cc, hcc⟩ := hv1
              have hval : zw h i = (Q.natAbs : Int) := odd_same (Y := (y.natAbs : Int)) (c := cc) (N := 30 * i) (by omega) (by
                have e : (x.natAbs : Int) = (y.natAbs : Int) * (Q.natAbs : Int) := by rw [hQ, Int.natAbs_mul, Int.natCast_mul, Int.mul_comm]
                omega) ⟨zw_nonneg hl1, zw_lt hl1⟩ ⟨by omega, by
                have e := quo_lt hx hy hQ hkk hk2
                rw [show k - k2 + 1 = i by omega] at e
                exact e⟩
              refine w_aload_n C dX3_divideByOdd_231 3 rfl ?_
              refine w_dup C dX3_divideByOdd_232 rfl ?_
              refine w_get (ci := 3) (ref := "RootIsolator$Whole") (T := TX3) (Cn := RX3) (N := 3) C (fun w h => wC_in (inX3 w h)) 0 rfl rfl 2 (by decide) (wC_in fX3_17) rfl rfl dX3_divideByOdd_233 ?_
              refine w_aload_n C dX3_divideByOdd_236 4 rfl ?_
              refine w_get (ci := 3) (ref := "RootIsolator$Whole") (T := TX3) (Cn := RX3) (N := 3) C (fun w h => wC_in (inX3 w h)) 2 rfl rfl 2 (by decide) (wC_in fX3_17) rfl rfl dX3_divideByOdd_237 ?_
              refine w_imul C dX3_divideByOdd_240 ?_
              refine w_put (ci := 3) (ref := "RootIsolator$Whole") (T := TX3) (Cn := RX3) (N := 3) (ty := .int) C ((a, .inr (3, [.ref b, .int (iZ ((k : Int))), .int (iZ (x.sign * y.sign))])) :: (b, .inl (G 0, n, .inl h)) :: (a2, .inr (3, [.ref b2, .int (iZ ((k2 : Int))), .int (iZ (y.sign))])) :: (b2, .inl (G 0, n2, .inl g)) :: X : va_W) (fun w h => wC_in (inX3 w h)) tyX3 tyX3_ok nmX3 0 rfl rfl 2 (by decide) (wC_in fX3_17) rfl rfl (by decide +kernel) rfl rfl (Nat.le_of_ble_eq_true rfl) rfl dX3_divideByOdd_241 ?_
              refine w_aload_n C dX3_divideByOdd_244 3 rfl ?_
              refine w_iload_n C dX3_divideByOdd_245 2 rfl ?_
              refine g_callv [.int (iZ ((i : Int)))] hA C hNs nT_ok (cw_trim l D G ((a2, .inr (3, [.ref b2, .int (iZ ((k2 : Int))), .int (iZ (y.sign))])) :: (b2, .inl (G 0, n2, .inl g)) :: X : va_W) a b n i h (iZ (k : Int)) (x.sign * y.sign) (by omega) (by omega) (by rcases sg_mul hx0 hy0 (z := 0) with q | q | q <;> omega)) (cwV 1 C.1.2.2.2.2 (wC_V kX3_36 nX3_trim slX3_trim iniX3 cdX3_trim) rfl rfl rfl (by decide +kernel) ⟨Nat.le_of_ble_eq_true rfl, Nat.le_of_ble_eq_true rfl⟩) (q0 := 0) rfl rfl rfl rfl ⟨Nat.le_of_ble_eq_true rfl, Nat.le_of_ble_eq_true rfl⟩ (Nat.le_of_ble_eq_true rfl) dX3_divideByOdd_246 [.int (iZ ((i : Int))), .ref a] rfl (fun v203 hv203 => ?_)
              obtain ⟨j, j1, j2, j3, rfl⟩ := hv203
              refine w_cs 0 0 rfl rfl ?_
              obtain ⟨t1, t2⟩ := wN_trim (n := n) (N := i) (sg := x.sign * y.sign) (by omega) hl1 j1 j2 j3 (sg_mul hx0 hy0)
              rw [hval, sgn_quo hy0 hQ] at t1 t2
              exact g_vret hsz hhs C hr hlk ⟨by omega, by omega⟩ (⟨j, h, t1, by rw [t2]⟩) dX3_divideByOdd_249
            · have hhi := hl1 i (by omega)
              refine w_aload_n C dX3_divideByOdd_55 3 rfl ?_
              refine w_get (ci := 3) (ref := "RootIsolator$Whole") (T := TX3) (Cn := RX3) (N := 3) C (fun w h => wC_in (inX3 w h)) 0 rfl rfl 0 (by decide) (wC_in fX3_9) rfl rfl dX3_divideByOdd_56 ?_
              refine w_iload C dX3_divideByOdd_59 0 rfl ?_
              refine w_iald C 1 0 rfl rfl (i) ((h (i)).toInt) ⟨by omega, by omega, by omega⟩ ((iZ_self _).symm) dX3_divideByOdd_61 ?_
              refine w_iload_n C dX3_divideByOdd_62 1 rfl ?_
              refine w_imul C dX3_divideByOdd_63 ?_
              refine w_ldc C (1073741823) dX3_divideByOdd_64 (wC_in kcX3_47) ?_
              obtain ⟨q, hq⟩ : ∃ q : Int, q = (h i).toInt * iv % 1073741824 := ⟨_, rfl⟩
              have hqr : 0 ≤ q ∧ q < 1073741824 := by omega
              have hdig := q_dig hq hiv hhi
              refine w_iand C dX3_divideByOdd_66 (v := (iZ (q))) ((iZ_and30 _).trans (congrArg iZ hq.symm)) ?_
              refine w_istore C [(5, .int (iZ (q))), (4, .int (iZ ((i : Int)))), (3, .int (iZ (iv))), (2, .int (iZ ((L : Int)))), (0, .ref a), (1, .ref a2)] dX3_divideByOdd_67 (by decide) rfl ?_
              refine w_lconst C 0 dX3_divideByOdd_69 rfl ?_
              refine w_lstore C [(6, .long (lZ (0))), (5, .int (iZ (q))), (4, .int (iZ ((i : Int)))), (3, .int (iZ (iv))), (2, .int (iZ ((L : Int)))), (0, .ref a), (1, .ref a2)] dX3_divideByOdd_70 (by decide) rfl ?_
              refine w_iconst C dX3_divideByOdd_72 ?_
              refine w_istore C [(8, .int (iZ (0))), (6, .long (lZ (0))), (5, .int (iZ (q))), (4, .int (iZ ((i : Int)))), (3, .int (iZ (iv))), (2, .int (iZ ((L : Int)))), (0, .ref a), (1, .ref a2)] dX3_divideByOdd_73 (by decide) rfl ?_
              have bk : ∀ (bw : Int) (h2 : Nat → Int32), 0 ≤ bw ∧ bw < 1073741824 → lim h2 L → (∀ t : Nat, t < i → h2 t = h t) → (h2 i).toInt = 0 → (∃ cc : Int, zw h2 L - bw * 2 ^ (30 * (i + k2)) = zw h L - q * 2 ^ (30 * i) * zw g k2 + cc * 2 ^ (30 * L)) → ZW p l e ({ frames := 1, cells := 0, slots := 0, locals := 22 }) s m ([.ref a, .ref a2] : List Value).toArray below meth c D (va_A ((a, .inr (3, [.ref b, .int (iZ ((k : Int))), .int (iZ (x.sign))])) :: (b, .inl (G 0, n, .inl f)) :: (a2, .inr (3, [.ref b2, .int (iZ ((k2 : Int))), .int (iZ (y.sign))])) :: (b2, .inl (G 0, n2, .inl g)) :: X : va_W) sz) 11 0 0 (MQ below (va_Qv (fun u : cS => ∃ (k1 : Nat) (f1 : Nat → Int32), wN n f1 k1 Q ∧ u = (((a, .inr (3, [.ref b, .int (iZ ((k1 : Int))), .int (iZ (Q.sign))])) :: (b, .inl (G 0, n, .inl f1)) :: (a2, .inr (3, [.ref b2, .int (iZ ((k2 : Int))), .int (iZ (y.sign))])) :: (b2, .inl (G 0, n2, .inl g)) :: X : va_W), 0, 0)) (cAt D G (va_A ((a, .inr (3, [.ref b, .int (iZ ((k : Int))), .int (iZ (x.sign))])) :: (b, .inl (G 0, n, .inl f)) :: (a2, .inr (3, [.ref b2, .int (iZ ((k2 : Int))), .int (iZ (y.sign))])) :: (b2, .inl (G 0, n2, .inl g)) :: X : va_W) sz) sz hs) (va_A ((a, .inr (3, [.ref b, .int (iZ ((k : Int))), .int (iZ (x.sign))])) :: (b, .inl (G 0, n, .inl f)) :: (a2, .inr (3, [.ref b2, .int (iZ ((k2 : Int))), .int (iZ (y.sign))])) :: (b2, .inl (G 0, n2, .inl g)) :: X : va_W) sz)) ([.ref a, .ref a2] : List Value).toArray s 0 0 (va_A ((a, .inr (3, [.ref b, .int (iZ ((k : Int))), .int (iZ (x.sign))])) :: (b, .inl (G 0, n, .inl f)) :: (a2, .inr (3, [.ref b2, .int (iZ ((k2 : Int))), .int (iZ (y.sign))])) :: (b2, .inl (G 0, n2, .inl g)) :: X : va_W) sz)) ((a, .inr (3, [.ref b, .int (iZ ((k : Int))), .int (iZ (x.sign))])) :: (b, .inl (G 0, n, .inl h2)) :: (a2, .inr (3, [.ref b2, .int (iZ ((k2 : Int))), .int (iZ (y.sign))])) :: (b2, .inl (G 0, n2, .inl g)) :: X : va_W) 153 [(6, .long (lZ (bw))), (5, .int (iZ (q))), (4, .int (iZ ((i : Int)))), (3, .int (iZ (iv))), (2, .int (iZ ((L : Int)))), (0, .ref a), (1, .ref a2)] [] := by
                intro bw h2 hbw hl2 hlo2 h2i hv2
                refine w_iload C dX3_divideByOdd_153 2 rfl ?_
                refine w_aload_n C dX3_divideByOdd_155 6 rfl ?_
                refine w_get (ci := 3) (ref := "RootIsolator$Whole") (T := TX3) (Cn := RX3) (N := 3) C (fun w h => wC_in (inX3 w h)) 2 rfl rfl 1 (by decide) (wC_in fX3_13) rfl rfl dX3_divideByOdd_156 ?_
                refine w_iadd C dX3_divideByOdd_159 ?_
                refine w_top C (((i + k2 : Nat) : Int)) (by omega) ?_
                refine w_istore C [(8, .int (iZ (((i + k2 : Nat) : Int)))), (6, .long (lZ (bw))), (5, .int (iZ (q))), (4, .int (iZ ((i : Int)))), (3, .int (iZ (iv))), (2, .int (iZ ((L : Int)))), (0, .ref a), (1, .ref a2)] dX3_divideByOdd_160 (by decide) rfl ?_
                have lp3 : ∀ (d : Nat) (t : Nat) (bw3 : Int) (h3 : Nat → Int32), L + k2 < t + d → i + k2 ≤ t ∧ t ≤ L + k2 → 0 ≤ bw3 ∧ bw3 < 1073741824 → lim h3 L → (∀ z : Nat, z < i → h3 z = h z) → (h3 i).toInt = 0 → (∃ cc : Int, zw h3 L - bw3 * 2 ^ (30 * t) = zw h L - q * 2 ^ (30 * i) * zw g k2 + cc * 2 ^ (30 * L)) → ZW p l e ({ frames := 1, cells := 0, slots := 0, locals := 22 }) s m ([.ref a, .ref a2] : List Value).toArray below meth c D (va_A ((a, .inr (3, [.ref b, .int (iZ ((k : Int))), .int (iZ (x.sign))])) :: (b, .inl (G 0, n, .inl f)) :: (a2, .inr (3, [.ref b2, .int (iZ ((k2 : Int))), .int (iZ (y.sign))])) :: (b2, .inl (G 0, n2, .inl g)) :: X : va_W) sz) 11 0 0 (MQ below (va_Qv (fun u : cS => ∃ (k1 : Nat) (f1 : Nat → Int32), wN n f1 k1 Q ∧ u = (((a, .inr (3, [.ref b, .int (iZ ((k1 : Int))), .int (iZ (Q.sign))])) :: (b, .inl (G 0, n, .inl f1)) :: (a2, .inr (3, [.ref b2, .int (iZ ((k2 : Int))), .int (iZ (y.sign))])) :: (b2, .inl (G 0, n2, .inl g)) :: X : va_W), 0, 0)) (cAt D G (va_A ((a, .inr (3, [.ref b, .int (iZ ((k : Int))), .int (iZ (x.sign))])) :: (b, .inl (G 0, n, .inl f)) :: (a2, .inr (3, [.ref b2, .int (iZ ((k2 : Int))), .int (iZ (y.sign))])) :: (b2, .inl (G 0, n2, .inl g)) :: X : va_W) sz) sz hs) (va_A ((a, .inr (3, [.ref b, .int (iZ ((k : Int))), .int (iZ (x.sign))])) :: (b, .inl (G 0, n, .inl f)) :: (a2, .inr (3, [.ref b2, .int (iZ ((k2 : Int))), .int (iZ (y.sign))])) :: (b2, .inl (G 0, n2, .inl g)) :: X : va_W) sz)) ([.ref a, .ref a2] : List Value).toArray s 0 0 (va_A ((a, .inr (3, [.ref b, .int (iZ ((k : Int))), .int (iZ (x.sign))])) :: (b, .inl (G 0, n, .inl f)) :: (a2, .inr (3, [.ref b2, .int (iZ ((k2 : Int))), .int (iZ (y.sign))])) :: (b2, .inl (G 0, n2, .inl g)) :: X : va_W) sz)) ((a, .inr (3, [.ref b, .int (iZ ((k : Int))), .int (iZ (x.sign))])) :: (b, .inl (G 0, n, .inl h3)) :: (a2, .inr (3, [.ref b2, .int (iZ ((k2 : Int))), .int (iZ (y.sign))])) :: (b2, .inl (G 0, n2, .inl g)) :: X : va_W) 162 [(8, .int (iZ ((t : Int)))), (6, .long (lZ (bw3))), (5, .int (iZ (q))), (4, .int (iZ ((i : Int)))), (3, .int (iZ (iv))), (2, .int (iZ ((L : Int)))), (0, .ref a), (1, .ref a2)] [] := by
                  intro d
                  induction d with
                  | zero =>
                    intro t bw3 h3 hd ht hbw3 hl3 hlo3 h3i hv3
                    exact absurd hd (by omega)
                  | succ d ih4 =>
                    intro t bw3 h3 hd ht hbw3 hl3 hlo3 h3i hv3
                    refine w_lload C dX3_divideByOdd_162 1 rfl ?_
                    refine w_lconst C 0 dX3_divideByOdd_164 rfl ?_
                    refine w_lif_eq C 216 dX3_divideByOdd_165 dX3_divideByOdd_166 (by decide) ⟨⟨by omega, by omega⟩, by omega, by omega⟩ (fun c165 => ?_) (fun c165 => ?_)
                    · obtain ⟨c9, h3v⟩ : ∃ cc : Int, zw h3 L = zw h L - q * 2 ^ (30 * i) * zw g k2 + cc * 2 ^ (30 * L) := by
                        obtain ⟨cc, hcc⟩ := hv3
                        by_cases c0 : bw3 = 0
                        · exact ⟨cc, by rw [← hcc, c0, Int.zero_mul, Int.sub_zero]⟩
                        · have hti : L ≤ t := by omega
                          have e2 : (2 : Int) ^ (30 * t) = 2 ^ (30 * L) * 2 ^ (30 * (t - L)) := by rw [← Int.pow_add]; congr 1; omega
                          refine ⟨cc + bw3 * 2 ^ (30 * (t - L)), ?_⟩
                          rw [e2] at hcc
                          have e5 : bw3 * (2 ^ (30 * L) * 2 ^ (30 * (t - L))) = bw3 * 2 ^ (30 * (t - L)) * 2 ^ (30 * L) := by simp only [Int.mul_assoc, Int.mul_comm, Int.mul_left_comm]
                          rw [Int.add_mul]; omega
                      refine w_aload_n C dX3_divideByOdd_216 6 rfl ?_
                      refine w_get (ci := 3) (ref := "RootIsolator$Whole") (T := TX3) (Cn := RX3) (N := 3) C (fun w h => wC_in (inX3 w h)) 0 rfl rfl 0 (by decide) (wC_in fX3_9) rfl rfl dX3_divideByOdd_217 ?_
                      refine w_iload C dX3_divideByOdd_220 3 rfl ?_
                      refine w_iload C dX3_divideByOdd_222 2 rfl ?_
                      refine w_iast C ((a, .inr (3, [.ref b, .int (iZ ((k : Int))), .int (iZ (x.sign))])) :: (b, .inl (G 0, n, .inl (upd h3 (i) (iZ (q))))) :: (a2, .inr (3, [.ref b2, .int (iZ ((k2 : Int))), .int (iZ (y.sign))])) :: (b2, .inl (G 0, n2, .inl g)) :: X : va_W) 1 0 rfl rfl (i) ⟨by omega, by omega, by omega⟩ rfl dX3_divideByOdd_224 ?_
                      refine w_iinc C (((i + 1 : Nat) : Int)) (by omega) [(4, .int (iZ (((i + 1 : Nat) : Int)))), (8, .int (iZ ((t : Int)))), (6, .long (lZ (bw3))), (5, .int (iZ (q))), (3, .int (iZ (iv))), (2, .int (iZ ((L : Int)))), (0, .ref a), (1, .ref a2)] dX3_divideByOdd_225 3 rfl (by decide) rfl ?_
                      refine w_goto C 49 dX3_divideByOdd_228 (by decide) ?_
                      refine w_sub [(4, .int (iZ (((i + 1 : Nat) : Int)))), (3, .int (iZ (iv))), (2, .int (iZ ((L : Int)))), (0, .ref a), (1, .ref a2)] [0, 4, 5, 6, 7] rfl ?_
                      exact ih2 (i + 1) _ (by omega) (by omega) (lim_set hl3 (by rw [iZ_toInt (by omega) (by omega)]; omega)) (by
                        obtain ⟨cc, hcc⟩ := hv1
                        have e1 : zw (upd h3 i (iZ q)) (i + 1) = zw h i + q * 2 ^ (30 * i) := by rw [zw_upd_top, iZ_toInt (by omega) (by omega), zw_congr (f := h3) (g := h) (n := i) hlo3]
                        have e2 : zw (upd h3 i (iZ q)) L = zw h3 L + q * 2 ^ (30 * i) := by rw [zw_set (by omega), iZ_toInt (by omega) (by omega), h3i, Int.sub_zero]
                        refine ⟨cc + c9, ?_⟩
                        rw [e1, e2, h3v, Int.mul_add, Int.add_mul, hy4]
                        rw [hy4] at hcc
                        have e3 : q * 2 ^ (30 * i) * zw g k2 = zw g k2 * (q * 2 ^ (30 * i)) := Int.mul_comm _ _
                        omega)
                    · refine w_iload C dX3_divideByOdd_169 0 rfl ?_
                      refine w_iload_n C dX3_divideByOdd_171 5 rfl ?_
                      refine w_icmp_ge C 216 dX3_divideByOdd_172 (by decide) ⟨⟨by omega, by omega⟩, by omega, by omega⟩ (fun c172 => ?_) (fun c172 => ?_)
                      · obtain ⟨c9, h3v⟩ : ∃ cc : Int, zw h3 L = zw h L - q * 2 ^ (30 * i) * zw g k2 + cc * 2 ^ (30 * L) := by
                          obtain ⟨cc, hcc⟩ := hv3
                          by_cases c0 : bw3 = 0
                          · exact ⟨cc, by rw [← hcc, c0, Int.zero_mul, Int.sub_zero]⟩
                          · have hti : L ≤ t := by omega
                            have e2 : (2 : Int) ^ (30 * t) = 2 ^ (30 * L) * 2 ^ (30 * (t - L)) := by rw [← Int.pow_add]; congr 1; omega
                            refine ⟨cc + bw3 * 2 ^ (30 * (t - L)), ?_⟩
                            rw [e2] at hcc
                            have e5 : bw3 * (2 ^ (30 * L) * 2 ^ (30 * (t - L))) = bw3 * 2 ^ (30 * (t - L)) * 2 ^ (30 * L) := by simp only [Int.mul_assoc, Int.mul_comm, Int.mul_left_comm]
                            rw [Int.add_mul]; omega
                        refine w_aload_n C dX3_divideByOdd_216 6 rfl ?_
                        refine w_get (ci := 3) (ref := "RootIsolator$Whole") (T := TX3) (Cn := RX3) (N := 3) C (fun w h => wC_in (inX3 w h)) 0 rfl rfl 0 (by decide) (wC_in fX3_9) rfl rfl dX3_divideByOdd_217 ?_
                        refine w_iload C dX3_divideByOdd_220 3 rfl ?_
                        refine w_iload C dX3_divideByOdd_222 2 rfl ?_
                        refine w_iast C ((a, .inr (3, [.ref b, .int (iZ ((k : Int))), .int (iZ (x.sign))])) :: (b, .inl (G 0, n, .inl (upd h3 (i) (iZ (q))))) :: (a2, .inr (3, [.ref b2, .int (iZ ((k2 : Int))), .int (iZ (y.sign))])) :: (b2, .inl (G 0, n2, .inl g)) :: X : va_W) 1 0 rfl rfl (i) ⟨by omega, by omega, by omega⟩ rfl dX3_divideByOdd_224 ?_
                        refine w_iinc C (((i + 1 : Nat) : Int)) (by omega) [(4, .int (iZ (((i + 1 : Nat) : Int)))), (8, .int (iZ ((t : Int)))), (6, .long (lZ (bw3))), (5, .int (iZ (q))), (3, .int (iZ (iv))), (2, .int (iZ ((L : Int)))), (0, .ref a), (1, .ref a2)] dX3_divideByOdd_225 3 rfl (by decide) rfl ?_
                        refine w_goto C 49 dX3_divideByOdd_228 (by decide) ?_
                        refine w_sub [(4, .int (iZ (((i + 1 : Nat) : Int)))), (3, .int (iZ (iv))), (2, .int (iZ ((L : Int)))), (0, .ref a), (1, .ref a2)] [0, 4, 5, 6, 7] rfl ?_
                        exact ih2 (i + 1) _ (by omega) (by omega) (lim_set hl3 (by rw [iZ_toInt (by omega) (by omega)]; omega)) (by
                          obtain ⟨cc, hcc⟩ := hv1
                          have e1 : zw (upd h3 i (iZ q)) (i + 1) = zw h i + q * 2 ^ (30 * i) := by rw [zw_upd_top, iZ_toInt (by omega) (by omega), zw_congr (f := h3) (g := h) (n := i) hlo3]
                          have e2 : zw (upd h3 i (iZ q)) L = zw h3 L + q * 2 ^ (30 * i) := by rw [zw_set (by omega), iZ_toInt (by omega) (by omega), h3i, Int.sub_zero]
                          refine ⟨cc + c9, ?_⟩
                          rw [e1, e2, h3v, Int.mul_add, Int.add_mul, hy4]
                          rw [hy4] at hcc
                          have e3 : q * 2 ^ (30 * i) * zw g k2 = zw g k2 * (q * 2 ^ (30 * i)) := Int.mul_comm _ _
                          omega)
                      · refine w_aload_n C dX3_divideByOdd_175 6 rfl ?_
                        refine w_get (ci := 3) (ref := "RootIsolator$Whole") (T := TX3) (Cn := RX3) (N := 3) C (fun w h => wC_in (inX3 w h)) 0 rfl rfl 0 (by decide) (wC_in fX3_9) rfl rfl dX3_divideByOdd_176 ?_
                        refine w_iload C dX3_divideByOdd_179 0 rfl ?_
                        have hh3 := hl3 t (by omega)
                        refine w_iald C 1 0 rfl rfl (t) ((h3 (t)).toInt) ⟨by omega, by omega, by omega⟩ ((iZ_self _).symm) dX3_divideByOdd_181 ?_
                        refine w_i2l C dX3_divideByOdd_182 ⟨by omega, by omega⟩ ?_
                        refine w_lload C dX3_divideByOdd_183 1 rfl ?_
                        obtain ⟨w, hw⟩ : ∃ w : Int, w = (h3 t).toInt - bw3 := ⟨_, rfl⟩
                        refine w_lsub C dX3_divideByOdd_185 ?_
                        refine w_topl C (w) (hw.symm) ?_
                        refine w_lstore C [(9, .long (lZ (w))), (8, .int (iZ ((t : Int)))), (6, .long (lZ (bw3))), (5, .int (iZ (q))), (4, .int (iZ ((i : Int)))), (3, .int (iZ (iv))), (2, .int (iZ ((L : Int)))), (0, .ref a), (1, .ref a2)] dX3_divideByOdd_186 (by decide) rfl ?_
                        refine w_aload_n C dX3_divideByOdd_188 7 rfl ?_
                        refine w_get (ci := 3) (ref := "RootIsolator$Whole") (T := TX3) (Cn := RX3) (N := 3) C (fun w h => wC_in (inX3 w h)) 0 rfl rfl 0 (by decide) (wC_in fX3_9) rfl rfl dX3_divideByOdd_189 ?_
                        refine w_iload C dX3_divideByOdd_192 1 rfl ?_
                        refine w_lload C dX3_divideByOdd_194 0 rfl ?_
                        refine w_ldc2 C (1073741823) dX3_divideByOdd_196 (wC_in kclX3_20) ?_
                        refine w_land C dX3_divideByOdd_199 (v := (lZ (w % 1073741824))) (lZ_and30 w) ?_
                        refine w_l2i C dX3_divideByOdd_200 ?_
                        refine w_iast C ((a, .inr (3, [.ref b, .int (iZ ((k : Int))), .int (iZ (x.sign))])) :: (b, .inl (G 0, n, .inl (upd h3 (t) (iZ (w % 1073741824))))) :: (a2, .inr (3, [.ref b2, .int (iZ ((k2 : Int))), .int (iZ (y.sign))])) :: (b2, .inl (G 0, n2, .inl g)) :: X : va_W) 1 0 rfl rfl (t) ⟨by omega, by omega, by omega⟩ rfl dX3_divideByOdd_201 ?_
                        refine w_lload C dX3_divideByOdd_202 0 rfl ?_
                        refine w_bipush C dX3_divideByOdd_204 (by decide) ?_
                        refine w_lshr C (30) dX3_divideByOdd_206 ⟨by omega, by omega⟩ ⟨by omega, by omega⟩ ?_
                        refine w_lneg C dX3_divideByOdd_207 ?_
                        refine w_topl C (-(w / 1073741824)) (rfl) ?_
                        refine w_lstore C [(6, .long (lZ (-(w / 1073741824)))), (9, .long (lZ (w))), (8, .int (iZ ((t : Int)))), (5, .int (iZ (q))), (4, .int (iZ ((i : Int)))), (3, .int (iZ (iv))), (2, .int (iZ ((L : Int)))), (0, .ref a), (1, .ref a2)] dX3_divideByOdd_208 (by decide) rfl ?_
                        refine w_iinc C (((t + 1 : Nat) : Int)) (by omega) [(8, .int (iZ (((t + 1 : Nat) : Int)))), (6, .long (lZ (-(w / 1073741824)))), (9, .long (lZ (w))), (5, .int (iZ (q))), (4, .int (iZ ((i : Int)))), (3, .int (iZ (iv))), (2, .int (iZ ((L : Int)))), (0, .ref a), (1, .ref a2)] dX3_divideByOdd_210 2 rfl (by decide) rfl ?_
                        refine w_goto C 162 dX3_divideByOdd_213 (by decide) ?_
                        refine w_sub [(8, .int (iZ (((t + 1 : Nat) : Int)))), (6, .long (lZ (-(w / 1073741824)))), (5, .int (iZ (q))), (4, .int (iZ ((i : Int)))), (3, .int (iZ (iv))), (2, .int (iZ ((L : Int)))), (0, .ref a), (1, .ref a2)] [0, 1, 3, 4, 5, 6, 7, 8] rfl ?_
                        exact ih4 (t + 1) (-(w / 1073741824)) _ (by omega) (by omega) (by omega) (lim_set hl3 (by rw [iZ_toInt (by omega) (by omega)]; omega)) (fun z hz2 => by rw [upd_ne (by omega)]; exact hlo3 z hz2) (by rw [upd_ne (by omega)]; exact h3i) (by
                          obtain ⟨cc, hcc⟩ := hv3
                          exact ⟨cc, by rw [zw_down30 (w := w) (P := 0) (show t < L by omega) (by rw [hw, Int.sub_zero]) hcc, Int.zero_mul, Int.sub_zero]⟩)
                exact lp3 (L + k2 + 1) (i + k2) bw h2 (by omega) (by omega) hbw hl2 hlo2 h2i hv2
              have lp2 : ∀ (d : Nat) (j : Nat) (bw : Int) (h2 : Nat → Int32), k2 < j + d → j ≤ k2 ∧ i + j ≤ L → 0 ≤ bw ∧ bw < 1073741824 → lim h2 L → (∀ t : Nat, t < i → h2 t = h t) → (j = 0 → bw = 0 ∧ h2 i = h i) → (1 ≤ j → (h2 i).toInt = 0) → zw h2 L - bw * 2 ^ (30 * (i + j)) = zw h L - q * 2 ^ (30 * i) * zw g j → ZW p l e ({ frames := 1, cells := 0, slots := 0, locals := 22 }) s m ([.ref a, .ref a2] : List Value).toArray below meth c D (va_A ((a, .inr (3, [.ref b, .int (iZ ((k : Int))), .int (iZ (x.sign))])) :: (b, .inl (G 0, n, .inl f)) :: (a2, .inr (3, [.ref b2, .int (iZ ((k2 : Int))), .int (iZ (y.sign))])) :: (b2, .inl (G 0, n2, .inl g)) :: X : va_W) sz) 11 0 0 (MQ below (va_Qv (fun u : cS => ∃ (k1 : Nat) (f1 : Nat → Int32), wN n f1 k1 Q ∧ u = (((a, .inr (3, [.ref b, .int (iZ ((k1 : Int))), .int (iZ (Q.sign))])) :: (b, .inl (G 0, n, .inl f1)) :: (a2, .inr (3, [.ref b2, .int (iZ ((k2 : Int))), .int (iZ (y.sign))])) :: (b2, .inl (G 0, n2, .inl g)) :: X : va_W), 0, 0)) (cAt D G (va_A ((a, .inr (3, [.ref b, .int (iZ ((k : Int))), .int (iZ (x.sign))])) :: (b, .inl (G 0, n, .inl f)) :: (a2, .inr (3, [.ref b2, .int (iZ ((k2 : Int))), .int (iZ (y.sign))])) :: (b2, .inl (G 0, n2, .inl g)) :: X : va_W) sz) sz hs) (va_A ((a, .inr (3, [.ref b, .int (iZ ((k : Int))), .int (iZ (x.sign))])) :: (b, .inl (G 0, n, .inl f)) :: (a2, .inr (3, [.ref b2, .int (iZ ((k2 : Int))), .int (iZ (y.sign))])) :: (b2, .inl (G 0, n2, .inl g)) :: X : va_W) sz)) ([.ref a, .ref a2] : List Value).toArray s 0 0 (va_A ((a, .inr (3, [.ref b, .int (iZ ((k : Int))), .int (iZ (x.sign))])) :: (b, .inl (G 0, n, .inl f)) :: (a2, .inr (3, [.ref b2, .int (iZ ((k2 : Int))), .int (iZ (y.sign))])) :: (b2, .inl (G 0, n2, .inl g)) :: X : va_W) sz)) ((a, .inr (3, [.ref b, .int (iZ ((k : Int))), .int (iZ (x.sign))])) :: (b, .inl (G 0, n, .inl h2)) :: (a2, .inr (3, [.ref b2, .int (iZ ((k2 : Int))), .int (iZ (y.sign))])) :: (b2, .inl (G 0, n2, .inl g)) :: X : va_W) 75 [(8, .int (iZ ((j : Int)))), (6, .long (lZ (bw))), (5, .int (iZ (q))), (4, .int (iZ ((i : Int)))), (3, .int (iZ (iv))), (2, .int (iZ ((L : Int)))), (0, .ref a), (1, .ref a2)] [] := by
                intro d
                induction d with
                | zero =>
                  intro j bw h2 hd hj hbw hl2 hlo2 hz2 hi2 hv2
                  exact absurd hd (by omega)
                | succ d ih3 =>
                  intro j bw h2 hd hj hbw hl2 hlo2 hz2 hi2 hv2
                  refine w_iload C dX3_divideByOdd_75 0 rfl ?_
                  refine w_aload_n C dX3_divideByOdd_77 7 rfl ?_
                  refine w_get (ci := 3) (ref := "RootIsolator$Whole") (T := TX3) (Cn := RX3) (N := 3) C (fun w h => wC_in (inX3 w h)) 2 rfl rfl 1 (by decide) (wC_in fX3_13) rfl rfl dX3_divideByOdd_78 ?_
                  refine w_icmp_ge C 153 dX3_divideByOdd_81 (by decide) ⟨⟨by omega, by omega⟩, by omega, by omega⟩ (fun c81 => ?_) (fun c81 => ?_)
                  · refine w_sub [(6, .long (lZ (bw))), (5, .int (iZ (q))), (4, .int (iZ ((i : Int)))), (3, .int (iZ (iv))), (2, .int (iZ ((L : Int)))), (0, .ref a), (1, .ref a2)] [1, 2, 3, 4, 5, 6, 7] rfl ?_
                    refine bk bw h2 hbw hl2 hlo2 (hi2 (by omega)) ?_
                    by_cases cj : j = k2
                    · exact ⟨0, by rw [Int.zero_mul, Int.add_zero, ← cj]; exact hv2⟩
                    · have hLj : L = i + j := by omega
                      have e1 := zw_split (f := g) (i := j) (k := k2 - j)
                      rw [show j + (k2 - j) = k2 by omega] at e1
                      have e2 : (2 : Int) ^ (30 * (i + k2)) = 2 ^ (30 * L) * 2 ^ (30 * (k2 - j)) := by rw [← Int.pow_add]; congr 1; omega
                      have e3 : (2 : Int) ^ (30 * L) = 2 ^ (30 * i) * 2 ^ (30 * j) := by rw [← Int.pow_add]; congr 1; omega
                      refine ⟨bw - bw * 2 ^ (30 * (k2 - j)) + q * zw (fun t => g (j + t)) (k2 - j), ?_⟩
                      rw [← hLj] at hv2
                      rw [e1, e2, Int.mul_add, Int.add_mul, Int.sub_mul]
                      have e4 : q * 2 ^ (30 * i) * (2 ^ (30 * j) * zw (fun t => g (j + t)) (k2 - j)) = q * zw (fun t => g (j + t)) (k2 - j) * 2 ^ (30 * L) := by rw [e3]; simp only [Int.mul_assoc, Int.mul_comm, Int.mul_left_comm]
                      have e5 : bw * (2 ^ (30 * L) * 2 ^ (30 * (k2 - j))) = bw * 2 ^ (30 * (k2 - j)) * 2 ^ (30 * L) := by simp only [Int.mul_assoc, Int.mul_comm, Int.mul_left_comm]
                      omega
                  · refine w_iload C dX3_divideByOdd_84 3 rfl ?_
                    refine w_iload C dX3_divideByOdd_86 0 rfl ?_
                    refine w_iadd C dX3_divideByOdd_88 ?_
                    refine w_iload_n C dX3_divideByOdd_89 5 rfl ?_
                    refine w_icmp_ge C 153 dX3_divideByOdd_90 (by decide) ⟨⟨by omega, by omega⟩, by omega, by omega⟩ (fun c90 => ?_) (fun c90 => ?_)
                    · refine w_sub [(6, .long (lZ (bw))), (5, .int (iZ (q))), (4, .int (iZ ((i : Int)))), (3, .int (iZ (iv))), (2, .int (iZ ((L : Int)))), (0, .ref a), (1, .ref a2)] [1, 2, 3, 4, 5, 6, 7] rfl ?_
                      refine bk bw h2 hbw hl2 hlo2 (hi2 (by omega)) ?_
                      by_cases cj : j = k2
                      · exact ⟨0, by rw [Int.zero_mul, Int.add_zero, ← cj]; exact hv2⟩
                      · have hLj : L = i + j := by omega
                        have e1 := zw_split (f := g) (i := j) (k := k2 - j)
                        rw [show j + (k2 - j) = k2 by omega] at e1
                        have e2 : (2 : Int) ^ (30 * (i + k2)) = 2 ^ (30 * L) * 2 ^ (30 * (k2 - j)) := by rw [← Int.pow_add]; congr 1; omega
                        have e3 : (2 : Int) ^ (30 * L) = 2 ^ (30 * i) * 2 ^ (30 * j) := by rw [← Int.pow_add]; congr 1; omega
                        refine ⟨bw - bw * 2 ^ (30 * (k2 - j)) + q * zw (fun t => g (j + t)) (k2 - j), ?_⟩
                        rw [← hLj] at hv2
                        rw [e1, e2, Int.mul_add, Int.add_mul, Int.sub_mul]
                        have e4 : q * 2 ^ (30 * i) * (2 ^ (30 * j) * zw (fun t => g (j + t)) (k2 - j)) = q * zw (fun t => g (j + t)) (k2 - j) * 2 ^ (30 * L) := by rw [e3]; simp only [Int.mul_assoc, Int.mul_comm, Int.mul_left_comm]
                        have e5 : bw * (2 ^ (30 * L) * 2 ^ (30 * (k2 - j))) = bw * 2 ^ (30 * (k2 - j)) * 2 ^ (30 * L) := by simp only [Int.mul_assoc, Int.mul_comm, Int.mul_left_comm]
                        omega
                    · refine w_aload_n C dX3_divideByOdd_93 6 rfl ?_
                      refine w_get (ci := 3) (ref := "RootIsolator$Whole") (T := TX3) (Cn := RX3) (N := 3) C (fun w h => wC_in (inX3 w h)) 0 rfl rfl 0 (by decide) (wC_in fX3_9) rfl rfl dX3_divideByOdd_94 ?_
                      refine w_iload C dX3_divideByOdd_97 3 rfl ?_
                      refine w_iload C dX3_divideByOdd_99 0 rfl ?_
                      refine w_iadd C dX3_divideByOdd_101 ?_
                      have hh2 := hl2 (i + j) (by omega)
                      have hg2 := hy2 j (by omega)
                      refine w_iald C 1 0 rfl rfl (i + j) ((h2 (i + j)).toInt) ⟨by omega, by omega, by omega⟩ ((iZ_self _).symm) dX3_divideByOdd_102 ?_
                      refine w_i2l C dX3_divideByOdd_103 ⟨by omega, by omega⟩ ?_
                      refine w_iload C dX3_divideByOdd_104 2 rfl ?_
                      refine w_i2l C dX3_divideByOdd_106 ⟨by omega, by omega⟩ ?_
                      refine w_aload_n C dX3_divideByOdd_107 7 rfl ?_
                      refine w_get (ci := 3) (ref := "RootIsolator$Whole") (T := TX3) (Cn := RX3) (N := 3) C (fun w h => wC_in (inX3 w h)) 2 rfl rfl 0 (by decide) (wC_in fX3_9) rfl rfl dX3_divideByOdd_108 ?_
                      refine w_iload C dX3_divideByOdd_111 0 rfl ?_
                      refine w_iald C 3 0 rfl rfl (j) ((g (j)).toInt) ⟨by omega, by omega, by omega⟩ ((iZ_self _).symm) dX3_divideByOdd_113 ?_
                      refine w_i2l C dX3_divideByOdd_114 ⟨by omega, by omega⟩ ?_
                      refine w_lmul C dX3_divideByOdd_115 ?_
                      refine w_lsub C dX3_divideByOdd_116 ?_
                      refine w_lload C dX3_divideByOdd_117 1 rfl ?_
                      obtain ⟨w, hw⟩ : ∃ w : Int, w = ((h2 (i + j)).toInt - q * (g j).toInt) - bw := ⟨_, rfl⟩
                      have hwr := div_in hw hqr hg2 hh2 hbw
                      refine w_lsub C dX3_divideByOdd_119 ?_
                      refine w_topl C (w) (hw.symm) ?_
                      refine w_lstore C [(9, .long (lZ (w))), (8, .int (iZ ((j : Int)))), (6, .long (lZ (bw))), (5, .int (iZ (q))), (4, .int (iZ ((i : Int)))), (3, .int (iZ (iv))), (2, .int (iZ ((L : Int)))), (0, .ref a), (1, .ref a2)] dX3_divideByOdd_120 (by decide) rfl ?_
                      refine w_aload_n C dX3_divideByOdd_122 7 rfl ?_
                      refine w_get (ci := 3) (ref := "RootIsolator$Whole") (T := TX3) (Cn := RX3) (N := 3) C (fun w h => wC_in (inX3 w h)) 0 rfl rfl 0 (by decide) (wC_in fX3_9) rfl rfl dX3_divideByOdd_123 ?_
                      refine w_iload C dX3_divideByOdd_126 4 rfl ?_
                      refine w_iload C dX3_divideByOdd_128 1 rfl ?_
                      refine w_iadd C dX3_divideByOdd_130 ?_
                      refine w_lload C dX3_divideByOdd_131 0 rfl ?_
                      refine w_ldc2 C (1073741823) dX3_divideByOdd_133 (wC_in kclX3_20) ?_
                      refine w_land C dX3_divideByOdd_136 (v := (lZ (w % 1073741824))) (lZ_and30 w) ?_
                      refine w_l2i C dX3_divideByOdd_137 ?_
                      refine w_iast C ((a, .inr (3, [.ref b, .int (iZ ((k : Int))), .int (iZ (x.sign))])) :: (b, .inl (G 0, n, .inl (upd h2 (i + j) (iZ (w % 1073741824))))) :: (a2, .inr (3, [.ref b2, .int (iZ ((k2 : Int))), .int (iZ (y.sign))])) :: (b2, .inl (G 0, n2, .inl g)) :: X : va_W) 1 0 rfl rfl (i + j) ⟨by omega, by omega, by omega⟩ rfl dX3_divideByOdd_138 ?_
                      refine w_lload C dX3_divideByOdd_139 0 rfl ?_
                      refine w_bipush C dX3_divideByOdd_141 (by decide) ?_
                      refine w_lshr C (30) dX3_divideByOdd_143 ⟨by omega, by omega⟩ ⟨by omega, by omega⟩ ?_
                      refine w_lneg C dX3_divideByOdd_144 ?_
                      refine w_topl C (-(w / 1073741824)) (rfl) ?_
                      refine w_lstore C [(6, .long (lZ (-(w / 1073741824)))), (9, .long (lZ (w))), (8, .int (iZ ((j : Int)))), (5, .int (iZ (q))), (4, .int (iZ ((i : Int)))), (3, .int (iZ (iv))), (2, .int (iZ ((L : Int)))), (0, .ref a), (1, .ref a2)] dX3_divideByOdd_145 (by decide) rfl ?_
                      refine w_iinc C (((j + 1 : Nat) : Int)) (by omega) [(8, .int (iZ (((j + 1 : Nat) : Int)))), (6, .long (lZ (-(w / 1073741824)))), (9, .long (lZ (w))), (5, .int (iZ (q))), (4, .int (iZ ((i : Int)))), (3, .int (iZ (iv))), (2, .int (iZ ((L : Int)))), (0, .ref a), (1, .ref a2)] dX3_divideByOdd_147 2 rfl (by decide) rfl ?_
                      refine w_goto C 75 dX3_divideByOdd_150 (by decide) ?_
                      refine w_sub [(8, .int (iZ (((j + 1 : Nat) : Int)))), (6, .long (lZ (-(w / 1073741824)))), (5, .int (iZ (q))), (4, .int (iZ ((i : Int)))), (3, .int (iZ (iv))), (2, .int (iZ ((L : Int)))), (0, .ref a), (1, .ref a2)] [0, 1, 3, 4, 5, 6, 7, 8] rfl ?_
                      exact ih3 (j + 1) (-(w / 1073741824)) _ (by omega) (by omega) (by omega) (lim_set hl2 (by rw [iZ_toInt (by omega) (by omega)]; omega)) (fun t ht => by rw [upd_ne (by omega)]; exact hlo2 t ht) (fun hh => absurd hh (by omega)) (fun _ => by
                        rcases Nat.eq_zero_or_pos j with z | z
                        · obtain ⟨b0, h0⟩ := hz2 z
                          subst z
                          rw [Nat.add_zero, upd_eq, iZ_toInt (by omega) (by omega), hw, Nat.add_zero, h0, b0, Int.sub_zero]
                          exact hdig
                        · rw [upd_ne (by omega)]; exact hi2 z) (by
                        have e := zw_down30 (P := q * (g j).toInt) (show i + j < L by omega) hw hv2
                        rw [show i + (j + 1) = i + j + 1 by omega, e]
                        simp only [zw]
                        rw [Int.mul_add, Nat.mul_add, Int.pow_add]
                        have e2 : q * (g j).toInt * (2 ^ (30 * i) * 2 ^ (30 * j)) = q * 2 ^ (30 * i) * ((g j).toInt * 2 ^ (30 * j)) := by
                          simp only [Int.mul_assoc, Int.mul_comm, Int.mul_left_comm]
                        omega)
              exact lp2 (k2 + 1) 0 0 h (by omega) (by omega) (by omega) hl1 (fun _ _ => rfl) (fun _ => ⟨rfl, rfl⟩) (fun hh => absurd hh (by omega)) (by simp [zw])
        exact lp1 (L + 1) 0 f (by omega) (by omega) (lim_le hx2 (by omega)) (by
          have e := zw_split (f := f) (i := L) (k := k - L)
          rw [show L + (k - L) = k by omega] at e
          exact ⟨-zw (fun j => f (L + j)) (k - L), by rw [hx4, e]; simp only [zw]; rw [Int.mul_zero, Int.neg_mul, Int.mul_comm (zw _ _)]; omega⟩)
      · exact absurd c27 (by omega)
