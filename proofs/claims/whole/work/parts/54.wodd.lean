theorem pow2_dvd {X : Int} {j : Nat} (h : X % 2 ^ j = 0) (h2 : X / 2 ^ j % 2 = 0) : X % 2 ^ (j + 1) = 0 := by
  have hB : (0 : Int) < 2 ^ j := Int.pow_pos (by omega)
  have e := Int.emod_add_mul_ediv X (2 ^ j)
  rw [h, Int.zero_add] at e
  obtain ⟨q, hq⟩ : ∃ q, X / 2 ^ j = 2 * q := ⟨X / 2 ^ j / 2, by omega⟩
  rw [← e, hq, Int.pow_succ, ← Int.mul_assoc]
  exact Int.mul_emod_right _ _
theorem odd_pow {X : Int} {j N : Nat} (hX : 0 ≤ X) (h : X % 2 ^ j = 0) (hl : X < 2 ^ N) (hj : N ≤ j) : X = 0 := by
  have h1 : (2 : Int) ^ N ≤ 2 ^ j := by
    have h9 : (2 : Nat) ^ N ≤ 2 ^ j := Nat.pow_le_pow_right (by omega) hj
    have e1 : ((2 ^ N : Nat) : Int) = 2 ^ N := by simp
    have e2 : ((2 ^ j : Nat) : Int) = 2 ^ j := by simp
    omega
  rw [Int.emod_eq_of_lt hX (by omega)] at h
  exact h
theorem inv_step {o v e E : Int} (h : 1 - o * v = e * E) : 1 - o * (v * (2 - o * v)) = (e * e) * (E * E) := by
  have h1 : 1 - o * (v * (2 - o * v)) = (1 - o * v) * (1 - o * v) := by grind
  rw [h1, h]; grind
theorem inv_end {o v e : Int} (h : 1 - o * v = e * 281474976710656) : (o * v) % 1073741824 = 1 := by omega
theorem odd_sq {o : Int} (h : o % 2 = 1) : ∃ e : Int, 1 - o * o = e * 8 := by
  have h1 : ∃ c : Int, o = 2 * c + 1 := ⟨o / 2, by omega⟩
  obtain ⟨c, rfl⟩ := h1
  have h2 : ∃ t : Int, c * (c + 1) = 2 * t := by
    by_cases q : c % 2 = 0
    · obtain ⟨u, rfl⟩ : ∃ u : Int, c = 2 * u := ⟨c / 2, by omega⟩
      exact ⟨u * (2 * u + 1), by grind⟩
    · obtain ⟨u, rfl⟩ : ∃ u : Int, c = 2 * u + 1 := ⟨c / 2, by omega⟩
      exact ⟨(2 * u + 1) * (u + 1), by grind⟩
  obtain ⟨t, ht⟩ := h2
  exact ⟨-t, by grind⟩
theorem odd_val {x : Int} {j : Nat} (h : (x.natAbs : Int) % 2 ^ j = 0) : x = x.sign * ((x.natAbs : Int) / 2 ^ j) * 2 ^ j := by
  have e := Int.emod_add_mul_ediv (x.natAbs : Int) (2 ^ j)
  rw [h, Int.zero_add] at e
  rw [Int.mul_assoc, Int.mul_comm ((x.natAbs : Int) / 2 ^ j), e, Int.sign_mul_natAbs]
theorem odd_par {x : Int} {j : Nat} (_h : (x.natAbs : Int) % 2 ^ j = 0) (h2 : (x.natAbs : Int) / 2 ^ j % 2 = 1) : x.sign * ((x.natAbs : Int) / 2 ^ j) % 2 = 1 := by
  by_cases h0 : x = 0
  · subst h0
    rw [show ((0 : Int).natAbs : Int) = 0 from rfl, Int.zero_ediv] at h2
    exact absurd h2 (by decide)
  · generalize (x.natAbs : Int) / 2 ^ j = q at *
    rcases sgn_cases x with ⟨g1, g2⟩ | ⟨g1, g2⟩ | ⟨g1, g2⟩ <;> rw [g2] <;> omega
set_option maxHeartbeats 4000000 in
set_option maxRecDepth 100000 in
/-- makeOdd -/
theorem cw_makeOdd (l : Launch) (D : va_G) (G : Nat → ClassId) (X : va_W) (a b n k : Nat) (f : Nat → Int32) (x : Int) (hn1 : 1 ≤ n) (hn : n ≤ 2048) (hx : wN n f k x) (sz hs : Nat) : Met l yX3_makeOdd (wC yX3_makeOdd cX3_makeOdd 2 (some .int)) ({ frames := 2, cells := 0, slots := 0, locals := 48 }) (va_Pc [.ref a] (cPre nT D G ((a, .inr (3, [.ref b, .int (iZ ((k : Int))), .int (iZ (x.sign))])) :: (b, .inl (G 0, n, .inl f)) :: X : va_W) sz hs)) (va_Qi (fun (r : Int32) (u : cS) => ∃ (bt k1 : Nat) (f1 : Nat → Int32) (y : Int), r = iZ (bt : Int) ∧ bt ≤ 30 * k ∧ x = y * 2 ^ bt ∧ (x ≠ 0 → y % 2 = 1) ∧ wN n f1 k1 y ∧ u = (((a, .inr (3, [.ref b, .int (iZ ((k1 : Int))), .int (iZ (y.sign))])) :: (b, .inl (G 0, n, .inl f1)) :: X : va_W), 0, 0)) (cAt D G (va_A ((a, .inr (3, [.ref b, .int (iZ ((k : Int))), .int (iZ (x.sign))])) :: (b, .inl (G 0, n, .inl f)) :: X : va_W) sz) sz hs) (va_A ((a, .inr (3, [.ref b, .int (iZ ((k : Int))), .int (iZ (x.sign))])) :: (b, .inl (G 0, n, .inl f)) :: X : va_W) sz)) 0 0 (va_A ((a, .inr (3, [.ref b, .int (iZ ((k : Int))), .int (iZ (x.sign))])) :: (b, .inl (G 0, n, .inl f)) :: X : va_W) sz) := by
  refine g_met (cc := cX3_makeOdd) (maxL := 2) (ret := (some .int)) (own := RX3) (by decide) rfl rfl (Nat.le_of_ble_eq_true rfl) ?_
  intro p e s m below meth c hsz hhs hNs hA C hr hlk
  refine w_sub [(0, .ref a)] [0] rfl ?_
  obtain ⟨hx1, hx2, hx3, hx4⟩ := id hx
  have hxl := wN_lt hx
  have lp : ∀ (d : Nat) (j : Nat), 30 * k < j + d → j ≤ 30 * k → (x.natAbs : Int) % 2 ^ j = 0 → ZW p l e ({ frames := 2, cells := 0, slots := 0, locals := 48 }) s m ([.ref a] : List Value).toArray below meth c D (va_A ((a, .inr (3, [.ref b, .int (iZ ((k : Int))), .int (iZ (x.sign))])) :: (b, .inl (G 0, n, .inl f)) :: X : va_W) sz) 2 0 0 (MQ below (va_Qi (fun (r : Int32) (u : cS) => ∃ (bt k1 : Nat) (f1 : Nat → Int32) (y : Int), r = iZ (bt : Int) ∧ bt ≤ 30 * k ∧ x = y * 2 ^ bt ∧ (x ≠ 0 → y % 2 = 1) ∧ wN n f1 k1 y ∧ u = (((a, .inr (3, [.ref b, .int (iZ ((k1 : Int))), .int (iZ (y.sign))])) :: (b, .inl (G 0, n, .inl f1)) :: X : va_W), 0, 0)) (cAt D G (va_A ((a, .inr (3, [.ref b, .int (iZ ((k : Int))), .int (iZ (x.sign))])) :: (b, .inl (G 0, n, .inl f)) :: X : va_W) sz) sz hs) (va_A ((a, .inr (3, [.ref b, .int (iZ ((k : Int))), .int (iZ (x.sign))])) :: (b, .inl (G 0, n, .inl f)) :: X : va_W) sz)) ([.ref a] : List Value).toArray s 0 0 (va_A ((a, .inr (3, [.ref b, .int (iZ ((k : Int))), .int (iZ (x.sign))])) :: (b, .inl (G 0, n, .inl f)) :: X : va_W) sz)) ((a, .inr (3, [.ref b, .int (iZ ((k : Int))), .int (iZ (x.sign))])) :: (b, .inl (G 0, n, .inl f)) :: X : va_W) 2 [(1, .int (iZ ((j : Int)))), (0, .ref a)] [] := by
    intro d
    induction d with
    | zero =>
      intro j hd hj hdv
      exact absurd hd (by omega)
    | succ d ih =>
      intro j hd hj hdv
      refine w_iload_n C dX3_makeOdd_2 0 rfl ?_
      refine w_aload_n C dX3_makeOdd_3 1 rfl ?_
      refine w_get (ci := 3) (ref := "RootIsolator$Whole") (T := TX3) (Cn := RX3) (N := 3) C (fun w h => wC_in (inX3 w h)) 0 rfl rfl 1 (by decide) (wC_in fX3_13) rfl rfl dX3_makeOdd_4 ?_
      refine w_bipush C dX3_makeOdd_7 (by decide) ?_
      refine w_imul C dX3_makeOdd_9 ?_
      refine w_icmp_ge C 38 dX3_makeOdd_10 (by decide) ⟨⟨by omega, by omega⟩, by omega, by omega⟩ (fun c10 => ?_) (fun c10 => ?_)
      · have hodd : x ≠ 0 → (x.natAbs : Int) / 2 ^ j % 2 = 1 := fun h => absurd (odd_pow (by omega) hdv hxl (by omega)) (by omega)
        refine w_aload_n C dX3_makeOdd_38 1 rfl ?_
        refine w_iload_n C dX3_makeOdd_39 0 rfl ?_
        refine g_callv [.int (iZ ((j : Int)))] hA C hNs nT_ok (cw_shiftDown l D G X a b n k j f x hn1 hn hx (by omega)) (cwV 1 C.1.2.2.2.2 (wC_V kX3_48 nX3_shiftDown slX3_shiftDown iniX3 cdX3_shiftDown) rfl rfl rfl (by decide +kernel) ⟨Nat.le_of_ble_eq_true rfl, Nat.le_of_ble_eq_true rfl⟩) (q0 := 0) rfl rfl rfl rfl ⟨Nat.le_of_ble_eq_true rfl, Nat.le_of_ble_eq_true rfl⟩ (Nat.le_of_ble_eq_true rfl) dX3_makeOdd_40 [.int (iZ ((j : Int))), .ref a] rfl (fun v1 hv1 => ?_)
        obtain ⟨k1, f1, q1, rfl⟩ := hv1
        refine w_cs 0 0 rfl rfl ?_
        refine w_iload_n C dX3_makeOdd_43 0 rfl ?_
        exact g_iret hsz hhs C hr hlk ⟨by omega, by omega⟩ (⟨j, k1, f1, _, rfl, hj, odd_val hdv, fun h => odd_par hdv (hodd h), q1, rfl⟩) dX3_makeOdd_44
      · have hli := hx2 (j / 30) (by omega)
        have hb := zw_bit (k := k) (i := j / 30) (r := j % 30) hx2 (by omega) (by omega)
        rw [show 30 * (j / 30) + j % 30 = j by omega, ← hx4] at hb
        have hB : (0 : Int) < 2 ^ (j % 30) := Int.pow_pos (by omega)
        have hq0 : 0 ≤ (f (j / 30)).toInt / 2 ^ (j % 30) := Int.ediv_nonneg hli.1 (by omega)
        have hq1 : (f (j / 30)).toInt / 2 ^ (j % 30) ≤ (f (j / 30)).toInt := Int.ediv_le_self _ hli.1
        refine w_aload_n C dX3_makeOdd_13 1 rfl ?_
        refine w_get (ci := 3) (ref := "RootIsolator$Whole") (T := TX3) (Cn := RX3) (N := 3) C (fun w h => wC_in (inX3 w h)) 0 rfl rfl 0 (by decide) (wC_in fX3_9) rfl rfl dX3_makeOdd_14 ?_
        refine w_iload_n C dX3_makeOdd_17 0 rfl ?_
        refine w_bipush C dX3_makeOdd_18 (by decide) ?_
        refine w_idiv C dX3_makeOdd_20 (by decide) (v := (iZ (((j / 30 : Nat) : Int)))) (iZ_divN j 30 (by omega) (by omega) (by omega)) ?_
        refine w_iald C 1 0 rfl rfl (j / 30) ((f (j / 30)).toInt) ⟨by omega, by omega, by omega⟩ ((iZ_self _).symm) dX3_makeOdd_21 ?_
        refine w_iload_n C dX3_makeOdd_22 0 rfl ?_
        refine w_bipush C dX3_makeOdd_23 (by decide) ?_
        refine w_irem C dX3_makeOdd_25 (by decide) (v := (iZ (((j % 30 : Nat) : Int)))) (iZ_remN j 30 (by omega) (by omega) (by omega)) ?_
        refine w_ishr C dX3_makeOdd_26 (v := (iZ ((f (j / 30)).toInt / 2 ^ (j % 30)))) (iZ_shr (j % 30) (by omega) (by omega) (by omega)) ?_
        refine w_iconst C dX3_makeOdd_27 ?_
        refine w_iand C dX3_makeOdd_28 (v := (iZ ((x.natAbs : Int) / 2 ^ j % 2))) ((iZ_and1 hq0 (by omega)).trans (congrArg iZ hb.symm)) ?_
        refine w_if_ne C 38 dX3_makeOdd_29 (by decide) ⟨by omega, by omega⟩ (fun c29 => ?_) (fun c29 => ?_)
        · have hodd : x ≠ 0 → (x.natAbs : Int) / 2 ^ j % 2 = 1 := fun _ => by omega
          refine w_aload_n C dX3_makeOdd_38 1 rfl ?_
          refine w_iload_n C dX3_makeOdd_39 0 rfl ?_
          refine g_callv [.int (iZ ((j : Int)))] hA C hNs nT_ok (cw_shiftDown l D G X a b n k j f x hn1 hn hx (by omega)) (cwV 1 C.1.2.2.2.2 (wC_V kX3_48 nX3_shiftDown slX3_shiftDown iniX3 cdX3_shiftDown) rfl rfl rfl (by decide +kernel) ⟨Nat.le_of_ble_eq_true rfl, Nat.le_of_ble_eq_true rfl⟩) (q0 := 0) rfl rfl rfl rfl ⟨Nat.le_of_ble_eq_true rfl, Nat.le_of_ble_eq_true rfl⟩ (Nat.le_of_ble_eq_true rfl) dX3_makeOdd_40 [.int (iZ ((j : Int))), .ref a] rfl (fun v2 hv2 => ?_)
          obtain ⟨k1, f1, q1, rfl⟩ := hv2
          refine w_cs 0 0 rfl rfl ?_
          refine w_iload_n C dX3_makeOdd_43 0 rfl ?_
          exact g_iret hsz hhs C hr hlk ⟨by omega, by omega⟩ (⟨j, k1, f1, _, rfl, hj, odd_val hdv, fun h => odd_par hdv (hodd h), q1, rfl⟩) dX3_makeOdd_44
        · refine w_iinc C (((j + 1 : Nat) : Int)) (by omega) [(1, .int (iZ (((j + 1 : Nat) : Int)))), (0, .ref a)] dX3_makeOdd_32 0 rfl (by decide) rfl ?_
          refine w_goto C 2 dX3_makeOdd_35 (by decide) ?_
          exact ih (j + 1) (by omega) (by omega) (pow2_dvd hdv (by omega))
  refine w_iconst C dX3_makeOdd_0 ?_
  refine w_istore_n C [(1, .int (iZ (0))), (0, .ref a)] dX3_makeOdd_1 rfl (by decide) rfl ?_
  exact lp (30 * k + 1) 0 (by omega) (by omega) (by rw [Int.pow_zero]; omega)
set_option maxHeartbeats 4000000 in
set_option maxRecDepth 100000 in
/-- inverseOf -/
theorem cw_inverseOf (l : Launch) (D : va_G) (G : Nat → ClassId) (X : va_W) (o : Int) (ho : o % 2 = 1) (sz hs : Nat) : Met l yX3_inverseOf (wC yX3_inverseOf cX3_inverseOf 3 (some .int)) ({ frames := 0, cells := 0, slots := 0, locals := 0 }) (va_Pc [.int (iZ (o))] (cPre nT D G (X : va_W) sz hs)) (va_Qi (fun (r : Int32) (u : cS) => ∃ v : Int, r = iZ v ∧ (o * v) % 1073741824 = 1 ∧ u = ((X : va_W), 0, 0)) (cAt D G (va_A (X : va_W) sz) sz hs) (va_A (X : va_W) sz)) 0 0 (va_A (X : va_W) sz) := by
  refine g_met (cc := cX3_inverseOf) (maxL := 3) (ret := (some .int)) (own := RX3) (by decide) rfl rfl (Nat.le_of_ble_eq_true rfl) ?_
  intro p e s m below meth c hsz hhs hNs hA C hr hlk
  refine w_sub [(0, .int (iZ (o)))] [0] rfl ?_
  have lp : ∀ (d : Nat) (j : Nat) (v : Int), 4 < j + d → j ≤ 4 → (∃ q : Int, 1 - o * v = q * 8 ^ (2 ^ j)) → ZW p l e ({ frames := 0, cells := 0, slots := 0, locals := 0 }) s m ([.int (iZ (o))] : List Value).toArray below meth c D (va_A (X : va_W) sz) 3 0 0 (MQ below (va_Qi (fun (r : Int32) (u : cS) => ∃ v : Int, r = iZ v ∧ (o * v) % 1073741824 = 1 ∧ u = ((X : va_W), 0, 0)) (cAt D G (va_A (X : va_W) sz) sz hs) (va_A (X : va_W) sz)) ([.int (iZ (o))] : List Value).toArray s 0 0 (va_A (X : va_W) sz)) (X : va_W) 4 [(2, .int (iZ ((j : Int)))), (1, .int (iZ (v))), (0, .int (iZ (o)))] [] := by
    intro d
    induction d with
    | zero =>
      intro j v hd hj hv
      exact absurd hd (by omega)
    | succ d ih =>
      intro j v hd hj hv
      refine w_iload_n C dX3_inverseOf_4 0 rfl ?_
      refine w_iconst C dX3_inverseOf_5 ?_
      refine w_icmp_ge C 23 dX3_inverseOf_6 (by decide) ⟨⟨by omega, by omega⟩, by omega, by omega⟩ (fun c6 => ?_) (fun c6 => ?_)
      · have hj4 : j = 4 := by omega
        subst hj4
        obtain ⟨q, hq⟩ := hv
        refine w_iload_n C dX3_inverseOf_23 1 rfl ?_
        exact g_iret hsz hhs C hr hlk ⟨by omega, by omega⟩ (⟨v, rfl, inv_end hq, rfl⟩) dX3_inverseOf_24
      · refine w_iload_n C dX3_inverseOf_9 1 rfl ?_
        refine w_iconst C dX3_inverseOf_10 ?_
        refine w_iload_n C dX3_inverseOf_11 2 rfl ?_
        refine w_iload_n C dX3_inverseOf_12 1 rfl ?_
        refine w_imul C dX3_inverseOf_13 ?_
        refine w_isub C dX3_inverseOf_14 ?_
        refine w_imul C dX3_inverseOf_15 ?_
        refine w_istore_n C [(1, .int (iZ (v * (2 - (o * v))))), (2, .int (iZ ((j : Int)))), (0, .int (iZ (o)))] dX3_inverseOf_16 rfl (by decide) rfl ?_
        refine w_iinc C (((j + 1 : Nat) : Int)) (by omega) [(2, .int (iZ (((j + 1 : Nat) : Int)))), (1, .int (iZ (v * (2 - (o * v))))), (0, .int (iZ (o)))] dX3_inverseOf_17 1 rfl (by decide) rfl ?_
        refine w_goto C 4 dX3_inverseOf_20 (by decide) ?_
        obtain ⟨q, hq⟩ := hv
        exact ih (j + 1) _ (by omega) (by omega) ⟨q * q, by rw [Nat.pow_succ, Nat.mul_two, Int.pow_add]; exact inv_step hq⟩
  refine w_iload_n C dX3_inverseOf_0 0 rfl ?_
  refine w_istore_n C [(1, .int (iZ (o))), (0, .int (iZ (o)))] dX3_inverseOf_1 rfl (by decide) rfl ?_
  refine w_iconst C dX3_inverseOf_2 ?_
  refine w_istore_n C [(2, .int (iZ (0))), (1, .int (iZ (o))), (0, .int (iZ (o)))] dX3_inverseOf_3 rfl (by decide) rfl ?_
  exact lp 5 0 o (by omega) (by omega) (odd_sq ho)
