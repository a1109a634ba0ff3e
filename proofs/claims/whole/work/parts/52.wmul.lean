theorem sgn_mulm {x y : Int} (hx : x ≠ 0) (hy : y ≠ 0) : (x.sign * y.sign) * ((x.natAbs : Int) * (y.natAbs : Int)) = x * y := by
  rw [← Int.natCast_mul, ← Int.natAbs_mul, ← Int.sign_mul, Int.sign_mul_natAbs]
theorem mul_in {lf gj h cy w : Int} (hw : w = h + lf * gj + cy) (h1 : 0 ≤ lf ∧ lf < 1073741824) (h2 : 0 ≤ gj ∧ gj < 1073741824) (h3 : 0 ≤ h ∧ h < 1073741824) (h4 : 0 ≤ cy ∧ cy < 1073741824) : 0 ≤ w ∧ w < 1152921504606846976 := by
  have a1 : 0 ≤ lf * gj := Int.mul_nonneg h1.1 h2.1
  have a2 : lf * gj ≤ 1073741823 * 1073741823 := Int.mul_le_mul (by omega) (by omega) h2.1 (by omega)
  omega
theorem zw_step30 {h : Nat → Int32} {K t : Nat} {w V cy P : Int} (ht : t < K) (hw : w = (h t).toInt + P + cy) (hr : 0 ≤ w ∧ w < 1152921504606846976) (hV : zw h K + cy * 2 ^ (30 * t) = V) :
    zw (upd h t (iZ (w % 1073741824))) K + (w / 1073741824) * 2 ^ (30 * (t + 1)) = V + P * 2 ^ (30 * t) := by
  have e1 := dig30 w (2 ^ (30 * t))
  have e2 : w * 2 ^ (30 * t) = (h t).toInt * 2 ^ (30 * t) + P * 2 ^ (30 * t) + cy * 2 ^ (30 * t) := by rw [hw, Int.add_mul, Int.add_mul]
  rw [zw_set ht, iZ_toInt (by omega) (by omega), p30, Int.sub_mul]
  omega
theorem zw_sum {f : Nat → Int32} : ∀ {i k : Nat}, lim f k → i ≤ k → zw f i ≤ zw f k
  | i, 0, _, h => by have : i = 0 := by omega
                     subst this; exact Int.le_refl _
  | i, k + 1, hl, h => by
    rcases Nat.lt_or_ge k i with q | q
    · have : i = k + 1 := by omega
      subst this; exact Int.le_refl _
    · have h1 := zw_sum (lim_le hl (Nat.le_succ k)) q
      have h2 := Int.mul_nonneg (hl k (by omega)).1 (Int.le_of_lt (p30_pos k))
      simp only [zw]; omega
theorem mul_bd {f g : Nat → Int32} {k k2 q : Nat} (hf : lim f k) (hg : lim g k2) (hq : q ≤ k) (hY : 1 ≤ zw g k2) : 0 ≤ zw f q + (zw f k - zw f q) * zw g k2 ∧ zw f q + (zw f k - zw f q) * zw g k2 < 2 ^ (30 * (k + k2)) := by
  have h1 := zw_sum hf hq
  have h2 := zw_nonneg (lim_le hf hq)
  have h3 := zw_lt hf
  have h4 := zw_lt hg
  have h5 : zw f q * 1 ≤ zw f q * zw g k2 := Int.mul_le_mul_of_nonneg_left hY h2
  have h6 : 0 ≤ (zw f k - zw f q) * zw g k2 := Int.mul_nonneg (by omega) (by omega)
  have h7 : zw f k * zw g k2 < 2 ^ (30 * k) * 2 ^ (30 * k2) := by
    have b1 : zw f k * zw g k2 ≤ zw f k * 2 ^ (30 * k2) := Int.mul_le_mul_of_nonneg_left (by omega) (by omega)
    have b2 : zw f k * 2 ^ (30 * k2) < 2 ^ (30 * k) * 2 ^ (30 * k2) := Int.mul_lt_mul_of_pos_right h3 (p30_pos k2)
    omega
  rw [Nat.mul_add, Int.pow_add]
  rw [Int.sub_mul] at h6 ⊢
  omega
theorem sg_mul {x y z : Int} (hx : x ≠ 0) (hy : y ≠ 0) : x.sign * y.sign = 1 ∨ x.sign * y.sign = -1 ∨ (x.sign * y.sign = 0 ∧ z = 0) := by
  rcases sgn_cases x with ⟨h1, h2⟩ | ⟨h1, h2⟩ | ⟨h1, h2⟩ <;> rcases sgn_cases y with ⟨h3, h4⟩ | ⟨h3, h4⟩ | ⟨h3, h4⟩ <;> rw [h2, h4] <;> omega
set_option maxHeartbeats 4000000 in
set_option maxRecDepth 100000 in
/-- multiply: this number becomes the product -/
theorem cw_multiply (l : Launch) (D : va_G) (G : Nat → ClassId) (X : va_W) (a b n k a2 b2 n2 k2 : Nat) (f g : Nat → Int32) (x y : Int) (hn1 : 1 ≤ n) (hn : n ≤ 2048) (hn2 : n2 ≤ 2048) (hx : wN n f k x) (hy : wN n2 g k2 y) (hk : k + k2 ≤ 1024) (sz hs : Nat) : Met l yX3_multiply (wC yX3_multiply cX3_multiply 11 none) ({ frames := 2, cells := 11, slots := 4096, locals := 62 }) (va_Pc [.ref a, .ref a2] (cPre nT D G ((a, .inr (3, [.ref b, .int (iZ ((k : Int))), .int (iZ (x.sign))])) :: (b, .inl (G 0, n, .inl f)) :: (a2, .inr (3, [.ref b2, .int (iZ ((k2 : Int))), .int (iZ (y.sign))])) :: (b2, .inl (G 0, n2, .inl g)) :: X : va_W) sz hs)) (va_Qv (fun u : cS => ∃ (b1 n1 k1 : Nat) (f1 : Nat → Int32) (dc ds : Nat), n ≤ n1 ∧ n1 ≤ 2048 ∧ wN n1 f1 k1 (x * y) ∧ dc + gc n ≤ gc n1 ∧ ds + 2 * n ≤ 2 * n1 ∧ u = (((a, .inr (3, [.ref b1, .int (iZ ((k1 : Int))), .int (iZ ((x * y).sign))])) :: (b1, .inl (G 0, n1, .inl f1)) :: (a2, .inr (3, [.ref b2, .int (iZ ((k2 : Int))), .int (iZ (y.sign))])) :: (b2, .inl (G 0, n2, .inl g)) :: X : va_W), dc, ds)) (cAt D G (va_A ((a, .inr (3, [.ref b, .int (iZ ((k : Int))), .int (iZ (x.sign))])) :: (b, .inl (G 0, n, .inl f)) :: (a2, .inr (3, [.ref b2, .int (iZ ((k2 : Int))), .int (iZ (y.sign))])) :: (b2, .inl (G 0, n2, .inl g)) :: X : va_W) sz) sz hs) (va_A ((a, .inr (3, [.ref b, .int (iZ ((k : Int))), .int (iZ (x.sign))])) :: (b, .inl (G 0, n, .inl f)) :: (a2, .inr (3, [.ref b2, .int (iZ ((k2 : Int))), .int (iZ (y.sign))])) :: (b2, .inl (G 0, n2, .inl g)) :: X : va_W) sz)) 11 4096 (va_A ((a, .inr (3, [.ref b, .int (iZ ((k : Int))), .int (iZ (x.sign))])) :: (b, .inl (G 0, n, .inl f)) :: (a2, .inr (3, [.ref b2, .int (iZ ((k2 : Int))), .int (iZ (y.sign))])) :: (b2, .inl (G 0, n2, .inl g)) :: X : va_W) sz) := by
  refine g_met (cc := cX3_multiply) (maxL := 11) (ret := none) (own := RX3) (by decide) rfl rfl (Nat.le_of_ble_eq_true rfl) ?_
  intro p e s m below meth c hsz hhs hNs hA C hr hlk
  refine w_sub [(0, .ref a), (1, .ref a2)] [0, 1] rfl ?_
  obtain ⟨hx1, hx2, hx3, hx4⟩ := id hx
  obtain ⟨hy1, hy2, hy3, hy4⟩ := id hy
  have hs1 := sgn_r x
  have hs2 := sgn_r y
  obtain ⟨K, hK⟩ : ∃ K : Nat, K = k + k2 := ⟨_, rfl⟩
  refine w_aload_n C dX3_multiply_0 0 rfl ?_
  refine w_get (ci := 3) (ref := "RootIsolator$Whole") (T := TX3) (Cn := RX3) (N := 3) C (fun w h => wC_in (inX3 w h)) 0 rfl rfl 2 (by decide) (wC_in fX3_17) rfl rfl dX3_multiply_1 ?_
  refine w_if_eq C 14 dX3_multiply_4 (by decide) ⟨by omega, by omega⟩ (fun c4 => ?_) (fun c4 => ?_)
  · have hz0 : x = 0 ∨ y = 0 := Or.inl (sgn_zero c4)
    refine w_aload_n C dX3_multiply_14 0 rfl ?_
    refine w_iconst C dX3_multiply_15 ?_
    refine g_callv [.int (iZ (0))] hA C hNs nT_ok (cw_trim l D G ((a2, .inr (3, [.ref b2, .int (iZ ((k2 : Int))), .int (iZ (y.sign))])) :: (b2, .inl (G 0, n2, .inl g)) :: X : va_W) a b n 0 f (iZ (k : Int)) (x.sign) (by omega) (by omega) (sgn_r _)) (cwV 1 C.1.2.2.2.2 (wC_V kX3_36 nX3_trim slX3_trim iniX3 cdX3_trim) rfl rfl rfl (by decide +kernel) ⟨Nat.le_of_ble_eq_true rfl, Nat.le_of_ble_eq_true rfl⟩) (q0 := 0) rfl rfl rfl rfl ⟨Nat.le_of_ble_eq_true rfl, Nat.le_of_ble_eq_true rfl⟩ (Nat.le_of_ble_eq_true rfl) dX3_multiply_16 [.int (iZ (0)), .ref a] rfl (fun v1 hv1 => ?_)
    obtain ⟨j, j1, j2, j3, rfl⟩ := hv1
    have j0 : j = 0 := by omega
    subst j0
    have hxy : x * y = 0 := by rcases hz0 with q | q <;> rw [q] <;> simp
    have t1 : wN n f 0 (x * y) := by rw [hxy]; exact ⟨by omega, fun i hi => absurd hi (by omega), fun i hi => absurd hi (by omega), rfl⟩
    exact g_vret hsz hhs C hr hlk ⟨Nat.zero_le _, Nat.zero_le _⟩ (⟨b, n, 0, f, 0, 0, by omega, by omega, t1, by omega, by omega, by rw [hxy]; rfl⟩) dX3_multiply_19
  · refine w_aload_n C dX3_multiply_7 1 rfl ?_
    refine w_get (ci := 3) (ref := "RootIsolator$Whole") (T := TX3) (Cn := RX3) (N := 3) C (fun w h => wC_in (inX3 w h)) 2 rfl rfl 2 (by decide) (wC_in fX3_17) rfl rfl dX3_multiply_8 ?_
    refine w_if_ne C 20 dX3_multiply_11 (by decide) ⟨by omega, by omega⟩ (fun c11 => ?_) (fun c11 => ?_)
    · refine w_aload_n C dX3_multiply_20 0 rfl ?_
      refine w_get (ci := 3) (ref := "RootIsolator$Whole") (T := TX3) (Cn := RX3) (N := 3) C (fun w h => wC_in (inX3 w h)) 0 rfl rfl 1 (by decide) (wC_in fX3_13) rfl rfl dX3_multiply_21 ?_
      refine w_aload_n C dX3_multiply_24 1 rfl ?_
      refine w_get (ci := 3) (ref := "RootIsolator$Whole") (T := TX3) (Cn := RX3) (N := 3) C (fun w h => wC_in (inX3 w h)) 2 rfl rfl 1 (by decide) (wC_in fX3_13) rfl rfl dX3_multiply_25 ?_
      refine w_iadd C dX3_multiply_28 ?_
      refine w_top C ((K : Int)) (by omega) ?_
      refine w_istore_n C [(2, .int (iZ ((K : Int)))), (0, .ref a), (1, .ref a2)] dX3_multiply_29 rfl (by decide) rfl ?_
      refine w_aload_n C dX3_multiply_30 1 rfl ?_
      refine w_iload_n C dX3_multiply_31 0 rfl ?_
      refine g_callv [.int (iZ ((K : Int)))] hA C hNs nT_ok (cw_makeRoom l D G ((a2, .inr (3, [.ref b2, .int (iZ ((k2 : Int))), .int (iZ (y.sign))])) :: (b2, .inl (G 0, n2, .inl g)) :: X : va_W) a b n K f (iZ (k : Int)) (iZ x.sign) hn1 hn (by omega)) (cwV 1 C.1.2.2.2.2 (wC_V kX3_22 nX3_makeRoom slX3_makeRoom iniX3 cdX3_makeRoom) rfl rfl rfl (by decide +kernel) ⟨Nat.le_of_ble_eq_true rfl, Nat.le_of_ble_eq_true rfl⟩) (q0 := 0) rfl rfl rfl rfl ⟨Nat.le_of_ble_eq_true rfl, Nat.le_of_ble_eq_true rfl⟩ (Nat.le_of_ble_eq_true rfl) dX3_multiply_32 [.int (iZ ((K : Int))), .ref a] rfl (fun v2 hv2 => ?_)
      obtain ⟨b1, n1, f1, dc, ds, r1, r2, r3, r4, r5, r6, rfl⟩ := hv2
      refine w_cs dc ds (Nat.zero_add dc) (Nat.zero_add ds) ?_
      have r7 := gc_le r2
      have hf1 : ∀ i : Nat, i < k → f1 i = f i := fun i hi => r4 i (by omega)
      refine w_aload_n C dX3_multiply_35 1 rfl ?_
      refine w_get (ci := 3) (ref := "RootIsolator$Whole") (T := TX3) (Cn := RX3) (N := 3) C (fun w h => wC_in (inX3 w h)) 0 rfl rfl 1 (by decide) (wC_in fX3_13) rfl rfl dX3_multiply_36 ?_
      refine w_istore_n C [(3, .int (iZ ((k : Int)))), (2, .int (iZ ((K : Int)))), (0, .ref a), (1, .ref a2)] dX3_multiply_39 rfl (by decide) rfl ?_
      have lp0 : ∀ (d : Nat) (i : Nat) (h : Nat → Int32), K < i + d → k ≤ i ∧ i ≤ K → (∀ j : Nat, j < k → h j = f j) → (∀ j : Nat, k ≤ j → j < i → h j = 0) → ZW p l e ({ frames := 2, cells := 11, slots := 4096, locals := 62 }) s m ([.ref a, .ref a2] : List Value).toArray below meth c D (va_A ((a, .inr (3, [.ref b, .int (iZ ((k : Int))), .int (iZ (x.sign))])) :: (b, .inl (G 0, n, .inl f)) :: (a2, .inr (3, [.ref b2, .int (iZ ((k2 : Int))), .int (iZ (y.sign))])) :: (b2, .inl (G 0, n2, .inl g)) :: X : va_W) sz) 11 dc ds (MQ below (va_Qv (fun u : cS => ∃ (b1 n1 k1 : Nat) (f1 : Nat → Int32) (dc ds : Nat), n ≤ n1 ∧ n1 ≤ 2048 ∧ wN n1 f1 k1 (x * y) ∧ dc + gc n ≤ gc n1 ∧ ds + 2 * n ≤ 2 * n1 ∧ u = (((a, .inr (3, [.ref b1, .int (iZ ((k1 : Int))), .int (iZ ((x * y).sign))])) :: (b1, .inl (G 0, n1, .inl f1)) :: (a2, .inr (3, [.ref b2, .int (iZ ((k2 : Int))), .int (iZ (y.sign))])) :: (b2, .inl (G 0, n2, .inl g)) :: X : va_W), dc, ds)) (cAt D G (va_A ((a, .inr (3, [.ref b, .int (iZ ((k : Int))), .int (iZ (x.sign))])) :: (b, .inl (G 0, n, .inl f)) :: (a2, .inr (3, [.ref b2, .int (iZ ((k2 : Int))), .int (iZ (y.sign))])) :: (b2, .inl (G 0, n2, .inl g)) :: X : va_W) sz) sz hs) (va_A ((a, .inr (3, [.ref b, .int (iZ ((k : Int))), .int (iZ (x.sign))])) :: (b, .inl (G 0, n, .inl f)) :: (a2, .inr (3, [.ref b2, .int (iZ ((k2 : Int))), .int (iZ (y.sign))])) :: (b2, .inl (G 0, n2, .inl g)) :: X : va_W) sz)) ([.ref a, .ref a2] : List Value).toArray s 11 4096 (va_A ((a, .inr (3, [.ref b, .int (iZ ((k : Int))), .int (iZ (x.sign))])) :: (b, .inl (G 0, n, .inl f)) :: (a2, .inr (3, [.ref b2, .int (iZ ((k2 : Int))), .int (iZ (y.sign))])) :: (b2, .inl (G 0, n2, .inl g)) :: X : va_W) sz)) ((a, .inr (3, [.ref b1, .int (iZ ((k : Int))), .int (iZ (x.sign))])) :: (b1, .inl (G 0, n1, .inl h)) :: (a2, .inr (3, [.ref b2, .int (iZ ((k2 : Int))), .int (iZ (y.sign))])) :: (b2, .inl (G 0, n2, .inl g)) :: X : va_W) 40 [(3, .int (iZ ((i : Int)))), (2, .int (iZ ((K : Int)))), (0, .ref a), (1, .ref a2)] [] := by
        intro d
        induction d with
        | zero =>
          intro i h hd hi hlo hze
          exact absurd hd (by omega)
        | succ d ih2 =>
          intro i h hd hi hlo hze
          refine w_iload_n C dX3_multiply_40 0 rfl ?_
          refine w_iload_n C dX3_multiply_41 1 rfl ?_
          refine w_icmp_ge C 58 dX3_multiply_42 (by decide) ⟨⟨by omega, by omega⟩, by omega, by omega⟩ (fun c42 => ?_) (fun c42 => ?_)
          · refine w_aload_n C dX3_multiply_58 2 rfl ?_
            refine w_get (ci := 3) (ref := "RootIsolator$Whole") (T := TX3) (Cn := RX3) (N := 3) C (fun w h => wC_in (inX3 w h)) 0 rfl rfl 1 (by decide) (wC_in fX3_13) rfl rfl dX3_multiply_59 ?_
            refine w_iconst C dX3_multiply_62 ?_
            refine w_isub C dX3_multiply_63 ?_
            refine w_istore_n C [(3, .int (iZ ((k : Int) - 1))), (2, .int (iZ ((K : Int)))), (0, .ref a), (1, .ref a2)] dX3_multiply_64 rfl (by decide) rfl ?_
            have hi0 : i = K := by omega
            subst hi0
            have hy0 : y ≠ 0 := fun h => c11 (by rw [h]; rfl)
            have hY : 1 ≤ zw g k2 := by omega
            have hlim0 : lim h i := fun j hj => by
              rcases Nat.lt_or_ge j k with q | q
              · rw [hlo j q]; exact hx2 j q
              · rw [hze j q hj]; exact ⟨Int.le_refl 0, by decide⟩
            have hv0 : zw h i = zw f k := by rw [zw_zero (j := k) (by omega) hze]; exact zw_congr hlo
            skip
            have lp1 : ∀ (d : Nat) (o : Nat) (h1 : Nat → Int32), o < d → o ≤ k → lim h1 i → (∀ j : Nat, j < o → h1 j = f j) → zw h1 i = zw f o + (zw f k - zw f o) * zw g k2 → ZW p l e ({ frames := 2, cells := 11, slots := 4096, locals := 62 }) s m ([.ref a, .ref a2] : List Value).toArray below meth c D (va_A ((a, .inr (3, [.ref b, .int (iZ ((k : Int))), .int (iZ (x.sign))])) :: (b, .inl (G 0, n, .inl f)) :: (a2, .inr (3, [.ref b2, .int (iZ ((k2 : Int))), .int (iZ (y.sign))])) :: (b2, .inl (G 0, n2, .inl g)) :: X : va_W) sz) 11 dc ds (MQ below (va_Qv (fun u : cS => ∃ (b1 n1 k1 : Nat) (f1 : Nat → Int32) (dc ds : Nat), n ≤ n1 ∧ n1 ≤ 2048 ∧ wN n1 f1 k1 (x * y) ∧ dc + gc n ≤ gc n1 ∧ ds + 2 * n ≤ 2 * n1 ∧ u = (((a, .inr (3, [.ref b1, .int (iZ ((k1 : Int))), .int (iZ ((x * y).sign))])) :: (b1, .inl (G 0, n1, .inl f1)) :: (a2, .inr (3, [.ref b2, .int (iZ ((k2 : Int))), .int (iZ (y.sign))])) :: (b2, .inl (G 0, n2, .inl g)) :: X : va_W), dc, ds)) (cAt D G (va_A ((a, .inr (3, [.ref b, .int (iZ ((k : Int))), .int (iZ (x.sign))])) :: (b, .inl (G 0, n, .inl f)) :: (a2, .inr (3, [.ref b2, .int (iZ ((k2 : Int))), .int (iZ (y.sign))])) :: (b2, .inl (G 0, n2, .inl g)) :: X : va_W) sz) sz hs) (va_A ((a, .inr (3, [.ref b, .int (iZ ((k : Int))), .int (iZ (x.sign))])) :: (b, .inl (G 0, n, .inl f)) :: (a2, .inr (3, [.ref b2, .int (iZ ((k2 : Int))), .int (iZ (y.sign))])) :: (b2, .inl (G 0, n2, .inl g)) :: X : va_W) sz)) ([.ref a, .ref a2] : List Value).toArray s 11 4096 (va_A ((a, .inr (3, [.ref b, .int (iZ ((k : Int))), .int (iZ (x.sign))])) :: (b, .inl (G 0, n, .inl f)) :: (a2, .inr (3, [.ref b2, .int (iZ ((k2 : Int))), .int (iZ (y.sign))])) :: (b2, .inl (G 0, n2, .inl g)) :: X : va_W) sz)) ((a, .inr (3, [.ref b1, .int (iZ ((k : Int))), .int (iZ (x.sign))])) :: (b1, .inl (G 0, n1, .inl h1)) :: (a2, .inr (3, [.ref b2, .int (iZ ((k2 : Int))), .int (iZ (y.sign))])) :: (b2, .inl (G 0, n2, .inl g)) :: X : va_W) 65 [(3, .int (iZ ((o : Int) - 1))), (2, .int (iZ ((i : Int)))), (0, .ref a), (1, .ref a2)] [] := by
              intro d
              induction d with
              | zero =>
                intro o h1 hd ho hl1 hlo1 hv1
                exact absurd hd (by omega)
              | succ d ih2 =>
                intro o h1 hd ho hl1 hlo1 hv1
                refine w_iload_n C dX3_multiply_65 0 rfl ?_
                refine w_if_lt C 223 dX3_multiply_66 (by decide) ⟨by omega, by omega⟩ (fun c66 => ?_) (fun c66 => ?_)
                · have ho0 : o = 0 := by omega
                  subst ho0
                  have hvf : zw h1 i = (x.natAbs : Int) * (y.natAbs : Int) := by
                    rw [hv1, hx4, hy4]; simp [zw]
                  have hx0 : x ≠ 0 := fun h => c4 (by rw [h]; rfl)
                  refine w_aload_n C dX3_multiply_223 2 rfl ?_
                  refine w_dup C dX3_multiply_224 rfl ?_
                  refine w_get (ci := 3) (ref := "RootIsolator$Whole") (T := TX3) (Cn := RX3) (N := 3) C (fun w h => wC_in (inX3 w h)) 0 rfl rfl 2 (by decide) (wC_in fX3_17) rfl rfl dX3_multiply_225 ?_
                  refine w_aload_n C dX3_multiply_228 3 rfl ?_
                  refine w_get (ci := 3) (ref := "RootIsolator$Whole") (T := TX3) (Cn := RX3) (N := 3) C (fun w h => wC_in (inX3 w h)) 2 rfl rfl 2 (by decide) (wC_in fX3_17) rfl rfl dX3_multiply_229 ?_
                  refine w_imul C dX3_multiply_232 ?_
                  refine w_put (ci := 3) (ref := "RootIsolator$Whole") (T := TX3) (Cn := RX3) (N := 3) (ty := .int) C ((a, .inr (3, [.ref b1, .int (iZ ((k : Int))), .int (iZ (x.sign * y.sign))])) :: (b1, .inl (G 0, n1, .inl h1)) :: (a2, .inr (3, [.ref b2, .int (iZ ((k2 : Int))), .int (iZ (y.sign))])) :: (b2, .inl (G 0, n2, .inl g)) :: X : va_W) (fun w h => wC_in (inX3 w h)) tyX3 tyX3_ok nmX3 0 rfl rfl 2 (by decide) (wC_in fX3_17) rfl rfl (by decide +kernel) rfl rfl (Nat.le_of_ble_eq_true rfl) rfl dX3_multiply_233 ?_
                  refine w_aload_n C dX3_multiply_236 2 rfl ?_
                  refine w_iload_n C dX3_multiply_237 1 rfl ?_
                  refine g_callv [.int (iZ ((i : Int)))] hA C hNs nT_ok (cw_trim l D G ((a2, .inr (3, [.ref b2, .int (iZ ((k2 : Int))), .int (iZ (y.sign))])) :: (b2, .inl (G 0, n2, .inl g)) :: X : va_W) a b1 n1 i h1 (iZ (k : Int)) (x.sign * y.sign) (by omega) (by omega) (by rcases sg_mul hx0 hy0 (z := 0) with q | q | q <;> omega)) (cwV 1 C.1.2.2.2.2 (wC_V kX3_36 nX3_trim slX3_trim iniX3 cdX3_trim) rfl rfl rfl (by decide +kernel) ⟨Nat.le_of_ble_eq_true rfl, Nat.le_of_ble_eq_true rfl⟩) (q0 := 0) rfl rfl rfl rfl ⟨by show dc + 0 ≤ 11; omega, by show ds + 0 ≤ 4096; omega⟩ (Nat.le_of_ble_eq_true rfl) dX3_multiply_238 [.int (iZ ((i : Int))), .ref a] rfl (fun v303 hv303 => ?_)
                  obtain ⟨j, j1, j2, j3, rfl⟩ := hv303
                  refine w_cs dc ds rfl rfl ?_
                  obtain ⟨t1, t2⟩ := wN_trim (n := n1) (N := i) (sg := x.sign * y.sign) (by omega) hl1 j1 j2 j3 (sg_mul hx0 hy0)
                  rw [hvf, sgn_mulm hx0 hy0] at t1 t2
                  exact g_vret hsz hhs C hr hlk ⟨by omega, by omega⟩ (⟨b1, n1, j, h1, dc, ds, by omega, by omega, t1, by omega, by omega, by rw [t2]⟩) dX3_multiply_241
                · obtain ⟨q, rfl⟩ : ∃ q : Nat, o = q + 1 := ⟨o - 1, by omega⟩
                  have hfq := hx2 q (by omega)
                  have hzq : zw f (q + 1) = zw f q + (f q).toInt * 2 ^ (30 * q) := rfl
                  refine w_sub [(3, .int (iZ (q : Int))), (2, .int (iZ (i : Int))), (0, .ref a), (1, .ref a2)] [0, 1, 2, 3] (by rw [show ((q + 1 : Nat) : Int) - 1 = (q : Int) by omega]; rfl) ?_
                  obtain ⟨lf, hlf⟩ : ∃ lf : Int, lf = (f q).toInt := ⟨_, rfl⟩
                  refine w_aload_n C dX3_multiply_69 2 rfl ?_
                  refine w_get (ci := 3) (ref := "RootIsolator$Whole") (T := TX3) (Cn := RX3) (N := 3) C (fun w h => wC_in (inX3 w h)) 0 rfl rfl 0 (by decide) (wC_in fX3_9) rfl rfl dX3_multiply_70 ?_
                  refine w_iload_n C dX3_multiply_73 0 rfl ?_
                  refine w_iald C 1 0 rfl rfl (q) (lf) ⟨by omega, by omega, by omega⟩ ((hlo1 q (by omega)).trans (by rw [hlf]; exact (iZ_self _).symm)) dX3_multiply_74 ?_
                  refine w_i2l C dX3_multiply_75 ⟨by omega, by omega⟩ ?_
                  refine w_lstore C [(4, .long (lZ (lf))), (3, .int (iZ ((q : Int)))), (2, .int (iZ ((i : Int)))), (0, .ref a), (1, .ref a2)] dX3_multiply_76 (by decide) rfl ?_
                  refine w_aload_n C dX3_multiply_78 3 rfl ?_
                  refine w_get (ci := 3) (ref := "RootIsolator$Whole") (T := TX3) (Cn := RX3) (N := 3) C (fun w h => wC_in (inX3 w h)) 0 rfl rfl 0 (by decide) (wC_in fX3_9) rfl rfl dX3_multiply_79 ?_
                  refine w_iload_n C dX3_multiply_82 1 rfl ?_
                  refine w_iconst C dX3_multiply_83 ?_
                  refine w_iast C ((a, .inr (3, [.ref b1, .int (iZ ((k : Int))), .int (iZ (x.sign))])) :: (b1, .inl (G 0, n1, .inl (upd h1 (q) (iZ (0))))) :: (a2, .inr (3, [.ref b2, .int (iZ ((k2 : Int))), .int (iZ (y.sign))])) :: (b2, .inl (G 0, n2, .inl g)) :: X : va_W) 1 0 rfl rfl (q) ⟨by omega, by omega, by omega⟩ rfl dX3_multiply_84 ?_
                  refine w_lconst C 0 dX3_multiply_85 rfl ?_
                  refine w_lstore C [(6, .long (lZ (0))), (4, .long (lZ (lf))), (3, .int (iZ ((q : Int)))), (2, .int (iZ ((i : Int)))), (0, .ref a), (1, .ref a2)] dX3_multiply_86 (by decide) rfl ?_
                  refine w_iconst C dX3_multiply_88 ?_
                  refine w_istore C [(8, .int (iZ (0))), (6, .long (lZ (0))), (4, .long (lZ (lf))), (3, .int (iZ ((q : Int)))), (2, .int (iZ ((i : Int)))), (0, .ref a), (1, .ref a2)] dX3_multiply_89 (by decide) rfl ?_
                  obtain ⟨hz, hhz⟩ : ∃ hz : Nat → Int32, hz = upd h1 q (iZ 0) := ⟨_, rfl⟩
                  rw [← hhz]
                  have hlz : lim hz i := by rw [hhz]; exact lim_set hl1 ⟨Int.le_refl 0, by decide⟩
                  have hloz : ∀ j : Nat, j < q → hz j = f j := fun j hj => by rw [hhz, upd_ne (by omega)]; exact hlo1 j (by omega)
                  have hvz : zw hz i = zw f q + (zw f k - zw f (q + 1)) * zw g k2 := by
                    have e0 : (iZ 0).toInt = 0 := rfl
                    rw [hhz, zw_set (by omega), hlo1 q (by omega), e0, hv1, hzq, Int.zero_sub, Int.neg_mul]; omega
                  have hbd := mul_bd (q := q) hx2 hy2 (by omega) hY
                  have hPe : (zw f k - zw f q) * zw g k2 = (zw f k - zw f (q + 1)) * zw g k2 + lf * 2 ^ (30 * q) * zw g k2 := by
                    rw [← Int.add_mul, hzq, hlf]; congr 1; omega
                  have lp2 : ∀ (d : Nat) (j : Nat) (cy : Int) (h2 : Nat → Int32), k2 < j + d → j ≤ k2 → 0 ≤ cy ∧ cy < 1073741824 → lim h2 i → (∀ t : Nat, t < q → h2 t = f t) → zw h2 i + cy * 2 ^ (30 * (q + j)) = zw hz i + lf * 2 ^ (30 * q) * zw g j → ZW p l e ({ frames := 2, cells := 11, slots := 4096, locals := 62 }) s m ([.ref a, .ref a2] : List Value).toArray below meth c D (va_A ((a, .inr (3, [.ref b, .int (iZ ((k : Int))), .int (iZ (x.sign))])) :: (b, .inl (G 0, n, .inl f)) :: (a2, .inr (3, [.ref b2, .int (iZ ((k2 : Int))), .int (iZ (y.sign))])) :: (b2, .inl (G 0, n2, .inl g)) :: X : va_W) sz) 11 dc ds (MQ below (va_Qv (fun u : cS => ∃ (b1 n1 k1 : Nat) (f1 : Nat → Int32) (dc ds : Nat), n ≤ n1 ∧ n1 ≤ 2048 ∧ wN n1 f1 k1 (x * y) ∧ dc + gc n ≤ gc n1 ∧ ds + 2 * n ≤ 2 * n1 ∧ u = (((a, .inr (3, [.ref b1, .int (iZ ((k1 : Int))), .int (iZ ((x * y).sign))])) :: (b1, .inl (G 0, n1, .inl f1)) :: (a2, .inr (3, [.ref b2, .int (iZ ((k2 : Int))), .int (iZ (y.sign))])) :: (b2, .inl (G 0, n2, .inl g)) :: X : va_W), dc, ds)) (cAt D G (va_A ((a, .inr (3, [.ref b, .int (iZ ((k : Int))), .int (iZ (x.sign))])) :: (b, .inl (G 0, n, .inl f)) :: (a2, .inr (3, [.ref b2, .int (iZ ((k2 : Int))), .int (iZ (y.sign))])) :: (b2, .inl (G 0, n2, .inl g)) :: X : va_W) sz) sz hs) (va_A ((a, .inr (3, [.ref b, .int (iZ ((k : Int))), .int (iZ (x.sign))])) :: (b, .inl (G 0, n, .inl f)) :: (a2, .inr (3, [.ref b2, .int (iZ ((k2 : Int))), .int (iZ (y.sign))])) :: (b2, .inl (G 0, n2, .inl g)) :: X : va_W) sz)) ([.ref a, .ref a2] : List Value).toArray s 11 4096 (va_A ((a, .inr (3, [.ref b, .int (iZ ((k : Int))), .int (iZ (x.sign))])) :: (b, .inl (G 0, n, .inl f)) :: (a2, .inr (3, [.ref b2, .int (iZ ((k2 : Int))), .int (iZ (y.sign))])) :: (b2, .inl (G 0, n2, .inl g)) :: X : va_W) sz)) ((a, .inr (3, [.ref b1, .int (iZ ((k : Int))), .int (iZ (x.sign))])) :: (b1, .inl (G 0, n1, .inl h2)) :: (a2, .inr (3, [.ref b2, .int (iZ ((k2 : Int))), .int (iZ (y.sign))])) :: (b2, .inl (G 0, n2, .inl g)) :: X : va_W) 91 [(8, .int (iZ ((j : Int)))), (6, .long (lZ (cy))), (4, .long (lZ (lf))), (3, .int (iZ ((q : Int)))), (2, .int (iZ ((i : Int)))), (0, .ref a), (1, .ref a2)] [] := by
                    intro d
                    induction d with
                    | zero =>
                      intro j cy h2 hd hj hcy hl2 hlo2 hv2
                      exact absurd hd (by omega)
                    | succ d ih3 =>
                      intro j cy h2 hd hj hcy hl2 hlo2 hv2
                      refine w_iload C dX3_multiply_91 0 rfl ?_
                      refine w_aload_n C dX3_multiply_93 6 rfl ?_
                      refine w_get (ci := 3) (ref := "RootIsolator$Whole") (T := TX3) (Cn := RX3) (N := 3) C (fun w h => wC_in (inX3 w h)) 2 rfl rfl 1 (by decide) (wC_in fX3_13) rfl rfl dX3_multiply_94 ?_
                      refine w_icmp_ge C 156 dX3_multiply_97 (by decide) ⟨⟨by omega, by omega⟩, by omega, by omega⟩ (fun c97 => ?_) (fun c97 => ?_)
                      · refine w_iload_n C dX3_multiply_156 3 rfl ?_
                        refine w_aload_n C dX3_multiply_157 6 rfl ?_
                        refine w_get (ci := 3) (ref := "RootIsolator$Whole") (T := TX3) (Cn := RX3) (N := 3) C (fun w h => wC_in (inX3 w h)) 2 rfl rfl 1 (by decide) (wC_in fX3_13) rfl rfl dX3_multiply_158 ?_
                        refine w_iadd C dX3_multiply_161 ?_
                        refine w_istore C [(8, .int (iZ ((q : Int) + (k2 : Int)))), (6, .long (lZ (cy))), (4, .long (lZ (lf))), (3, .int (iZ ((q : Int)))), (2, .int (iZ ((i : Int)))), (0, .ref a), (1, .ref a2)] dX3_multiply_162 (by decide) rfl ?_
                        have hjk : j = k2 := by omega
                        subst hjk
                        have lp3 : ∀ (d : Nat) (t : Nat) (cy3 : Int) (h3 : Nat → Int32), i < t + d → q + j ≤ t ∧ t ≤ i → 0 ≤ cy3 ∧ cy3 < 1073741824 → lim h3 i → (∀ z : Nat, z < q → h3 z = f z) → zw h3 i + cy3 * 2 ^ (30 * t) = zw f q + (zw f k - zw f q) * zw g j → ZW p l e ({ frames := 2, cells := 11, slots := 4096, locals := 62 }) s m ([.ref a, .ref a2] : List Value).toArray below meth c D (va_A ((a, .inr (3, [.ref b, .int (iZ ((k : Int))), .int (iZ (x.sign))])) :: (b, .inl (G 0, n, .inl f)) :: (a2, .inr (3, [.ref b2, .int (iZ ((j : Int))), .int (iZ (y.sign))])) :: (b2, .inl (G 0, n2, .inl g)) :: X : va_W) sz) 11 dc ds (MQ below (va_Qv (fun u : cS => ∃ (b1 n1 k1 : Nat) (f1 : Nat → Int32) (dc ds : Nat), n ≤ n1 ∧ n1 ≤ 2048 ∧ wN n1 f1 k1 (x * y) ∧ dc + gc n ≤ gc n1 ∧ ds + 2 * n ≤ 2 * n1 ∧ u = (((a, .inr (3, [.ref b1, .int (iZ ((k1 : Int))), .int (iZ ((x * y).sign))])) :: (b1, .inl (G 0, n1, .inl f1)) :: (a2, .inr (3, [.ref b2, .int (iZ ((j : Int))), .int (iZ (y.sign))])) :: (b2, .inl (G 0, n2, .inl g)) :: X : va_W), dc, ds)) (cAt D G (va_A ((a, .inr (3, [.ref b, .int (iZ ((k : Int))), .int (iZ (x.sign))])) :: (b, .inl (G 0, n, .inl f)) :: (a2, .inr (3, [.ref b2, .int (iZ ((j : Int))), .int (iZ (y.sign))])) :: (b2, .inl (G 0, n2, .inl g)) :: X : va_W) sz) sz hs) (va_A ((a, .inr (3, [.ref b, .int (iZ ((k : Int))), .int (iZ (x.sign))])) :: (b, .inl (G 0, n, .inl f)) :: (a2, .inr (3, [.ref b2, .int (iZ ((j : Int))), .int (iZ (y.sign))])) :: (b2, .inl (G 0, n2, .inl g)) :: X : va_W) sz)) ([.ref a, .ref a2] : List Value).toArray s 11 4096 (va_A ((a, .inr (3, [.ref b, .int (iZ ((k : Int))), .int (iZ (x.sign))])) :: (b, .inl (G 0, n, .inl f)) :: (a2, .inr (3, [.ref b2, .int (iZ ((j : Int))), .int (iZ (y.sign))])) :: (b2, .inl (G 0, n2, .inl g)) :: X : va_W) sz)) ((a, .inr (3, [.ref b1, .int (iZ ((k : Int))), .int (iZ (x.sign))])) :: (b1, .inl (G 0, n1, .inl h3)) :: (a2, .inr (3, [.ref b2, .int (iZ ((j : Int))), .int (iZ (y.sign))])) :: (b2, .inl (G 0, n2, .inl g)) :: X : va_W) 164 [(8, .int (iZ ((t : Int)))), (6, .long (lZ (cy3))), (4, .long (lZ (lf))), (3, .int (iZ ((q : Int)))), (2, .int (iZ ((i : Int)))), (0, .ref a), (1, .ref a2)] [] := by
                          intro d
                          induction d with
                          | zero =>
                            intro t cy3 h3 hd ht hcy3 hl3 hlo3 hv3
                            exact absurd hd (by omega)
                          | succ d ih4 =>
                            intro t cy3 h3 hd ht hcy3 hl3 hlo3 hv3
                            refine w_lload C dX3_multiply_164 1 rfl ?_
                            refine w_lconst C 0 dX3_multiply_166 rfl ?_
                            refine w_lif_eq C 217 dX3_multiply_167 dX3_multiply_168 (by decide) ⟨⟨by omega, by omega⟩, by omega, by omega⟩ (fun c167 => ?_) (fun c167 => ?_)
                            · have hfin : zw h3 i = zw f q + (zw f k - zw f q) * zw g j := by
                                by_cases c0 : cy3 = 0
                                · rw [c0, Int.zero_mul, Int.add_zero] at hv3; exact hv3
                                · have hti : t = i := by omega
                                  rw [hti] at hv3
                                  have b1 := Int.mul_le_mul_of_nonneg_right (show (1 : Int) ≤ cy3 by omega) (Int.le_of_lt (p30_pos i))
                                  have b2 := zw_nonneg hl3
                                  rw [Int.one_mul] at b1
                                  have b3 := hbd.2
                                  rw [← hK] at b3
                                  omega
                              refine w_iinc C ((q : Int) - 1) (by omega) [(3, .int (iZ ((q : Int) - 1))), (8, .int (iZ ((t : Int)))), (6, .long (lZ (cy3))), (4, .long (lZ (lf))), (2, .int (iZ ((i : Int)))), (0, .ref a), (1, .ref a2)] dX3_multiply_217 3 rfl (by decide) rfl ?_
                              refine w_goto C 65 dX3_multiply_220 (by decide) ?_
                              refine w_sub [(3, .int (iZ ((q : Int) - 1))), (2, .int (iZ ((i : Int)))), (0, .ref a), (1, .ref a2)] [0, 4, 5, 6] rfl ?_
                              exact ih2 q h3 (by omega) (by omega) hl3 hlo3 (by omega)
                            · refine w_iload C dX3_multiply_171 0 rfl ?_
                              refine w_iload_n C dX3_multiply_173 4 rfl ?_
                              refine w_icmp_ge C 217 dX3_multiply_174 (by decide) ⟨⟨by omega, by omega⟩, by omega, by omega⟩ (fun c174 => ?_) (fun c174 => ?_)
                              · have hfin : zw h3 i = zw f q + (zw f k - zw f q) * zw g j := by
                                  by_cases c0 : cy3 = 0
                                  · rw [c0, Int.zero_mul, Int.add_zero] at hv3; exact hv3
                                  · have hti : t = i := by omega
                                    rw [hti] at hv3
                                    have b1 := Int.mul_le_mul_of_nonneg_right (show (1 : Int) ≤ cy3 by omega) (Int.le_of_lt (p30_pos i))
                                    have b2 := zw_nonneg hl3
                                    rw [Int.one_mul] at b1
                                    have b3 := hbd.2
                                    rw [← hK] at b3
                                    omega
                                refine w_iinc C ((q : Int) - 1) (by omega) [(3, .int (iZ ((q : Int) - 1))), (8, .int (iZ ((t : Int)))), (6, .long (lZ (cy3))), (4, .long (lZ (lf))), (2, .int (iZ ((i : Int)))), (0, .ref a), (1, .ref a2)] dX3_multiply_217 3 rfl (by decide) rfl ?_
                                refine w_goto C 65 dX3_multiply_220 (by decide) ?_
                                refine w_sub [(3, .int (iZ ((q : Int) - 1))), (2, .int (iZ ((i : Int)))), (0, .ref a), (1, .ref a2)] [0, 4, 5, 6] rfl ?_
                                exact ih2 q h3 (by omega) (by omega) hl3 hlo3 (by omega)
                              · refine w_aload_n C dX3_multiply_177 5 rfl ?_
                                refine w_get (ci := 3) (ref := "RootIsolator$Whole") (T := TX3) (Cn := RX3) (N := 3) C (fun w h => wC_in (inX3 w h)) 0 rfl rfl 0 (by decide) (wC_in fX3_9) rfl rfl dX3_multiply_178 ?_
                                refine w_iload C dX3_multiply_181 0 rfl ?_
                                have hh3 := hl3 t (by omega)
                                refine w_iald C 1 0 rfl rfl (t) ((h3 (t)).toInt) ⟨by omega, by omega, by omega⟩ ((iZ_self _).symm) dX3_multiply_183 ?_
                                refine w_i2l C dX3_multiply_184 ⟨by omega, by omega⟩ ?_
                                refine w_lload C dX3_multiply_185 1 rfl ?_
                                obtain ⟨w, hw⟩ : ∃ w : Int, w = (h3 t).toInt + cy3 := ⟨_, rfl⟩
                                refine w_ladd C dX3_multiply_187 ?_
                                refine w_topl C (w) (hw.symm) ?_
                                refine w_lstore C [(9, .long (lZ (w))), (8, .int (iZ ((t : Int)))), (6, .long (lZ (cy3))), (4, .long (lZ (lf))), (3, .int (iZ ((q : Int)))), (2, .int (iZ ((i : Int)))), (0, .ref a), (1, .ref a2)] dX3_multiply_188 (by decide) rfl ?_
                                refine w_aload_n C dX3_multiply_190 6 rfl ?_
                                refine w_get (ci := 3) (ref := "RootIsolator$Whole") (T := TX3) (Cn := RX3) (N := 3) C (fun w h => wC_in (inX3 w h)) 0 rfl rfl 0 (by decide) (wC_in fX3_9) rfl rfl dX3_multiply_191 ?_
                                refine w_iload C dX3_multiply_194 1 rfl ?_
                                refine w_lload C dX3_multiply_196 0 rfl ?_
                                refine w_ldc2 C (1073741823) dX3_multiply_198 (wC_in kclX3_20) ?_
                                refine w_land C dX3_multiply_201 (v := (lZ (w % 1073741824))) (lZ_and30 w) ?_
                                refine w_l2i C dX3_multiply_202 ?_
                                refine w_iast C ((a, .inr (3, [.ref b1, .int (iZ ((k : Int))), .int (iZ (x.sign))])) :: (b1, .inl (G 0, n1, .inl (upd h3 (t) (iZ (w % 1073741824))))) :: (a2, .inr (3, [.ref b2, .int (iZ ((j : Int))), .int (iZ (y.sign))])) :: (b2, .inl (G 0, n2, .inl g)) :: X : va_W) 1 0 rfl rfl (t) ⟨by omega, by omega, by omega⟩ rfl dX3_multiply_203 ?_
                                refine w_lload C dX3_multiply_204 0 rfl ?_
                                refine w_bipush C dX3_multiply_206 (by decide) ?_
                                refine w_lushr C dX3_multiply_208 (v := (lZ (w / 1073741824))) (lush30 (by omega)) ?_
                                refine w_lstore C [(6, .long (lZ (w / 1073741824))), (9, .long (lZ (w))), (8, .int (iZ ((t : Int)))), (4, .long (lZ (lf))), (3, .int (iZ ((q : Int)))), (2, .int (iZ ((i : Int)))), (0, .ref a), (1, .ref a2)] dX3_multiply_209 (by decide) rfl ?_
                                refine w_iinc C (((t + 1 : Nat) : Int)) (by omega) [(8, .int (iZ (((t + 1 : Nat) : Int)))), (6, .long (lZ (w / 1073741824))), (9, .long (lZ (w))), (4, .long (lZ (lf))), (3, .int (iZ ((q : Int)))), (2, .int (iZ ((i : Int)))), (0, .ref a), (1, .ref a2)] dX3_multiply_211 2 rfl (by decide) rfl ?_
                                refine w_goto C 164 dX3_multiply_214 (by decide) ?_
                                refine w_sub [(8, .int (iZ (((t + 1 : Nat) : Int)))), (6, .long (lZ (w / 1073741824))), (4, .long (lZ (lf))), (3, .int (iZ ((q : Int)))), (2, .int (iZ ((i : Int)))), (0, .ref a), (1, .ref a2)] [0, 1, 3, 4, 5, 6, 7] rfl ?_
                                exact ih4 (t + 1) (w / 1073741824) _ (by omega) (by omega) (by omega) (lim_set hl3 (by rw [iZ_toInt (by omega) (by omega)]; omega)) (fun z hz2 => by rw [upd_ne (by omega)]; exact hlo3 z hz2) (by
                                  have e := zw_step30 (w := w) (P := 0) (show t < i by omega) (by rw [hw, Int.add_zero]) (by omega) hv3
                                  rw [e, Int.zero_mul, Int.add_zero])
                        skip
                        exact lp3 (i + 1) (q + j) cy h2 (by omega) (by omega) hcy hl2 hlo2 (by rw [hv2, hvz]; omega)
                      · refine w_aload_n C dX3_multiply_100 5 rfl ?_
                        refine w_get (ci := 3) (ref := "RootIsolator$Whole") (T := TX3) (Cn := RX3) (N := 3) C (fun w h => wC_in (inX3 w h)) 0 rfl rfl 0 (by decide) (wC_in fX3_9) rfl rfl dX3_multiply_101 ?_
                        refine w_iload_n C dX3_multiply_104 3 rfl ?_
                        refine w_iload C dX3_multiply_105 0 rfl ?_
                        refine w_iadd C dX3_multiply_107 ?_
                        have hh2 := hl2 (q + j) (by omega)
                        refine w_iald C 1 0 rfl rfl (q + j) ((h2 (q + j)).toInt) ⟨by omega, by omega, by omega⟩ ((iZ_self _).symm) dX3_multiply_108 ?_
                        refine w_i2l C dX3_multiply_109 ⟨by omega, by omega⟩ ?_
                        refine w_lload C dX3_multiply_110 2 rfl ?_
                        refine w_aload_n C dX3_multiply_112 6 rfl ?_
                        refine w_get (ci := 3) (ref := "RootIsolator$Whole") (T := TX3) (Cn := RX3) (N := 3) C (fun w h => wC_in (inX3 w h)) 2 rfl rfl 0 (by decide) (wC_in fX3_9) rfl rfl dX3_multiply_113 ?_
                        refine w_iload C dX3_multiply_116 0 rfl ?_
                        have hg2 := hy2 j (by omega)
                        refine w_iald C 3 0 rfl rfl (j) ((g (j)).toInt) ⟨by omega, by omega, by omega⟩ ((iZ_self _).symm) dX3_multiply_118 ?_
                        refine w_i2l C dX3_multiply_119 ⟨by omega, by omega⟩ ?_
                        refine w_lmul C dX3_multiply_120 ?_
                        refine w_ladd C dX3_multiply_121 ?_
                        refine w_lload C dX3_multiply_122 1 rfl ?_
                        obtain ⟨w, hw⟩ : ∃ w : Int, w = ((h2 (q + j)).toInt + lf * (g j).toInt) + cy := ⟨_, rfl⟩
                        have hwr := mul_in hw (hlf ▸ hfq) hg2 hh2 hcy
                        refine w_ladd C dX3_multiply_124 ?_
                        refine w_topl C (w) (hw.symm) ?_
                        refine w_lstore C [(9, .long (lZ (w))), (8, .int (iZ ((j : Int)))), (6, .long (lZ (cy))), (4, .long (lZ (lf))), (3, .int (iZ ((q : Int)))), (2, .int (iZ ((i : Int)))), (0, .ref a), (1, .ref a2)] dX3_multiply_125 (by decide) rfl ?_
                        refine w_aload_n C dX3_multiply_127 6 rfl ?_
                        refine w_get (ci := 3) (ref := "RootIsolator$Whole") (T := TX3) (Cn := RX3) (N := 3) C (fun w h => wC_in (inX3 w h)) 0 rfl rfl 0 (by decide) (wC_in fX3_9) rfl rfl dX3_multiply_128 ?_
                        refine w_iload_n C dX3_multiply_131 4 rfl ?_
                        refine w_iload C dX3_multiply_132 1 rfl ?_
                        refine w_iadd C dX3_multiply_134 ?_
                        refine w_lload C dX3_multiply_135 0 rfl ?_
                        refine w_ldc2 C (1073741823) dX3_multiply_137 (wC_in kclX3_20) ?_
                        refine w_land C dX3_multiply_140 (v := (lZ (w % 1073741824))) (lZ_and30 w) ?_
                        refine w_l2i C dX3_multiply_141 ?_
                        refine w_iast C ((a, .inr (3, [.ref b1, .int (iZ ((k : Int))), .int (iZ (x.sign))])) :: (b1, .inl (G 0, n1, .inl (upd h2 (q + j) (iZ (w % 1073741824))))) :: (a2, .inr (3, [.ref b2, .int (iZ ((k2 : Int))), .int (iZ (y.sign))])) :: (b2, .inl (G 0, n2, .inl g)) :: X : va_W) 1 0 rfl rfl (q + j) ⟨by omega, by omega, by omega⟩ rfl dX3_multiply_142 ?_
                        refine w_lload C dX3_multiply_143 0 rfl ?_
                        refine w_bipush C dX3_multiply_145 (by decide) ?_
                        refine w_lushr C dX3_multiply_147 (v := (lZ (w / 1073741824))) (lush30 (by omega)) ?_
                        refine w_lstore C [(6, .long (lZ (w / 1073741824))), (9, .long (lZ (w))), (8, .int (iZ ((j : Int)))), (4, .long (lZ (lf))), (3, .int (iZ ((q : Int)))), (2, .int (iZ ((i : Int)))), (0, .ref a), (1, .ref a2)] dX3_multiply_148 (by decide) rfl ?_
                        refine w_iinc C (((j + 1 : Nat) : Int)) (by omega) [(8, .int (iZ (((j + 1 : Nat) : Int)))), (6, .long (lZ (w / 1073741824))), (9, .long (lZ (w))), (4, .long (lZ (lf))), (3, .int (iZ ((q : Int)))), (2, .int (iZ ((i : Int)))), (0, .ref a), (1, .ref a2)] dX3_multiply_150 2 rfl (by decide) rfl ?_
                        refine w_goto C 91 dX3_multiply_153 (by decide) ?_
                        refine w_sub [(8, .int (iZ (((j + 1 : Nat) : Int)))), (6, .long (lZ (w / 1073741824))), (4, .long (lZ (lf))), (3, .int (iZ ((q : Int)))), (2, .int (iZ ((i : Int)))), (0, .ref a), (1, .ref a2)] [0, 1, 3, 4, 5, 6, 7] rfl ?_
                        exact ih3 (j + 1) (w / 1073741824) _ (by omega) (by omega) (by omega) (lim_set hl2 (by rw [iZ_toInt (by omega) (by omega)]; omega)) (fun t ht => by rw [upd_ne (by omega)]; exact hlo2 t ht) (by
                          have e := zw_step30 (P := lf * (g j).toInt) (show q + j < i by omega) hw hwr hv2
                          rw [show q + (j + 1) = q + j + 1 by omega, e]
                          simp only [zw]
                          rw [Int.mul_add, Nat.mul_add, Int.pow_add]
                          have e2 : lf * (g j).toInt * (2 ^ (30 * q) * 2 ^ (30 * j)) = lf * 2 ^ (30 * q) * ((g j).toInt * 2 ^ (30 * j)) := by
                            simp only [Int.mul_assoc, Int.mul_comm, Int.mul_left_comm]
                          omega)
                  exact lp2 (k2 + 1) 0 0 hz (by omega) (by omega) (by omega) hlz hloz (by simp [zw])
            exact lp1 (k + 1) k h (by omega) (Nat.le_refl _) hlim0 hlo (by rw [hv0]; simp)
          · refine w_aload_n C dX3_multiply_45 2 rfl ?_
            refine w_get (ci := 3) (ref := "RootIsolator$Whole") (T := TX3) (Cn := RX3) (N := 3) C (fun w h => wC_in (inX3 w h)) 0 rfl rfl 0 (by decide) (wC_in fX3_9) rfl rfl dX3_multiply_46 ?_
            refine w_iload_n C dX3_multiply_49 0 rfl ?_
            refine w_iconst C dX3_multiply_50 ?_
            refine w_iast C ((a, .inr (3, [.ref b1, .int (iZ ((k : Int))), .int (iZ (x.sign))])) :: (b1, .inl (G 0, n1, .inl (upd h (i) (iZ (0))))) :: (a2, .inr (3, [.ref b2, .int (iZ ((k2 : Int))), .int (iZ (y.sign))])) :: (b2, .inl (G 0, n2, .inl g)) :: X : va_W) 1 0 rfl rfl (i) ⟨by omega, by omega, by omega⟩ rfl dX3_multiply_51 ?_
            refine w_iinc C (((i + 1 : Nat) : Int)) (by omega) [(3, .int (iZ (((i + 1 : Nat) : Int)))), (2, .int (iZ ((K : Int)))), (0, .ref a), (1, .ref a2)] dX3_multiply_52 0 rfl (by decide) rfl ?_
            refine w_goto C 40 dX3_multiply_55 (by decide) ?_
            exact ih2 (i + 1) _ (by omega) (by omega) (fun j hj => by rw [upd_ne (by omega)]; exact hlo j hj) (fun j h1 h2 => by
              rcases Nat.lt_or_ge j i with q | q
              · rw [upd_ne (by omega)]; exact hze j h1 q
              · have : j = i := by omega
                subst this; rw [upd_eq]; rfl)
      exact lp0 (K + 1) k f1 (by omega) (by omega) hf1 (fun j h1 h2 => absurd h1 (by omega))
    · have hz0 : x = 0 ∨ y = 0 := Or.inr (sgn_zero c11)
      refine w_aload_n C dX3_multiply_14 0 rfl ?_
      refine w_iconst C dX3_multiply_15 ?_
      refine g_callv [.int (iZ (0))] hA C hNs nT_ok (cw_trim l D G ((a2, .inr (3, [.ref b2, .int (iZ ((k2 : Int))), .int (iZ (y.sign))])) :: (b2, .inl (G 0, n2, .inl g)) :: X : va_W) a b n 0 f (iZ (k : Int)) (x.sign) (by omega) (by omega) (sgn_r _)) (cwV 1 C.1.2.2.2.2 (wC_V kX3_36 nX3_trim slX3_trim iniX3 cdX3_trim) rfl rfl rfl (by decide +kernel) ⟨Nat.le_of_ble_eq_true rfl, Nat.le_of_ble_eq_true rfl⟩) (q0 := 0) rfl rfl rfl rfl ⟨Nat.le_of_ble_eq_true rfl, Nat.le_of_ble_eq_true rfl⟩ (Nat.le_of_ble_eq_true rfl) dX3_multiply_16 [.int (iZ (0)), .ref a] rfl (fun v803 hv803 => ?_)
      obtain ⟨j, j1, j2, j3, rfl⟩ := hv803
      have j0 : j = 0 := by omega
      subst j0
      have hxy : x * y = 0 := by rcases hz0 with q | q <;> rw [q] <;> simp
      have t1 : wN n f 0 (x * y) := by rw [hxy]; exact ⟨by omega, fun i hi => absurd hi (by omega), fun i hi => absurd hi (by omega), rfl⟩
      exact g_vret hsz hhs C hr hlk ⟨Nat.zero_le _, Nat.zero_le _⟩ (⟨b, n, 0, f, 0, 0, by omega, by omega, t1, by omega, by omega, by rw [hxy]; rfl⟩) dX3_multiply_19
