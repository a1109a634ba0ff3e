set_option maxHeartbeats 4000000 in
set_option maxRecDepth 100000 in
/-- add: this number becomes the sum -/
theorem cw_add (l : Launch) (D : va_G) (G : Nat → ClassId) (X : va_W) (a b n k a2 b2 n2 k2 : Nat) (f g : Nat → Int32) (x y y1 as : Int) (hn1 : 1 ≤ n) (hn : n ≤ 2048) (hn2 : n2 ≤ 2048) (hx : wN n f k x) (hy : wN n2 g k2 y) (has : (as = 1 ∧ y1 = y) ∨ (as = -1 ∧ y1 = -y)) (hk : k ≤ 1023 ∧ k2 ≤ 1023) (sz hs : Nat) : Met l yX3_add (wC yX3_add cX3_add 5 none) ({ frames := 2, cells := 11, slots := 4096, locals := 62 }) (va_Pc [.ref a, .ref a2, .int (iZ (as))] (cPre nT D G ((a, .inr (3, [.ref b, .int (iZ ((k : Int))), .int (iZ (x.sign))])) :: (b, .inl (G 0, n, .inl f)) :: (a2, .inr (3, [.ref b2, .int (iZ ((k2 : Int))), .int (iZ (y.sign))])) :: (b2, .inl (G 0, n2, .inl g)) :: X : va_W) sz hs)) (va_Qv (fun u : cS => ∃ (b1 n1 k1 : Nat) (f1 : Nat → Int32) (dc ds : Nat), n ≤ n1 ∧ n1 ≤ 2048 ∧ wN n1 f1 k1 (x + y1) ∧ dc + gc n ≤ gc n1 ∧ ds + 2 * n ≤ 2 * n1 ∧ u = (((a, .inr (3, [.ref b1, .int (iZ ((k1 : Int))), .int (iZ ((x + y1).sign))])) :: (b1, .inl (G 0, n1, .inl f1)) :: (a2, .inr (3, [.ref b2, .int (iZ ((k2 : Int))), .int (iZ (y.sign))])) :: (b2, .inl (G 0, n2, .inl g)) :: X : va_W), dc, ds)) (cAt D G (va_A ((a, .inr (3, [.ref b, .int (iZ ((k : Int))), .int (iZ (x.sign))])) :: (b, .inl (G 0, n, .inl f)) :: (a2, .inr (3, [.ref b2, .int (iZ ((k2 : Int))), .int (iZ (y.sign))])) :: (b2, .inl (G 0, n2, .inl g)) :: X : va_W) sz) sz hs) (va_A ((a, .inr (3, [.ref b, .int (iZ ((k : Int))), .int (iZ (x.sign))])) :: (b, .inl (G 0, n, .inl f)) :: (a2, .inr (3, [.ref b2, .int (iZ ((k2 : Int))), .int (iZ (y.sign))])) :: (b2, .inl (G 0, n2, .inl g)) :: X : va_W) sz)) 11 4096 (va_A ((a, .inr (3, [.ref b, .int (iZ ((k : Int))), .int (iZ (x.sign))])) :: (b, .inl (G 0, n, .inl f)) :: (a2, .inr (3, [.ref b2, .int (iZ ((k2 : Int))), .int (iZ (y.sign))])) :: (b2, .inl (G 0, n2, .inl g)) :: X : va_W) sz) := by
  refine g_met (cc := cX3_add) (maxL := 5) (ret := none) (own := RX3) (by decide) rfl rfl (Nat.le_of_ble_eq_true rfl) ?_
  intro p e s m below meth c hsz hhs hNs hA C hr hlk
  refine w_sub [(0, .ref a), (1, .ref a2), (2, .int (iZ (as)))] [0, 1, 2] rfl ?_
  have hx1 := hx.1
  have hy1 := hy.1
  have hs1 := sgn_r x
  have hs2 := sgn_r y
  have hs3 := sgn_r y1
  obtain ⟨N, hN⟩ : ∃ N : Nat, N = max k k2 := ⟨_, rfl⟩
  have hya : (y1.natAbs : Int) = (y.natAbs : Int) := by omega
  have hyneg : as = -1 → -(y.sign) = y1.sign := fun h => by
    have : y1 = -y := by omega
    rw [this, Int.sign_neg]
  have hypos : as = 1 → y.sign = y1.sign := fun h => by rw [show y1 = y by omega]
  refine w_iload_n C dX3_add_0 2 rfl ?_
  have J1 : ZW p l e ({ frames := 2, cells := 11, slots := 4096, locals := 62 }) s m ([.ref a, .ref a2, .int (iZ (as))] : List Value).toArray below meth c D (va_A ((a, .inr (3, [.ref b, .int (iZ ((k : Int))), .int (iZ (x.sign))])) :: (b, .inl (G 0, n, .inl f)) :: (a2, .inr (3, [.ref b2, .int (iZ ((k2 : Int))), .int (iZ (y.sign))])) :: (b2, .inl (G 0, n2, .inl g)) :: X : va_W) sz) 5 0 0 (MQ below (va_Qv (fun u : cS => ∃ (b1 n1 k1 : Nat) (f1 : Nat → Int32) (dc ds : Nat), n ≤ n1 ∧ n1 ≤ 2048 ∧ wN n1 f1 k1 (x + y1) ∧ dc + gc n ≤ gc n1 ∧ ds + 2 * n ≤ 2 * n1 ∧ u = (((a, .inr (3, [.ref b1, .int (iZ ((k1 : Int))), .int (iZ ((x + y1).sign))])) :: (b1, .inl (G 0, n1, .inl f1)) :: (a2, .inr (3, [.ref b2, .int (iZ ((k2 : Int))), .int (iZ (y.sign))])) :: (b2, .inl (G 0, n2, .inl g)) :: X : va_W), dc, ds)) (cAt D G (va_A ((a, .inr (3, [.ref b, .int (iZ ((k : Int))), .int (iZ (x.sign))])) :: (b, .inl (G 0, n, .inl f)) :: (a2, .inr (3, [.ref b2, .int (iZ ((k2 : Int))), .int (iZ (y.sign))])) :: (b2, .inl (G 0, n2, .inl g)) :: X : va_W) sz) sz hs) (va_A ((a, .inr (3, [.ref b, .int (iZ ((k : Int))), .int (iZ (x.sign))])) :: (b, .inl (G 0, n, .inl f)) :: (a2, .inr (3, [.ref b2, .int (iZ ((k2 : Int))), .int (iZ (y.sign))])) :: (b2, .inl (G 0, n2, .inl g)) :: X : va_W) sz)) ([.ref a, .ref a2, .int (iZ (as))] : List Value).toArray s 11 4096 (va_A ((a, .inr (3, [.ref b, .int (iZ ((k : Int))), .int (iZ (x.sign))])) :: (b, .inl (G 0, n, .inl f)) :: (a2, .inr (3, [.ref b2, .int (iZ ((k2 : Int))), .int (iZ (y.sign))])) :: (b2, .inl (G 0, n2, .inl g)) :: X : va_W) sz)) ((a, .inr (3, [.ref b, .int (iZ ((k : Int))), .int (iZ (x.sign))])) :: (b, .inl (G 0, n, .inl f)) :: (a2, .inr (3, [.ref b2, .int (iZ ((k2 : Int))), .int (iZ (y.sign))])) :: (b2, .inl (G 0, n2, .inl g)) :: X : va_W) 16 [(0, .ref a), (1, .ref a2), (2, .int (iZ (as)))] [.int (iZ (y1.sign))] := by
    refine w_istore_n C [(3, .int (iZ (y1.sign))), (0, .ref a), (1, .ref a2), (2, .int (iZ (as)))] dX3_add_16 rfl (by decide) rfl ?_
    refine w_iload_n C dX3_add_17 0 rfl ?_
    refine w_if_ne C 22 dX3_add_18 (by decide) ⟨by omega, by omega⟩ (fun c18 => ?_) (fun c18 => ?_)
    · refine w_aload_n C dX3_add_22 1 rfl ?_
      refine w_get (ci := 3) (ref := "RootIsolator$Whole") (T := TX3) (Cn := RX3) (N := 3) C (fun w h => wC_in (inX3 w h)) 0 rfl rfl 2 (by decide) (wC_in fX3_17) rfl rfl dX3_add_23 ?_
      refine w_if_ne C 34 dX3_add_26 (by decide) ⟨by omega, by omega⟩ (fun c26 => ?_) (fun c26 => ?_)
      · refine w_aload_n C dX3_add_34 1 rfl ?_
        refine w_get (ci := 3) (ref := "RootIsolator$Whole") (T := TX3) (Cn := RX3) (N := 3) C (fun w h => wC_in (inX3 w h)) 0 rfl rfl 1 (by decide) (wC_in fX3_13) rfl rfl dX3_add_35 ?_
        refine w_aload_n C dX3_add_38 2 rfl ?_
        refine w_get (ci := 3) (ref := "RootIsolator$Whole") (T := TX3) (Cn := RX3) (N := 3) C (fun w h => wC_in (inX3 w h)) 2 rfl rfl 1 (by decide) (wC_in fX3_13) rfl rfl dX3_add_39 ?_
        have J2 : ZW p l e ({ frames := 2, cells := 11, slots := 4096, locals := 62 }) s m ([.ref a, .ref a2, .int (iZ (as))] : List Value).toArray below meth c D (va_A ((a, .inr (3, [.ref b, .int (iZ ((k : Int))), .int (iZ (x.sign))])) :: (b, .inl (G 0, n, .inl f)) :: (a2, .inr (3, [.ref b2, .int (iZ ((k2 : Int))), .int (iZ (y.sign))])) :: (b2, .inl (G 0, n2, .inl g)) :: X : va_W) sz) 5 0 0 (MQ below (va_Qv (fun u : cS => ∃ (b1 n1 k1 : Nat) (f1 : Nat → Int32) (dc ds : Nat), n ≤ n1 ∧ n1 ≤ 2048 ∧ wN n1 f1 k1 (x + y1) ∧ dc + gc n ≤ gc n1 ∧ ds + 2 * n ≤ 2 * n1 ∧ u = (((a, .inr (3, [.ref b1, .int (iZ ((k1 : Int))), .int (iZ ((x + y1).sign))])) :: (b1, .inl (G 0, n1, .inl f1)) :: (a2, .inr (3, [.ref b2, .int (iZ ((k2 : Int))), .int (iZ (y.sign))])) :: (b2, .inl (G 0, n2, .inl g)) :: X : va_W), dc, ds)) (cAt D G (va_A ((a, .inr (3, [.ref b, .int (iZ ((k : Int))), .int (iZ (x.sign))])) :: (b, .inl (G 0, n, .inl f)) :: (a2, .inr (3, [.ref b2, .int (iZ ((k2 : Int))), .int (iZ (y.sign))])) :: (b2, .inl (G 0, n2, .inl g)) :: X : va_W) sz) sz hs) (va_A ((a, .inr (3, [.ref b, .int (iZ ((k : Int))), .int (iZ (x.sign))])) :: (b, .inl (G 0, n, .inl f)) :: (a2, .inr (3, [.ref b2, .int (iZ ((k2 : Int))), .int (iZ (y.sign))])) :: (b2, .inl (G 0, n2, .inl g)) :: X : va_W) sz)) ([.ref a, .ref a2, .int (iZ (as))] : List Value).toArray s 11 4096 (va_A ((a, .inr (3, [.ref b, .int (iZ ((k : Int))), .int (iZ (x.sign))])) :: (b, .inl (G 0, n, .inl f)) :: (a2, .inr (3, [.ref b2, .int (iZ ((k2 : Int))), .int (iZ (y.sign))])) :: (b2, .inl (G 0, n2, .inl g)) :: X : va_W) sz)) ((a, .inr (3, [.ref b, .int (iZ ((k : Int))), .int (iZ (x.sign))])) :: (b, .inl (G 0, n, .inl f)) :: (a2, .inr (3, [.ref b2, .int (iZ ((k2 : Int))), .int (iZ (y.sign))])) :: (b2, .inl (G 0, n2, .inl g)) :: X : va_W) 56 [(3, .int (iZ (y1.sign))), (0, .ref a), (1, .ref a2), (2, .int (iZ (as)))] [.int (iZ ((N : Int)))] := by
          refine w_istore C [(4, .int (iZ ((N : Int)))), (3, .int (iZ (y1.sign))), (0, .ref a), (1, .ref a2), (2, .int (iZ (as)))] dX3_add_56 (by decide) rfl ?_
          refine w_aload_n C dX3_add_58 2 rfl ?_
          refine w_iload C dX3_add_59 0 rfl ?_
          refine w_iconst C dX3_add_61 ?_
          refine w_iadd C dX3_add_62 ?_
          refine w_top C (((N + 1 : Nat) : Int)) (by omega) ?_
          refine g_callv [.int (iZ (((N + 1 : Nat) : Int)))] hA C hNs nT_ok (cw_makeRoom l D G ((a2, .inr (3, [.ref b2, .int (iZ ((k2 : Int))), .int (iZ (y.sign))])) :: (b2, .inl (G 0, n2, .inl g)) :: X : va_W) a b n (N + 1) f (iZ (k : Int)) (iZ (x.sign)) hn1 hn (by omega)) (cwV 1 C.1.2.2.2.2 (wC_V kX3_22 nX3_makeRoom slX3_makeRoom iniX3 cdX3_makeRoom) rfl rfl rfl (by decide +kernel) ⟨Nat.le_of_ble_eq_true rfl, Nat.le_of_ble_eq_true rfl⟩) (q0 := 0) rfl rfl rfl rfl ⟨Nat.le_of_ble_eq_true rfl, Nat.le_of_ble_eq_true rfl⟩ (Nat.le_of_ble_eq_true rfl) dX3_add_63 [.int (iZ (((N + 1 : Nat) : Int))), .ref a] rfl (fun v3 hv3 => ?_)
          obtain ⟨b1, n1, f1, dc, ds, r1, r2, r3, r4, r5, r6, rfl⟩ := hv3
          refine w_cs dc ds (Nat.zero_add dc) (Nat.zero_add ds) ?_
          have r7 := gc_le r2
          have hx5 : wN n1 f1 k x := wN_congr hx (by omega) (fun i hi => r4 i (by omega))
          refine w_aload_n C dX3_add_66 2 rfl ?_
          refine w_get (ci := 3) (ref := "RootIsolator$Whole") (T := TX3) (Cn := RX3) (N := 3) C (fun w h => wC_in (inX3 w h)) 0 rfl rfl 2 (by decide) (wC_in fX3_17) rfl rfl dX3_add_67 ?_
          refine w_iload_n C dX3_add_70 1 rfl ?_
          refine w_icmp_ne C 88 dX3_add_71 (by decide) ⟨⟨by omega, by omega⟩, by omega, by omega⟩ (fun c71 => ?_) (fun c71 => ?_)
          · refine w_aload_n C dX3_add_88 2 rfl ?_
            refine w_aload_n C dX3_add_89 3 rfl ?_
            refine g_calli [.ref a2] hA C hNs nT_ok (cw_isSmaller l D G X a b1 n1 k a2 b2 n2 k2 f1 g (iZ (x.sign)) (iZ y.sign) x y r2 hn2 hx5 hy) (cwV 1 C.1.2.2.2.2 (wC_V kX3_39 nX3_isSmaller slX3_isSmaller iniX3 cdX3_isSmaller) rfl rfl rfl (by decide +kernel) ⟨Nat.le_of_ble_eq_true rfl, Nat.le_of_ble_eq_true rfl⟩) (q0 := 0) rfl rfl rfl rfl ⟨by show dc + 0 ≤ 11; omega, by show ds + 0 ≤ 4096; omega⟩ (Nat.le_of_ble_eq_true rfl) dX3_add_90 [.ref a2, .ref a] rfl (fun r v4 hv4 => ?_)
            obtain ⟨rfl, rfl⟩ := hv4
            refine w_cs dc ds rfl rfl ?_
            refine w_if_eq C 124 dX3_add_93 (by decide) ⟨by split <;> omega, by split <;> omega⟩ (fun c93 => ?_) (fun c93 => ?_)
            · have hx0 : x ≠ 0 := fun h => c26 (by rw [h]; rfl)
              have hy0 : y1 ≠ 0 := fun h => c18 (by rw [h]; rfl)
              have hlt : ¬ x.natAbs < y.natAbs := fun h => by rw [if_pos h] at c93; omega
              have hNk : k = N := by
                have := wN_size (N := k) hy (by have := wN_lt hx; omega)
                omega
              refine w_aload_n C dX3_add_124 2 rfl ?_
              refine w_aload_n C dX3_add_125 2 rfl ?_
              refine w_get (ci := 3) (ref := "RootIsolator$Whole") (T := TX3) (Cn := RX3) (N := 3) C (fun w h => wC_in (inX3 w h)) 0 rfl rfl 0 (by decide) (wC_in fX3_9) rfl rfl dX3_add_126 ?_
              refine w_aload_n C dX3_add_129 2 rfl ?_
              refine w_get (ci := 3) (ref := "RootIsolator$Whole") (T := TX3) (Cn := RX3) (N := 3) C (fun w h => wC_in (inX3 w h)) 0 rfl rfl 1 (by decide) (wC_in fX3_13) rfl rfl dX3_add_130 ?_
              refine w_aload_n C dX3_add_133 3 rfl ?_
              refine w_get (ci := 3) (ref := "RootIsolator$Whole") (T := TX3) (Cn := RX3) (N := 3) C (fun w h => wC_in (inX3 w h)) 2 rfl rfl 0 (by decide) (wC_in fX3_9) rfl rfl dX3_add_134 ?_
              refine w_aload_n C dX3_add_137 3 rfl ?_
              refine w_get (ci := 3) (ref := "RootIsolator$Whole") (T := TX3) (Cn := RX3) (N := 3) C (fun w h => wC_in (inX3 w h)) 2 rfl rfl 1 (by decide) (wC_in fX3_13) rfl rfl dX3_add_138 ?_
              refine g_callv [.ref b1, .int (iZ ((k : Int))), .ref b2, .int (iZ ((k2 : Int)))] hA C hNs nT_ok (cw_takeFromB l D G X a b1 n1 k a2 b2 n2 k2 f1 g (iZ (x.sign)) (iZ y.sign) x y r2 hn2 hx5 hy (Nat.not_lt.1 hlt) (by omega)) (cwV 4 C.1.2.2.2.2 (wC_V kX3_43 nX3_takeFrom slX3_takeFrom iniX3 cdX3_takeFrom) rfl rfl rfl (by decide +kernel) ⟨Nat.le_of_ble_eq_true rfl, Nat.le_of_ble_eq_true rfl⟩) (q0 := 0) rfl rfl rfl rfl ⟨by show dc + 0 ≤ 11; omega, by show ds + 0 ≤ 4096; omega⟩ (Nat.le_of_ble_eq_true rfl) dX3_add_141 [.int (iZ ((k2 : Int))), .ref b2, .int (iZ ((k : Int))), .ref b1, .ref a] rfl (fun v5 hv5 => ?_)
              obtain ⟨f2, q1, q2, rfl⟩ := hv5
              refine w_cs dc ds rfl rfl ?_
              subst hNk
              refine w_aload_n C dX3_add_144 2 rfl ?_
              refine w_iload C dX3_add_145 0 rfl ?_
              refine g_callv [.int (iZ ((k : Int)))] hA C hNs nT_ok (cw_trim l D G ((a2, .inr (3, [.ref b2, .int (iZ ((k2 : Int))), .int (iZ (y.sign))])) :: (b2, .inl (G 0, n2, .inl g)) :: X : va_W) a b1 n1 (k) f2 (iZ (k : Int)) (x.sign) (by omega) (by omega) (sgn_r _)) (cwV 1 C.1.2.2.2.2 (wC_V kX3_36 nX3_trim slX3_trim iniX3 cdX3_trim) rfl rfl rfl (by decide +kernel) ⟨Nat.le_of_ble_eq_true rfl, Nat.le_of_ble_eq_true rfl⟩) (q0 := 0) rfl rfl rfl rfl ⟨by show dc + 0 ≤ 11; omega, by show ds + 0 ≤ 4096; omega⟩ (Nat.le_of_ble_eq_true rfl) dX3_add_147 [.int (iZ ((k : Int))), .ref a] rfl (fun v6 hv6 => ?_)
              obtain ⟨j, j1, j2, j3, rfl⟩ := hv6
              refine w_cs dc ds rfl rfl ?_
              obtain ⟨t1, t2⟩ := wN_trim (n := n1) (N := k) (sg := x.sign) (by omega) q1 j1 j2 j3 ((sgn_one c26).imp id (fun h => Or.inl h))
              rw [q2, ← hya, (sgn_subm hx0 hy0 c71).2] at t1 t2
              exact g_vret hsz hhs C hr hlk ⟨by omega, by omega⟩ (⟨b1, n1, j, f2, dc, ds, by omega, by omega, t1, by omega, by omega, by rw [t2]⟩) dX3_add_150
            · have hx0 : x ≠ 0 := fun h => c26 (by rw [h]; rfl)
              have hy0 : y1 ≠ 0 := fun h => c18 (by rw [h]; rfl)
              have hlt : x.natAbs < y.natAbs := Classical.byContradiction fun h => c93 (if_neg h)
              have hNk : k2 = N := by
                have := wN_size (N := k2) hx (by have := wN_lt hy; omega)
                omega
              refine w_aload_n C dX3_add_96 2 rfl ?_
              refine w_aload_n C dX3_add_97 3 rfl ?_
              refine w_get (ci := 3) (ref := "RootIsolator$Whole") (T := TX3) (Cn := RX3) (N := 3) C (fun w h => wC_in (inX3 w h)) 2 rfl rfl 0 (by decide) (wC_in fX3_9) rfl rfl dX3_add_98 ?_
              refine w_aload_n C dX3_add_101 3 rfl ?_
              refine w_get (ci := 3) (ref := "RootIsolator$Whole") (T := TX3) (Cn := RX3) (N := 3) C (fun w h => wC_in (inX3 w h)) 2 rfl rfl 1 (by decide) (wC_in fX3_13) rfl rfl dX3_add_102 ?_
              refine w_aload_n C dX3_add_105 2 rfl ?_
              refine w_get (ci := 3) (ref := "RootIsolator$Whole") (T := TX3) (Cn := RX3) (N := 3) C (fun w h => wC_in (inX3 w h)) 0 rfl rfl 0 (by decide) (wC_in fX3_9) rfl rfl dX3_add_106 ?_
              refine w_aload_n C dX3_add_109 2 rfl ?_
              refine w_get (ci := 3) (ref := "RootIsolator$Whole") (T := TX3) (Cn := RX3) (N := 3) C (fun w h => wC_in (inX3 w h)) 0 rfl rfl 1 (by decide) (wC_in fX3_13) rfl rfl dX3_add_110 ?_
              refine g_callv [.ref b2, .int (iZ ((k2 : Int))), .ref b1, .int (iZ ((k : Int)))] hA C hNs nT_ok (cw_takeFromA l D G X a b1 n1 k a2 b2 n2 k2 f1 g (iZ (x.sign)) (iZ y.sign) x y r2 hn2 hx5 hy (Nat.le_of_lt hlt) (by omega)) (cwV 4 C.1.2.2.2.2 (wC_V kX3_43 nX3_takeFrom slX3_takeFrom iniX3 cdX3_takeFrom) rfl rfl rfl (by decide +kernel) ⟨Nat.le_of_ble_eq_true rfl, Nat.le_of_ble_eq_true rfl⟩) (q0 := 0) rfl rfl rfl rfl ⟨by show dc + 0 ≤ 11; omega, by show ds + 0 ≤ 4096; omega⟩ (Nat.le_of_ble_eq_true rfl) dX3_add_113 [.int (iZ ((k : Int))), .ref b1, .int (iZ ((k2 : Int))), .ref b2, .ref a] rfl (fun v7 hv7 => ?_)
              obtain ⟨f2, q1, q2, rfl⟩ := hv7
              refine w_cs dc ds rfl rfl ?_
              refine w_aload_n C dX3_add_116 2 rfl ?_
              refine w_iload_n C dX3_add_117 1 rfl ?_
              refine w_put (ci := 3) (ref := "RootIsolator$Whole") (T := TX3) (Cn := RX3) (N := 3) (ty := .int) C ((a, .inr (3, [.ref b1, .int (iZ ((k : Int))), .int (iZ (y1.sign))])) :: (b1, .inl (G 0, n1, .inl f2)) :: (a2, .inr (3, [.ref b2, .int (iZ ((k2 : Int))), .int (iZ (y.sign))])) :: (b2, .inl (G 0, n2, .inl g)) :: X : va_W) (fun w h => wC_in (inX3 w h)) tyX3 tyX3_ok nmX3 0 rfl rfl 2 (by decide) (wC_in fX3_17) rfl rfl (by decide +kernel) rfl rfl (Nat.le_of_ble_eq_true rfl) rfl dX3_add_118 ?_
              refine w_goto C 144 dX3_add_121 (by decide) ?_
              subst hNk
              refine w_aload_n C dX3_add_144 2 rfl ?_
              refine w_iload C dX3_add_145 0 rfl ?_
              refine g_callv [.int (iZ ((k2 : Int)))] hA C hNs nT_ok (cw_trim l D G ((a2, .inr (3, [.ref b2, .int (iZ ((k2 : Int))), .int (iZ (y.sign))])) :: (b2, .inl (G 0, n2, .inl g)) :: X : va_W) a b1 n1 (k2) f2 (iZ (k : Int)) (y1.sign) (by omega) (by omega) (sgn_r _)) (cwV 1 C.1.2.2.2.2 (wC_V kX3_36 nX3_trim slX3_trim iniX3 cdX3_trim) rfl rfl rfl (by decide +kernel) ⟨Nat.le_of_ble_eq_true rfl, Nat.le_of_ble_eq_true rfl⟩) (q0 := 0) rfl rfl rfl rfl ⟨by show dc + 0 ≤ 11; omega, by show ds + 0 ≤ 4096; omega⟩ (Nat.le_of_ble_eq_true rfl) dX3_add_147 [.int (iZ ((k2 : Int))), .ref a] rfl (fun v8 hv8 => ?_)
              obtain ⟨j, j1, j2, j3, rfl⟩ := hv8
              refine w_cs dc ds rfl rfl ?_
              obtain ⟨t1, t2⟩ := wN_trim (n := n1) (N := k2) (sg := y1.sign) (by omega) q1 j1 j2 j3 ((sgn_one c18).imp id (fun h => Or.inl h))
              rw [q2, ← hya, (sgn_subm hx0 hy0 c71).1] at t1 t2
              exact g_vret hsz hhs C hr hlk ⟨by omega, by omega⟩ (⟨b1, n1, j, f2, dc, ds, by omega, by omega, t1, by omega, by omega, by rw [t2]⟩) dX3_add_150
          · refine w_aload_n C dX3_add_74 2 rfl ?_
            refine w_aload_n C dX3_add_75 3 rfl ?_
            refine g_callv [.ref a2] hA C hNs nT_ok (cw_addMagnitude l D G X a b1 n1 k a2 b2 n2 k2 f1 g (iZ (x.sign)) (iZ y.sign) x y N r2 hn2 hx5 hy hN (by omega)) (cwV 1 C.1.2.2.2.2 (wC_V kX3_32 nX3_addMagnitude slX3_addMagnitude iniX3 cdX3_addMagnitude) rfl rfl rfl (by decide +kernel) ⟨Nat.le_of_ble_eq_true rfl, Nat.le_of_ble_eq_true rfl⟩) (q0 := 0) rfl rfl rfl rfl ⟨by show dc + 0 ≤ 11; omega, by show ds + 0 ≤ 4096; omega⟩ (Nat.le_of_ble_eq_true rfl) dX3_add_76 [.ref a2, .ref a] rfl (fun v9 hv9 => ?_)
            obtain ⟨f2, q1, q2, rfl⟩ := hv9
            refine w_cs dc ds rfl rfl ?_
            refine w_aload_n C dX3_add_79 2 rfl ?_
            refine w_iload C dX3_add_80 0 rfl ?_
            refine w_iconst C dX3_add_82 ?_
            refine w_iadd C dX3_add_83 ?_
            refine w_top C (((N + 1 : Nat) : Int)) (by omega) ?_
            refine g_callv [.int (iZ (((N + 1 : Nat) : Int)))] hA C hNs nT_ok (cw_trim l D G ((a2, .inr (3, [.ref b2, .int (iZ ((k2 : Int))), .int (iZ (y.sign))])) :: (b2, .inl (G 0, n2, .inl g)) :: X : va_W) a b1 n1 (N + 1) f2 (iZ (k : Int)) (x.sign) (by omega) (by omega) (sgn_r _)) (cwV 1 C.1.2.2.2.2 (wC_V kX3_36 nX3_trim slX3_trim iniX3 cdX3_trim) rfl rfl rfl (by decide +kernel) ⟨Nat.le_of_ble_eq_true rfl, Nat.le_of_ble_eq_true rfl⟩) (q0 := 0) rfl rfl rfl rfl ⟨by show dc + 0 ≤ 11; omega, by show ds + 0 ≤ 4096; omega⟩ (Nat.le_of_ble_eq_true rfl) dX3_add_84 [.int (iZ (((N + 1 : Nat) : Int))), .ref a] rfl (fun v10 hv10 => ?_)
            obtain ⟨j, j1, j2, j3, rfl⟩ := hv10
            refine w_cs dc ds rfl rfl ?_
            obtain ⟨t1, t2⟩ := wN_trim (n := n1) (N := N + 1) (sg := x.sign) (by omega) q1 j1 j2 j3 ((sgn_one c26).imp id (fun h => Or.inl h))
            rw [q2, show x.sign * ((x.natAbs : Int) + (y.natAbs : Int)) = x + y1 by rw [c71, ← hya]; exact sgn_addm (Or.inr c71)] at t1 t2
            exact g_vret hsz hhs C hr hlk ⟨by omega, by omega⟩ (⟨b1, n1, j, f2, dc, ds, by omega, by omega, t1, by omega, by omega, by rw [t2]⟩) dX3_add_87
        refine w_icmp_le C 52 dX3_add_42 (by decide) ⟨⟨by omega, by omega⟩, by omega, by omega⟩ (fun c42 => ?_) (fun c42 => ?_)
        · refine w_aload_n C dX3_add_52 2 rfl ?_
          refine w_get (ci := 3) (ref := "RootIsolator$Whole") (T := TX3) (Cn := RX3) (N := 3) C (fun w h => wC_in (inX3 w h)) 2 rfl rfl 1 (by decide) (wC_in fX3_13) rfl rfl dX3_add_53 ?_
          refine w_top C ((N : Int)) (by omega) ?_
          exact J2
        · refine w_aload_n C dX3_add_45 1 rfl ?_
          refine w_get (ci := 3) (ref := "RootIsolator$Whole") (T := TX3) (Cn := RX3) (N := 3) C (fun w h => wC_in (inX3 w h)) 0 rfl rfl 1 (by decide) (wC_in fX3_13) rfl rfl dX3_add_46 ?_
          refine w_goto C 56 dX3_add_49 (by decide) ?_
          refine w_top C ((N : Int)) (by omega) ?_
          exact J2
      · refine w_aload_n C dX3_add_29 1 rfl ?_
        refine w_iload_n C dX3_add_30 0 rfl ?_
        refine w_put (ci := 3) (ref := "RootIsolator$Whole") (T := TX3) (Cn := RX3) (N := 3) (ty := .int) C ((a, .inr (3, [.ref b, .int (iZ ((k : Int))), .int (iZ (y1.sign))])) :: (b, .inl (G 0, n, .inl f)) :: (a2, .inr (3, [.ref b2, .int (iZ ((k2 : Int))), .int (iZ (y.sign))])) :: (b2, .inl (G 0, n2, .inl g)) :: X : va_W) (fun w h => wC_in (inX3 w h)) tyX3 tyX3_ok nmX3 0 rfl rfl 2 (by decide) (wC_in fX3_17) rfl rfl (by decide +kernel) rfl rfl (Nat.le_of_ble_eq_true rfl) rfl dX3_add_31 ?_
        refine w_aload_n C dX3_add_34 1 rfl ?_
        refine w_get (ci := 3) (ref := "RootIsolator$Whole") (T := TX3) (Cn := RX3) (N := 3) C (fun w h => wC_in (inX3 w h)) 0 rfl rfl 1 (by decide) (wC_in fX3_13) rfl rfl dX3_add_35 ?_
        refine w_aload_n C dX3_add_38 2 rfl ?_
        refine w_get (ci := 3) (ref := "RootIsolator$Whole") (T := TX3) (Cn := RX3) (N := 3) C (fun w h => wC_in (inX3 w h)) 2 rfl rfl 1 (by decide) (wC_in fX3_13) rfl rfl dX3_add_39 ?_
        have J11 : ZW p l e ({ frames := 2, cells := 11, slots := 4096, locals := 62 }) s m ([.ref a, .ref a2, .int (iZ (as))] : List Value).toArray below meth c D (va_A ((a, .inr (3, [.ref b, .int (iZ ((k : Int))), .int (iZ (x.sign))])) :: (b, .inl (G 0, n, .inl f)) :: (a2, .inr (3, [.ref b2, .int (iZ ((k2 : Int))), .int (iZ (y.sign))])) :: (b2, .inl (G 0, n2, .inl g)) :: X : va_W) sz) 5 0 0 (MQ below (va_Qv (fun u : cS => ∃ (b1 n1 k1 : Nat) (f1 : Nat → Int32) (dc ds : Nat), n ≤ n1 ∧ n1 ≤ 2048 ∧ wN n1 f1 k1 (x + y1) ∧ dc + gc n ≤ gc n1 ∧ ds + 2 * n ≤ 2 * n1 ∧ u = (((a, .inr (3, [.ref b1, .int (iZ ((k1 : Int))), .int (iZ ((x + y1).sign))])) :: (b1, .inl (G 0, n1, .inl f1)) :: (a2, .inr (3, [.ref b2, .int (iZ ((k2 : Int))), .int (iZ (y.sign))])) :: (b2, .inl (G 0, n2, .inl g)) :: X : va_W), dc, ds)) (cAt D G (va_A ((a, .inr (3, [.ref b, .int (iZ ((k : Int))), .int (iZ (x.sign))])) :: (b, .inl (G 0, n, .inl f)) :: (a2, .inr (3, [.ref b2, .int (iZ ((k2 : Int))), .int (iZ (y.sign))])) :: (b2, .inl (G 0, n2, .inl g)) :: X : va_W) sz) sz hs) (va_A ((a, .inr (3, [.ref b, .int (iZ ((k : Int))), .int (iZ (x.sign))])) :: (b, .inl (G 0, n, .inl f)) :: (a2, .inr (3, [.ref b2, .int (iZ ((k2 : Int))), .int (iZ (y.sign))])) :: (b2, .inl (G 0, n2, .inl g)) :: X : va_W) sz)) ([.ref a, .ref a2, .int (iZ (as))] : List Value).toArray s 11 4096 (va_A ((a, .inr (3, [.ref b, .int (iZ ((k : Int))), .int (iZ (x.sign))])) :: (b, .inl (G 0, n, .inl f)) :: (a2, .inr (3, [.ref b2, .int (iZ ((k2 : Int))), .int (iZ (y.sign))])) :: (b2, .inl (G 0, n2, .inl g)) :: X : va_W) sz)) ((a, .inr (3, [.ref b, .int (iZ ((k : Int))), .int (iZ (y1.sign))])) :: (b, .inl (G 0, n, .inl f)) :: (a2, .inr (3, [.ref b2, .int (iZ ((k2 : Int))), .int (iZ (y.sign))])) :: (b2, .inl (G 0, n2, .inl g)) :: X : va_W) 56 [(3, .int (iZ (y1.sign))), (0, .ref a), (1, .ref a2), (2, .int (iZ (as)))] [.int (iZ ((N : Int)))] := by
          refine w_istore C [(4, .int (iZ ((N : Int)))), (3, .int (iZ (y1.sign))), (0, .ref a), (1, .ref a2), (2, .int (iZ (as)))] dX3_add_56 (by decide) rfl ?_
          refine w_aload_n C dX3_add_58 2 rfl ?_
          refine w_iload C dX3_add_59 0 rfl ?_
          refine w_iconst C dX3_add_61 ?_
          refine w_iadd C dX3_add_62 ?_
          refine w_top C (((N + 1 : Nat) : Int)) (by omega) ?_
          refine g_callv [.int (iZ (((N + 1 : Nat) : Int)))] hA C hNs nT_ok (cw_makeRoom l D G ((a2, .inr (3, [.ref b2, .int (iZ ((k2 : Int))), .int (iZ (y.sign))])) :: (b2, .inl (G 0, n2, .inl g)) :: X : va_W) a b n (N + 1) f (iZ (k : Int)) (iZ (y1.sign)) hn1 hn (by omega)) (cwV 1 C.1.2.2.2.2 (wC_V kX3_22 nX3_makeRoom slX3_makeRoom iniX3 cdX3_makeRoom) rfl rfl rfl (by decide +kernel) ⟨Nat.le_of_ble_eq_true rfl, Nat.le_of_ble_eq_true rfl⟩) (q0 := 0) rfl rfl rfl rfl ⟨Nat.le_of_ble_eq_true rfl, Nat.le_of_ble_eq_true rfl⟩ (Nat.le_of_ble_eq_true rfl) dX3_add_63 [.int (iZ (((N + 1 : Nat) : Int))), .ref a] rfl (fun v12 hv12 => ?_)
          obtain ⟨b1, n1, f1, dc, ds, r1, r2, r3, r4, r5, r6, rfl⟩ := hv12
          refine w_cs dc ds (Nat.zero_add dc) (Nat.zero_add ds) ?_
          have r7 := gc_le r2
          have hx5 : wN n1 f1 k x := wN_congr hx (by omega) (fun i hi => r4 i (by omega))
          refine w_aload_n C dX3_add_66 2 rfl ?_
          refine w_get (ci := 3) (ref := "RootIsolator$Whole") (T := TX3) (Cn := RX3) (N := 3) C (fun w h => wC_in (inX3 w h)) 0 rfl rfl 2 (by decide) (wC_in fX3_17) rfl rfl dX3_add_67 ?_
          refine w_iload_n C dX3_add_70 1 rfl ?_
          refine w_icmp_ne C 88 dX3_add_71 (by decide) ⟨⟨by omega, by omega⟩, by omega, by omega⟩ (fun c71 => ?_) (fun c71 => ?_)
          · exact absurd rfl c71
          · refine w_aload_n C dX3_add_74 2 rfl ?_
            refine w_aload_n C dX3_add_75 3 rfl ?_
            refine g_callv [.ref a2] hA C hNs nT_ok (cw_addMagnitude l D G X a b1 n1 k a2 b2 n2 k2 f1 g (iZ (y1.sign)) (iZ y.sign) x y N r2 hn2 hx5 hy hN (by omega)) (cwV 1 C.1.2.2.2.2 (wC_V kX3_32 nX3_addMagnitude slX3_addMagnitude iniX3 cdX3_addMagnitude) rfl rfl rfl (by decide +kernel) ⟨Nat.le_of_ble_eq_true rfl, Nat.le_of_ble_eq_true rfl⟩) (q0 := 0) rfl rfl rfl rfl ⟨by show dc + 0 ≤ 11; omega, by show ds + 0 ≤ 4096; omega⟩ (Nat.le_of_ble_eq_true rfl) dX3_add_76 [.ref a2, .ref a] rfl (fun v13 hv13 => ?_)
            obtain ⟨f2, q1, q2, rfl⟩ := hv13
            refine w_cs dc ds rfl rfl ?_
            refine w_aload_n C dX3_add_79 2 rfl ?_
            refine w_iload C dX3_add_80 0 rfl ?_
            refine w_iconst C dX3_add_82 ?_
            refine w_iadd C dX3_add_83 ?_
            refine w_top C (((N + 1 : Nat) : Int)) (by omega) ?_
            refine g_callv [.int (iZ (((N + 1 : Nat) : Int)))] hA C hNs nT_ok (cw_trim l D G ((a2, .inr (3, [.ref b2, .int (iZ ((k2 : Int))), .int (iZ (y.sign))])) :: (b2, .inl (G 0, n2, .inl g)) :: X : va_W) a b1 n1 (N + 1) f2 (iZ (k : Int)) (y1.sign) (by omega) (by omega) (sgn_r _)) (cwV 1 C.1.2.2.2.2 (wC_V kX3_36 nX3_trim slX3_trim iniX3 cdX3_trim) rfl rfl rfl (by decide +kernel) ⟨Nat.le_of_ble_eq_true rfl, Nat.le_of_ble_eq_true rfl⟩) (q0 := 0) rfl rfl rfl rfl ⟨by show dc + 0 ≤ 11; omega, by show ds + 0 ≤ 4096; omega⟩ (Nat.le_of_ble_eq_true rfl) dX3_add_84 [.int (iZ (((N + 1 : Nat) : Int))), .ref a] rfl (fun v14 hv14 => ?_)
            obtain ⟨j, j1, j2, j3, rfl⟩ := hv14
            refine w_cs dc ds rfl rfl ?_
            obtain ⟨t1, t2⟩ := wN_trim (n := n1) (N := N + 1) (sg := y1.sign) (by omega) q1 j1 j2 j3 ((sgn_one c18).imp id (fun h => Or.inl h))
            rw [q2, ← hya, sgn_addm (Or.inl (sgn_zero c26))] at t1 t2
            exact g_vret hsz hhs C hr hlk ⟨by omega, by omega⟩ (⟨b1, n1, j, f2, dc, ds, by omega, by omega, t1, by omega, by omega, by rw [t2]⟩) dX3_add_87
        refine w_icmp_le C 52 dX3_add_42 (by decide) ⟨⟨by omega, by omega⟩, by omega, by omega⟩ (fun c42 => ?_) (fun c42 => ?_)
        · refine w_aload_n C dX3_add_52 2 rfl ?_
          refine w_get (ci := 3) (ref := "RootIsolator$Whole") (T := TX3) (Cn := RX3) (N := 3) C (fun w h => wC_in (inX3 w h)) 2 rfl rfl 1 (by decide) (wC_in fX3_13) rfl rfl dX3_add_53 ?_
          refine w_top C ((N : Int)) (by omega) ?_
          exact J11
        · refine w_aload_n C dX3_add_45 1 rfl ?_
          refine w_get (ci := 3) (ref := "RootIsolator$Whole") (T := TX3) (Cn := RX3) (N := 3) C (fun w h => wC_in (inX3 w h)) 0 rfl rfl 1 (by decide) (wC_in fX3_13) rfl rfl dX3_add_46 ?_
          refine w_goto C 56 dX3_add_49 (by decide) ?_
          refine w_top C ((N : Int)) (by omega) ?_
          exact J11
    · exact g_vret hsz hhs C hr hlk ⟨Nat.zero_le _, Nat.zero_le _⟩ (⟨b, n, k, f, 0, 0, by omega, by omega, by rw [sgn_zero c18, Int.add_zero]; exact hx, by omega, by omega, by rw [sgn_zero c18, Int.add_zero]⟩) dX3_add_21
  refine w_if_ge C 12 dX3_add_1 (by decide) ⟨by omega, by omega⟩ (fun c1 => ?_) (fun c1 => ?_)
  · refine w_aload_n C dX3_add_12 1 rfl ?_
    refine w_get (ci := 3) (ref := "RootIsolator$Whole") (T := TX3) (Cn := RX3) (N := 3) C (fun w h => wC_in (inX3 w h)) 2 rfl rfl 2 (by decide) (wC_in fX3_17) rfl rfl dX3_add_13 ?_
    refine w_top C (y1.sign) (hypos (by omega)) ?_
    exact J1
  · refine w_aload_n C dX3_add_4 1 rfl ?_
    refine w_get (ci := 3) (ref := "RootIsolator$Whole") (T := TX3) (Cn := RX3) (N := 3) C (fun w h => wC_in (inX3 w h)) 2 rfl rfl 2 (by decide) (wC_in fX3_17) rfl rfl dX3_add_5 ?_
    refine w_ineg C dX3_add_8 ?_
    refine w_goto C 16 dX3_add_9 (by decide) ?_
    refine w_top C (y1.sign) (hyneg (by omega)) ?_
    exact J1
