/-- the answer of topPower -/
def tpv (N : Nat) : Int := if N = 0 then -3 else (N : Int) - 1
set_option maxHeartbeats 4000000 in
set_option maxRecDepth 100000 in
theorem cw_get (l : Launch) (D : va_G) (G : Nat → ClassId) (X : va_W) (ri ra rb lv ce en re cx px pq fx lo hi : Nat) (fd hfl : Int32) (z k : Int) (g g2 : Nat → Int32) (hz : -2147483648 ≤ z ∧ z < 2147483648) (hk : -2147483648 ≤ k ∧ k < 2147483648) (sz hs : Nat) : Met l yX4_get (wC yX4_get cX4_get 3 (some .int)) ({ frames := 1, cells := 0, slots := 0, locals := 21 }) (va_Pc [.ref ri, .int (iZ (z)), .int (iZ (k))] (cPre nT D G ((ri, .inr (4, [.ref ra, .ref rb, .int (fd), .ref lv, .ref ce, .ref en, .ref re, .ref cx, .int (hfl), .ref px, .ref pq, .ref fx, .ref lo, .ref hi])) :: (ra, .inl (G 0, 9, .inl g)) :: (rb, .inl (G 0, 9, .inl g2)) :: X : va_W) sz hs)) (va_Qi (fun (r : Int32) (u : cS) => r = (if (z = 0 ∨ z = 1) ∧ 0 ≤ k ∧ k ≤ 8 then (if z = 0 then g k.toNat else g2 k.toNat) else iZ 0) ∧ u = (((ri, .inr (4, [.ref ra, .ref rb, .int (fd), .ref lv, .ref ce, .ref en, .ref re, .ref cx, .int (hfl), .ref px, .ref pq, .ref fx, .ref lo, .ref hi])) :: (ra, .inl (G 0, 9, .inl g)) :: (rb, .inl (G 0, 9, .inl g2)) :: X : va_W), 0, 0)) (cAt D G (va_A ((ri, .inr (4, [.ref ra, .ref rb, .int (fd), .ref lv, .ref ce, .ref en, .ref re, .ref cx, .int (hfl), .ref px, .ref pq, .ref fx, .ref lo, .ref hi])) :: (ra, .inl (G 0, 9, .inl g)) :: (rb, .inl (G 0, 9, .inl g2)) :: X : va_W) sz) sz hs) (va_A ((ri, .inr (4, [.ref ra, .ref rb, .int (fd), .ref lv, .ref ce, .ref en, .ref re, .ref cx, .int (hfl), .ref px, .ref pq, .ref fx, .ref lo, .ref hi])) :: (ra, .inl (G 0, 9, .inl g)) :: (rb, .inl (G 0, 9, .inl g2)) :: X : va_W) sz)) 0 0 (va_A ((ri, .inr (4, [.ref ra, .ref rb, .int (fd), .ref lv, .ref ce, .ref en, .ref re, .ref cx, .int (hfl), .ref px, .ref pq, .ref fx, .ref lo, .ref hi])) :: (ra, .inl (G 0, 9, .inl g)) :: (rb, .inl (G 0, 9, .inl g2)) :: X : va_W) sz) := by
  refine g_met (cc := cX4_get) (maxL := 3) (ret := (some .int)) (own := RX4) (by decide) rfl rfl (Nat.le_of_ble_eq_true rfl) ?_
  intro p e s m below meth c hsz hhs hNs hA C hr hlk
  refine w_sub [(0, .ref ri), (1, .int (iZ (z))), (2, .int (iZ (k)))] [0, 1, 2] rfl ?_
  refine w_iload_n C dX4_get_0 1 rfl ?_
  refine g_callSi [.int (iZ (z))] hA C hNs nT_ok (cw_isPolynomial l D G ((ri, .inr (4, [.ref ra, .ref rb, .int (fd), .ref lv, .ref ce, .ref en, .ref re, .ref cx, .int (hfl), .ref px, .ref pq, .ref fx, .ref lo, .ref hi])) :: (ra, .inl (G 0, 9, .inl g)) :: (rb, .inl (G 0, 9, .inl g2)) :: X : va_W) z hz) (cwS 1 C.1.2.2.2.2 (wC_S kX4_68 stX4_isPolynomial iniX4 cdX4_isPolynomial) rfl rfl rfl (by decide +kernel) ⟨Nat.le_of_ble_eq_true rfl, Nat.le_of_ble_eq_true rfl⟩) rfl ⟨Nat.le_refl _, Nat.le_refl _⟩ (Nat.le_of_ble_eq_true rfl) dX4_get_1 [.int (iZ (z))] rfl (fun r v1 hv1 => ?_)
  obtain ⟨rfl, rfl⟩ := hv1
  refine w_cs 0 0 rfl rfl ?_
  refine w_if_eq C 24 dX4_get_4 (by decide) ⟨by split <;> omega, by split <;> omega⟩ (fun c4 => ?_) (fun c4 => ?_)
  · have hno : ¬ (z = 0 ∨ z = 1) := fun q => absurd c4 (by rw [if_pos q]; decide)
    have hbad : ¬ ((z = 0 ∨ z = 1) ∧ 0 ≤ k ∧ k ≤ 8) := fun q => hno q.1
    refine w_iconst C dX4_get_24 ?_
    exact g_iret hsz hhs C hr hlk ⟨by omega, by omega⟩ ⟨by rw [if_neg hbad], rfl⟩ dX4_get_25
  · have h01 : z = 0 ∨ z = 1 := Classical.byContradiction fun q => c4 (if_neg q)
    refine w_iload_n C dX4_get_7 2 rfl ?_
    refine g_callSi [.int (iZ (k))] hA C hNs nT_ok (cw_isPower l D G ((ri, .inr (4, [.ref ra, .ref rb, .int (fd), .ref lv, .ref ce, .ref en, .ref re, .ref cx, .int (hfl), .ref px, .ref pq, .ref fx, .ref lo, .ref hi])) :: (ra, .inl (G 0, 9, .inl g)) :: (rb, .inl (G 0, 9, .inl g2)) :: X : va_W) k hk) (cwS 1 C.1.2.2.2.2 (wC_S kX4_72 stX4_isPower iniX4 cdX4_isPower) rfl rfl rfl (by decide +kernel) ⟨Nat.le_of_ble_eq_true rfl, Nat.le_of_ble_eq_true rfl⟩) rfl ⟨Nat.le_refl _, Nat.le_refl _⟩ (Nat.le_of_ble_eq_true rfl) dX4_get_8 [.int (iZ (k))] rfl (fun r v2 hv2 => ?_)
    obtain ⟨rfl, rfl⟩ := hv2
    refine w_cs 0 0 rfl rfl ?_
    refine w_if_eq C 24 dX4_get_11 (by decide) ⟨by split <;> omega, by split <;> omega⟩ (fun c11 => ?_) (fun c11 => ?_)
    · have hbad : ¬ ((z = 0 ∨ z = 1) ∧ 0 ≤ k ∧ k ≤ 8) := fun q => absurd c11 (by rw [if_pos q.2]; decide)
      refine w_iconst C dX4_get_24 ?_
      exact g_iret hsz hhs C hr hlk ⟨by omega, by omega⟩ ⟨by rw [if_neg hbad], rfl⟩ dX4_get_25
    · have hk8 : 0 ≤ k ∧ k ≤ 8 := Classical.byContradiction fun q => c11 (if_neg q)
      rcases h01 with rfl | rfl
      · refine w_aload_n C dX4_get_14 0 rfl ?_
        refine w_iload_n C dX4_get_15 1 rfl ?_
        refine g_callr (ad := ra) [.int (iZ (0))] hA C hNs nT_ok (cw_chosen0 l D G ((ra, .inl (G 0, 9, .inl g)) :: (rb, .inl (G 0, 9, .inl g2)) :: X : va_W) ri ra rb lv ce en re cx px pq fx lo hi fd hfl) (cwV 1 C.1.2.2.2.2 (wC_V kX4_79 nX4_chosen slX4_chosen iniX4 cdX4_chosen) rfl rfl rfl (by decide +kernel) ⟨Nat.le_of_ble_eq_true rfl, Nat.le_of_ble_eq_true rfl⟩) (q0 := 0) rfl rfl rfl rfl ⟨Nat.le_refl _, Nat.le_refl _⟩ (Nat.le_of_ble_eq_true rfl) dX4_get_16 [.int (iZ (0)), .ref ri] rfl (fun v3 hv3 => ?_)
        obtain rfl := hv3
        refine w_cs 0 0 rfl rfl ?_
        refine w_iload_n C dX4_get_19 2 rfl ?_
        refine w_iald C 1 0 rfl rfl (k.toNat) ((g (k.toNat)).toInt) ⟨by omega, by omega, by omega⟩ ((iZ_self _).symm) dX4_get_20 ?_
        refine w_goto C 25 dX4_get_21 (by decide) ?_
        exact g_iret hsz hhs C hr hlk ⟨by omega, by omega⟩ ⟨by rw [if_pos ⟨by omega, by omega, by omega⟩, if_pos rfl, iZ_self], rfl⟩ dX4_get_25
      · refine w_aload_n C dX4_get_14 0 rfl ?_
        refine w_iload_n C dX4_get_15 1 rfl ?_
        refine g_callr (ad := rb) [.int (iZ (1))] hA C hNs nT_ok (cw_chosen1 l D G ((ra, .inl (G 0, 9, .inl g)) :: (rb, .inl (G 0, 9, .inl g2)) :: X : va_W) ri ra rb lv ce en re cx px pq fx lo hi fd hfl) (cwV 1 C.1.2.2.2.2 (wC_V kX4_79 nX4_chosen slX4_chosen iniX4 cdX4_chosen) rfl rfl rfl (by decide +kernel) ⟨Nat.le_of_ble_eq_true rfl, Nat.le_of_ble_eq_true rfl⟩) (q0 := 0) rfl rfl rfl rfl ⟨Nat.le_refl _, Nat.le_refl _⟩ (Nat.le_of_ble_eq_true rfl) dX4_get_16 [.int (iZ (1)), .ref ri] rfl (fun v4 hv4 => ?_)
        obtain rfl := hv4
        refine w_cs 0 0 rfl rfl ?_
        refine w_iload_n C dX4_get_19 2 rfl ?_
        refine w_iald C 2 0 rfl rfl (k.toNat) ((g2 (k.toNat)).toInt) ⟨by omega, by omega, by omega⟩ ((iZ_self _).symm) dX4_get_20 ?_
        refine w_goto C 25 dX4_get_21 (by decide) ?_
        exact g_iret hsz hhs C hr hlk ⟨by omega, by omega⟩ ⟨by rw [if_pos ⟨by omega, by omega, by omega⟩, if_neg (by omega), iZ_self], rfl⟩ dX4_get_25
set_option maxHeartbeats 4000000 in
set_option maxRecDepth 100000 in
theorem cw_degree (l : Launch) (D : va_G) (G : Nat → ClassId) (X : va_W) (ri ra rb lv ce en re cx px pq fx lo hi : Nat) (fd hfl : Int32) (z : Int) (g g2 : Nat → Int32) (hz : -2147483648 ≤ z ∧ z < 2147483648)  (sz hs : Nat) : Met l yX4_degree (wC yX4_degree cX4_degree 2 (some .int)) ({ frames := 1, cells := 0, slots := 0, locals := 21 }) (va_Pc [.ref ri, .int (iZ (z))] (cPre nT D G ((ri, .inr (4, [.ref ra, .ref rb, .int (fd), .ref lv, .ref ce, .ref en, .ref re, .ref cx, .int (hfl), .ref px, .ref pq, .ref fx, .ref lo, .ref hi])) :: (ra, .inl (G 0, 9, .inl g)) :: (rb, .inl (G 0, 9, .inl g2)) :: X : va_W) sz hs)) (va_Qi (fun (r : Int32) (u : cS) => ((¬ (z = 0 ∨ z = 1) ∧ r = iZ (-2)) ∨ (z = 0 ∧ ∃ N : Nat, tpN (gp g) 9 N ∧ r = iZ (tpv N)) ∨ (z = 1 ∧ ∃ N : Nat, tpN (gp g2) 9 N ∧ r = iZ (tpv N))) ∧ u = (((ri, .inr (4, [.ref ra, .ref rb, .int (fd), .ref lv, .ref ce, .ref en, .ref re, .ref cx, .int (hfl), .ref px, .ref pq, .ref fx, .ref lo, .ref hi])) :: (ra, .inl (G 0, 9, .inl g)) :: (rb, .inl (G 0, 9, .inl g2)) :: X : va_W), 0, 0)) (cAt D G (va_A ((ri, .inr (4, [.ref ra, .ref rb, .int (fd), .ref lv, .ref ce, .ref en, .ref re, .ref cx, .int (hfl), .ref px, .ref pq, .ref fx, .ref lo, .ref hi])) :: (ra, .inl (G 0, 9, .inl g)) :: (rb, .inl (G 0, 9, .inl g2)) :: X : va_W) sz) sz hs) (va_A ((ri, .inr (4, [.ref ra, .ref rb, .int (fd), .ref lv, .ref ce, .ref en, .ref re, .ref cx, .int (hfl), .ref px, .ref pq, .ref fx, .ref lo, .ref hi])) :: (ra, .inl (G 0, 9, .inl g)) :: (rb, .inl (G 0, 9, .inl g2)) :: X : va_W) sz)) 0 0 (va_A ((ri, .inr (4, [.ref ra, .ref rb, .int (fd), .ref lv, .ref ce, .ref en, .ref re, .ref cx, .int (hfl), .ref px, .ref pq, .ref fx, .ref lo, .ref hi])) :: (ra, .inl (G 0, 9, .inl g)) :: (rb, .inl (G 0, 9, .inl g2)) :: X : va_W) sz) := by
  refine g_met (cc := cX4_degree) (maxL := 2) (ret := (some .int)) (own := RX4) (by decide) rfl rfl (Nat.le_of_ble_eq_true rfl) ?_
  intro p e s m below meth c hsz hhs hNs hA C hr hlk
  refine w_sub [(0, .ref ri), (1, .int (iZ (z)))] [0, 1] rfl ?_
  refine w_iload_n C dX4_degree_0 1 rfl ?_
  refine g_callSi [.int (iZ (z))] hA C hNs nT_ok (cw_isPolynomial l D G ((ri, .inr (4, [.ref ra, .ref rb, .int (fd), .ref lv, .ref ce, .ref en, .ref re, .ref cx, .int (hfl), .ref px, .ref pq, .ref fx, .ref lo, .ref hi])) :: (ra, .inl (G 0, 9, .inl g)) :: (rb, .inl (G 0, 9, .inl g2)) :: X : va_W) z hz) (cwS 1 C.1.2.2.2.2 (wC_S kX4_68 stX4_isPolynomial iniX4 cdX4_isPolynomial) rfl rfl rfl (by decide +kernel) ⟨Nat.le_of_ble_eq_true rfl, Nat.le_of_ble_eq_true rfl⟩) rfl ⟨Nat.le_refl _, Nat.le_refl _⟩ (Nat.le_of_ble_eq_true rfl) dX4_degree_1 [.int (iZ (z))] rfl (fun r v1 hv1 => ?_)
  obtain ⟨rfl, rfl⟩ := hv1
  refine w_cs 0 0 rfl rfl ?_
  refine w_if_eq C 18 dX4_degree_4 (by decide) ⟨by split <;> omega, by split <;> omega⟩ (fun c4 => ?_) (fun c4 => ?_)
  · have hno : ¬ (z = 0 ∨ z = 1) := fun q => absurd c4 (by rw [if_pos q]; decide)
    refine w_bipush C dX4_degree_18 (by decide) ?_
    exact g_iret hsz hhs C hr hlk ⟨by omega, by omega⟩ ⟨Or.inl ⟨hno, rfl⟩, rfl⟩ dX4_degree_20
  · have h01 : z = 0 ∨ z = 1 := Classical.byContradiction fun q => c4 (if_neg q)
    rcases h01 with rfl | rfl
    · refine w_aload_n C dX4_degree_7 0 rfl ?_
      refine w_iload_n C dX4_degree_8 1 rfl ?_
      refine g_callr (ad := ra) [.int (iZ (0))] hA C hNs nT_ok (cw_chosen0 l D G ((ra, .inl (G 0, 9, .inl g)) :: (rb, .inl (G 0, 9, .inl g2)) :: X : va_W) ri ra rb lv ce en re cx px pq fx lo hi fd hfl) (cwV 1 C.1.2.2.2.2 (wC_V kX4_79 nX4_chosen slX4_chosen iniX4 cdX4_chosen) rfl rfl rfl (by decide +kernel) ⟨Nat.le_of_ble_eq_true rfl, Nat.le_of_ble_eq_true rfl⟩) (q0 := 0) rfl rfl rfl rfl ⟨Nat.le_refl _, Nat.le_refl _⟩ (Nat.le_of_ble_eq_true rfl) dX4_degree_9 [.int (iZ (0)), .ref ri] rfl (fun v2 hv2 => ?_)
      obtain rfl := hv2
      refine w_cs 0 0 rfl rfl ?_
      refine w_perm ((ra, .inl (G 0, 9, .inl g)) :: (ri, .inr (4, [.ref ra, .ref rb, .int (fd), .ref lv, .ref ce, .ref en, .ref re, .ref cx, .int (hfl), .ref px, .ref pq, .ref fx, .ref lo, .ref hi])) :: (rb, .inl (G 0, 9, .inl g2)) :: X : va_W) (((List.perm_middle (l₁ := ((ri, .inr (4, [.ref ra, .ref rb, .int (fd), .ref lv, .ref ce, .ref en, .ref re, .ref cx, .int (hfl), .ref px, .ref pq, .ref fx, .ref lo, .ref hi])) :: [] : va_W)) (l₂ := ((rb, .inl (G 0, 9, .inl g2)) :: X : va_W))).trans (List.Perm.cons _ (List.Perm.refl _)))) ?_
      refine g_callSi [.ref ra] hA C hNs nT_ok (cw_topPower l D G ((ri, .inr (4, [.ref ra, .ref rb, .int (fd), .ref lv, .ref ce, .ref en, .ref re, .ref cx, .int (hfl), .ref px, .ref pq, .ref fx, .ref lo, .ref hi])) :: (rb, .inl (G 0, 9, .inl g2)) :: X : va_W) ra g) (cwS 1 C.1.2.2.2.2 (wC_S kX4_83 stX4_topPower iniX4 cdX4_topPower) rfl rfl rfl (by decide +kernel) ⟨Nat.le_of_ble_eq_true rfl, Nat.le_of_ble_eq_true rfl⟩) rfl ⟨Nat.le_refl _, Nat.le_refl _⟩ (Nat.le_of_ble_eq_true rfl) dX4_degree_12 [.ref ra] rfl (fun r v3 hv3 => ?_)
      obtain ⟨Nv3, htv3, rfl, rfl⟩ := hv3
      refine w_cs 0 0 rfl rfl ?_
      refine w_perm ((ri, .inr (4, [.ref ra, .ref rb, .int (fd), .ref lv, .ref ce, .ref en, .ref re, .ref cx, .int (hfl), .ref px, .ref pq, .ref fx, .ref lo, .ref hi])) :: (ra, .inl (G 0, 9, .inl g)) :: (rb, .inl (G 0, 9, .inl g2)) :: X : va_W) (((List.perm_middle (l₁ := ((ri, .inr (4, [.ref ra, .ref rb, .int (fd), .ref lv, .ref ce, .ref en, .ref re, .ref cx, .int (hfl), .ref px, .ref pq, .ref fx, .ref lo, .ref hi])) :: [] : va_W)) (l₂ := ((rb, .inl (G 0, 9, .inl g2)) :: X : va_W))).trans (List.Perm.cons _ (List.Perm.refl _)))).symm ?_
      refine w_goto C 20 dX4_degree_15 (by decide) ?_
      exact g_iret hsz hhs C hr hlk ⟨by omega, by omega⟩ ⟨Or.inr (Or.inl ⟨rfl, Nv3, htv3, rfl⟩), rfl⟩ dX4_degree_20
    · refine w_aload_n C dX4_degree_7 0 rfl ?_
      refine w_iload_n C dX4_degree_8 1 rfl ?_
      refine g_callr (ad := rb) [.int (iZ (1))] hA C hNs nT_ok (cw_chosen1 l D G ((ra, .inl (G 0, 9, .inl g)) :: (rb, .inl (G 0, 9, .inl g2)) :: X : va_W) ri ra rb lv ce en re cx px pq fx lo hi fd hfl) (cwV 1 C.1.2.2.2.2 (wC_V kX4_79 nX4_chosen slX4_chosen iniX4 cdX4_chosen) rfl rfl rfl (by decide +kernel) ⟨Nat.le_of_ble_eq_true rfl, Nat.le_of_ble_eq_true rfl⟩) (q0 := 0) rfl rfl rfl rfl ⟨Nat.le_refl _, Nat.le_refl _⟩ (Nat.le_of_ble_eq_true rfl) dX4_degree_9 [.int (iZ (1)), .ref ri] rfl (fun v4 hv4 => ?_)
      obtain rfl := hv4
      refine w_cs 0 0 rfl rfl ?_
      refine w_perm ((rb, .inl (G 0, 9, .inl g2)) :: (ri, .inr (4, [.ref ra, .ref rb, .int (fd), .ref lv, .ref ce, .ref en, .ref re, .ref cx, .int (hfl), .ref px, .ref pq, .ref fx, .ref lo, .ref hi])) :: (ra, .inl (G 0, 9, .inl g)) :: X : va_W) (((List.perm_middle (l₁ := ((ri, .inr (4, [.ref ra, .ref rb, .int (fd), .ref lv, .ref ce, .ref en, .ref re, .ref cx, .int (hfl), .ref px, .ref pq, .ref fx, .ref lo, .ref hi])) :: (ra, .inl (G 0, 9, .inl g)) :: [] : va_W)) (l₂ := (X : va_W))).trans (List.Perm.cons _ (List.Perm.refl _)))) ?_
      refine g_callSi [.ref rb] hA C hNs nT_ok (cw_topPower l D G ((ri, .inr (4, [.ref ra, .ref rb, .int (fd), .ref lv, .ref ce, .ref en, .ref re, .ref cx, .int (hfl), .ref px, .ref pq, .ref fx, .ref lo, .ref hi])) :: (ra, .inl (G 0, 9, .inl g)) :: X : va_W) rb g2) (cwS 1 C.1.2.2.2.2 (wC_S kX4_83 stX4_topPower iniX4 cdX4_topPower) rfl rfl rfl (by decide +kernel) ⟨Nat.le_of_ble_eq_true rfl, Nat.le_of_ble_eq_true rfl⟩) rfl ⟨Nat.le_refl _, Nat.le_refl _⟩ (Nat.le_of_ble_eq_true rfl) dX4_degree_12 [.ref rb] rfl (fun r v5 hv5 => ?_)
      obtain ⟨Nv5, htv5, rfl, rfl⟩ := hv5
      refine w_cs 0 0 rfl rfl ?_
      refine w_perm ((ri, .inr (4, [.ref ra, .ref rb, .int (fd), .ref lv, .ref ce, .ref en, .ref re, .ref cx, .int (hfl), .ref px, .ref pq, .ref fx, .ref lo, .ref hi])) :: (ra, .inl (G 0, 9, .inl g)) :: (rb, .inl (G 0, 9, .inl g2)) :: X : va_W) (((List.perm_middle (l₁ := ((ri, .inr (4, [.ref ra, .ref rb, .int (fd), .ref lv, .ref ce, .ref en, .ref re, .ref cx, .int (hfl), .ref px, .ref pq, .ref fx, .ref lo, .ref hi])) :: (ra, .inl (G 0, 9, .inl g)) :: [] : va_W)) (l₂ := (X : va_W))).trans (List.Perm.cons _ (List.Perm.refl _)))).symm ?_
      refine w_goto C 20 dX4_degree_15 (by decide) ?_
      exact g_iret hsz hhs C hr hlk ⟨by omega, by omega⟩ ⟨Or.inr (Or.inr ⟨rfl, Nv5, htv5, rfl⟩), rfl⟩ dX4_degree_20
set_option maxHeartbeats 4000000 in
set_option maxRecDepth 100000 in
theorem cw_set (l : Launch) (D : va_G) (G : Nat → ClassId) (X : va_W) (ri ra rb lv ce en re cx px pq fx lo hi : Nat) (fd hfl : Int32) (z k v : Int) (g g2 : Nat → Int32) (hz : -2147483648 ≤ z ∧ z < 2147483648) (hk : -2147483648 ≤ k ∧ k < 2147483648) (hv : -2147483648 ≤ v ∧ v < 2147483648) (sz hs : Nat) : Met l yX4_set (wC yX4_set cX4_set 4 (some .int)) ({ frames := 1, cells := 0, slots := 0, locals := 21 }) (va_Pc [.ref ri, .int (iZ (z)), .int (iZ (k)), .int (iZ (v))] (cPre nT D G ((ri, .inr (4, [.ref ra, .ref rb, .int (fd), .ref lv, .ref ce, .ref en, .ref re, .ref cx, .int (hfl), .ref px, .ref pq, .ref fx, .ref lo, .ref hi])) :: (ra, .inl (G 0, 9, .inl g)) :: (rb, .inl (G 0, 9, .inl g2)) :: X : va_W) sz hs)) (va_Qi (fun (r : Int32) (u : cS) => (((z = 0 ∨ z = 1) ∧ (0 ≤ k ∧ k ≤ 8) ∧ -1000000000 ≤ v ∧ v ≤ 1000000000) ∧ r = iZ 0 ∧ ((z = 0 ∧ u = (((ri, .inr (4, [.ref ra, .ref rb, .int (iZ ((-1))), .ref lv, .ref ce, .ref en, .ref re, .ref cx, .int (iZ ((-1))), .ref px, .ref pq, .ref fx, .ref lo, .ref hi])) :: (ra, .inl (G 0, 9, .inl (upd g k.toNat (iZ (v))))) :: (rb, .inl (G 0, 9, .inl g2)) :: X : va_W), 0, 0)) ∨ (z = 1 ∧ u = (((ri, .inr (4, [.ref ra, .ref rb, .int (fd), .ref lv, .ref ce, .ref en, .ref re, .ref cx, .int (iZ ((-1))), .ref px, .ref pq, .ref fx, .ref lo, .ref hi])) :: (ra, .inl (G 0, 9, .inl g)) :: (rb, .inl (G 0, 9, .inl (upd g2 k.toNat (iZ (v))))) :: X : va_W), 0, 0)))) ∨ (¬ ((z = 0 ∨ z = 1) ∧ (0 ≤ k ∧ k ≤ 8) ∧ -1000000000 ≤ v ∧ v ≤ 1000000000) ∧ r = iZ (-2) ∧ u = (((ri, .inr (4, [.ref ra, .ref rb, .int (fd), .ref lv, .ref ce, .ref en, .ref re, .ref cx, .int (hfl), .ref px, .ref pq, .ref fx, .ref lo, .ref hi])) :: (ra, .inl (G 0, 9, .inl g)) :: (rb, .inl (G 0, 9, .inl g2)) :: X : va_W), 0, 0))) (cAt D G (va_A ((ri, .inr (4, [.ref ra, .ref rb, .int (fd), .ref lv, .ref ce, .ref en, .ref re, .ref cx, .int (hfl), .ref px, .ref pq, .ref fx, .ref lo, .ref hi])) :: (ra, .inl (G 0, 9, .inl g)) :: (rb, .inl (G 0, 9, .inl g2)) :: X : va_W) sz) sz hs) (va_A ((ri, .inr (4, [.ref ra, .ref rb, .int (fd), .ref lv, .ref ce, .ref en, .ref re, .ref cx, .int (hfl), .ref px, .ref pq, .ref fx, .ref lo, .ref hi])) :: (ra, .inl (G 0, 9, .inl g)) :: (rb, .inl (G 0, 9, .inl g2)) :: X : va_W) sz)) 0 0 (va_A ((ri, .inr (4, [.ref ra, .ref rb, .int (fd), .ref lv, .ref ce, .ref en, .ref re, .ref cx, .int (hfl), .ref px, .ref pq, .ref fx, .ref lo, .ref hi])) :: (ra, .inl (G 0, 9, .inl g)) :: (rb, .inl (G 0, 9, .inl g2)) :: X : va_W) sz) := by
  refine g_met (cc := cX4_set) (maxL := 4) (ret := (some .int)) (own := RX4) (by decide) rfl rfl (Nat.le_of_ble_eq_true rfl) ?_
  intro p e s m below meth c hsz hhs hNs hA C hr hlk
  refine w_sub [(0, .ref ri), (1, .int (iZ (z))), (2, .int (iZ (k))), (3, .int (iZ (v)))] [0, 1, 2, 3] rfl ?_
  refine w_iload_n C dX4_set_0 1 rfl ?_
  refine g_callSi [.int (iZ (z))] hA C hNs nT_ok (cw_isPolynomial l D G ((ri, .inr (4, [.ref ra, .ref rb, .int (fd), .ref lv, .ref ce, .ref en, .ref re, .ref cx, .int (hfl), .ref px, .ref pq, .ref fx, .ref lo, .ref hi])) :: (ra, .inl (G 0, 9, .inl g)) :: (rb, .inl (G 0, 9, .inl g2)) :: X : va_W) z hz) (cwS 1 C.1.2.2.2.2 (wC_S kX4_68 stX4_isPolynomial iniX4 cdX4_isPolynomial) rfl rfl rfl (by decide +kernel) ⟨Nat.le_of_ble_eq_true rfl, Nat.le_of_ble_eq_true rfl⟩) rfl ⟨Nat.le_refl _, Nat.le_refl _⟩ (Nat.le_of_ble_eq_true rfl) dX4_set_1 [.int (iZ (z))] rfl (fun r v1 hv1 => ?_)
  obtain ⟨rfl, rfl⟩ := hv1
  refine w_cs 0 0 rfl rfl ?_
  refine w_if_eq C 22 dX4_set_4 (by decide) ⟨by split <;> omega, by split <;> omega⟩ (fun c4 => ?_) (fun c4 => ?_)
  · have hno : ¬ (z = 0 ∨ z = 1) := fun q => absurd c4 (by rw [if_pos q]; decide)
    have hbad : ¬ ((z = 0 ∨ z = 1) ∧ (0 ≤ k ∧ k ≤ 8) ∧ -1000000000 ≤ v ∧ v ≤ 1000000000) := fun q => hno q.1
    refine w_bipush C dX4_set_22 (by decide) ?_
    exact g_iret hsz hhs C hr hlk ⟨by omega, by omega⟩ (Or.inr ⟨hbad, rfl, rfl⟩) dX4_set_24
  · have h01 : z = 0 ∨ z = 1 := Classical.byContradiction fun q => c4 (if_neg q)
    refine w_iload_n C dX4_set_7 2 rfl ?_
    refine g_callSi [.int (iZ (k))] hA C hNs nT_ok (cw_isPower l D G ((ri, .inr (4, [.ref ra, .ref rb, .int (fd), .ref lv, .ref ce, .ref en, .ref re, .ref cx, .int (hfl), .ref px, .ref pq, .ref fx, .ref lo, .ref hi])) :: (ra, .inl (G 0, 9, .inl g)) :: (rb, .inl (G 0, 9, .inl g2)) :: X : va_W) k hk) (cwS 1 C.1.2.2.2.2 (wC_S kX4_72 stX4_isPower iniX4 cdX4_isPower) rfl rfl rfl (by decide +kernel) ⟨Nat.le_of_ble_eq_true rfl, Nat.le_of_ble_eq_true rfl⟩) rfl ⟨Nat.le_refl _, Nat.le_refl _⟩ (Nat.le_of_ble_eq_true rfl) dX4_set_8 [.int (iZ (k))] rfl (fun r v2 hv2 => ?_)
    obtain ⟨rfl, rfl⟩ := hv2
    refine w_cs 0 0 rfl rfl ?_
    refine w_if_eq C 22 dX4_set_11 (by decide) ⟨by split <;> omega, by split <;> omega⟩ (fun c11 => ?_) (fun c11 => ?_)
    · have hbad : ¬ ((z = 0 ∨ z = 1) ∧ (0 ≤ k ∧ k ≤ 8) ∧ -1000000000 ≤ v ∧ v ≤ 1000000000) := fun q => absurd c11 (by rw [if_pos q.2.1]; decide)
      refine w_bipush C dX4_set_22 (by decide) ?_
      exact g_iret hsz hhs C hr hlk ⟨by omega, by omega⟩ (Or.inr ⟨hbad, rfl, rfl⟩) dX4_set_24
    · have hk8 : 0 ≤ k ∧ k ≤ 8 := Classical.byContradiction fun q => c11 (if_neg q)
      refine w_iload_n C dX4_set_14 3 rfl ?_
      refine w_i2l C dX4_set_15 ⟨by omega, by omega⟩ ?_
      refine g_callSi [.long (lZ (v))] hA C hNs nT_ok (cw_isNumber l D G ((ri, .inr (4, [.ref ra, .ref rb, .int (fd), .ref lv, .ref ce, .ref en, .ref re, .ref cx, .int (hfl), .ref px, .ref pq, .ref fx, .ref lo, .ref hi])) :: (ra, .inl (G 0, 9, .inl g)) :: (rb, .inl (G 0, 9, .inl g2)) :: X : va_W) v ⟨by omega, by omega⟩) (cwS 1 C.1.2.2.2.2 (wC_S kX4_75 stX4_isNumber iniX4 cdX4_isNumber) rfl rfl rfl (by decide +kernel) ⟨Nat.le_of_ble_eq_true rfl, Nat.le_of_ble_eq_true rfl⟩) rfl ⟨Nat.le_refl _, Nat.le_refl _⟩ (Nat.le_of_ble_eq_true rfl) dX4_set_16 [.long (lZ (v))] rfl (fun r v3 hv3 => ?_)
      obtain ⟨rfl, rfl⟩ := hv3
      refine w_cs 0 0 rfl rfl ?_
      refine w_if_ne C 25 dX4_set_19 (by decide) ⟨by split <;> omega, by split <;> omega⟩ (fun c19 => ?_) (fun c19 => ?_)
      · have hv9 : -1000000000 ≤ v ∧ v ≤ 1000000000 := Classical.byContradiction fun q => c19 (if_neg q)
        rcases h01 with rfl | rfl
        · refine w_aload_n C dX4_set_25 0 rfl ?_
          refine w_iload_n C dX4_set_26 1 rfl ?_
          refine g_callr (ad := ra) [.int (iZ (0))] hA C hNs nT_ok (cw_chosen0 l D G ((ra, .inl (G 0, 9, .inl g)) :: (rb, .inl (G 0, 9, .inl g2)) :: X : va_W) ri ra rb lv ce en re cx px pq fx lo hi fd hfl) (cwV 1 C.1.2.2.2.2 (wC_V kX4_79 nX4_chosen slX4_chosen iniX4 cdX4_chosen) rfl rfl rfl (by decide +kernel) ⟨Nat.le_of_ble_eq_true rfl, Nat.le_of_ble_eq_true rfl⟩) (q0 := 0) rfl rfl rfl rfl ⟨Nat.le_refl _, Nat.le_refl _⟩ (Nat.le_of_ble_eq_true rfl) dX4_set_27 [.int (iZ (0)), .ref ri] rfl (fun v4 hv4 => ?_)
          obtain rfl := hv4
          refine w_cs 0 0 rfl rfl ?_
          refine w_iload_n C dX4_set_30 2 rfl ?_
          refine w_iload_n C dX4_set_31 3 rfl ?_
          refine w_iast C ((ri, .inr (4, [.ref ra, .ref rb, .int (fd), .ref lv, .ref ce, .ref en, .ref re, .ref cx, .int (hfl), .ref px, .ref pq, .ref fx, .ref lo, .ref hi])) :: (ra, .inl (G 0, 9, .inl (upd g (k.toNat) (iZ (v))))) :: (rb, .inl (G 0, 9, .inl g2)) :: X : va_W) 1 0 rfl rfl (k.toNat) ⟨by omega, by omega, by omega⟩ rfl dX4_set_32 ?_
          refine w_aload_n C dX4_set_33 0 rfl ?_
          refine w_iconst C dX4_set_34 ?_
          refine w_put (ci := 4) (ref := "RootIsolator") (T := TX4) (Cn := RX4) (N := 14) (ty := .int) C ((ri, .inr (4, [.ref ra, .ref rb, .int (fd), .ref lv, .ref ce, .ref en, .ref re, .ref cx, .int (iZ ((-1))), .ref px, .ref pq, .ref fx, .ref lo, .ref hi])) :: (ra, .inl (G 0, 9, .inl (upd g (k.toNat) (iZ (v))))) :: (rb, .inl (G 0, 9, .inl g2)) :: X : va_W) (fun w h => wC_in (inX4 w h)) tyX4 tyX4_ok nmX4 0 rfl rfl 8 (by decide) (wC_in fX4_40) rfl rfl (by decide +kernel) rfl rfl (Nat.le_of_ble_eq_true rfl) rfl dX4_set_35 ?_
          refine w_iload_n C dX4_set_38 1 rfl ?_
          refine w_if_ne C 47 dX4_set_39 (by decide) ⟨by omega, by omega⟩ (fun c39 => ?_) (fun c39 => ?_)
          · exact absurd c39 (by omega)
          · refine w_aload_n C dX4_set_42 0 rfl ?_
            refine w_iconst C dX4_set_43 ?_
            refine w_put (ci := 4) (ref := "RootIsolator") (T := TX4) (Cn := RX4) (N := 14) (ty := .int) C ((ri, .inr (4, [.ref ra, .ref rb, .int (iZ ((-1))), .ref lv, .ref ce, .ref en, .ref re, .ref cx, .int (iZ ((-1))), .ref px, .ref pq, .ref fx, .ref lo, .ref hi])) :: (ra, .inl (G 0, 9, .inl (upd g (k.toNat) (iZ (v))))) :: (rb, .inl (G 0, 9, .inl g2)) :: X : va_W) (fun w h => wC_in (inX4 w h)) tyX4 tyX4_ok nmX4 0 rfl rfl 2 (by decide) (wC_in fX4_16) rfl rfl (by decide +kernel) rfl rfl (Nat.le_of_ble_eq_true rfl) rfl dX4_set_44 ?_
            refine w_iconst C dX4_set_47 ?_
            exact g_iret hsz hhs C hr hlk ⟨by omega, by omega⟩ (Or.inl ⟨⟨by omega, hk8, hv9⟩, rfl, Or.inl ⟨rfl, rfl⟩⟩) dX4_set_48
        · refine w_aload_n C dX4_set_25 0 rfl ?_
          refine w_iload_n C dX4_set_26 1 rfl ?_
          refine g_callr (ad := rb) [.int (iZ (1))] hA C hNs nT_ok (cw_chosen1 l D G ((ra, .inl (G 0, 9, .inl g)) :: (rb, .inl (G 0, 9, .inl g2)) :: X : va_W) ri ra rb lv ce en re cx px pq fx lo hi fd hfl) (cwV 1 C.1.2.2.2.2 (wC_V kX4_79 nX4_chosen slX4_chosen iniX4 cdX4_chosen) rfl rfl rfl (by decide +kernel) ⟨Nat.le_of_ble_eq_true rfl, Nat.le_of_ble_eq_true rfl⟩) (q0 := 0) rfl rfl rfl rfl ⟨Nat.le_refl _, Nat.le_refl _⟩ (Nat.le_of_ble_eq_true rfl) dX4_set_27 [.int (iZ (1)), .ref ri] rfl (fun v5 hv5 => ?_)
          obtain rfl := hv5
          refine w_cs 0 0 rfl rfl ?_
          refine w_iload_n C dX4_set_30 2 rfl ?_
          refine w_iload_n C dX4_set_31 3 rfl ?_
          refine w_iast C ((ri, .inr (4, [.ref ra, .ref rb, .int (fd), .ref lv, .ref ce, .ref en, .ref re, .ref cx, .int (hfl), .ref px, .ref pq, .ref fx, .ref lo, .ref hi])) :: (ra, .inl (G 0, 9, .inl g)) :: (rb, .inl (G 0, 9, .inl (upd g2 (k.toNat) (iZ (v))))) :: X : va_W) 2 0 rfl rfl (k.toNat) ⟨by omega, by omega, by omega⟩ rfl dX4_set_32 ?_
          refine w_aload_n C dX4_set_33 0 rfl ?_
          refine w_iconst C dX4_set_34 ?_
          refine w_put (ci := 4) (ref := "RootIsolator") (T := TX4) (Cn := RX4) (N := 14) (ty := .int) C ((ri, .inr (4, [.ref ra, .ref rb, .int (fd), .ref lv, .ref ce, .ref en, .ref re, .ref cx, .int (iZ ((-1))), .ref px, .ref pq, .ref fx, .ref lo, .ref hi])) :: (ra, .inl (G 0, 9, .inl g)) :: (rb, .inl (G 0, 9, .inl (upd g2 (k.toNat) (iZ (v))))) :: X : va_W) (fun w h => wC_in (inX4 w h)) tyX4 tyX4_ok nmX4 0 rfl rfl 8 (by decide) (wC_in fX4_40) rfl rfl (by decide +kernel) rfl rfl (Nat.le_of_ble_eq_true rfl) rfl dX4_set_35 ?_
          refine w_iload_n C dX4_set_38 1 rfl ?_
          refine w_if_ne C 47 dX4_set_39 (by decide) ⟨by omega, by omega⟩ (fun c39 => ?_) (fun c39 => ?_)
          · refine w_iconst C dX4_set_47 ?_
            exact g_iret hsz hhs C hr hlk ⟨by omega, by omega⟩ (Or.inl ⟨⟨by omega, hk8, hv9⟩, rfl, Or.inr ⟨rfl, rfl⟩⟩) dX4_set_48
          · exact absurd c39 (by omega)
      · have hbad : ¬ ((z = 0 ∨ z = 1) ∧ (0 ≤ k ∧ k ≤ 8) ∧ -1000000000 ≤ v ∧ v ≤ 1000000000) := fun q => absurd c19 (by rw [if_pos q.2.2]; decide)
        refine w_bipush C dX4_set_22 (by decide) ?_
        exact g_iret hsz hhs C hr hlk ⟨by omega, by omega⟩ (Or.inr ⟨hbad, rfl, rfl⟩) dX4_set_24
set_option maxHeartbeats 4000000 in
set_option maxRecDepth 100000 in
theorem cw_swap (l : Launch) (D : va_G) (G : Nat → ClassId) (X : va_W) (ri ra rb lv ce en re cx px pq fx lo hi : Nat) (fd hfl : Int32) (g g2 : Nat → Int32)  (sz hs : Nat) : Met l yX4_swap (wC yX4_swap cX4_swap 2 (some .int)) ({ frames := 1, cells := 0, slots := 0, locals := 21 }) (va_Pc [.ref ri] (cPre nT D G ((ri, .inr (4, [.ref ra, .ref rb, .int (fd), .ref lv, .ref ce, .ref en, .ref re, .ref cx, .int (hfl), .ref px, .ref pq, .ref fx, .ref lo, .ref hi])) :: (ra, .inl (G 0, 9, .inl g)) :: (rb, .inl (G 0, 9, .inl g2)) :: X : va_W) sz hs)) (va_Qi (fun (r : Int32) (u : cS) => (∃ N : Nat, tpN (gp g2) 9 N ∧ r = iZ (tpv N)) ∧ u = (((ri, .inr (4, [.ref rb, .ref ra, .int (iZ ((-1))), .ref lv, .ref ce, .ref en, .ref re, .ref cx, .int (iZ ((-1))), .ref px, .ref pq, .ref fx, .ref lo, .ref hi])) :: (ra, .inl (G 0, 9, .inl g)) :: (rb, .inl (G 0, 9, .inl g2)) :: X : va_W), 0, 0)) (cAt D G (va_A ((ri, .inr (4, [.ref ra, .ref rb, .int (fd), .ref lv, .ref ce, .ref en, .ref re, .ref cx, .int (hfl), .ref px, .ref pq, .ref fx, .ref lo, .ref hi])) :: (ra, .inl (G 0, 9, .inl g)) :: (rb, .inl (G 0, 9, .inl g2)) :: X : va_W) sz) sz hs) (va_A ((ri, .inr (4, [.ref ra, .ref rb, .int (fd), .ref lv, .ref ce, .ref en, .ref re, .ref cx, .int (hfl), .ref px, .ref pq, .ref fx, .ref lo, .ref hi])) :: (ra, .inl (G 0, 9, .inl g)) :: (rb, .inl (G 0, 9, .inl g2)) :: X : va_W) sz)) 0 0 (va_A ((ri, .inr (4, [.ref ra, .ref rb, .int (fd), .ref lv, .ref ce, .ref en, .ref re, .ref cx, .int (hfl), .ref px, .ref pq, .ref fx, .ref lo, .ref hi])) :: (ra, .inl (G 0, 9, .inl g)) :: (rb, .inl (G 0, 9, .inl g2)) :: X : va_W) sz) := by
  refine g_met (cc := cX4_swap) (maxL := 2) (ret := (some .int)) (own := RX4) (by decide) rfl rfl (Nat.le_of_ble_eq_true rfl) ?_
  intro p e s m below meth c hsz hhs hNs hA C hr hlk
  refine w_sub [(0, .ref ri)] [0] rfl ?_
  refine w_aload_n C dX4_swap_0 0 rfl ?_
  refine w_get (ci := 4) (ref := "RootIsolator") (T := TX4) (Cn := RX4) (N := 14) C (fun w h => wC_in (inX4 w h)) 0 rfl rfl 0 (by decide) (wC_in fX4_9) rfl rfl dX4_swap_1 ?_
  refine w_astore_n C [(1, .ref ra), (0, .ref ri)] dX4_swap_4 rfl (by decide) rfl ?_
  refine w_aload_n C dX4_swap_5 1 rfl ?_
  refine w_aload_n C dX4_swap_6 1 rfl ?_
  refine w_get (ci := 4) (ref := "RootIsolator") (T := TX4) (Cn := RX4) (N := 14) C (fun w h => wC_in (inX4 w h)) 0 rfl rfl 1 (by decide) (wC_in fX4_13) rfl rfl dX4_swap_7 ?_
  refine w_put (ci := 4) (ref := "RootIsolator") (T := TX4) (Cn := RX4) (N := 14) (ty := (.array .int)) C ((ri, .inr (4, [.ref rb, .ref rb, .int (fd), .ref lv, .ref ce, .ref en, .ref re, .ref cx, .int (hfl), .ref px, .ref pq, .ref fx, .ref lo, .ref hi])) :: (ra, .inl (G 0, 9, .inl g)) :: (rb, .inl (G 0, 9, .inl g2)) :: X : va_W) (fun w h => wC_in (inX4 w h)) tyX4 tyX4_ok nmX4 0 rfl rfl 0 (by decide) (wC_in fX4_9) rfl rfl (by decide +kernel) rfl rfl (Nat.le_of_ble_eq_true rfl) rfl dX4_swap_10 ?_
  refine w_aload_n C dX4_swap_13 1 rfl ?_
  refine w_aload_n C dX4_swap_14 0 rfl ?_
  refine w_put (ci := 4) (ref := "RootIsolator") (T := TX4) (Cn := RX4) (N := 14) (ty := (.array .int)) C ((ri, .inr (4, [.ref rb, .ref ra, .int (fd), .ref lv, .ref ce, .ref en, .ref re, .ref cx, .int (hfl), .ref px, .ref pq, .ref fx, .ref lo, .ref hi])) :: (ra, .inl (G 0, 9, .inl g)) :: (rb, .inl (G 0, 9, .inl g2)) :: X : va_W) (fun w h => wC_in (inX4 w h)) tyX4 tyX4_ok nmX4 0 rfl rfl 1 (by decide) (wC_in fX4_13) rfl rfl (by decide +kernel) rfl rfl (Nat.le_of_ble_eq_true rfl) rfl dX4_swap_15 ?_
  refine w_aload_n C dX4_swap_18 1 rfl ?_
  refine w_iconst C dX4_swap_19 ?_
  refine w_put (ci := 4) (ref := "RootIsolator") (T := TX4) (Cn := RX4) (N := 14) (ty := .int) C ((ri, .inr (4, [.ref rb, .ref ra, .int (fd), .ref lv, .ref ce, .ref en, .ref re, .ref cx, .int (iZ ((-1))), .ref px, .ref pq, .ref fx, .ref lo, .ref hi])) :: (ra, .inl (G 0, 9, .inl g)) :: (rb, .inl (G 0, 9, .inl g2)) :: X : va_W) (fun w h => wC_in (inX4 w h)) tyX4 tyX4_ok nmX4 0 rfl rfl 8 (by decide) (wC_in fX4_40) rfl rfl (by decide +kernel) rfl rfl (Nat.le_of_ble_eq_true rfl) rfl dX4_swap_20 ?_
  refine w_aload_n C dX4_swap_23 1 rfl ?_
  refine w_iconst C dX4_swap_24 ?_
  refine w_put (ci := 4) (ref := "RootIsolator") (T := TX4) (Cn := RX4) (N := 14) (ty := .int) C ((ri, .inr (4, [.ref rb, .ref ra, .int (iZ ((-1))), .ref lv, .ref ce, .ref en, .ref re, .ref cx, .int (iZ ((-1))), .ref px, .ref pq, .ref fx, .ref lo, .ref hi])) :: (ra, .inl (G 0, 9, .inl g)) :: (rb, .inl (G 0, 9, .inl g2)) :: X : va_W) (fun w h => wC_in (inX4 w h)) tyX4 tyX4_ok nmX4 0 rfl rfl 2 (by decide) (wC_in fX4_16) rfl rfl (by decide +kernel) rfl rfl (Nat.le_of_ble_eq_true rfl) rfl dX4_swap_25 ?_
  refine w_aload_n C dX4_swap_28 1 rfl ?_
  refine w_get (ci := 4) (ref := "RootIsolator") (T := TX4) (Cn := RX4) (N := 14) C (fun w h => wC_in (inX4 w h)) 0 rfl rfl 0 (by decide) (wC_in fX4_9) rfl rfl dX4_swap_29 ?_
  refine w_perm ((rb, .inl (G 0, 9, .inl g2)) :: (ri, .inr (4, [.ref rb, .ref ra, .int (iZ ((-1))), .ref lv, .ref ce, .ref en, .ref re, .ref cx, .int (iZ ((-1))), .ref px, .ref pq, .ref fx, .ref lo, .ref hi])) :: (ra, .inl (G 0, 9, .inl g)) :: X : va_W) (((List.perm_middle (l₁ := ((ri, .inr (4, [.ref rb, .ref ra, .int (iZ ((-1))), .ref lv, .ref ce, .ref en, .ref re, .ref cx, .int (iZ ((-1))), .ref px, .ref pq, .ref fx, .ref lo, .ref hi])) :: (ra, .inl (G 0, 9, .inl g)) :: [] : va_W)) (l₂ := (X : va_W))).trans (List.Perm.cons _ (List.Perm.refl _)))) ?_
  refine g_callSi [.ref rb] hA C hNs nT_ok (cw_topPower l D G ((ri, .inr (4, [.ref rb, .ref ra, .int (iZ ((-1))), .ref lv, .ref ce, .ref en, .ref re, .ref cx, .int (iZ ((-1))), .ref px, .ref pq, .ref fx, .ref lo, .ref hi])) :: (ra, .inl (G 0, 9, .inl g)) :: X : va_W) rb g2) (cwS 1 C.1.2.2.2.2 (wC_S kX4_83 stX4_topPower iniX4 cdX4_topPower) rfl rfl rfl (by decide +kernel) ⟨Nat.le_of_ble_eq_true rfl, Nat.le_of_ble_eq_true rfl⟩) rfl ⟨Nat.le_refl _, Nat.le_refl _⟩ (Nat.le_of_ble_eq_true rfl) dX4_swap_32 [.ref rb] rfl (fun r v1 hv1 => ?_)
  obtain ⟨Nv1, htv1, rfl, rfl⟩ := hv1
  refine w_cs 0 0 rfl rfl ?_
  refine w_perm ((ri, .inr (4, [.ref rb, .ref ra, .int (iZ ((-1))), .ref lv, .ref ce, .ref en, .ref re, .ref cx, .int (iZ ((-1))), .ref px, .ref pq, .ref fx, .ref lo, .ref hi])) :: (ra, .inl (G 0, 9, .inl g)) :: (rb, .inl (G 0, 9, .inl g2)) :: X : va_W) (((List.perm_middle (l₁ := ((ri, .inr (4, [.ref rb, .ref ra, .int (iZ ((-1))), .ref lv, .ref ce, .ref en, .ref re, .ref cx, .int (iZ ((-1))), .ref px, .ref pq, .ref fx, .ref lo, .ref hi])) :: (ra, .inl (G 0, 9, .inl g)) :: [] : va_W)) (l₂ := (X : va_W))).trans (List.Perm.cons _ (List.Perm.refl _)))).symm ?_
  exact g_iret hsz hhs C hr hlk ⟨by omega, by omega⟩ ⟨⟨Nv1, htv1, rfl⟩, rfl⟩ dX4_swap_35
