/-- the state of the search: row 11 holds c -/
def bSt (Z : Nat → Int) (fD : Nat → Int32) (N : Nat) (c Y : Nat → Int) (kL kS kN gD : Nat → Int32) : Prop := mAll kL kS kN Y ∧ gD 11 = iZ ((N : Int) - 1) ∧ (∀ q : Nat, q ≠ 11 → q ≠ 12 → gD q = fD q) ∧ (∀ i : Nat, i < N → Y (99 + i) = c i) ∧ ∀ j : Nat, (j < 99 ∨ 117 ≤ j) → Y j = Z j
theorem bSt_12 {Z : Nat → Int} {fD : Nat → Int32} {N : Nat} {c Y Y1 : Nat → Int} {kL kS kN gD kL1 kS1 kN1 : Nat → Int32} {x : Int32} (h : bSt Z fD N c Y kL kS kN gD) (hZ : mAll kL1 kS1 kN1 Y1) (hY : ∀ c : Nat, (c < 108 ∨ 117 ≤ c) → Y1 c = Y c) (hN : N ≤ 9) : bSt Z fD N c Y1 kL1 kS1 kN1 (upd gD 12 x) := by
  obtain ⟨h1, h2, h3, h4, h5⟩ := h
  exact ⟨hZ, by rw [upd_ne (by omega)]; exact h2, fun q q1 q2 => by rw [upd_ne q2]; exact h3 q q1 q2, fun i hi => (hY _ (by omega)).trans (h4 i hi), fun j hj => (hY j (by omega)).trans (h5 j hj)⟩
theorem bSt_sh {Z : Nat → Int} {fD : Nat → Int32} {N : Nat} {c Y V : Nat → Int} {kL kS kN gD kL1 kS1 kN1 : Nat → Int32} (h : bSt Z fD N c Y kL kS kN gD) (hZ : mAll kL1 kS1 kN1 V) (hV1 : ∀ i : Nat, i < N → V (9 * 11 + i) = shf (fun k => Y (9 * 11 + k)) N (N - 1) i) (hV2 : ∀ c : Nat, (c < 9 * 11 ∨ 9 * 11 + N ≤ c) → V c = Y c) (hN : N ≤ 9) : bSt Z fD N (sh1 c N) V kL1 kS1 kN1 gD := by
  obtain ⟨h1, h2, h3, h4, h5⟩ := h
  exact ⟨hZ, h2, h3, fun i hi => (hV1 i hi).trans (shf_congr (fun j hj => h4 j hj) _ i hi), fun j hj => (hV2 j (by omega)).trans (h5 j hj)⟩
theorem bSt_hl {Z : Nat → Int} {fD : Nat → Int32} {N : Nat} {c Y V : Nat → Int} {kL kS kN gD kL1 kS1 kN1 : Nat → Int32} (h : bSt Z fD N c Y kL kS kN gD) (hZ : mAll kL1 kS1 kN1 V) (hV1 : ∀ i : Nat, i < N → V (9 * 11 + i) = Y (9 * 11 + i) * 2 ^ (N - 1 - i)) (hV2 : ∀ c : Nat, (c < 9 * 11 ∨ 9 * 11 + N ≤ c) → V c = Y c) (hN : N ≤ 9) : bSt Z fD N (hlv c N) V kL1 kS1 kN1 gD := by
  obtain ⟨h1, h2, h3, h4, h5⟩ := h
  refine ⟨hZ, h2, h3, fun i hi => ?_, fun j hj => (hV2 j (by omega)).trans (h5 j hj)⟩
  refine (hV1 i hi).trans ?_
  unfold hlv
  rw [← h4 i hi]
theorem bSt_tw {Z : Nat → Int} {fD : Nat → Int32} {N : Nat} {c e Y V : Nat → Int} {kL kS kN gD kL1 kS1 kN1 : Nat → Int32} (h : bSt Z fD N c Y kL kS kN gD) (hZ : mAll kL1 kS1 kN1 V) (hV1 : ∀ i : Nat, i < N - 1 → V (9 * 11 + i) = (Y (9 * 11 + i)).sign * (((Y (9 * 11 + i)).natAbs : Int) / 2 ^ (N - 1 - i))) (hV2 : ∀ c : Nat, (c < 9 * 11 ∨ 9 * 11 + (N - 1) ≤ c) → V c = Y c) (hN : N ≤ 9) (he : ∀ k : Nat, k < N → twc c N k = e k) : bSt Z fD N e V kL1 kS1 kN1 gD := by
  obtain ⟨h1, h2, h3, h4, h5⟩ := h
  refine ⟨hZ, h2, h3, fun i hi => ?_, fun j hj => (hV2 j (by omega)).trans (h5 j hj)⟩
  rw [← he i hi]
  unfold twc
  by_cases q : i < N - 1
  · rw [if_pos q, ← h4 i hi]; exact hV1 i q
  · rw [if_neg q, ← h4 i hi]; exact hV2 (9 * 11 + i) (by omega)
theorem bSt_vv {Z : Nat → Int} {fD : Nat → Int32} {N : Nat} {c Y : Nat → Int} {kL kS kN gD : Nat → Int32} (h : bSt Z fD N c Y kL kS kN gD) : vc (shf (fun k => Y (9 * 11 + (N - 1 - k))) N (N - 1)) N = vv c N :=
  vc_congr (fun k hk => shf_congr (fun j hj => h.2.2.2.1 (N - 1 - j) (by omega)) _ k hk)
theorem bSt_b {Z : Nat → Int} {fD : Nat → Int32} {N : Nat} {c Y : Nat → Int} {kL kS kN gD : Nat → Int32} {M : Int} (h : bSt Z fD N c Y kL kS kN gD) (hB : ∀ i : Nat, i < N → ((c i).natAbs : Int) ≤ M) : ∀ i : Nat, i < N → ((Y (9 * 11 + i)).natAbs : Int) ≤ M := fun i hi => by
  have := hB i hi
  rw [← h.2.2.2.1 i hi] at this; exact this
set_option maxHeartbeats 4000000 in
set_option maxRecDepth 100000 in
/-- between: the search for the roots between 0 and 1 -/
theorem cm_between (l : Launch) (D : va_G) (Q : Nat → Nat) (G : Nat → ClassId) (fL fS fN fD : Nat → Int32) (X : mX) (Z cf0 : Nat → Int) (r N h : Nat) (hZ : mAll fL fS fN Z) (hr2 : r < 11) (hn : fD r = iZ ((N : Int) - 1)) (hN : N ≤ 9) (hcf : ∀ i : Nat, i < N → Z (9 * r + i) = cf0 i) (hT : 1 < N → TV N h cf0) (hh : h < 4000) (sz : Nat) : Met l yX5_between (wC yX5_between cX5_between 6 (some .int)) ({ frames := 5, cells := 0, slots := 0, locals := 129 }) (va_Pc [.ref (Q 0), .int (iZ ((r : Int)))] (mPre D Q G (fL, fS, fN, fD, X) sz)) (va_Qi (fun (q : Int32) (u : mT) => q = iZ (if N ≤ 1 then 0 else ((CV N h cf0 : Nat) : Int)) ∧ ∃ (Y : Nat → Int) (gD fB : Nat → Int32), mPost gD (xB X fB) Y u ∧ (∀ q : Nat, q ≠ 11 → q ≠ 12 → gD q = fD q) ∧ ∀ j : Nat, (j < 99 ∨ 117 ≤ j) → Y j = Z j) (mAt D Q G (mA Q sz)) (mA Q sz)) 0 0 (mA Q sz) := by
  refine m_met (cc := cX5_between) (maxL := 6) (ret := (some .int)) (by decide) rfl rfl (Nat.le_of_ble_eq_true rfl) ?_
  intro p e s m below meth c hsz C hr hlk
  refine w_sub [(0, .ref (Q 0)), (1, .int (iZ ((r : Int))))] [0, 1] rfl ?_
  have leaf : ∀ (dp : Nat) (n : Int) (cf : Nat → Int) (Y : Nat → Int) (kL : Nat → Int32) (kS : Nat → Int32) (kN : Nat → Int32) (gD : Nat → Int32) (fB : Nat → Int32), dp < 4000 → okB cf N → vv cf N ≤ 1 → bSt Z fD N cf Y kL kS kN gD → (∀ (Yz : Nat → Int) (kLz : Nat → Int32) (kSz : Nat → Int32) (kNz : Nat → Int32) (gDz : Nat → Int32) (fBz : Nat → Int32), bSt Z fD N (sh1 cf N) Yz kLz kSz kNz gDz → (∀ j : Nat, j ≤ dp → fBz j = fB j) → ZW p l e ({ frames := 5, cells := 0, slots := 0, locals := 129 }) s m ([.ref (Q 0), .int (iZ ((r : Int)))] : List Value).toArray below meth c D (mA Q sz) 6 0 0 (MQ below (va_Qi (fun (q : Int32) (u : mT) => q = iZ (if N ≤ 1 then 0 else ((CV N h cf0 : Nat) : Int)) ∧ ∃ (Y : Nat → Int) (gD fB : Nat → Int32), mPost gD (xB X fB) Y u ∧ (∀ q : Nat, q ≠ 11 → q ≠ 12 → gD q = fD q) ∧ ∀ j : Nat, (j < 99 ∨ 117 ≤ j) → Y j = Z j) (mAt D Q G (mA Q sz)) (mA Q sz)) ([.ref (Q 0), .int (iZ ((r : Int)))] : List Value).toArray s 0 0 (mA Q sz)) (mU Q G (kLz, kSz, kNz, gDz, (xB X fBz))) 77 [(2, .int (iZ (n + ((vv cf N : Nat) : Int)))), (3, .int (iZ ((dp : Int)))), (0, .ref (Q 0)), (1, .int (iZ ((r : Int))))] []) → ZW p l e ({ frames := 5, cells := 0, slots := 0, locals := 129 }) s m ([.ref (Q 0), .int (iZ ((r : Int)))] : List Value).toArray below meth c D (mA Q sz) 6 0 0 (MQ below (va_Qi (fun (q : Int32) (u : mT) => q = iZ (if N ≤ 1 then 0 else ((CV N h cf0 : Nat) : Int)) ∧ ∃ (Y : Nat → Int) (gD fB : Nat → Int32), mPost gD (xB X fB) Y u ∧ (∀ q : Nat, q ≠ 11 → q ≠ 12 → gD q = fD q) ∧ ∀ j : Nat, (j < 99 ∨ 117 ≤ j) → Y j = Z j) (mAt D Q G (mA Q sz)) (mA Q sz)) ([.ref (Q 0), .int (iZ ((r : Int)))] : List Value).toArray s 0 0 (mA Q sz)) (mU Q G (kL, kS, kN, gD, (xB X fB))) 28 [(4, .int (iZ (1))), (3, .int (iZ ((dp : Int)))), (2, .int (iZ (n))), (0, .ref (Q 0)), (1, .int (iZ ((r : Int))))] [] := by
    intro dp n cf Y kL kS kN gD fB hdp hok hv hS K
    obtain ⟨M, hM, hB, hM2⟩ := hok
    have hvle := vc_le (shf (fun k => cf (N - 1 - k)) N (N - 1)) N
    refine w_iload C dX5_between_28 0 rfl ?_
    refine w_if_eq C 150 dX5_between_30 (by decide) ⟨by omega, by omega⟩ (fun c30 => ?_) (fun c30 => ?_)
    · exact absurd c30 (by omega)
    · refine w_aload_n C dX5_between_33 3 rfl ?_
      refine w_bipush C dX5_between_34 (by decide) ?_
      refine m_calli [.int (iZ (11))] hsz C (fun z => cm_changes l D Q G kL kS kN gD (xB X fB) Y 11 N M hS.1 (by omega) (by omega) hS.2.1 hN hM (bSt_b hS hB) (by have := p639; omega) z) (cwV 1 C.1.2.2.2.2 (wC_V kX5_116 nX5_changes slX5_changes iniX5 cdX5_changes) rfl rfl rfl (by decide +kernel) ⟨Nat.le_of_ble_eq_true rfl, Nat.le_of_ble_eq_true rfl⟩) rfl ⟨Nat.zero_le _, Nat.zero_le _⟩ (Nat.le_of_ble_eq_true rfl) dX5_between_36 [.int (iZ (11)), .ref (Q 0)] rfl (fun r v1 hv1 => ?_)
      obtain ⟨rfl, Ya, ⟨kLa, kSa, kNa, hZa, rfl⟩, hYa⟩ := hv1
      have hSa := bSt_12 (x := iZ ((N : Int) - 1)) hS hZa hYa hN
      refine w_top C (((vv cf N : Nat) : Int)) (by rw [bSt_vv hS]) ?_
      refine w_istore C [(5, .int (iZ (((vv cf N : Nat) : Int)))), (4, .int (iZ (1))), (3, .int (iZ ((dp : Int)))), (2, .int (iZ (n))), (0, .ref (Q 0)), (1, .int (iZ ((r : Int))))] dX5_between_39 (by decide) rfl ?_
      refine w_iload C dX5_between_41 0 rfl ?_
      refine w_iconst C dX5_between_43 ?_
      refine w_icmp_le C 66 dX5_between_44 (by decide) ⟨⟨by omega, by unfold vv; omega⟩, by omega, by omega⟩ (fun c44 => ?_) (fun c44 => ?_)
      · refine w_iload_n C dX5_between_66 3 rfl ?_
        refine w_iload C dX5_between_67 0 rfl ?_
        refine w_iadd C dX5_between_69 ?_
        refine w_istore_n C [(2, .int (iZ (n + (((vv cf N : Nat) : Int))))), (5, .int (iZ (((vv cf N : Nat) : Int)))), (4, .int (iZ (1))), (3, .int (iZ ((dp : Int)))), (0, .ref (Q 0)), (1, .int (iZ ((r : Int))))] dX5_between_70 rfl (by decide) rfl ?_
        refine w_aload_n C dX5_between_71 4 rfl ?_
        refine w_bipush C dX5_between_72 (by decide) ?_
        refine m_callv [.int (iZ (11))] hsz C (fun z => cm_shiftRow l D Q G kLa kSa kNa (upd gD 12 (iZ ((N : Int) - 1))) (xB X fB) Ya 11 N M hZa (by omega) hSa.2.1 hN hM (bSt_b hSa hB) (by have := p639; omega) z) (cwV 1 C.1.2.2.2.2 (wC_V kX5_113 nX5_shiftRow slX5_shiftRow iniX5 cdX5_shiftRow) rfl rfl rfl (by decide +kernel) ⟨Nat.le_of_ble_eq_true rfl, Nat.le_of_ble_eq_true rfl⟩) rfl ⟨Nat.zero_le _, Nat.zero_le _⟩ (Nat.le_of_ble_eq_true rfl) dX5_between_74 [.int (iZ (11)), .ref (Q 0)] rfl (fun v2 hv2 => ?_)
        obtain ⟨Yb, ⟨kLb, kSb, kNb, hZb, rfl⟩, hb1, hb2⟩ := hv2
        have hSb := bSt_sh hSa hZb hb1 hb2 hN
        refine w_sub [(2, .int (iZ (n + (((vv cf N : Nat) : Int))))), (3, .int (iZ ((dp : Int)))), (0, .ref (Q 0)), (1, .int (iZ ((r : Int))))] [0, 3, 4, 5] rfl ?_
        exact K _ _ _ _ _ _ hSb (fun _ _ => rfl)
      · exact absurd (show ((vv cf N : Nat) : Int) ≤ 1 by omega) c44
  have node : ∀ (g : Nat) (dp : Nat) (n : Int) (cf : Nat → Int) (Y : Nat → Int) (kL : Nat → Int32) (kS : Nat → Int32) (kN : Nat → Int32) (gD : Nat → Int32) (fB : Nat → Int32), dp + g < 4000 → TV N g cf → bSt Z fD N cf Y kL kS kN gD → (∀ (Yz : Nat → Int) (kLz : Nat → Int32) (kSz : Nat → Int32) (kNz : Nat → Int32) (gDz : Nat → Int32) (fBz : Nat → Int32), bSt Z fD N (sh1 cf N) Yz kLz kSz kNz gDz → (∀ j : Nat, j ≤ dp → fBz j = fB j) → ZW p l e ({ frames := 5, cells := 0, slots := 0, locals := 129 }) s m ([.ref (Q 0), .int (iZ ((r : Int)))] : List Value).toArray below meth c D (mA Q sz) 6 0 0 (MQ below (va_Qi (fun (q : Int32) (u : mT) => q = iZ (if N ≤ 1 then 0 else ((CV N h cf0 : Nat) : Int)) ∧ ∃ (Y : Nat → Int) (gD fB : Nat → Int32), mPost gD (xB X fB) Y u ∧ (∀ q : Nat, q ≠ 11 → q ≠ 12 → gD q = fD q) ∧ ∀ j : Nat, (j < 99 ∨ 117 ≤ j) → Y j = Z j) (mAt D Q G (mA Q sz)) (mA Q sz)) ([.ref (Q 0), .int (iZ ((r : Int)))] : List Value).toArray s 0 0 (mA Q sz)) (mU Q G (kLz, kSz, kNz, gDz, (xB X fBz))) 77 [(2, .int (iZ (n + ((CV N g cf : Nat) : Int)))), (3, .int (iZ ((dp : Int)))), (0, .ref (Q 0)), (1, .int (iZ ((r : Int))))] []) → ZW p l e ({ frames := 5, cells := 0, slots := 0, locals := 129 }) s m ([.ref (Q 0), .int (iZ ((r : Int)))] : List Value).toArray below meth c D (mA Q sz) 6 0 0 (MQ below (va_Qi (fun (q : Int32) (u : mT) => q = iZ (if N ≤ 1 then 0 else ((CV N h cf0 : Nat) : Int)) ∧ ∃ (Y : Nat → Int) (gD fB : Nat → Int32), mPost gD (xB X fB) Y u ∧ (∀ q : Nat, q ≠ 11 → q ≠ 12 → gD q = fD q) ∧ ∀ j : Nat, (j < 99 ∨ 117 ≤ j) → Y j = Z j) (mAt D Q G (mA Q sz)) (mA Q sz)) ([.ref (Q 0), .int (iZ ((r : Int)))] : List Value).toArray s 0 0 (mA Q sz)) (mU Q G (kL, kS, kN, gD, (xB X fB))) 28 [(4, .int (iZ (1))), (3, .int (iZ ((dp : Int)))), (2, .int (iZ (n))), (0, .ref (Q 0)), (1, .int (iZ ((r : Int))))] [] := by
    intro g
    induction g with
    | zero =>
      intro dp n cf Y kL kS kN gD fB hdp hT hS K
      exact leaf dp n cf Y kL kS kN gD fB (by omega) hT.1 hT.2 hS K
    | succ g ih =>
      intro dp n cf Y kL kS kN gD fB hdp hT hS K
      by_cases hv : vv cf N ≤ 1
      · exact leaf dp n cf Y kL kS kN gD fB (by omega) hT.1 hv hS (by rw [CV_leaf (h := g + 1) hv] at K; exact K)
      obtain ⟨⟨M, hM, hB, hM2⟩, hq⟩ := hT
      obtain ⟨t1, t2, t3, t4⟩ := hq.resolve_left hv
      have hvle := vc_le (shf (fun k => cf (N - 1 - k)) N (N - 1)) N
      have h9 := le16 hM
      have hN0 : 1 < N := by have hq2 : vv cf N ≤ N := hvle; omega
      refine w_iload C dX5_between_28 0 rfl ?_
      refine w_if_eq C 150 dX5_between_30 (by decide) ⟨by omega, by omega⟩ (fun c30 => ?_) (fun c30 => ?_)
      · exact absurd c30 (by omega)
      · refine w_aload_n C dX5_between_33 3 rfl ?_
        refine w_bipush C dX5_between_34 (by decide) ?_
        refine m_calli [.int (iZ (11))] hsz C (fun z => cm_changes l D Q G kL kS kN gD (xB X fB) Y 11 N M hS.1 (by omega) (by omega) hS.2.1 hN hM (bSt_b hS hB) (by have := p639; omega) z) (cwV 1 C.1.2.2.2.2 (wC_V kX5_116 nX5_changes slX5_changes iniX5 cdX5_changes) rfl rfl rfl (by decide +kernel) ⟨Nat.le_of_ble_eq_true rfl, Nat.le_of_ble_eq_true rfl⟩) rfl ⟨Nat.zero_le _, Nat.zero_le _⟩ (Nat.le_of_ble_eq_true rfl) dX5_between_36 [.int (iZ (11)), .ref (Q 0)] rfl (fun r v3 hv3 => ?_)
        obtain ⟨rfl, Ya, ⟨kLa, kSa, kNa, hZa, rfl⟩, hYa⟩ := hv3
        have hSa := bSt_12 (x := iZ ((N : Int) - 1)) hS hZa hYa hN
        refine w_top C (((vv cf N : Nat) : Int)) (by rw [bSt_vv hS]) ?_
        refine w_istore C [(5, .int (iZ (((vv cf N : Nat) : Int)))), (4, .int (iZ (1))), (3, .int (iZ ((dp : Int)))), (2, .int (iZ (n))), (0, .ref (Q 0)), (1, .int (iZ ((r : Int))))] dX5_between_39 (by decide) rfl ?_
        refine w_iload C dX5_between_41 0 rfl ?_
        refine w_iconst C dX5_between_43 ?_
        refine w_icmp_le C 66 dX5_between_44 (by decide) ⟨⟨by omega, by unfold vv; omega⟩, by omega, by omega⟩ (fun c44 => ?_) (fun c44 => ?_)
        · exact absurd c44 (by omega)
        · refine w_aload_n C dX5_between_47 4 rfl ?_
          refine w_bipush C dX5_between_48 (by decide) ?_
          refine m_callv [.int (iZ (11))] hsz C (fun z => cm_halve l D Q G kLa kSa kNa (upd gD 12 (iZ ((N : Int) - 1))) (xB X fB) Ya 11 N 638 hZa (by omega) hSa.2.1 hN (fun i hi => by have := bSt_b hSa hB i hi; omega) (by omega) z) (cwV 1 C.1.2.2.2.2 (wC_V kX5_120 nX5_halve slX5_halve iniX5 cdX5_halve) rfl rfl rfl (by decide +kernel) ⟨Nat.le_of_ble_eq_true rfl, Nat.le_of_ble_eq_true rfl⟩) rfl ⟨Nat.zero_le _, Nat.zero_le _⟩ (Nat.le_of_ble_eq_true rfl) dX5_between_50 [.int (iZ (11)), .ref (Q 0)] rfl (fun v4 hv4 => ?_)
          obtain ⟨Yc, ⟨kLc, kSc, kNc, hZc, rfl⟩, hc1, hc2⟩ := hv4
          have hSc := bSt_hl hSa hZc hc1 hc2 hN
          refine w_iinc C (((dp + 1 : Nat) : Int)) (by omega) [(3, .int (iZ (((dp + 1 : Nat) : Int)))), (5, .int (iZ (((vv cf N : Nat) : Int)))), (4, .int (iZ (1))), (2, .int (iZ (n))), (0, .ref (Q 0)), (1, .int (iZ ((r : Int))))] dX5_between_53 2 rfl (by decide) rfl ?_
          refine w_aload_n C dX5_between_56 4 rfl ?_
          refine w_get (ci := 5) (ref := "RootIsolatorModel") (T := TX5) (Cn := RX5) (N := 10) C (fun w h => wC_in (inX5 w h)) 0 rfl rfl 9 (by decide) (wC_in fX5_second) rfl rfl dX5_between_57 ?_
          refine w_iload_n C dX5_between_60 0 rfl ?_
          refine w_iconst C dX5_between_61 ?_
          refine w_zast C (mU Q G (kLc, kSc, kNc, (upd gD 12 (iZ ((N : Int) - 1))), (xB X (upd fB (dp + 1) (iZ (0)))))) 8 2 rfl rfl rfl (dp + 1) ⟨by omega, by omega, by omega⟩ rfl dX5_between_62 ?_
          refine w_goto C 147 dX5_between_63 (by decide) ?_
          refine w_goto C 28 dX5_between_147 (by decide) ?_
          refine w_sub [(4, .int (iZ (1))), (3, .int (iZ (((dp + 1 : Nat) : Int)))), (2, .int (iZ (n))), (0, .ref (Q 0)), (1, .int (iZ ((r : Int))))] [2, 0, 3, 4, 5] rfl ?_
          refine ih (dp + 1) n (hlv cf N) Yc _ _ _ _ _ (by omega) t1 hSc (fun Y3 kL3 kS3 kN3 gD3 fB3 hS3 hfB3 => ?_)
          refine w_iload_n C dX5_between_77 1 rfl ?_
          refine w_if_le C 102 dX5_between_78 (by decide) ⟨by omega, by omega⟩ (fun c78 => ?_) (fun c78 => ?_)
          · exact absurd c78 (by omega)
          · refine w_aload_n C dX5_between_81 2 rfl ?_
            refine w_get (ci := 5) (ref := "RootIsolatorModel") (T := TX5) (Cn := RX5) (N := 10) C (fun w h => wC_in (inX5 w h)) 0 rfl rfl 9 (by decide) (wC_in fX5_second) rfl rfl dX5_between_82 ?_
            refine w_iload_n C dX5_between_85 1 rfl ?_
            refine w_zald C 8 2 rfl rfl (dp + 1) (0) ⟨by omega, by omega, by omega⟩ ((hfB3 (dp + 1) (by omega)).trans upd_eq) dX5_between_86 ?_
            refine w_if_eq C 102 dX5_between_87 (by decide) ⟨by omega, by omega⟩ (fun c87 => ?_) (fun c87 => ?_)
            · refine w_iload_n C dX5_between_102 1 rfl ?_
              refine w_if_le C 110 dX5_between_103 (by decide) ⟨by omega, by omega⟩ (fun c103 => ?_) (fun c103 => ?_)
              · exact absurd c103 (by omega)
              · refine w_iconst C dX5_between_106 ?_
                refine w_goto C 111 dX5_between_107 (by decide) ?_
                refine w_istore C [(4, .int (iZ (1))), (2, .int (iZ (n + ((CV N g (hlv cf N) : Nat) : Int)))), (3, .int (iZ (((dp + 1 : Nat) : Int)))), (0, .ref (Q 0)), (1, .int (iZ ((r : Int))))] dX5_between_111 (by decide) rfl ?_
                refine w_iload C dX5_between_113 0 rfl ?_
                refine w_if_eq C 147 dX5_between_115 (by decide) ⟨by omega, by omega⟩ (fun c115 => ?_) (fun c115 => ?_)
                · exact absurd c115 (by omega)
                · refine w_aload_n C dX5_between_118 3 rfl ?_
                  refine w_get (ci := 5) (ref := "RootIsolatorModel") (T := TX5) (Cn := RX5) (N := 10) C (fun w h => wC_in (inX5 w h)) 0 rfl rfl 9 (by decide) (wC_in fX5_second) rfl rfl dX5_between_119 ?_
                  refine w_iload_n C dX5_between_122 2 rfl ?_
                  refine w_iconst C dX5_between_123 ?_
                  refine w_zast C (mU Q G (kL3, kS3, kN3, gD3, (xB X (upd fB3 (dp + 1) (iZ (1)))))) 8 2 rfl rfl rfl (dp + 1) ⟨by omega, by omega, by omega⟩ rfl dX5_between_124 ?_
                  refine w_aload_n C dX5_between_125 3 rfl ?_
                  refine w_get (ci := 5) (ref := "RootIsolatorModel") (T := TX5) (Cn := RX5) (N := 10) C (fun w h => wC_in (inX5 w h)) 0 rfl rfl 3 (by decide) (wC_in fX5_signs) rfl rfl dX5_between_126 ?_
                  refine w_bipush C dX5_between_129 (by decide) ?_
                  refine w_iconst C dX5_between_131 ?_
                  refine m_callSi [.int (iZ (11)), .int (iZ (0))] hsz C (fun z => cm_at l D Q G kL3 kS3 kN3 gD3 (xB X (upd fB3 (dp + 1) (iZ (1)))) (11) (0) z) (cwS 2 C.1.2.2.2.2 (wC_S kX5_79 stX5_at iniX5 cdX5_at) rfl rfl rfl (by decide +kernel) ⟨Nat.le_of_ble_eq_true rfl, Nat.le_of_ble_eq_true rfl⟩) rfl ⟨Nat.zero_le _, Nat.zero_le _⟩ (Nat.le_of_ble_eq_true rfl) dX5_between_132 [.int (iZ (0)), .int (iZ (11)), .ref (Q 3)] rfl (fun r v105 hv105 => ?_)
                  obtain ⟨rfl, rfl⟩ := hv105
                  refine w_iald C 3 0 rfl rfl (9 * 11 + 0) ((sh1 (hlv cf N) N 0).sign) ⟨by omega, by omega, by omega⟩ (by rw [← hS3.2.2.2.1 0 (by omega)]; exact mNum_sgn (hS3.1 (99 + 0) (by omega))) dX5_between_135 ?_
                  have J106 : ZW p l e ({ frames := 5, cells := 0, slots := 0, locals := 129 }) s m ([.ref (Q 0), .int (iZ ((r : Int)))] : List Value).toArray below meth c D (mA Q sz) 6 0 0 (MQ below (va_Qi (fun (q : Int32) (u : mT) => q = iZ (if N ≤ 1 then 0 else ((CV N h cf0 : Nat) : Int)) ∧ ∃ (Y : Nat → Int) (gD fB : Nat → Int32), mPost gD (xB X fB) Y u ∧ (∀ q : Nat, q ≠ 11 → q ≠ 12 → gD q = fD q) ∧ ∀ j : Nat, (j < 99 ∨ 117 ≤ j) → Y j = Z j) (mAt D Q G (mA Q sz)) (mA Q sz)) ([.ref (Q 0), .int (iZ ((r : Int)))] : List Value).toArray s 0 0 (mA Q sz)) (mU Q G (kL3, kS3, kN3, gD3, (xB X (upd fB3 (dp + 1) (iZ (1)))))) 146 [(4, .int (iZ (1))), (2, .int (iZ (n + ((CV N g (hlv cf N) : Nat) : Int)))), (3, .int (iZ (((dp + 1 : Nat) : Int)))), (0, .ref (Q 0)), (1, .int (iZ ((r : Int))))] [.int (iZ ((n + ((CV N g (hlv cf N) : Nat) : Int)) + (if sh1 (hlv cf N) N 0 = 0 then 1 else 0 : Int)))] := by
                    refine w_istore_n C [(2, .int (iZ ((n + ((CV N g (hlv cf N) : Nat) : Int)) + (if sh1 (hlv cf N) N 0 = 0 then 1 else 0 : Int)))), (4, .int (iZ (1))), (3, .int (iZ (((dp + 1 : Nat) : Int)))), (0, .ref (Q 0)), (1, .int (iZ ((r : Int))))] dX5_between_146 rfl (by decide) rfl ?_
                    refine w_goto C 28 dX5_between_147 (by decide) ?_
                    refine w_sub [(4, .int (iZ (1))), (3, .int (iZ (((dp + 1 : Nat) : Int)))), (2, .int (iZ ((n + ((CV N g (hlv cf N) : Nat) : Int)) + (if sh1 (hlv cf N) N 0 = 0 then 1 else 0 : Int)))), (0, .ref (Q 0)), (1, .int (iZ ((r : Int))))] [1, 2, 0, 3, 4] rfl ?_
                    refine ih (dp + 1) ((n + ((CV N g (hlv cf N) : Nat) : Int)) + (if sh1 (hlv cf N) N 0 = 0 then 1 else 0 : Int)) (sh1 (hlv cf N) N) Y3 _ _ _ _ _ (by omega) t3 hS3 (fun Y4 kL4 kS4 kN4 gD4 fB4 hS4 hfB4 => ?_)
                    refine w_iload_n C dX5_between_77 1 rfl ?_
                    refine w_if_le C 102 dX5_between_78 (by decide) ⟨by omega, by omega⟩ (fun c78 => ?_) (fun c78 => ?_)
                    · exact absurd c78 (by omega)
                    · refine w_aload_n C dX5_between_81 2 rfl ?_
                      refine w_get (ci := 5) (ref := "RootIsolatorModel") (T := TX5) (Cn := RX5) (N := 10) C (fun w h => wC_in (inX5 w h)) 0 rfl rfl 9 (by decide) (wC_in fX5_second) rfl rfl dX5_between_82 ?_
                      refine w_iload_n C dX5_between_85 1 rfl ?_
                      refine w_zald C 8 2 rfl rfl (dp + 1) (1) ⟨by omega, by omega, by omega⟩ ((hfB4 (dp + 1) (by omega)).trans upd_eq) dX5_between_86 ?_
                      refine w_if_eq C 102 dX5_between_87 (by decide) ⟨by omega, by omega⟩ (fun c87 => ?_) (fun c87 => ?_)
                      · exact absurd c87 (by omega)
                      · refine w_aload_n C dX5_between_90 2 rfl ?_
                        refine w_bipush C dX5_between_91 (by decide) ?_
                        refine m_callv [.int (iZ (11))] hsz C (fun z => cm_twice l D Q G kL4 kS4 kN4 gD4 (xB X fB4) Y4 11 N hS4.1 (by omega) hS4.2.1 hN z) (cwV 1 C.1.2.2.2.2 (wC_V kX5_123 nX5_twice slX5_twice iniX5 cdX5_twice) rfl rfl rfl (by decide +kernel) ⟨Nat.le_of_ble_eq_true rfl, Nat.le_of_ble_eq_true rfl⟩) rfl ⟨Nat.zero_le _, Nat.zero_le _⟩ (Nat.le_of_ble_eq_true rfl) dX5_between_93 [.int (iZ (11)), .ref (Q 0)] rfl (fun v207 hv207 => ?_)
                        obtain ⟨Yd, ⟨kLd, kSd, kNd, hZd, rfl⟩, hd1, hd2⟩ := hv207
                        have hSd := bSt_tw hS4 hZd hd1 hd2 hN t4
                        refine w_iinc C ((dp : Int)) (by omega) [(3, .int (iZ ((dp : Int)))), (2, .int (iZ (((n + ((CV N g (hlv cf N) : Nat) : Int)) + (if sh1 (hlv cf N) N 0 = 0 then 1 else 0 : Int)) + ((CV N g (sh1 (hlv cf N) N) : Nat) : Int)))), (0, .ref (Q 0)), (1, .int (iZ ((r : Int))))] dX5_between_96 1 rfl (by decide) rfl ?_
                        refine w_goto C 77 dX5_between_99 (by decide) ?_
                        refine w_sub [(2, .int (iZ (((n + ((CV N g (hlv cf N) : Nat) : Int)) + (if sh1 (hlv cf N) N 0 = 0 then 1 else 0 : Int)) + ((CV N g (sh1 (hlv cf N) N) : Nat) : Int)))), (3, .int (iZ ((dp : Int)))), (0, .ref (Q 0)), (1, .int (iZ ((r : Int))))] [1, 0, 2, 3] rfl ?_
                        rw [show (((n + ((CV N g (hlv cf N) : Nat) : Int)) + (if sh1 (hlv cf N) N 0 = 0 then 1 else 0 : Int)) + ((CV N g (sh1 (hlv cf N) N) : Nat) : Int) : Int) = n + ((CV N (g + 1) cf : Nat) : Int) by simp only [CV]; rw [if_neg hv]; split <;> omega]
                        exact K _ _ _ _ _ _ hSd (fun j hj => (hfB4 j (by omega)).trans ((upd_ne (by omega)).trans ((hfB3 j (by omega)).trans (upd_ne (by omega)))))
                  refine w_if_ne C 145 dX5_between_136 (by decide) (by have := sgn_r (sh1 (hlv cf N) N 0); omega) (fun c136 => ?_) (fun c136 => ?_)
                  · refine w_iload_n C dX5_between_145 1 rfl ?_
                    refine w_top C ((n + ((CV N g (hlv cf N) : Nat) : Int)) + (if sh1 (hlv cf N) N 0 = 0 then 1 else 0 : Int)) (by rw [if_neg (fun g => c136 (by rw [g]; rfl))]; omega) ?_
                    exact J106
                  · refine w_iload_n C dX5_between_139 1 rfl ?_
                    refine w_iconst C dX5_between_140 ?_
                    refine w_iadd C dX5_between_141 ?_
                    refine w_goto C 146 dX5_between_142 (by decide) ?_
                    refine w_top C ((n + ((CV N g (hlv cf N) : Nat) : Int)) + (if sh1 (hlv cf N) N 0 = 0 then 1 else 0 : Int)) (by rw [if_pos (sgn_zero c136)]) ?_
                    exact J106
            · exact absurd c87 (by omega)
  refine w_aload_n C dX5_between_0 0 rfl ?_
  refine w_bipush C dX5_between_1 (by decide) ?_
  refine w_iload_n C dX5_between_3 1 rfl ?_
  refine m_callv [.int (iZ (11)), .int (iZ ((r : Int)))] hsz C (fun z => cm_copyRow l D Q G fL fS fN fD X Z 11 r N hZ (by omega) (by omega) hn hN z) (cwV 2 C.1.2.2.2.2 (wC_V kX5_94 nX5_copyRow slX5_copyRow iniX5 cdX5_copyRow) rfl rfl rfl (by decide +kernel) ⟨Nat.le_of_ble_eq_true rfl, Nat.le_of_ble_eq_true rfl⟩) rfl ⟨Nat.zero_le _, Nat.zero_le _⟩ (Nat.le_of_ble_eq_true rfl) dX5_between_4 [.int (iZ ((r : Int))), .int (iZ (11)), .ref (Q 0)] rfl (fun v408 hv408 => ?_)
  obtain ⟨Y, ⟨kL, kS, kN, hZ1, rfl⟩, e1, e2⟩ := hv408
  have hS : bSt Z fD N cf0 Y kL kS kN (upd fD 11 (iZ ((N : Int) - 1))) := ⟨hZ1, upd_eq, fun q q1 _ => upd_ne q1, fun i hi => (e1 i hi).trans (hcf i hi), fun j hj => e2 j (by omega)⟩
  refine w_iconst C dX5_between_7 ?_
  refine w_istore_n C [(2, .int (iZ (0))), (0, .ref (Q 0)), (1, .int (iZ ((r : Int))))] dX5_between_8 rfl (by decide) rfl ?_
  refine w_iconst C dX5_between_9 ?_
  refine w_istore_n C [(3, .int (iZ (0))), (2, .int (iZ (0))), (0, .ref (Q 0)), (1, .int (iZ ((r : Int))))] dX5_between_10 rfl (by decide) rfl ?_
  refine w_aload_n C dX5_between_11 2 rfl ?_
  refine w_get (ci := 5) (ref := "RootIsolatorModel") (T := TX5) (Cn := RX5) (N := 10) C (fun w h => wC_in (inX5 w h)) 0 rfl rfl 4 (by decide) (wC_in fX5_degrees) rfl rfl dX5_between_12 ?_
  refine w_bipush C dX5_between_15 (by decide) ?_
  refine w_iald C 4 0 rfl rfl (11) ((N : Int) - 1) ⟨by omega, by omega, by omega⟩ ((upd_eq : upd fD 11 (iZ ((N : Int) - 1)) 11 = _)) dX5_between_17 ?_
  refine w_if_le C 25 dX5_between_18 (by decide) ⟨by omega, by omega⟩ (fun c18 => ?_) (fun c18 => ?_)
  · refine w_iconst C dX5_between_25 ?_
    refine w_istore C [(4, .int (iZ (0))), (3, .int (iZ (0))), (2, .int (iZ (0))), (0, .ref (Q 0)), (1, .int (iZ ((r : Int))))] dX5_between_26 (by decide) rfl ?_
    refine w_iload C dX5_between_28 0 rfl ?_
    refine w_if_eq C 150 dX5_between_30 (by decide) ⟨by omega, by omega⟩ (fun c30b => ?_) (fun c30b => ?_)
    · refine w_iload_n C dX5_between_150 2 rfl ?_
      exact m_iret hsz C hr hlk (⟨by rw [if_pos (by omega)], Y, _, _, ⟨_, _, _, hZ1, rfl⟩, hS.2.2.1, hS.2.2.2.2⟩) dX5_between_151
    · exact absurd c30b (by omega)
  · refine w_iconst C dX5_between_21 ?_
    refine w_goto C 26 dX5_between_22 (by decide) ?_
    refine w_istore C [(4, .int (iZ (1))), (3, .int (iZ (0))), (2, .int (iZ (0))), (0, .ref (Q 0)), (1, .int (iZ ((r : Int))))] dX5_between_26 (by decide) rfl ?_
    refine node h 0 0 cf0 Y _ _ _ _ _ (by omega) (hT (by omega)) hS (fun Yz kLz kSz kNz gDz fBz hSz hfz => ?_)
    refine w_iload_n C dX5_between_77 1 rfl ?_
    refine w_if_le C 102 dX5_between_78 (by decide) ⟨by omega, by omega⟩ (fun c78 => ?_) (fun c78 => ?_)
    · refine w_iload_n C dX5_between_102 1 rfl ?_
      refine w_if_le C 110 dX5_between_103 (by decide) ⟨by omega, by omega⟩ (fun c103 => ?_) (fun c103 => ?_)
      · refine w_iconst C dX5_between_110 ?_
        refine w_istore C [(4, .int (iZ (0))), (2, .int (iZ (0 + ((CV N h cf0 : Nat) : Int)))), (3, .int (iZ (((0 : Nat) : Int)))), (0, .ref (Q 0)), (1, .int (iZ ((r : Int))))] dX5_between_111 (by decide) rfl ?_
        refine w_iload C dX5_between_113 0 rfl ?_
        refine w_if_eq C 147 dX5_between_115 (by decide) ⟨by omega, by omega⟩ (fun c115 => ?_) (fun c115 => ?_)
        · refine w_goto C 28 dX5_between_147 (by decide) ?_
          refine w_iload C dX5_between_28 0 rfl ?_
          refine w_if_eq C 150 dX5_between_30 (by decide) ⟨by omega, by omega⟩ (fun c30 => ?_) (fun c30 => ?_)
          · refine w_iload_n C dX5_between_150 1 rfl ?_
            exact m_iret hsz C hr hlk (⟨by rw [if_neg (by omega), Int.zero_add], Yz, _, _, ⟨_, _, _, hSz.1, rfl⟩, hSz.2.2.1, hSz.2.2.2.2⟩) dX5_between_151
          · exact absurd c30 (by omega)
        · exact absurd c115 (by omega)
      · exact absurd c103 (by omega)
    · exact absurd c78 (by omega)
