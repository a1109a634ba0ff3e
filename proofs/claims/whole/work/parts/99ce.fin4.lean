theorem pow_1196 {x : Int} {B : Nat} (hB : B ≤ 1196) (h : (x.natAbs : Int) ≤ 2 ^ B) : (x.natAbs : Int) ≤ 2 ^ 1196 := by
  have h4 : (2 : Nat) ^ B ≤ 2 ^ 1196 := Nat.pow_le_pow_right (by decide) hB
  have h5 := Int.ofNat_le.2 h4
  rw [nat_pow_cast, nat_pow_cast] at h5
  exact Int.le_trans h h5
/-- how a count of the reference is bounded -/
theorem UV_small {F : Nat → Int} {N : Nat} (h : okF F N) {f : Nat → Int} {Nf : Nat} {G : Nat → Int} {NG : Nat} (hf : freeR F N f Nf G NG) {n len : Int} (hl : 0 < len) {d : Nat} (ht : 1 < Nf → TV Nf d (mvd f Nf n len)) : UV Nf d (mvd f Nf n len) < 100 ∧ (N = 1 → UV Nf d (mvd f Nf n len) = 0) := by
  obtain ⟨⟨n1, n9, nl⟩, _⟩ := h
  obtain ⟨Q, Q1, W, G', m, hq, hW⟩ := sq_ex n1 nl
  have e := isoW_ref hq ⟨n1, by omega⟩ nl hf hl ht
  obtain ⟨_, ⟨X0, x1, x2⟩, _⟩ := hq.1
  have h0 : 0 ≤ W (dy n 30) := by
    obtain ⟨b, b0, b1⟩ := ab_self (x := dy n 30)
    have t1 := x2 (X0 + b) (by grind)
    have t2 := cnt_mono hq.1 (show -(X0 + b) ≤ dy n 30 by unfold ab at b1; grind)
    omega
  have h1 := hW (dy (n + len) 30)
  refine ⟨by omega, fun e1 => ?_⟩
  subst e1
  rw [e]
  have := sq_const hq nl (dy_le (s := 30) (show n ≤ n + len by omega))
  omega
theorem free_len {F : Nat → Int} {N : Nat} (h : okF F N) {f : Nat → Int} {Nf : Nat} {G : Nat → Int} {NG : Nat} (hf : freeR F N f Nf G NG) (hN : 2 ≤ N) : NG + 1 ≤ N := by
  obtain ⟨⟨n1, n9, nl⟩, _⟩ := h
  obtain ⟨g1, g2, ⟨g3, ⟨a, q, l, ha, e⟩⟩, _⟩ := free_ok ⟨n1, by omega⟩ nl hf
  obtain ⟨j, _, _, hj, _⟩ := dv_deg ha g1 ⟨by omega, der_lead n1 nl (N - 1 - 1) (by omega)⟩ e
  omega
/-- the count of how often a root counts ends -/
theorem okF_mul {n len : Int} (hl : 0 < len) (h1 : -1152921504606846976 ≤ n) (h2 : n + len ≤ 1152921504606846976) : ∀ (k : Nat) (a : Nat → Int) (N : Nat), okF a N → N ≤ k → mulOK n len k a N
  | 0, a, N, h, hk => absurd h.1.1 (by omega)
  | k + 1, a, N, h, hk => by
    refine ⟨fun i hi => pow_1196 (by decide) (h.2.1 i hi), h.1.1, okF_FZ h, fun f Nf G NG hf => ?_⟩
    have hT : 1 < Nf → TV Nf 1800 (mvd f Nf n len) := fun h3 => (free_TV h hf hl h1 h2 h3).2
    obtain ⟨u1, u2⟩ := UV_small h hf hl hT
    refine ⟨1800, by decide, hT, u1, fun hu => ?_⟩
    have hN2 : 2 ≤ N := by
      rcases Nat.lt_or_ge N 2 with c | c
      · have := u2 (by have := h.1.1; omega); omega
      · exact c
    exact okF_mul hl h1 h2 k G NG (free_all h hf).2.1 (by have := free_len h hf hN2; omega)
theorem bez_gcd {L A B G : Nat → Int} {l NA NB NG : Nat} (hL : 1 ≤ l ∧ L (l - 1) ≠ 0) (hG : 1 ≤ NG ∧ G (NG - 1) ≠ 0) (h1 : pdv L l A NA ∧ pdv L l B NB) (h2 : ∀ (g : Nat → Int) (m : Nat), pdv g m A NA → pdv g m B NB → pdv g m L l) (h3 : pdv G NG A NA ∧ pdv G NG B NB) (h4 : ∀ (g : Nat → Int) (m : Nat), pdv g m A NA → pdv g m B NB → pdv g m G NG) : NG = l ∧ ppn G L NG := by
  obtain ⟨e, k, k0, k1⟩ := dv_both hL hG (h4 _ _ h1.1 h1.2) (h2 _ _ h3.1 h3.2)
  subst e
  exact ⟨rfl, rat_ppn k0 k1⟩
/-- what two given polynomials share, in both programs -/
theorem eq_gcd {g g2 : Nat → Int32} {N1 N2 : Nat} (t1 : tpN (gp g) 9 N1) (t2 : tpN (gp g2) 9 N2) (n1 : 1 ≤ N1) (n2 : 1 ≤ N2) {Z : Nat → Int} {T : Nat → Nat} {us : Nat} (hc : chP Z T us g g2 N1 N2) {G : Nat → Int} {NG : Nat} {a1 b1 : Nat → Int} (p1 : primR (gz g) N1 a1) (p2 : primR (gz g2) N2 b1) (hF : FC 9 a1 N1 b1 N2 G NG) : (1 ≤ NG ∧ G (NG - 1) ≠ 0) ∧ gN G NG = 1 ∧ pdv G NG (gz g) N1 ∧ NG = T (us - 1) ∧ ppn G (zr Z T (us - 1)) NG := by
  have l1 : ldn (gz g) N1 := fun i hi => by rw [show i = N1 - 1 by omega]; exact tp_lead t1 n1
  have l2 : ldn (gz g2) N2 := fun i hi => by rw [show i = N2 - 1 by omega]; exact tp_lead t2 n2
  have hG := FC_lead hF (by omega) (prim_ldn2 p1 l1) (prim_ldn2 p2 l2)
  obtain ⟨⟨d1, d2⟩, d3⟩ := FC_dv hF t2.1 (prim_ldn2 p2 l2)
  have hGp := FC_prim hF (prim_one p1 n1 (l1 _ (by omega))) (fun _ => prim_one p2 n2 (l2 _ (by omega)))
  have e1 := (dv_prim (g := G) (m := NG) p1 l1).2 d1
  have e2 := (dv_prim (g := G) (m := NG) p2 l2).2 d2
  obtain ⟨c1, c2⟩ := cls_dv hc.1
  obtain ⟨q1, q2, q3⟩ := chn_dec hc.1
  have hu := hc.1.2.2.2.1
  -- the rows are the two polynomials
  have row : ∀ (k : Nat) (g : Nat → Int32) (N : Nat), tpN (gp g) 9 N → 1 ≤ N → zr Z T k = gp g → ∀ x : Rat, rv (zr Z T k) (T k) x = rv (gz g) N x := fun k g N tN nN hz x => by
    have hN9 := tN.1
    have hz0 : ∀ i : Nat, N ≤ i → gp g i = 0 := fun i hi => by
      by_cases c : i < 9
      · exact tN.2.1 i hi c
      · exact gp_out g i (by omega)
    have e0 : rv (gz g) N x = rv (gp g) N x := rv_congr x (fun i hi => gz_gp (by omega))
    rw [e0, hz]
    rcases Nat.le_total (T k) N with c | c
    · exact (rv_le (fun i hi => by rw [← hz]; exact zr_zero Z T k i hi) c x).symm
    · exact rv_le hz0 c x
  have ht1 : 2 ≤ us := by
    have h1 : 1 ≤ T 1 := by
      rcases Nat.eq_zero_or_pos (T 1) with q | q
      · exfalso
        rcases hc.2 with ⟨_, _, hz⟩ | ⟨_, _, hz⟩
        · have := t2.2.2 (N2 - 1) (by omega)
          rw [← hz, zr_out (by omega)] at this; exact this rfl
        · have := t1.2.2 (N1 - 1) (by omega)
          rw [← hz, zr_out (by omega)] at this; exact this rfl
      · exact q
    exact (hc.1.2.2.2.2.2.1 h1).1
  have hLs := c1 0 (by omega)
  have hLs1 := c1 1 (by omega)
  have fin : pdv (zr Z T (us - 1)) (T (us - 1)) (gz g) N1 ∧ pdv (zr Z T (us - 1)) (T (us - 1)) (gz g2) N2 ∧ ∀ (h : Nat → Int) (m : Nat), pdv h m (gz g) N1 → pdv h m (gz g2) N2 → pdv h m (zr Z T (us - 1)) (T (us - 1)) := by
    rcases hc.2 with ⟨_, h0, h1⟩ | ⟨_, h0, h1⟩
    · have r0 := row 0 g N1 t1 n1 h0
      have r1 := row 1 g2 N2 t2 n2 h1
      exact ⟨dv_same (fun x => (r0 x).symm) hLs, dv_same (fun x => (r1 x).symm) hLs1, fun h m a b => c2 h m (dv_same r0 a) (dv_same r1 b)⟩
    · have r0 := row 0 g2 N2 t2 n2 h0
      have r1 := row 1 g N1 t1 n1 h1
      exact ⟨dv_same (fun x => (r1 x).symm) hLs1, dv_same (fun x => (r0 x).symm) hLs, fun h m a b => c2 h m (dv_same r0 b) (dv_same r1 a)⟩
  obtain ⟨e3, e4⟩ := bez_gcd ⟨q2, q3 (us - 1) (by omega)⟩ hG ⟨fin.1, fin.2.1⟩ fin.2.2 ⟨e1, e2⟩ (fun h m a b => d3 h m ((dv_prim p1 l1).1 a) ((dv_prim p2 l2).1 b))
  exact ⟨hG, hGp, e1, e3, e4⟩
/-- a divisor of a given polynomial has no root far out -/
theorem cnt_far {P A : Nat → Int} {n N : Nat} {Q Q1 : Rat → Rat} {W : Rat → Int} {G : Nat → Int} {m : Nat} (h : sq P n Q Q1 W G m) (hd : pdv P n A N) (hA : 1 ≤ N ∧ A (N - 1) ≠ 0) (hM : ∀ i : Nat, i < N → ((A i).natAbs : Int) ≤ 1000000000) : (∀ x y : Rat, (1073741824 : Rat) ≤ x → x ≤ y → W y = W x) ∧ ∀ x y : Rat, x ≤ y → y ≤ -(1073741824 : Rat) → W y = W x := by
  obtain ⟨a, q, l, ha, e⟩ := hd
  obtain ⟨nn, rfl⟩ : ∃ nn : Nat, N = nn + 1 := ⟨N - 1, by omega⟩
  rw [Nat.add_sub_cancel] at hA
  have ha' := ne_cast ha
  -- A is not small there
  have key : ∀ (Y X z : Rat), (1073741824 : Rat) ≤ X → X ≤ Y → (z = X ∨ z = -X) → ¬ ab (1 / (Y + 1)) (rv A (nn + 1) z) := fun Y X z h1 h2 h3 g => by
    have hc : ((A nn : Int) : Rat) ≤ -1 ∨ (1 : Rat) ≤ ((A nn : Int) : Rat) := by
      rcases Int.lt_or_le (A nn) 0 with q | q
      · left
        have : ((A nn : Int) : Rat) ≤ ((-1 : Int) : Rat) := Rat.intCast_le_intCast.2 (by omega)
        exact this
      · right
        have h9 := hA.2
        have : ((1 : Int) : Rat) ≤ ((A nn : Int) : Rat) := Rat.intCast_le_intCast.2 (by omega)
        exact this
    have h4 := rv_apart (c := A) (n := nn) (M := 1000000000) (L := 1) (e := 1) (X := X) (x := z) (by grind) h3 (by grind) (fun i hi => by
      have := cast_le_ab (M := 1000000000) (hM i (by omega))
      exact this) hc (by grind) (by grind) (by grind)
    have h5 := ab_mul (show ab (X - 1) (X - 1) by unfold ab; constructor <;> grind) g
    have hY : 0 < Y + 1 := by grind
    have h6 : (X - 1) * (1 / (Y + 1)) < 1 := by
      have e1 : (Y + 1) * (1 / (Y + 1)) = 1 := by grind
      have h7 := Rat.mul_pos (show 0 < Y + 1 - (X - 1) by grind) (div_pos' (show (0 : Rat) < 1 by grind) hY)
      grind
    unfold ab at h5
    rcases h4 with u | u <;> grind
  -- so its divisor is not
  have keyP : ∀ x y Y : Rat, 0 < Y + 1 → x ≤ y → (∀ z : Rat, x ≤ z → z ≤ y → ¬ ab (1 / (Y + 1)) (rv A (nn + 1) z)) → W y = W x := fun x y Y hY hxy hz => by
    obtain ⟨B, hB, bx, bY⟩ := both_B x y
    obtain ⟨M, m0, m1, _⟩ := rv_nice hB q l
    obtain ⟨c, c0, c1⟩ := ab_self (x := 1 / (a : Rat))
    have hp := div_pos' (show (0 : Rat) < 1 by grind) hY
    have hcM : 0 ≤ c * M := Rat.mul_nonneg c0 m0
    refine cnt_nz h.1 (fun B hB => rv_nice hB G m) h.2.2.1 hxy (d := 1 / (Y + 1) / (c * M + 1)) (div_pos' hp (by grind)) (fun z z1 z2 g => hz z z1 z2 ?_)
    have hA2 : rv A (nn + 1) z = 1 / (a : Rat) * rv q l z * rv P n z := by
      have := e z
      have h9 : (a : Rat) * (rv A (nn + 1) z - 1 / (a : Rat) * rv q l z * rv P n z) = 0 := by grind
      rcases Rat.mul_eq_zero.1 h9 with u | u
      · exact absurd u ha'
      · grind
    rw [hA2]
    have h5 := ab_mul (ab_mul c1 (m1 z (in_B bx bY z1 z2))) g
    refine ab_le h5 ?_
    have := mul_div_le hcM (Rat.le_of_lt (div_pos' hp (show 0 < c * M + 1 by grind))) (Rat.le_refl (a := 1 / (Y + 1) / (c * M + 1)))
    exact this
  refine ⟨fun x y h1 h2 => keyP x y y (by grind) h2 (fun z g1 g2 => key y z z (by grind) g2 (Or.inl rfl)), fun x y h1 h2 => keyP x y (-x) (by grind) h1 (fun z g1 g2 => key (-x) (-z) z (by grind) (by grind) (Or.inr (by grind)))⟩
/-- all roots of a divisor of a given polynomial, in both programs -/
theorem eq_all {F G A : Nat → Int} {NG N : Nat} (hG : 1 ≤ NG ∧ G (NG - 1) ≠ 0) (hN9 : NG ≤ 10) (hF : ppn F G NG) (hd : pdv G NG A N) (hA : 1 ≤ N ∧ A (N - 1) ≠ 0) (hM : ∀ i : Nat, i < N → ((A i).natAbs : Int) ≤ 1000000000) {Z : Nat → Int} {T : Nat → Nat} {us : Nat} (hc : chn Z T us) (h0 : zr Z T 0 = F) (h1 : zr Z T 1 = dp F) (hT : T 0 = NG) {v : Int} (hv : cntR G NG (-1152921504606846976) 2305843009213693952 v) : v = ((vc (lS Z T 1) us : Nat) : Int) - ((vc (lS Z T 0) us : Nat) : Int) := by
  obtain ⟨Q, Q1, W, s1, _, X0, x1, s3⟩ := sq_cls hc h0 h1
  rw [hT] at s1
  obtain ⟨Q', Q1', W', G', m', hq, _⟩ := sq_ex hG.1 hG.2
  obtain ⟨u, w, hu, hw, e⟩ := hF
  obtain ⟨eW, _⟩ := sq_uniq hq s1 hu hw e
  obtain ⟨f0, Nf, G0, NG0, d, w1, w2, w3, w4, w5⟩ := hv
  have hr := isoW_ref hq ⟨hG.1, hN9⟩ hG.2 w1 (by decide) w4
  obtain ⟨f1, f2⟩ := cnt_far hq hd hA hM
  obtain ⟨_, ⟨X1, y1, y2⟩, _⟩ := hq.1
  have e1 : dy (-1152921504606846976 + 2305843009213693952) 30 = (1073741824 : Rat) := by
    have := dy_mulp 1073741824 30
    exact this
  have e2 : dy (-1152921504606846976) 30 = -(1073741824 : Rat) := by
    have := dy_mulp (-1073741824) 30
    exact this
  rw [w5, hr, e1, e2]
  obtain ⟨X, hX⟩ : ∃ X : Rat, X = X0 + X1 + 1073741824 := ⟨_, rfl⟩
  have t1 := s3 X (by grind)
  rw [eW] at t1
  rw [← t1, f1 1073741824 X (by grind) (by grind)]
  have t2 := y2 X (by grind)
  have t3 := f2 (-X) (-1073741824) (by grind) (by grind)
  omega
