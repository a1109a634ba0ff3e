set_option maxHeartbeats 4000000 in
set_option maxRecDepth 100000 in
theorem lm_exact {p : Program} {l : Launch} {e : Env} {s : State} {m : MethodId} {args : Array Value} {below : List Frame} {meth : Method} {c : Code} {D : va_G} {A : Nat → Prop} {cells slots : Nat} {Qp : State → Prop} {pc : Nat} {lw : List (Nat × Value)} {G : Nat → ClassId} {mq : Nat} {g g2 : Nat → Int32} {fd : Int} {gl : Nat → Int32} {gc : Nat → Int64} {ge gr : Nat → Int32} {Wc Wm : va_W} (hA : ∀ q, s.heap.size ≤ q → A q) (C : ZC p s m args c code 4 lw_tbl RL D (cty G)) (hM : isM G mq g g2 fd gl gc Wm) (ha : aI g g2 fd gl gc ge gr) (hR : cells ≤ 2067 ∧ slots ≤ 497312) (z : Int) (hz : -2147483648 ≤ z ∧ z < 2147483648) {r : Int32} (hpost : r = (if 0 ≤ z ∧ z < fd ∧ z < 8 then ge z.toNat else iZ (-1))) (hdg : decode code pc = .ok (.invokevirtual 60, 3))
    (kk : ∀ Wn : va_W, isM G mq g g2 fd gl gc Wn → ZW p l e room_1 s m args below meth c D A 4 cells slots Qp (Wc ++ Wn) (pc + 3) lw [.int r, .int r]) : ZW p l e room_1 s m args below meth c D A 4 cells slots Qp (Wc ++ Wm) pc lw [.int (iZ z), .ref mq, .int r] := by
  obtain ⟨Q, fL, fS, fN, fD, Z, a0, a1, a2, a3, a4, rfl, hZ, rfl, hfd⟩ := hM
  rcases Classical.em (0 ≤ z ∧ z < fd ∧ z < 8) with hyes | hyes
  · have hin : ∀ i : Nat, (i : Int) < fd → a2 i = gl i ∧ a3 i = gc i := by
      rcases hfd with ⟨h, _⟩ | ⟨_, _, _, _, h5⟩
      · exact fun i hi => absurd hi (by omega)
      · exact h5
    have hff : a0 = iZ 1 ∧ a1 = iZ fd := by
      rcases hfd with ⟨h, _⟩ | ⟨_, _, h3, h4, _⟩
      · exact absurd hyes.2.1 (by omega)
      · exact ⟨h3, h4⟩
    obtain ⟨ix, rfl⟩ := nat_of hyes.1
    have hF : aF g fd gl gc ge gr := ha.2.2.resolve_left (fun q => absurd hyes.2.1 (by omega))
    obtain ⟨N, Q9, Q19, W9, G9, m9, ct, cs, mu, u, t1, n2, hW, hct, hfe, hc8, hu30, hal, el, ec, el2, ec2, hm, hge, hgr, hr1, hr2⟩ := aF_at hF hyes.2.1
    obtain ⟨g1, g3⟩ := hin ix hyes.2.1
    have hp30 : (0 : Int) < 2 ^ (30 - u) := Int.pow_pos (by decide)
    refine m_lcalli [.int (iZ (ix : Int))] hA C (fun w => cm_exact l D Q G fL fS fN fD (a0, a1, a2, a3, a4, g, g2) Z ix u (cs u ix) fd hZ hff.1 hff.2 (by omega) (by omega) (g1.trans el) hu30 (g3.trans ec) ⟨by omega, by omega⟩ ⟨by omega, by omega⟩ w) (cwV 1 C.1.2.2.2.2 (wL_V kL_60 nX5_exact slX5_exact iniX5 cdX5_exact) rfl rfl rfl (by decide +kernel) ⟨Nat.le_of_ble_eq_true rfl, Nat.le_of_ble_eq_true rfl⟩) rfl ⟨by show cells ≤ 600000; omega, by show slots ≤ 7302250; omega⟩ (Nat.le_of_ble_eq_true rfl) hdg _ rfl (fun q u hu => ?_)
    obtain ⟨hscr, N1, hN1, hq⟩ := hu
    obtain ⟨Y, gD, fB, gL, gS, gN, hY, rfl⟩ := hscr
    have e : q = r := by
      have hN2 := tpu t1 hN1
      subst hN2
      rw [hpost, if_pos hyes, Int.toNat_natCast, hge, hq, hrn_gp g t1.1]
    subst e
    exact kk _ ⟨Q, gL, gS, gN, gD, Y, a0, a1, a2, a3, fB, rfl, hY, rfl, hfd⟩
  · have hfl : ∃ f : Int, a0 = iZ f ∧ (f = 0 ∨ f = 1) ∧ ∃ n : Int, a1 = iZ n ∧ (0 ≤ n ∧ n ≤ 8) ∧ ∀ t : Int, (f = 1 ∧ 0 ≤ t ∧ t ≤ n - 1) ↔ (0 ≤ t ∧ t < fd ∧ t < 8) := by
      rcases hfd with ⟨h, h0, h1⟩ | ⟨h1, h2, h3, h4, h5⟩
      · exact ⟨0, h0, Or.inl rfl, 0, h1, by omega, fun t => by omega⟩
      · exact ⟨1, h3, Or.inr rfl, fd, h4, by omega, fun t => by omega⟩
    obtain ⟨f, hf0, hf1, n, hn0, hn1, hiff⟩ := hfl
    refine m_lcalli [.int (iZ z)] hA C (fun w => cm_exactN l D Q G fL fS fN fD (a0, a1, a2, a3, a4, g, g2) f n z hf0 hn0 hf1 hn1 hz (fun t => hyes ((hiff z).1 t)) w) (cwV 1 C.1.2.2.2.2 (wL_V kL_60 nX5_exact slX5_exact iniX5 cdX5_exact) rfl rfl rfl (by decide +kernel) ⟨Nat.le_of_ble_eq_true rfl, Nat.le_of_ble_eq_true rfl⟩) rfl ⟨by show cells ≤ 600000; omega, by show slots ≤ 7302250; omega⟩ (Nat.le_of_ble_eq_true rfl) hdg _ rfl (fun q u hu => ?_)
    obtain ⟨hq, rfl⟩ := hu
    have e : q = r := by rw [hq, hpost, if_neg hyes]
    subst e
    exact kk _ ⟨Q, fL, fS, fN, fD, Z, a0, a1, a2, a3, a4, rfl, hZ, rfl, hfd⟩
set_option maxHeartbeats 4000000 in
set_option maxRecDepth 100000 in
theorem lm_multiplicity {p : Program} {l : Launch} {e : Env} {s : State} {m : MethodId} {args : Array Value} {below : List Frame} {meth : Method} {c : Code} {D : va_G} {A : Nat → Prop} {cells slots : Nat} {Qp : State → Prop} {pc : Nat} {lw : List (Nat × Value)} {G : Nat → ClassId} {mq : Nat} {g g2 : Nat → Int32} {fd : Int} {gl : Nat → Int32} {gc : Nat → Int64} {ge gr : Nat → Int32} {Wc Wm : va_W} (hA : ∀ q, s.heap.size ≤ q → A q) (C : ZC p s m args c code 4 lw_tbl RL D (cty G)) (hM : isM G mq g g2 fd gl gc Wm) (ha : aI g g2 fd gl gc ge gr) (hR : cells ≤ 2067 ∧ slots ≤ 497312) (z : Int) (hz : -2147483648 ≤ z ∧ z < 2147483648) {r : Int32} (hpost : r = (if 0 ≤ z ∧ z < fd ∧ z < 8 then gr z.toNat else iZ (-1))) (hdg : decode code pc = .ok (.invokevirtual 64, 3))
    (kk : ∀ Wn : va_W, isM G mq g g2 fd gl gc Wn → ZW p l e room_1 s m args below meth c D A 4 cells slots Qp (Wc ++ Wn) (pc + 3) lw [.int r, .int r]) : ZW p l e room_1 s m args below meth c D A 4 cells slots Qp (Wc ++ Wm) pc lw [.int (iZ z), .ref mq, .int r] := by
  obtain ⟨Q, fL, fS, fN, fD, Z, a0, a1, a2, a3, a4, rfl, hZ, rfl, hfd⟩ := hM
  rcases Classical.em (0 ≤ z ∧ z < fd ∧ z < 8) with hyes | hyes
  · have hin : ∀ i : Nat, (i : Int) < fd → a2 i = gl i ∧ a3 i = gc i := by
      rcases hfd with ⟨h, _⟩ | ⟨_, _, _, _, h5⟩
      · exact fun i hi => absurd hi (by omega)
      · exact h5
    have hff : a0 = iZ 1 ∧ a1 = iZ fd := by
      rcases hfd with ⟨h, _⟩ | ⟨_, _, h3, h4, _⟩
      · exact absurd hyes.2.1 (by omega)
      · exact ⟨h3, h4⟩
    obtain ⟨ix, rfl⟩ := nat_of hyes.1
    have hF : aF g fd gl gc ge gr := ha.2.2.resolve_left (fun q => absurd hyes.2.1 (by omega))
    obtain ⟨N, Q9, Q19, W9, G9, m9, ct, cs, mu, u, t1, n2, hW, hct, hfe, hc8, hu30, hal, el, ec, el2, ec2, hm, hge, hgr, hr1, hr2⟩ := aF_at hF hyes.2.1
    obtain ⟨g1, g3⟩ := hin ix hyes.2.1
    have hp30 : (0 : Int) < 2 ^ (30 - u) := Int.pow_pos (by decide)
    refine m_lcalli [.int (iZ (ix : Int))] hA C (fun w => cm_multiplicity l D Q G fL fS fN fD (a0, a1, a2, a3, a4, g, g2) Z N 9 ix u (cs u ix) fd hZ hff.1 hff.2 (by omega) (by omega) (g1.trans el) hu30 (g3.trans ec) ⟨by omega, by omega⟩ (top_tp.2 t1) (okF_mul hp30 (by omega) (by omega) 9 (gz g) N (okF_gz t1 (by omega) ha.1) t1.1) w) (cwV 1 C.1.2.2.2.2 (wL_V kL_64 nX5_multiplicity slX5_multiplicity iniX5 cdX5_multiplicity) rfl rfl rfl (by decide +kernel) ⟨Nat.le_of_ble_eq_true rfl, Nat.le_of_ble_eq_true rfl⟩) rfl ⟨by show cells ≤ 600000; omega, by show slots ≤ 7302250; omega⟩ (Nat.le_of_ble_eq_true rfl) hdg _ rfl (fun q u hu => ?_)
    obtain ⟨hscr, v, hv, hq⟩ := hu
    obtain ⟨Y, gD, fB, gL, gS, gN, hY, rfl⟩ := hscr
    have e : q = r := by
      rw [hpost, if_pos hyes, Int.toNat_natCast, hgr, hq, eq_mult hW t1 (by omega) hct hu30 hal hm hv]
    subst e
    exact kk _ ⟨Q, gL, gS, gN, gD, Y, a0, a1, a2, a3, fB, rfl, hY, rfl, hfd⟩
  · have hfl : ∃ f : Int, a0 = iZ f ∧ (f = 0 ∨ f = 1) ∧ ∃ n : Int, a1 = iZ n ∧ (0 ≤ n ∧ n ≤ 8) ∧ ∀ t : Int, (f = 1 ∧ 0 ≤ t ∧ t ≤ n - 1) ↔ (0 ≤ t ∧ t < fd ∧ t < 8) := by
      rcases hfd with ⟨h, h0, h1⟩ | ⟨h1, h2, h3, h4, h5⟩
      · exact ⟨0, h0, Or.inl rfl, 0, h1, by omega, fun t => by omega⟩
      · exact ⟨1, h3, Or.inr rfl, fd, h4, by omega, fun t => by omega⟩
    obtain ⟨f, hf0, hf1, n, hn0, hn1, hiff⟩ := hfl
    refine m_lcalli [.int (iZ z)] hA C (fun w => cm_multiplicityN l D Q G fL fS fN fD (a0, a1, a2, a3, a4, g, g2) f n z hf0 hn0 hf1 hn1 hz (fun t => hyes ((hiff z).1 t)) w) (cwV 1 C.1.2.2.2.2 (wL_V kL_64 nX5_multiplicity slX5_multiplicity iniX5 cdX5_multiplicity) rfl rfl rfl (by decide +kernel) ⟨Nat.le_of_ble_eq_true rfl, Nat.le_of_ble_eq_true rfl⟩) rfl ⟨by show cells ≤ 600000; omega, by show slots ≤ 7302250; omega⟩ (Nat.le_of_ble_eq_true rfl) hdg _ rfl (fun q u hu => ?_)
    obtain ⟨hq, rfl⟩ := hu
    have e : q = r := by rw [hq, hpost, if_neg hyes]
    subst e
    exact kk _ ⟨Q, fL, fS, fN, fD, Z, a0, a1, a2, a3, a4, rfl, hZ, rfl, hfd⟩
set_option maxHeartbeats 4000000 in
set_option maxRecDepth 100000 in
theorem lm_signAtN {p : Program} {l : Launch} {e : Env} {s : State} {m : MethodId} {args : Array Value} {below : List Frame} {meth : Method} {c : Code} {D : va_G} {A : Nat → Prop} {cells slots : Nat} {Qp : State → Prop} {pc : Nat} {lw : List (Nat × Value)} {G : Nat → ClassId} {mq : Nat} {g g2 : Nat → Int32} {fd : Int} {gl : Nat → Int32} {gc : Nat → Int64} {ge gr : Nat → Int32} {Wc Wm : va_W} (hA : ∀ q, s.heap.size ≤ q → A q) (C : ZC p s m args c code 4 lw_tbl RL D (cty G)) (hM : isM G mq g g2 fd gl gc Wm) (ha : aI g g2 fd gl gc ge gr) (hR : cells ≤ 2067 ∧ slots ≤ 497312) (z : Int) (hz : -2147483648 ≤ z ∧ z < 2147483648) (hyes : ¬ (0 ≤ z ∧ z < fd ∧ z < 8)) {r : Int32} (hpost : r = iZ (-9)) (hdg : decode code pc = .ok (.invokevirtual 68, 3))
    (kk : ∀ Wn : va_W, isM G mq g g2 fd gl gc Wn → ZW p l e room_1 s m args below meth c D A 4 cells slots Qp (Wc ++ Wn) (pc + 3) lw [.int r, .int r]) : ZW p l e room_1 s m args below meth c D A 4 cells slots Qp (Wc ++ Wm) pc lw [.int (iZ z), .ref mq, .int r] := by
  obtain ⟨Q, fL, fS, fN, fD, Z, a0, a1, a2, a3, a4, rfl, hZ, rfl, hfd⟩ := hM
  have hfl : ∃ f : Int, a0 = iZ f ∧ (f = 0 ∨ f = 1) ∧ ∃ n : Int, a1 = iZ n ∧ (0 ≤ n ∧ n ≤ 8) ∧ ∀ t : Int, (f = 1 ∧ 0 ≤ t ∧ t ≤ n - 1) ↔ (0 ≤ t ∧ t < fd ∧ t < 8) := by
    rcases hfd with ⟨h, h0, h1⟩ | ⟨h1, h2, h3, h4, h5⟩
    · exact ⟨0, h0, Or.inl rfl, 0, h1, by omega, fun t => by omega⟩
    · exact ⟨1, h3, Or.inr rfl, fd, h4, by omega, fun t => by omega⟩
  obtain ⟨f, hf0, hf1, n, hn0, hn1, hiff⟩ := hfl
  refine m_lcalli [.int (iZ z)] hA C (fun w => cm_signAtN l D Q G fL fS fN fD (a0, a1, a2, a3, a4, g, g2) f n z hf0 hn0 hf1 hn1 hz (fun t => hyes ((hiff z).1 t)) w) (cwV 1 C.1.2.2.2.2 (wL_V kL_68 nX5_signAt slX5_signAt iniX5 cdX5_signAt) rfl rfl rfl (by decide +kernel) ⟨Nat.le_of_ble_eq_true rfl, Nat.le_of_ble_eq_true rfl⟩) rfl ⟨by show cells ≤ 600000; omega, by show slots ≤ 7302250; omega⟩ (Nat.le_of_ble_eq_true rfl) hdg _ rfl (fun q u hu => ?_)
  obtain ⟨hq, rfl⟩ := hu
  have e : q = r := by rw [hq, hpost]
  subst e
  exact kk _ ⟨Q, fL, fS, fN, fD, Z, a0, a1, a2, a3, a4, rfl, hZ, rfl, hfd⟩
set_option maxHeartbeats 4000000 in
set_option maxRecDepth 100000 in
theorem lm_signAt {p : Program} {l : Launch} {e : Env} {s : State} {m : MethodId} {args : Array Value} {below : List Frame} {meth : Method} {c : Code} {D : va_G} {A : Nat → Prop} {cells slots : Nat} {Qp : State → Prop} {pc : Nat} {lw : List (Nat × Value)} {G : Nat → ClassId} {mq : Nat} {g g2 : Nat → Int32} {fd : Int} {gl : Nat → Int32} {gc : Nat → Int64} {ge gr : Nat → Int32} {Wc Wm : va_W} (hA : ∀ q, s.heap.size ≤ q → A q) (C : ZC p s m args c code 4 lw_tbl RL D (cty G)) (hM : isM G mq g g2 fd gl gc Wm) (ha : aI g g2 fd gl gc ge gr) (hR : cells ≤ 2067 ∧ slots ≤ 497312) (z : Int) (hz : -2147483648 ≤ z ∧ z < 2147483648) (hyes : 0 ≤ z ∧ z < fd ∧ z < 8) {r : Int32} (hpost : (∃ (Z1 : Nat → Int) (T1 : Nat → Nat) (us1 : Nat), ∃ N2 : Nat, tpN (gp g2) 9 N2 ∧ ((((ge z.toNat).toInt = 1 ∨ N2 ≤ 1) ∧ ∃ v : Int, sdv g2 ((gc z.toNat).toInt + 1) (gl z.toNat).toInt.toNat v ∧ r = iZ v) ∨ ((ge z.toNat).toInt ≠ 1 ∧ 2 ≤ N2 ∧ chn Z1 T1 us1 ∧ zr Z1 T1 0 = cvS g g2 72 ∧ zr Z1 T1 1 = gp g ∧ ∃ c1 c2 va : Int, chg Z1 T1 us1 (gc z.toNat).toInt (gl z.toNat).toInt.toNat c1 ∧ chg Z1 T1 us1 ((gc z.toNat).toInt + 1) (gl z.toNat).toInt.toNat c2 ∧ sdv g (gc z.toNat).toInt (gl z.toNat).toInt.toNat va ∧ ((va ≠ 0 ∧ r = iZ (c1 - c2)) ∨ (va = 0 ∧ ∃ vb : Int, sdv g2 (gc z.toNat).toInt (gl z.toNat).toInt.toNat vb ∧ ((0 ≤ vb ∧ r = iZ (c1 - c2)) ∨ (vb < 0 ∧ r = iZ (c1 + 1 - c2))))))))) (hdg : decode code pc = .ok (.invokevirtual 68, 3))
    (kk : ∀ Wn : va_W, isM G mq g g2 fd gl gc Wn → ZW p l e room_1 s m args below meth c D A 4 cells slots Qp (Wc ++ Wn) (pc + 3) lw [.int r, .int r]) : ZW p l e room_1 s m args below meth c D A 4 cells slots Qp (Wc ++ Wm) pc lw [.int (iZ z), .ref mq, .int r] := by
  obtain ⟨Q, fL, fS, fN, fD, Z, a0, a1, a2, a3, a4, rfl, hZ, rfl, hfd⟩ := hM
  have hin : ∀ i : Nat, (i : Int) < fd → a2 i = gl i ∧ a3 i = gc i := by
    rcases hfd with ⟨h, _⟩ | ⟨_, _, _, _, h5⟩
    · exact fun i hi => absurd hi (by omega)
    · exact h5
  have hff : a0 = iZ 1 ∧ a1 = iZ fd := by
    rcases hfd with ⟨h, _⟩ | ⟨_, _, h3, h4, _⟩
    · exact absurd hyes.2.1 (by omega)
    · exact ⟨h3, h4⟩
  obtain ⟨ix, rfl⟩ := nat_of hyes.1
  have hF : aF g fd gl gc ge gr := ha.2.2.resolve_left (fun q => absurd hyes.2.1 (by omega))
  obtain ⟨N, Q9, Q19, W9, G9, m9, ct, cs, mu, u, t1, n2, hW, hct, hfe, hc8, hu30, hal, el, ec, el2, ec2, hm, hge, hgr, hr1, hr2⟩ := aF_at hF hyes.2.1
  obtain ⟨g1, g3⟩ := hin ix hyes.2.1
  have hp30 : (0 : Int) < 2 ^ (30 - u) := Int.pow_pos (by decide)
  obtain ⟨Z1, T1, us1, N2, t2, hpost⟩ := hpost
  rw [Int.toNat_natCast, ec2, el2, Int.toNat_natCast] at hpost
  refine m_lcalli [.int (iZ (ix : Int))] hA C (fun w => cm_signAt l D Q G fL fS fN fD (a0, a1, a2, a3, a4, g, g2) Z N N2 1981 ix u (cs u ix) fd hZ hff.1 hff.2 (by omega) (by omega) (g1.trans el) hu30 (g3.trans ec) ⟨by omega, by omega⟩ (top_tp.2 t1) (top_tp.2 t2) (by omega) (sign_OK hW t1 (by omega) ha.1 t2 ha.2.1 hct hu30 hal) w) (cwV 1 C.1.2.2.2.2 (wL_V kL_68 nX5_signAt slX5_signAt iniX5 cdX5_signAt) rfl rfl rfl (by decide +kernel) ⟨Nat.le_of_ble_eq_true rfl, Nat.le_of_ble_eq_true rfl⟩) rfl ⟨by show cells ≤ 600000; omega, by show slots ≤ 7302250; omega⟩ (Nat.le_of_ble_eq_true rfl) hdg _ rfl (fun q u hu => ?_)
  obtain ⟨hscr, hq⟩ := hu
  obtain ⟨Y, gD, fB, gL, gS, gN, hY, rfl⟩ := hscr
  have hfl : (ge ix).toInt = 1 ↔ rv (gp g) N (dy (cs u ix + 1) u) = 0 := by
    rw [← tyl_zero_iff, hge]
    by_cases c0 : tyl (gp g) N 0 (cs u ix + 1) u N = 0
    · rw [if_pos c0]; exact ⟨fun _ => c0, fun _ => by decide⟩
    · rw [if_neg c0]; exact ⟨fun h => absurd h (by decide), fun h => absurd h c0⟩
  have e : q = r := by
    obtain ⟨rr, hrr, hc⟩ : ∃ rr : Int, r = iZ rr ∧ ((((ge ix).toInt = 1 ∨ N2 ≤ 1) ∧ ∃ v : Int, sdv g2 (cs u ix + 1) u v ∧ rr = v) ∨ ((ge ix).toInt ≠ 1 ∧ 2 ≤ N2 ∧ ∃ (Z : Nat → Int) (T : Nat → Nat) (us : Nat), chn Z T us ∧ zr Z T 0 = cvS g g2 72 ∧ zr Z T 1 = gp g ∧ ∃ c1 c2 va : Int, chg Z T us (cs u ix) u c1 ∧ chg Z T us (cs u ix + 1) u c2 ∧ sdv g (cs u ix) u va ∧ ((va ≠ 0 ∧ rr = c1 - c2) ∨ (va = 0 ∧ ∃ vb : Int, sdv g2 (cs u ix) u vb ∧ ((0 ≤ vb ∧ rr = c1 - c2) ∨ (vb < 0 ∧ rr = c1 + 1 - c2)))))) := by
      rcases hpost with ⟨h1, v, hv, hr⟩ | ⟨h1, h2, h3, h4, h5, c1, c2, va, k1, k2, k3, k4⟩
      · exact ⟨v, hr, Or.inl ⟨h1, v, hv, rfl⟩⟩
      · rcases k4 with ⟨k4, hr⟩ | ⟨k4, vb, k5, ⟨k6, hr⟩ | ⟨k6, hr⟩⟩
        · exact ⟨_, hr, Or.inr ⟨h1, h2, Z1, T1, us1, h3, h4, h5, c1, c2, va, k1, k2, k3, Or.inl ⟨k4, rfl⟩⟩⟩
        · exact ⟨_, hr, Or.inr ⟨h1, h2, Z1, T1, us1, h3, h4, h5, c1, c2, va, k1, k2, k3, Or.inr ⟨k4, vb, k5, Or.inl ⟨k6, rfl⟩⟩⟩⟩
        · exact ⟨_, hr, Or.inr ⟨h1, h2, Z1, T1, us1, h3, h4, h5, c1, c2, va, k1, k2, k3, Or.inr ⟨k4, vb, k5, Or.inr ⟨k6, rfl⟩⟩⟩⟩
    rcases hq with ⟨z0, hq⟩ | ⟨z0, v, hv, hq⟩
    · rw [hq, hrr, eq_signAt hW t1 (by omega) ha.1 t2 ha.2.1 hct hu30 hal (kf := 1981) hfl hc (Or.inl ⟨z0, rfl⟩)]
    · rw [hq, hrr, eq_signAt hW t1 (by omega) ha.1 t2 ha.2.1 hct hu30 hal hfl hc (Or.inr ⟨z0, v, hv, rfl⟩)]
  subst e
  exact kk _ ⟨Q, gL, gS, gN, gD, Y, a0, a1, a2, a3, fB, rfl, hY, rfl, hfd⟩
set_option maxHeartbeats 4000000 in
set_option maxRecDepth 100000 in
theorem lm_isolate {p : Program} {l : Launch} {e : Env} {s : State} {m : MethodId} {args : Array Value} {below : List Frame} {meth : Method} {c : Code} {D : va_G} {A : Nat → Prop} {cells slots : Nat} {Qp : State → Prop} {pc : Nat} {lw : List (Nat × Value)} {G : Nat → ClassId} {mq : Nat} {g g2 : Nat → Int32} {fd : Int} {gl : Nat → Int32} {gc : Nat → Int64} {ge gr : Nat → Int32} {Wc Wm : va_W} (hA : ∀ q, s.heap.size ≤ q → A q) (C : ZC p s m args c code 4 lw_tbl RL D (cty G)) (hM : isM G mq g g2 fd gl gc Wm) (ha : aI g g2 fd gl gc ge gr) (hR : cells ≤ 2067 ∧ slots ≤ 497312) (ez : Int) (ct : Nat) (cs : Nat → Nat → Int) (mu : Nat → Nat) (fd1 : Int) (gl1 ge1 gr1 : Nat → Int32) (gc1 : Nat → Int64) (hez : -2147483648 ≤ ez ∧ ez < 2147483648) (hdat : ∀ N : Nat, tpN (gp g) 9 N → 1 ≤ N → ∃ (Q Q1 : Rat → Rat) (W : Rat → Int) (G : Nat → Int) (m : Nat), isoW g N Q Q1 W G m ct cs) {r : Int32} (hpost : ((¬ (0 ≤ ez ∧ ez ≤ 30) ∧ r = iZ (-2) ∧ fd1 = fd ∧ gl1 = gl ∧ gc1 = gc ∧ ge1 = ge ∧ gr1 = gr) ∨ (0 ≤ ez ∧ ez ≤ 30 ∧ ∃ N : Nat, tpN (gp g) 9 N ∧ ((N = 0 ∧ r = iZ (-3) ∧ fd1 = -1) ∨ (1 ≤ N ∧ r = iZ (-4) ∧ fd1 = -1 ∧ ∃ i : Nat, i < ct ∧ ∀ t : Nat, ez.toNat ≤ t → t ≤ 30 → ¬ al cs ct t i) ∨ (1 ≤ N ∧ r = iZ (ct : Int) ∧ fd1 = (ct : Int) ∧ ct ≤ 8 ∧ ∀ i : Nat, i < ct → lvd cs ct ez.toNat 31 i (gl1 i) (gc1 i) ∧ ge1 i = iZ (if tyl (gp g) N 0 ((gc1 i).toInt + 1) (gl1 i).toInt.toNat N = 0 then 1 else 0) ∧ (gr1 i).toInt = (mu i : Int)))))) (hdg : decode code pc = .ok (.invokevirtual 47, 3))
    (kk : ∀ Wn : va_W, isM G mq g g2 fd1 gl1 gc1 Wn → ZW p l e room_1 s m args below meth c D A 4 cells slots Qp (Wc ++ Wn) (pc + 3) lw [.int r, .int r]) : ZW p l e room_1 s m args below meth c D A 4 cells slots Qp (Wc ++ Wm) pc lw [.int (iZ ez), .ref mq, .int r] := by
  obtain ⟨Q, fL, fS, fN, fD, Z, a0, a1, a2, a3, a4, rfl, hZ, rfl, hfd⟩ := hM
  rcases Classical.em (0 ≤ ez ∧ ez ≤ 30) with he | he
  · obtain ⟨ex, rfl⟩ := nat_of he.1
    obtain ⟨N, hN⟩ := tp_ex g
    have hpost := hpost.resolve_left (fun t => t.1 he)
    obtain ⟨_, _, N', hN', hpost⟩ := hpost
    have eN := tpu2 hN hN'
    subst eN
    rw [Int.toNat_natCast] at hpost
    refine m_lcalli [.int (iZ (ex : Int))] hA C (fun w => cm_isolate l D Q G fL fS fN fD (a0, a1, a2, a3, a4, g, g2) Z ex _ hZ (by omega) (top_tp.2 hN) (fun h0 => ⟨okF_FZ (okF_gz hN (by omega) ha.1), fun f Nf G1 NG hf => by obtain ⟨Q9, Q19, W9, G9, m9, hW⟩ := hdat _ hN (by omega); exact iso_IK hW hN (by omega) ha.1 hf⟩) w) (cwV 1 C.1.2.2.2.2 (wL_V kL_47 nX5_isolate slX5_isolate iniX5 cdX5_isolate) rfl rfl rfl (by decide +kernel) ⟨Nat.le_of_ble_eq_true rfl, Nat.le_of_ble_eq_true rfl⟩) rfl ⟨by show cells ≤ 600000; omega, by show slots ≤ 7302250; omega⟩ (Nat.le_of_ble_eq_true rfl) hdg _ rfl (fun q u hu => ?_)
    rcases hu with ⟨h0, hq, hscr⟩ | ⟨h0, f, Nf, G1, NG, hf, hld, hu⟩
    · obtain ⟨Y, gD, fB, gL, gS, gN, hY, rfl⟩ := hscr
      rcases hpost with ⟨_, hr, rfl⟩ | ⟨h1, _⟩ | ⟨h1, _⟩
      · have e : q = r := by rw [hq, hr]
        subst e
        exact kk _ ⟨Q, gL, gS, gN, gD, Y, iZ 0, iZ 0, a2, a3, fB, rfl, hY, rfl, Or.inl ⟨rfl, rfl, rfl⟩⟩
      · exact absurd h0 (by omega)
      · exact absurd h0 (by omega)
    · obtain ⟨Q9, Q19, W9, G9, m9, hW⟩ := hdat _ hN (by omega)
      rcases hu with ⟨hI, hq, lf, cf, hscr⟩ | ⟨rs, hI, hlen, hq, hscr⟩
      · obtain ⟨Y, gD, fB, gL, gS, gN, hY, rfl⟩ := hscr
        rcases iso_IR hW hN (by omega) ha.1 hf hI with ⟨_, i, hi, hno⟩ | ⟨rs, h, _⟩
        · rcases hpost with ⟨h1, _⟩ | ⟨_, hr, rfl, _⟩ | ⟨_, _, _, _, hall⟩
          · exact absurd h1 h0
          · have e : q = r := by rw [hq, hr]
            subst e
            exact kk _ ⟨Q, gL, gS, gN, gD, Y, iZ 0, iZ 0, lf, cf, fB, rfl, hY, rfl, Or.inl ⟨rfl, rfl, rfl⟩⟩
          · obtain ⟨⟨u, u1, u2, u3, u4, u5, _⟩, _⟩ := hall i hi
            exact absurd u5 (hno u u1 u3)
        · exact absurd h (by simp)
      · obtain ⟨Y, gD, fB, gL, gS, gN, hY, rfl⟩ := hscr
        rcases iso_IR hW hN (by omega) ha.1 hf hI with ⟨h, _⟩ | ⟨rs2, h, hl2, hall2⟩
        · exact absurd h (by simp)
        · have ers : rs2 = rs := (Option.some.inj h).symm
          subst ers
          rcases hpost with ⟨h1, _⟩ | ⟨_, _, _, i, hi, hno⟩ | ⟨_, hr, rfl, hc8, hall⟩
          · exact absurd h1 h0
          · obtain ⟨u, u1, u2, u3, _⟩ := hall2 i hi
            exact absurd u3 (hno u u1 u2)
          · have e : q = r := by rw [hq, hr, hl2]
            subst e
            refine kk _ ⟨Q, gL, gS, gN, gD, Y, iZ 1, iZ (rs2.length : Int), apL a2 0 rs2, apC a3 0 rs2, fB, rfl, hY, rfl, Or.inr ⟨by omega, by omega, rfl, by rw [hl2], fun i hi => ?_⟩⟩
            obtain ⟨u, u1, u2, u3, u4, u5⟩ := hall2 i (by omega)
            obtain ⟨⟨v, v1, v2, v3, v4, v5, v6, v7⟩, _⟩ := hall i (by omega)
            have euv := lev_uniq ⟨u1, u3, u4⟩ ⟨v1, v5, v6⟩
            subst euv
            have k1 := apL_at rs2 a2 0 i _ u5
            have k2 := apC_at rs2 a3 0 i _ u5
            rw [Nat.zero_add] at k1 k2
            refine ⟨?_, ?_⟩
            · show apL a2 0 rs2 i = gl1 i
              rw [k1, ← v4, iZ_self]
            · show apC a3 0 rs2 i = gc1 i
              rw [k2, ← v7, lZ_self]
  · refine m_lcalli [.int (iZ ez)] hA C (fun w => cm_isolateB l D Q G fL fS fN fD (a0, a1, a2, a3, a4, g, g2) ez hez he w) (cwV 1 C.1.2.2.2.2 (wL_V kL_47 nX5_isolate slX5_isolate iniX5 cdX5_isolate) rfl rfl rfl (by decide +kernel) ⟨Nat.le_of_ble_eq_true rfl, Nat.le_of_ble_eq_true rfl⟩) rfl ⟨by show cells ≤ 600000; omega, by show slots ≤ 7302250; omega⟩ (Nat.le_of_ble_eq_true rfl) hdg _ rfl (fun q u hu => ?_)
    obtain ⟨hq, rfl⟩ := hu
    rcases hpost with ⟨_, hr, rfl, rfl, rfl, rfl, rfl⟩ | ⟨h1, h2, _⟩
    · have e : q = r := by rw [hq, hr]
      subst e
      exact kk _ ⟨Q, fL, fS, fN, fD, Z, a0, a1, a2, a3, a4, rfl, hZ, rfl, hfd⟩
    · exact absurd ⟨h1, h2⟩ he
