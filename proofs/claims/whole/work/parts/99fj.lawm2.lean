set_option maxHeartbeats 4000000 in
set_option maxRecDepth 100000 in
theorem lm_sign {p : Program} {l : Launch} {e : Env} {s : State} {m : MethodId} {args : Array Value} {below : List Frame} {meth : Method} {c : Code} {D : va_G} {A : Nat → Prop} {cells slots : Nat} {Qp : State → Prop} {pc : Nat} {lw : List (Nat × Value)} {G : Nat → ClassId} {mq : Nat} {g g2 : Nat → Int32} {fd : Int} {gl : Nat → Int32} {gc : Nat → Int64} {ge gr : Nat → Int32} {Wc Wm : va_W} (hA : ∀ q, s.heap.size ≤ q → A q) (C : ZC p s m args c code 4 lw_tbl RL D (cty G)) (hM : isM G mq g g2 fd gl gc Wm) (ha : aI g g2 fd gl gc ge gr) (hR : cells ≤ 2067 ∧ slots ≤ 497312) (z nv ez : Int) (hz : -2147483648 ≤ z ∧ z < 2147483648) (hnv : -9223372036854775808 ≤ nv ∧ nv < 9223372036854775808) (hez : -2147483648 ≤ ez ∧ ez < 2147483648) {r : Int32} (hpost : ((¬ ((z = 0 ∨ z = 1) ∧ 0 ≤ ez ∧ ez ≤ 30) ∧ r = iZ (-2)) ∨ (0 ≤ ez ∧ ez ≤ 30 ∧ ∃ N : Nat, ((z = 0 ∧ tpN (gp g) 9 N ∧ r = iZ (tyl (gp g) N 0 nv ez.toNat N).sign) ∨ (z = 1 ∧ tpN (gp g2) 9 N ∧ r = iZ (tyl (gp g2) N 0 nv ez.toNat N).sign))))) (hdg : decode code pc = .ok (.invokevirtual 34, 3))
    (kk : ∀ Wn : va_W, isM G mq g g2 fd gl gc Wn → ZW p l e room_1 s m args below meth c D A 4 cells slots Qp (Wc ++ Wn) (pc + 3) lw [.int r, .int r]) : ZW p l e room_1 s m args below meth c D A 4 cells slots Qp (Wc ++ Wm) pc lw [.int (iZ ez), .long (lZ nv), .int (iZ z), .ref mq, .int r] := by
  obtain ⟨Q, fL, fS, fN, fD, Z, a0, a1, a2, a3, a4, rfl, hZ, rfl, hfd⟩ := hM
  rcases Classical.em (z = 0) with e0 | e0
  · subst e0
    rcases Classical.em (0 ≤ ez ∧ ez ≤ 30) with he | he
    · obtain ⟨ex, rfl⟩ := nat_of he.1
      refine m_lcalli [.int (iZ 0), .long (lZ nv), .int (iZ (ex : Int))] hA C (fun w => cm_sign0 l D Q G fL fS fN fD (a0, a1, a2, a3, a4, g, g2) Z nv ex hZ hnv (by omega) w) (cwV 3 C.1.2.2.2.2 (wL_V kL_34 nX5_sign slX5_sign iniX5 cdX5_sign) rfl rfl rfl (by decide +kernel) ⟨Nat.le_of_ble_eq_true rfl, Nat.le_of_ble_eq_true rfl⟩) rfl ⟨by show cells ≤ 600000; omega, by show slots ≤ 7302250; omega⟩ (Nat.le_of_ble_eq_true rfl) hdg _ rfl (fun q u hu => ?_)
      obtain ⟨N, hN, hq, Y, ⟨gL, gS, gN, hY, rfl⟩, _⟩ := hu
      have e : q = r := by
        rcases hpost with ⟨h, _⟩ | ⟨_, _, N1, ⟨h0, h1, hr⟩ | ⟨h0, h1, hr⟩⟩
        · exact absurd ⟨Or.inl rfl, he⟩ h
        · rw [hq, hr, tpu h1 hN, hrn_gp g h1.1, Int.toNat_natCast]
        · exact absurd h0 (by omega)
      subst e
      exact kk _ ⟨Q, gL, gS, gN, fD, Y, a0, a1, a2, a3, a4, rfl, hY, rfl, hfd⟩
    · refine m_lcalli [.int (iZ 0), .long (lZ nv), .int (iZ ez)] hA C (fun w => cm_signE0 l D Q G fL fS fN fD (a0, a1, a2, a3, a4, g, g2) nv ez hez he w) (cwV 3 C.1.2.2.2.2 (wL_V kL_34 nX5_sign slX5_sign iniX5 cdX5_sign) rfl rfl rfl (by decide +kernel) ⟨Nat.le_of_ble_eq_true rfl, Nat.le_of_ble_eq_true rfl⟩) rfl ⟨by show cells ≤ 600000; omega, by show slots ≤ 7302250; omega⟩ (Nat.le_of_ble_eq_true rfl) hdg _ rfl (fun q u hu => ?_)
      obtain ⟨hq, rfl⟩ := hu
      have e : q = r := by
        rcases hpost with ⟨_, hr⟩ | ⟨h1, h2, _⟩
        · rw [hq, hr]
        · exact absurd ⟨h1, h2⟩ he
      subst e
      exact kk _ ⟨Q, fL, fS, fN, fD, Z, a0, a1, a2, a3, a4, rfl, hZ, rfl, hfd⟩
  · rcases Classical.em (z = 1) with e1 | e1
    · subst e1
      rcases Classical.em (0 ≤ ez ∧ ez ≤ 30) with he | he
      · obtain ⟨ex, rfl⟩ := nat_of he.1
        refine m_lcalli [.int (iZ 1), .long (lZ nv), .int (iZ (ex : Int))] hA C (fun w => cm_sign1 l D Q G fL fS fN fD (a0, a1, a2, a3, a4, g, g2) Z nv ex hZ hnv (by omega) w) (cwV 3 C.1.2.2.2.2 (wL_V kL_34 nX5_sign slX5_sign iniX5 cdX5_sign) rfl rfl rfl (by decide +kernel) ⟨Nat.le_of_ble_eq_true rfl, Nat.le_of_ble_eq_true rfl⟩) rfl ⟨by show cells ≤ 600000; omega, by show slots ≤ 7302250; omega⟩ (Nat.le_of_ble_eq_true rfl) hdg _ rfl (fun q u hu => ?_)
        obtain ⟨N, hN, hq, Y, ⟨gL, gS, gN, hY, rfl⟩, _⟩ := hu
        have e : q = r := by
          rcases hpost with ⟨h, _⟩ | ⟨_, _, N1, ⟨h0, h1, hr⟩ | ⟨h0, h1, hr⟩⟩
          · exact absurd ⟨Or.inr rfl, he⟩ h
          · exact absurd h0 (by omega)
          · rw [hq, hr, tpu h1 hN, hrn_gp g2 h1.1, Int.toNat_natCast]
        subst e
        exact kk _ ⟨Q, gL, gS, gN, fD, Y, a0, a1, a2, a3, a4, rfl, hY, rfl, hfd⟩
      · refine m_lcalli [.int (iZ 1), .long (lZ nv), .int (iZ ez)] hA C (fun w => cm_signE1 l D Q G fL fS fN fD (a0, a1, a2, a3, a4, g, g2) nv ez hez he w) (cwV 3 C.1.2.2.2.2 (wL_V kL_34 nX5_sign slX5_sign iniX5 cdX5_sign) rfl rfl rfl (by decide +kernel) ⟨Nat.le_of_ble_eq_true rfl, Nat.le_of_ble_eq_true rfl⟩) rfl ⟨by show cells ≤ 600000; omega, by show slots ≤ 7302250; omega⟩ (Nat.le_of_ble_eq_true rfl) hdg _ rfl (fun q u hu => ?_)
        obtain ⟨hq, rfl⟩ := hu
        have e : q = r := by
          rcases hpost with ⟨_, hr⟩ | ⟨h1, h2, _⟩
          · rw [hq, hr]
          · exact absurd ⟨h1, h2⟩ he
        subst e
        exact kk _ ⟨Q, fL, fS, fN, fD, Z, a0, a1, a2, a3, a4, rfl, hZ, rfl, hfd⟩
    · refine m_lcalli [.int (iZ z), .long (lZ nv), .int (iZ ez)] hA C (fun w => cm_signB l D Q G fL fS fN fD (a0, a1, a2, a3, a4, g, g2) z nv ez hz (by omega) w) (cwV 3 C.1.2.2.2.2 (wL_V kL_34 nX5_sign slX5_sign iniX5 cdX5_sign) rfl rfl rfl (by decide +kernel) ⟨Nat.le_of_ble_eq_true rfl, Nat.le_of_ble_eq_true rfl⟩) rfl ⟨by show cells ≤ 600000; omega, by show slots ≤ 7302250; omega⟩ (Nat.le_of_ble_eq_true rfl) hdg _ rfl (fun q u hu => ?_)      
      obtain ⟨hq, rfl⟩ := hu
      have e : q = r := by
        rcases hpost with ⟨_, hr⟩ | ⟨_, _, N1, ⟨h0, _⟩ | ⟨h0, _⟩⟩
        · rw [hq, hr]
        · exact absurd h0 e0
        · exact absurd h0 e1
      subst e
      exact kk _ ⟨Q, fL, fS, fN, fD, Z, a0, a1, a2, a3, a4, rfl, hZ, rfl, hfd⟩
set_option maxHeartbeats 4000000 in
set_option maxRecDepth 100000 in
theorem lm_between {p : Program} {l : Launch} {e : Env} {s : State} {m : MethodId} {args : Array Value} {below : List Frame} {meth : Method} {c : Code} {D : va_G} {A : Nat → Prop} {cells slots : Nat} {Qp : State → Prop} {pc : Nat} {lw : List (Nat × Value)} {G : Nat → ClassId} {mq : Nat} {g g2 : Nat → Int32} {fd : Int} {gl : Nat → Int32} {gc : Nat → Int64} {ge gr : Nat → Int32} {Wc Wm : va_W} (hA : ∀ q, s.heap.size ≤ q → A q) (C : ZC p s m args c code 4 lw_tbl RL D (cty G)) (hM : isM G mq g g2 fd gl gc Wm) (ha : aI g g2 fd gl gc ge gr) (hR : cells ≤ 2067 ∧ slots ≤ 497312) (z nv ez mv fz : Int) (hz : -2147483648 ≤ z ∧ z < 2147483648) (hnv : -9223372036854775808 ≤ nv ∧ nv < 9223372036854775808) (hez : -2147483648 ≤ ez ∧ ez < 2147483648) (hmv : -9223372036854775808 ≤ mv ∧ mv < 9223372036854775808) (hfz : -2147483648 ≤ fz ∧ fz < 2147483648) {r : Int32} (hpost : (∃ (Z1 : Nat → Int) (T1 : Nat → Nat) (us1 : Nat), ((¬ ((z = 0 ∨ z = 1) ∧ (0 ≤ ez ∧ ez ≤ 30) ∧ 0 ≤ fz ∧ fz ≤ 30) ∧ r = iZ (-2)) ∨ (((z = 0 ∨ z = 1) ∧ (0 ≤ ez ∧ ez ≤ 30) ∧ 0 ≤ fz ∧ fz ≤ 30) ∧ ((z = 0 ∧ ∃ N : Nat, tpN (gp g) 9 N ∧ ((N = 0 ∧ r = iZ (-3)) ∨ (1 ≤ N ∧ ((¬ (nv * 2 ^ fz.toNat < mv * 2 ^ ez.toNat) ∧ r = iZ 0) ∨ (nv * 2 ^ fz.toNat < mv * 2 ^ ez.toNat ∧ chR Z1 T1 us1 g ∧ ∃ v2 v1 : Int, upR Z1 T1 us1 mv fz.toNat v2 ∧ upR Z1 T1 us1 nv ez.toNat v1 ∧ r = iZ (v2 - v1)))))) ∨ (z = 1 ∧ ∃ N : Nat, tpN (gp g2) 9 N ∧ ((N = 0 ∧ r = iZ (-3)) ∨ (1 ≤ N ∧ ((¬ (nv * 2 ^ fz.toNat < mv * 2 ^ ez.toNat) ∧ r = iZ 0) ∨ (nv * 2 ^ fz.toNat < mv * 2 ^ ez.toNat ∧ chR Z1 T1 us1 g2 ∧ ∃ v2 v1 : Int, upR Z1 T1 us1 mv fz.toNat v2 ∧ upR Z1 T1 us1 nv ez.toNat v1 ∧ r = iZ (v2 - v1))))))))))) (hdg : decode code pc = .ok (.invokevirtual 39, 3))
    (kk : ∀ Wn : va_W, isM G mq g g2 fd gl gc Wn → ZW p l e room_1 s m args below meth c D A 4 cells slots Qp (Wc ++ Wn) (pc + 3) lw [.int r, .int r]) : ZW p l e room_1 s m args below meth c D A 4 cells slots Qp (Wc ++ Wm) pc lw [.int (iZ fz), .long (lZ mv), .int (iZ ez), .long (lZ nv), .int (iZ z), .ref mq, .int r] := by
  obtain ⟨Q, fL, fS, fN, fD, Z, a0, a1, a2, a3, a4, rfl, hZ, rfl, hfd⟩ := hM
  rcases Classical.em (z = 0) with e0 | e0
  · subst e0
    rcases Classical.em ((0 ≤ ez ∧ ez ≤ 30) ∧ (0 ≤ fz ∧ fz ≤ 30)) with he | he
    · obtain ⟨ex, rfl⟩ := nat_of he.1.1
      obtain ⟨ey, rfl⟩ := nat_of he.2.1
      obtain ⟨N, hN⟩ := tp_ex g
      refine m_lcalli [.int (iZ 0), .long (lZ nv), .int (iZ (ex : Int)), .long (lZ mv), .int (iZ (ey : Int))] hA C (fun w => cm_between_0 l D Q G fL fS fN fD (a0, a1, a2, a3, a4, g, g2) Z nv mv ex ey N hZ hnv hmv (by omega) (by omega) (top_tp.2 hN) (bet_ok hN ha.1 nv mv (by omega) (by omega)) w) (cwV 5 C.1.2.2.2.2 (wL_V kL_39 nX5_between_ slX5_between_ iniX5 cdX5_between_) rfl rfl rfl (by decide +kernel) ⟨Nat.le_of_ble_eq_true rfl, Nat.le_of_ble_eq_true rfl⟩) rfl ⟨by show cells ≤ 600000; omega, by show slots ≤ 7302250; omega⟩ (Nat.le_of_ble_eq_true rfl) hdg _ rfl (fun q u hu => ?_)
      obtain ⟨hscr, hq⟩ := hu
      obtain ⟨Y, gD, fB, gL, gS, gN, hY, rfl⟩ := hscr
      have e : q = r := by
        obtain ⟨Z1, T1, us1, hpost⟩ := hpost
        rcases hpost with ⟨h, _⟩ | ⟨_, ⟨h0, hc⟩ | ⟨h0, hc⟩⟩
        · exact absurd ⟨Or.inl rfl, he.1, he.2⟩ h
        · exact bet_eq hN ha.1 (by omega) (by omega) hc hq
        · exact absurd h0 (by omega)
      subst e
      exact kk _ ⟨Q, gL, gS, gN, gD, Y, a0, a1, a2, a3, fB, rfl, hY, rfl, hfd⟩
    · refine m_lcalli [.int (iZ 0), .long (lZ nv), .int (iZ ez), .long (lZ mv), .int (iZ fz)] hA C (fun w => cm_between_E0 l D Q G fL fS fN fD (a0, a1, a2, a3, a4, g, g2) nv mv ez fz hez hfz he w) (cwV 5 C.1.2.2.2.2 (wL_V kL_39 nX5_between_ slX5_between_ iniX5 cdX5_between_) rfl rfl rfl (by decide +kernel) ⟨Nat.le_of_ble_eq_true rfl, Nat.le_of_ble_eq_true rfl⟩) rfl ⟨by show cells ≤ 600000; omega, by show slots ≤ 7302250; omega⟩ (Nat.le_of_ble_eq_true rfl) hdg _ rfl (fun q u hu => ?_)
      obtain ⟨hq, rfl⟩ := hu
      have e : q = r := by
        obtain ⟨Z1, T1, us1, hpost⟩ := hpost
        rcases hpost with ⟨_, hr⟩ | ⟨h, _⟩
        · rw [hq, hr]
        · exact absurd ⟨h.2.1, h.2.2⟩ he
      subst e
      exact kk _ ⟨Q, fL, fS, fN, fD, Z, a0, a1, a2, a3, a4, rfl, hZ, rfl, hfd⟩
  · rcases Classical.em (z = 1) with e1 | e1
    · subst e1
      rcases Classical.em ((0 ≤ ez ∧ ez ≤ 30) ∧ (0 ≤ fz ∧ fz ≤ 30)) with he | he
      · obtain ⟨ex, rfl⟩ := nat_of he.1.1
        obtain ⟨ey, rfl⟩ := nat_of he.2.1
        obtain ⟨N, hN⟩ := tp_ex g2
        refine m_lcalli [.int (iZ 1), .long (lZ nv), .int (iZ (ex : Int)), .long (lZ mv), .int (iZ (ey : Int))] hA C (fun w => cm_between_1 l D Q G fL fS fN fD (a0, a1, a2, a3, a4, g, g2) Z nv mv ex ey N hZ hnv hmv (by omega) (by omega) (top_tp.2 hN) (bet_ok hN ha.2.1 nv mv (by omega) (by omega)) w) (cwV 5 C.1.2.2.2.2 (wL_V kL_39 nX5_between_ slX5_between_ iniX5 cdX5_between_) rfl rfl rfl (by decide +kernel) ⟨Nat.le_of_ble_eq_true rfl, Nat.le_of_ble_eq_true rfl⟩) rfl ⟨by show cells ≤ 600000; omega, by show slots ≤ 7302250; omega⟩ (Nat.le_of_ble_eq_true rfl) hdg _ rfl (fun q u hu => ?_)
        obtain ⟨hscr, hq⟩ := hu
        obtain ⟨Y, gD, fB, gL, gS, gN, hY, rfl⟩ := hscr
        have e : q = r := by
          obtain ⟨Z1, T1, us1, hpost⟩ := hpost
          rcases hpost with ⟨h, _⟩ | ⟨_, ⟨h0, hc⟩ | ⟨h0, hc⟩⟩
          · exact absurd ⟨Or.inr rfl, he.1, he.2⟩ h
          · exact absurd h0 (by omega)
          · exact bet_eq hN ha.2.1 (by omega) (by omega) hc hq
        subst e
        exact kk _ ⟨Q, gL, gS, gN, gD, Y, a0, a1, a2, a3, fB, rfl, hY, rfl, hfd⟩
      · refine m_lcalli [.int (iZ 1), .long (lZ nv), .int (iZ ez), .long (lZ mv), .int (iZ fz)] hA C (fun w => cm_between_E1 l D Q G fL fS fN fD (a0, a1, a2, a3, a4, g, g2) nv mv ez fz hez hfz he w) (cwV 5 C.1.2.2.2.2 (wL_V kL_39 nX5_between_ slX5_between_ iniX5 cdX5_between_) rfl rfl rfl (by decide +kernel) ⟨Nat.le_of_ble_eq_true rfl, Nat.le_of_ble_eq_true rfl⟩) rfl ⟨by show cells ≤ 600000; omega, by show slots ≤ 7302250; omega⟩ (Nat.le_of_ble_eq_true rfl) hdg _ rfl (fun q u hu => ?_)
        obtain ⟨hq, rfl⟩ := hu
        have e : q = r := by
          obtain ⟨Z1, T1, us1, hpost⟩ := hpost
          rcases hpost with ⟨_, hr⟩ | ⟨h, _⟩
          · rw [hq, hr]
          · exact absurd ⟨h.2.1, h.2.2⟩ he
        subst e
        exact kk _ ⟨Q, fL, fS, fN, fD, Z, a0, a1, a2, a3, a4, rfl, hZ, rfl, hfd⟩
    · refine m_lcalli [.int (iZ z), .long (lZ nv), .int (iZ ez), .long (lZ mv), .int (iZ fz)] hA C (fun w => cm_between_B l D Q G fL fS fN fD (a0, a1, a2, a3, a4, g, g2) z nv mv ez fz hz (by omega) w) (cwV 5 C.1.2.2.2.2 (wL_V kL_39 nX5_between_ slX5_between_ iniX5 cdX5_between_) rfl rfl rfl (by decide +kernel) ⟨Nat.le_of_ble_eq_true rfl, Nat.le_of_ble_eq_true rfl⟩) rfl ⟨by show cells ≤ 600000; omega, by show slots ≤ 7302250; omega⟩ (Nat.le_of_ble_eq_true rfl) hdg _ rfl (fun q u hu => ?_)      
      obtain ⟨hq, rfl⟩ := hu
      have e : q = r := by
        obtain ⟨Z1, T1, us1, hpost⟩ := hpost
        rcases hpost with ⟨_, hr⟩ | ⟨h, _⟩
        · rw [hq, hr]
        · exact absurd h.1 (fun t => t.elim e0 e1)
      subst e
      exact kk _ ⟨Q, fL, fS, fN, fD, Z, a0, a1, a2, a3, a4, rfl, hZ, rfl, hfd⟩
set_option maxHeartbeats 4000000 in
set_option maxRecDepth 100000 in
theorem lm_roots {p : Program} {l : Launch} {e : Env} {s : State} {m : MethodId} {args : Array Value} {below : List Frame} {meth : Method} {c : Code} {D : va_G} {A : Nat → Prop} {cells slots : Nat} {Qp : State → Prop} {pc : Nat} {lw : List (Nat × Value)} {G : Nat → ClassId} {mq : Nat} {g g2 : Nat → Int32} {fd : Int} {gl : Nat → Int32} {gc : Nat → Int64} {ge gr : Nat → Int32} {Wc Wm : va_W} (hA : ∀ q, s.heap.size ≤ q → A q) (C : ZC p s m args c code 4 lw_tbl RL D (cty G)) (hM : isM G mq g g2 fd gl gc Wm) (ha : aI g g2 fd gl gc ge gr) (hR : cells ≤ 2067 ∧ slots ≤ 497312) (z : Int) (hz : -2147483648 ≤ z ∧ z < 2147483648) {r : Int32} (hpost : (∃ (Z1 : Nat → Int) (T1 : Nat → Nat) (us1 : Nat), ((¬ (z = 0 ∨ z = 1) ∧ r = iZ (-2)) ∨ (z = 0 ∧ ∃ N : Nat, tpN (gp g) 9 N ∧ ((N = 0 ∧ r = iZ (-3)) ∨ (1 ≤ N ∧ chR Z1 T1 us1 g ∧ r = iZ (((vc (lS Z1 T1 1) us1 : Nat) : Int) - ((vc (lS Z1 T1 0) us1 : Nat) : Int))))) ∨ (z = 1 ∧ ∃ N : Nat, tpN (gp g2) 9 N ∧ ((N = 0 ∧ r = iZ (-3)) ∨ (1 ≤ N ∧ chR Z1 T1 us1 g2 ∧ r = iZ (((vc (lS Z1 T1 1) us1 : Nat) : Int) - ((vc (lS Z1 T1 0) us1 : Nat) : Int)))))))) (hdg : decode code pc = .ok (.invokevirtual 43, 3))
    (kk : ∀ Wn : va_W, isM G mq g g2 fd gl gc Wn → ZW p l e room_1 s m args below meth c D A 4 cells slots Qp (Wc ++ Wn) (pc + 3) lw [.int r, .int r]) : ZW p l e room_1 s m args below meth c D A 4 cells slots Qp (Wc ++ Wm) pc lw [.int (iZ z), .ref mq, .int r] := by
  obtain ⟨Q, fL, fS, fN, fD, Z, a0, a1, a2, a3, a4, rfl, hZ, rfl, hfd⟩ := hM
  rcases Classical.em (z = 0) with e0 | e0
  · subst e0
    obtain ⟨N, hN⟩ := tp_ex g
    refine m_lcalli [.int (iZ 0)] hA C (fun w => cm_roots0 l D Q G fL fS fN fD (a0, a1, a2, a3, a4, g, g2) Z N hZ (top_tp.2 hN) (bet_ok hN ha.1 (-9223372036854775808) 9223372036854775807 (by omega) (by omega)) w) (cwV 1 C.1.2.2.2.2 (wL_V kL_43 nX5_roots slX5_roots iniX5 cdX5_roots) rfl rfl rfl (by decide +kernel) ⟨Nat.le_of_ble_eq_true rfl, Nat.le_of_ble_eq_true rfl⟩) rfl ⟨by show cells ≤ 600000; omega, by show slots ≤ 7302250; omega⟩ (Nat.le_of_ble_eq_true rfl) hdg _ rfl (fun q u hu => ?_)
    obtain ⟨hscr, hq⟩ := hu
    obtain ⟨Y, gD, fB, gL, gS, gN, hY, rfl⟩ := hscr
    have e : q = r := by
      obtain ⟨Z1, T1, us1, hpost⟩ := hpost
      rcases hpost with ⟨h, _⟩ | ⟨h0, hc⟩ | ⟨h0, hc⟩
      · exact absurd (Or.inl rfl) h
      · exact rts_eq hN ha.1 hc hq
      · exact absurd h0 (by omega)
    subst e
    exact kk _ ⟨Q, gL, gS, gN, gD, Y, a0, a1, a2, a3, fB, rfl, hY, rfl, hfd⟩
  · rcases Classical.em (z = 1) with e1 | e1
    · subst e1
      obtain ⟨N, hN⟩ := tp_ex g2
      refine m_lcalli [.int (iZ 1)] hA C (fun w => cm_roots1 l D Q G fL fS fN fD (a0, a1, a2, a3, a4, g, g2) Z N hZ (top_tp.2 hN) (bet_ok hN ha.2.1 (-9223372036854775808) 9223372036854775807 (by omega) (by omega)) w) (cwV 1 C.1.2.2.2.2 (wL_V kL_43 nX5_roots slX5_roots iniX5 cdX5_roots) rfl rfl rfl (by decide +kernel) ⟨Nat.le_of_ble_eq_true rfl, Nat.le_of_ble_eq_true rfl⟩) rfl ⟨by show cells ≤ 600000; omega, by show slots ≤ 7302250; omega⟩ (Nat.le_of_ble_eq_true rfl) hdg _ rfl (fun q u hu => ?_)
      obtain ⟨hscr, hq⟩ := hu
      obtain ⟨Y, gD, fB, gL, gS, gN, hY, rfl⟩ := hscr
      have e : q = r := by
        obtain ⟨Z1, T1, us1, hpost⟩ := hpost
        rcases hpost with ⟨h, _⟩ | ⟨h0, hc⟩ | ⟨h0, hc⟩
        · exact absurd (Or.inr rfl) h
        · exact absurd h0 (by omega)
        · exact rts_eq hN ha.2.1 hc hq
      subst e
      exact kk _ ⟨Q, gL, gS, gN, gD, Y, a0, a1, a2, a3, fB, rfl, hY, rfl, hfd⟩
    · refine m_lcalli [.int (iZ z)] hA C (fun w => cm_rootsB l D Q G fL fS fN fD (a0, a1, a2, a3, a4, g, g2) z hz (by omega) w) (cwV 1 C.1.2.2.2.2 (wL_V kL_43 nX5_roots slX5_roots iniX5 cdX5_roots) rfl rfl rfl (by decide +kernel) ⟨Nat.le_of_ble_eq_true rfl, Nat.le_of_ble_eq_true rfl⟩) rfl ⟨by show cells ≤ 600000; omega, by show slots ≤ 7302250; omega⟩ (Nat.le_of_ble_eq_true rfl) hdg _ rfl (fun q u hu => ?_)      
      obtain ⟨hq, rfl⟩ := hu
      have e : q = r := by
        obtain ⟨Z1, T1, us1, hpost⟩ := hpost
        rcases hpost with ⟨_, hr⟩ | ⟨h, _⟩ | ⟨h, _⟩
        · rw [hq, hr]
        · exact absurd h e0
        · exact absurd h e1
      subst e
      exact kk _ ⟨Q, fL, fS, fN, fD, Z, a0, a1, a2, a3, a4, rfl, hZ, rfl, hfd⟩
set_option maxHeartbeats 4000000 in
set_option maxRecDepth 100000 in
theorem lm_divisor {p : Program} {l : Launch} {e : Env} {s : State} {m : MethodId} {args : Array Value} {below : List Frame} {meth : Method} {c : Code} {D : va_G} {A : Nat → Prop} {cells slots : Nat} {Qp : State → Prop} {pc : Nat} {lw : List (Nat × Value)} {G : Nat → ClassId} {mq : Nat} {g g2 : Nat → Int32} {fd : Int} {gl : Nat → Int32} {gc : Nat → Int64} {ge gr : Nat → Int32} {Wc Wm : va_W} (hA : ∀ q, s.heap.size ≤ q → A q) (C : ZC p s m args c code 4 lw_tbl RL D (cty G)) (hM : isM G mq g g2 fd gl gc Wm) (ha : aI g g2 fd gl gc ge gr) (hR : cells ≤ 2067 ∧ slots ≤ 497312)   {r : Int32} (hpost : (∃ (Z1 : Nat → Int) (T1 : Nat → Nat) (us1 : Nat), ∃ N1 N2 : Nat, tpN (gp g) 9 N1 ∧ tpN (gp g2) 9 N2 ∧ ∃ t : Int, r = iZ t ∧ ((N1 = 0 ∧ tpv2 N2 t) ∨ (1 ≤ N1 ∧ N2 = 0 ∧ tpv2 N1 t) ∨ (1 ≤ N1 ∧ 1 ≤ N2 ∧ chP Z1 T1 us1 g g2 N1 N2 ∧ t = (T1 (us1 - 1) : Int) - 1)))) (hdg : decode code pc = .ok (.invokevirtual 77, 3))
    (kk : ∀ Wn : va_W, isM G mq g g2 fd gl gc Wn → ZW p l e room_1 s m args below meth c D A 4 cells slots Qp (Wc ++ Wn) (pc + 3) lw [.int r, .int r]) : ZW p l e room_1 s m args below meth c D A 4 cells slots Qp (Wc ++ Wm) pc lw [.ref mq, .int r] := by
  obtain ⟨Q, fL, fS, fN, fD, Z, a0, a1, a2, a3, a4, rfl, hZ, rfl, hfd⟩ := hM
  obtain ⟨Z1, T1, us1, N1, N2, t1, t2, t, hr, hc⟩ := hpost
  refine m_lcalli [] hA C (fun w => cm_divisor l D Q G fL fS fN fD (a0, a1, a2, a3, a4, g, g2) Z N1 N2 hZ (top_tp.2 t1) (top_tp.2 t2) (FZ_gz t1 t2 ha.1 ha.2.1) w) (cwV 0 C.1.2.2.2.2 (wL_V kL_77 nX5_divisor slX5_divisor iniX5 cdX5_divisor) rfl rfl rfl (by decide +kernel) ⟨Nat.le_of_ble_eq_true rfl, Nat.le_of_ble_eq_true rfl⟩) rfl ⟨by show cells ≤ 600000; omega, by show slots ≤ 7302250; omega⟩ (Nat.le_of_ble_eq_true rfl) hdg _ rfl (fun q u hu => ?_)
  obtain ⟨hscr, hq⟩ := hu
  obtain ⟨Y, gD, fB, gL, gS, gN, hY, rfl⟩ := hscr
  have e : q = r := by
    rw [hr]
    rcases hq with ⟨z1, z2, hq⟩ | ⟨hno, G9, NG, hl, ⟨a9, b9, p1, p2, hF⟩, hq⟩
    · rw [hq]
      congr 1
      rcases hc with ⟨_, hc⟩ | ⟨h, _⟩ | ⟨h, _⟩
      · rcases hc with ⟨_, h⟩ | ⟨h, _⟩
        · exact h.symm
        · exact absurd h (by omega)
      · exact absurd h (by omega)
      · exact absurd h (by omega)
    · rw [hq]
      congr 1
      rcases hc with ⟨h, hc⟩ | ⟨h1, h, hc⟩ | ⟨h1, h2, hP, ht⟩
      · rcases hc with ⟨h2, _⟩ | ⟨h2, ht⟩
        · exact absurd ⟨h, h2⟩ hno
        · subst h
          have := (FC_right hF h2).1
          omega
      · rcases hc with ⟨h2, _⟩ | ⟨h2, ht⟩
        · exact absurd h2 (by omega)
        · subst h
          have := (FC_left hF).1
          omega
      · have := (eq_gcd t1 t2 h1 h2 hP p1 p2 hF).2.2.2.1
        omega
  subst e
  exact kk _ ⟨Q, gL, gS, gN, gD, Y, a0, a1, a2, a3, fB, rfl, hY, rfl, hfd⟩
set_option maxHeartbeats 4000000 in
set_option maxRecDepth 100000 in
theorem lm_common {p : Program} {l : Launch} {e : Env} {s : State} {m : MethodId} {args : Array Value} {below : List Frame} {meth : Method} {c : Code} {D : va_G} {A : Nat → Prop} {cells slots : Nat} {Qp : State → Prop} {pc : Nat} {lw : List (Nat × Value)} {G : Nat → ClassId} {mq : Nat} {g g2 : Nat → Int32} {fd : Int} {gl : Nat → Int32} {gc : Nat → Int64} {ge gr : Nat → Int32} {Wc Wm : va_W} (hA : ∀ q, s.heap.size ≤ q → A q) (C : ZC p s m args c code 4 lw_tbl RL D (cty G)) (hM : isM G mq g g2 fd gl gc Wm) (ha : aI g g2 fd gl gc ge gr) (hR : cells ≤ 2067 ∧ slots ≤ 497312)   {r : Int32} (hpost : (∃ (Z1 : Nat → Int) (T1 : Nat → Nat) (us1 : Nat), ∃ N1 N2 : Nat, tpN (gp g) 9 N1 ∧ tpN (gp g2) 9 N2 ∧ (((N1 = 0 ∨ N2 = 0) ∧ r = iZ (-3)) ∨ (1 ≤ N1 ∧ 1 ≤ N2 ∧ ∃ (Z2 : Nat → Int) (T2 : Nat → Nat) (us2 : Nat), chP Z2 T2 us2 g g2 N1 N2 ∧ ((T2 (us2 - 1) ≤ 1 ∧ r = iZ 0) ∨ (2 ≤ T2 (us2 - 1) ∧ ∃ F : Nat → Int, slF Z2 T2 us2 F ∧ chn Z1 T1 us1 ∧ zr Z1 T1 0 = F ∧ zr Z1 T1 1 = dp F ∧ r = iZ (((vc (lS Z1 T1 1) us1 : Nat) : Int) - ((vc (lS Z1 T1 0) us1 : Nat) : Int)))))))) (hdg : decode code pc = .ok (.invokevirtual 73, 3))
    (kk : ∀ Wn : va_W, isM G mq g g2 fd gl gc Wn → ZW p l e room_1 s m args below meth c D A 4 cells slots Qp (Wc ++ Wn) (pc + 3) lw [.int r, .int r]) : ZW p l e room_1 s m args below meth c D A 4 cells slots Qp (Wc ++ Wm) pc lw [.ref mq, .int r] := by
  obtain ⟨Q, fL, fS, fN, fD, Z, a0, a1, a2, a3, a4, rfl, hZ, rfl, hfd⟩ := hM
  obtain ⟨Z1, T1, us1, N1, N2, t1, t2, hc⟩ := hpost
  have hch : 1 ≤ N1 → 1 ≤ N2 → ∃ (Z : Nat → Int) (T : Nat → Nat) (us : Nat), chP Z T us g g2 N1 N2 := fun n1 n2 => by
    rcases hc with ⟨h | h, _⟩ | ⟨_, _, Z2, T2, us2, hP, _⟩
    · exact absurd h (by omega)
    · exact absurd h (by omega)
    · exact ⟨Z2, T2, us2, hP⟩
  refine m_lcalli [] hA C (fun w => cm_common l D Q G fL fS fN fD (a0, a1, a2, a3, a4, g, g2) Z N1 N2 hZ (top_tp.2 t1) (top_tp.2 t2) (FZ_gz t1 t2 ha.1 ha.2.1) (com_G t1 t2 ha.1 ha.2.1 hch) w) (cwV 0 C.1.2.2.2.2 (wL_V kL_73 nX5_common slX5_common iniX5 cdX5_common) rfl rfl rfl (by decide +kernel) ⟨Nat.le_of_ble_eq_true rfl, Nat.le_of_ble_eq_true rfl⟩) rfl ⟨by show cells ≤ 600000; omega, by show slots ≤ 7302250; omega⟩ (Nat.le_of_ble_eq_true rfl) hdg _ rfl (fun q u hu => ?_)
  obtain ⟨hscr, hq⟩ := hu
  obtain ⟨Y, gD, fB, gL, gS, gN, hY, rfl⟩ := hscr
  have e : q = r := by
    rcases hq with ⟨z0, hq⟩ | ⟨z1, z2, G9, NG, v, hl, ⟨a9, b9, p1, p2, hF⟩, hv, hq⟩
    · rcases hc with ⟨_, hr⟩ | ⟨h1, h2, _⟩
      · rw [hq, hr]
      · exact absurd z0 (by omega)
    · rcases hc with ⟨h, _⟩ | ⟨h1, h2, Z2, T2, us2, hP, hr⟩
      · exact absurd h (by omega)
      · rcases hr with ⟨k1, hr⟩ | ⟨k1, F, k2, k3, k4, k5, hr⟩
        · rw [hq, hr, com_eq (Z1 := Z1) (T1 := T1) (us1 := us1) t1 t2 h1 h2 ha.1 hP (Or.inl ⟨k1, rfl⟩) p1 p2 hF hv]
        · rw [hq, hr, com_eq t1 t2 h1 h2 ha.1 hP (Or.inr ⟨k1, F, k2, k3, k4, k5, rfl⟩) p1 p2 hF hv]
  subst e
  exact kk _ ⟨Q, gL, gS, gN, gD, Y, a0, a1, a2, a3, fB, rfl, hY, rfl, hfd⟩
set_option maxHeartbeats 4000000 in
set_option maxRecDepth 100000 in
theorem lm_shift {p : Program} {l : Launch} {e : Env} {s : State} {m : MethodId} {args : Array Value} {below : List Frame} {meth : Method} {c : Code} {D : va_G} {A : Nat → Prop} {cells slots : Nat} {Qp : State → Prop} {pc : Nat} {lw : List (Nat × Value)} {G : Nat → ClassId} {mq : Nat} {g g2 : Nat → Int32} {fd : Int} {gl : Nat → Int32} {gc : Nat → Int64} {ge gr : Nat → Int32} {Wc Wm : va_W} (hA : ∀ q, s.heap.size ≤ q → A q) (C : ZC p s m args c code 4 lw_tbl RL D (cty G)) (hM : isM G mq g g2 fd gl gc Wm) (ha : aI g g2 fd gl gc ge gr) (hR : cells ≤ 2067 ∧ slots ≤ 497312) (r0 : Int) (g' : Nat → Int32) (fd' : Int) (hr0 : -2147483648 ≤ r0 ∧ r0 < 2147483648) {r : Int32} (hpost : (∃ (h9 : Nat → Int64) (N : Nat), tpN (gp g) 9 N ∧ ((N = 0 ∧ r = iZ (-3) ∧ g' = g ∧ fd' = fd) ∨ (1 ≤ N ∧ ((¬ (∀ i : Nat, i < 9 → (tyl (gp g) N i r0 0 (N - i)).natAbs < 1073741824) ∧ r = iZ (-5) ∧ g' = g ∧ fd' = fd) ∨ ((∀ i : Nat, i < 9 → (tyl (gp g) N i r0 0 (N - i)).natAbs < 1073741824) ∧ (∀ i : Nat, i < 9 → (h9 i).toInt = (tyl (gp g) N i r0 0 (N - i))) ∧ ((¬ (∀ i : Nat, i < 9 → -1000000000 ≤ (h9 i).toInt ∧ (h9 i).toInt ≤ 1000000000) ∧ r = iZ (-5) ∧ g' = g ∧ fd' = fd) ∨ ((∀ i : Nat, i < 9 → -1000000000 ≤ (h9 i).toInt ∧ (h9 i).toInt ≤ 1000000000) ∧ ∃ N9 : Nat, (∀ i : Nat, i < 9 → g' i = iZ (h9 i).toInt) ∧ tpN (gp g') 9 N9 ∧ r = iZ (tpv N9) ∧ fd' = -1)))))))) (hdg : decode code pc = .ok (.invokevirtual 89, 3))
    (kk : ∀ Wn : va_W, isM G mq g' g2 fd' gl gc Wn → ZW p l e room_1 s m args below meth c D A 4 cells slots Qp (Wc ++ Wn) (pc + 3) lw [.int r, .int r]) : ZW p l e room_1 s m args below meth c D A 4 cells slots Qp (Wc ++ Wm) pc lw [.int (iZ r0), .ref mq, .int r] := by
  obtain ⟨Q, fL, fS, fN, fD, Z, a0, a1, a2, a3, a4, rfl, hZ, rfl, hfd⟩ := hM
  refine m_lcalli [.int (iZ r0)] hA C (fun w => cm_shift l D Q G fL fS fN fD (a0, a1, a2, a3, a4, g, g2) Z r0 hZ hr0 w) (cwV 1 C.1.2.2.2.2 (wL_V kL_89 nX5_shift slX5_shift iniX5 cdX5_shift) rfl rfl rfl (by decide +kernel) ⟨Nat.le_of_ble_eq_true rfl, Nat.le_of_ble_eq_true rfl⟩) rfl ⟨by show cells ≤ 600000; omega, by show slots ≤ 7302250; omega⟩ (Nat.le_of_ble_eq_true rfl) hdg _ rfl (fun q u hu => ?_)
  obtain ⟨h9, N, hN, hpost⟩ := hpost
  obtain ⟨n, hn, hu⟩ := hu
  have en : n = N := tpu hN hn
  subst en
  have hn9 := hN.1
  have hty : 1 ≤ n → ∀ i : Nat, i < n → tyl (gp g) n i r0 0 (n - i) = sha (gz g) n r0 (n - 1) i := fun h1 i hi => by
    rw [shift_eq ⟨h1, hn9⟩ hi r0]
    exact sha_congr (fun k hk => (gz_gp (by omega)).symm) (n - 1) i hi
  have hout : ∀ i : Nat, n ≤ i → tyl (gp g) n i r0 0 (n - i) = 0 := fun i hi => by
    rw [show n - i = 0 by omega]; rfl
  have hiff : 1 ≤ n → ((∀ i : Nat, i < n → (((sha (gz g) n r0 (n - 1)) i).natAbs : Int) ≤ 1000000000) ↔ (∀ i : Nat, i < 9 → ((tyl (gp g) n i r0 0 (n - i)).natAbs : Int) ≤ 1000000000)) := fun h1 => by
    constructor
    · intro h i hi
      by_cases c9 : i < n
      · rw [hty h1 i c9]; exact h i c9
      · rw [hout i (by omega)]; decide
    · intro h i hi
      rw [← hty h1 i hi]
      exact h i (by omega)
  rcases hpost with ⟨h0, hr, rfl, rfl⟩ | ⟨h1, hpost⟩
  · rcases hu with ⟨_, hq, hscr⟩ | ⟨h, _⟩ | ⟨h, _⟩
    · obtain ⟨Y, gD, fB, gL, gS, gN, hY, rfl⟩ := hscr
      have e : q = r := by rw [hq, hr]
      subst e
      exact kk _ ⟨Q, gL, gS, gN, gD, Y, a0, a1, a2, a3, fB, rfl, hY, rfl, hfd⟩
    · exact absurd h0 h
    · exact absurd h0 h
  · rcases hu with ⟨h, _⟩ | ⟨_, hno, hq, hscr⟩ | ⟨_, hok, h0, k, e0, e1, hk, hq, hscr⟩
    · exact absurd h (by omega)
    · obtain ⟨Y, gD, fB, gL, gS, gN, hY, rfl⟩ := hscr
      have hno2 := fun t => hno ((hiff h1).2 t)
      rcases hpost with ⟨_, hr, rfl, rfl⟩ | ⟨_, hh9, ⟨_, hr, rfl, rfl⟩ | ⟨hin, _⟩⟩
      · have e : q = r := by rw [hq, hr]
        subst e
        exact kk _ ⟨Q, gL, gS, gN, gD, Y, a0, a1, a2, a3, fB, rfl, hY, rfl, hfd⟩
      · have e : q = r := by rw [hq, hr]
        subst e
        exact kk _ ⟨Q, gL, gS, gN, gD, Y, a0, a1, a2, a3, fB, rfl, hY, rfl, hfd⟩
      · exact absurd (fun i hi => by have h5 := hin i hi; rw [hh9 i hi] at h5; omega) hno2
    · obtain ⟨Y, gD, fB, gL, gS, gN, hY, rfl⟩ := hscr
      have hok2 := (hiff h1).1 hok
      rcases hpost with ⟨h, _⟩ | ⟨_, hh9, ⟨h, _⟩ | ⟨hin, N9, hg9, hN9, hr, rfl⟩⟩
      · exact absurd (fun i hi => by have h5 := hok2 i hi; omega) h
      · exact absurd (fun i hi => by have h5 := hok2 i hi; rw [hh9 i hi]; omega) h
      · have ee : ∀ i : Nat, i < 9 → h0 i = g' i := fun i hi => by
          rw [hg9 i hi, hh9 i hi]
          by_cases c9 : i < n
          · rw [hty h1 i c9]; exact e0 i c9
          · rw [hout i (by omega), e1 i (by omega)]
            have h5 := hN.2.1 i (by omega) hi
            rw [gp_in hi] at h5
            show g i = iZ 0
            rw [← h5, iZ_self]
        have e : q = r := by rw [hq, hr, tpu hN9 (topN_same ee hk)]; rfl
        subst e
        refine w_conv (Wc ++ mU Q G (gL, gS, gN, gD, iZ 0, iZ 0, a2, a3, fB, g', g2)) (wq_app (wq_refl D Wc) (mU_rows D Q G gL gS gN gD (iZ 0) (iZ 0) a2 a3 fB h0 g2 g' g2 ee (fun _ _ => rfl))) ?_
        exact kk _ ⟨Q, gL, gS, gN, gD, Y, iZ 0, iZ 0, a2, a3, fB, rfl, hY, rfl, Or.inl ⟨rfl, rfl, rfl⟩⟩
