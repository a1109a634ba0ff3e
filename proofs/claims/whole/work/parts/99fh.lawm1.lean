theorem tpu {g : Nat → Int32} {N N1 : Nat} (h : tpN (gp g) 9 N) (h1 : topN g N1) : N1 = N := topN_u h1 (top_tp.2 h)
theorem tpu2 {g : Nat → Int32} {N N1 : Nat} (h : tpN (gp g) 9 N) (h1 : tpN (gp g) 9 N1) : N1 = N := topN_u (top_tp.2 h1) (top_tp.2 h)
theorem topN_same {g h : Nat → Int32} {N : Nat} (e : ∀ i : Nat, i < 9 → g i = h i) (t : topN g N) : topN h N := ⟨t.1, fun k h1 h2 => by rw [← e k h2]; exact t.2.1 k h1 h2, fun i hi => by rw [← e i (by have := t.1; omega)]; exact t.2.2 i hi⟩
theorem tpv_eq (N : Nat) : (if N = 0 then -3 else (N : Int) - 1) = tpv N := rfl
theorem hrn_gp (g : Nat → Int32) {N : Nat} (hN : N ≤ 9) (n : Int) (ex : Nat) : hrn (fun k => (g k).toInt) N n ex N = tyl (gp g) N 0 n ex N := by
  rw [hrn_tyl]
  exact tyl_same (fun i hi => (gp_in (by omega)).symm)
theorem nat_of {z : Int} (h : 0 ≤ z) : ∃ n : Nat, z = (n : Int) := ⟨z.toNat, by omega⟩
/-- a shifted polynomial, both ways -/
theorem shift_eq {c : Nat → Int} {N i : Nat} (hN : 1 ≤ N ∧ N ≤ 9) (hi : i < N) (a : Int) : tyl c N i a 0 (N - i) = sha c N a (N - 1) i := by
  have h1 := node_coef (c := sha c N a (N - 1)) (f := c) (N := N) (by omega) (k := 1) (a := (a : Rat)) (w := 1) (fun t => by rw [sha_rv c hN.1 a t]; grind) i hi
  have h2 := tyl_rv c N i a 0 (by omega)
  have h3 : dy a 0 = (a : Rat) := by unfold dy; grind
  rw [h3] at h2
  have h4 : ((sha c N a (N - 1) i : Int) : Rat) = ((tyl c N i a 0 (N - i) : Int) : Rat) := by
    rw [Rat.pow_zero, one_pw] at h2
    rw [one_pw] at h1
    rw [h1]
    grind
  exact (Rat.intCast_inj.1 h4).symm
set_option maxHeartbeats 4000000 in
set_option maxRecDepth 100000 in
theorem lm_get {p : Program} {l : Launch} {e : Env} {s : State} {m : MethodId} {args : Array Value} {below : List Frame} {meth : Method} {c : Code} {D : va_G} {A : Nat → Prop} {cells slots : Nat} {Qp : State → Prop} {pc : Nat} {lw : List (Nat × Value)} {G : Nat → ClassId} {mq : Nat} {g g2 : Nat → Int32} {fd : Int} {gl : Nat → Int32} {gc : Nat → Int64} {ge gr : Nat → Int32} {Wc Wm : va_W} (hA : ∀ q, s.heap.size ≤ q → A q) (C : ZC p s m args c code 4 lw_tbl RL D (cty G)) (hM : isM G mq g g2 fd gl gc Wm) (ha : aI g g2 fd gl gc ge gr) (hR : cells ≤ 2067 ∧ slots ≤ 497312) (z k : Int) (hz : -2147483648 ≤ z ∧ z < 2147483648) (hk : -2147483648 ≤ k ∧ k < 2147483648) {r : Int32} (hpost : r = (if (z = 0 ∨ z = 1) ∧ 0 ≤ k ∧ k ≤ 8 then (if z = 0 then g k.toNat else g2 k.toNat) else iZ 0)) (hdg : decode code pc = .ok (.invokevirtual 22, 3))
    (kk : ∀ Wn : va_W, isM G mq g g2 fd gl gc Wn → ZW p l e room_1 s m args below meth c D A 4 cells slots Qp (Wc ++ Wn) (pc + 3) lw [.int r, .int r]) : ZW p l e room_1 s m args below meth c D A 4 cells slots Qp (Wc ++ Wm) pc lw [.int (iZ k), .int (iZ z), .ref mq, .int r] := by
  obtain ⟨Q, fL, fS, fN, fD, Z, a0, a1, a2, a3, a4, rfl, hZ, rfl, hfd⟩ := hM
  rcases Classical.em (z = 0) with e0 | e0
  · subst e0
    refine m_lcalli [.int (iZ 0), .int (iZ k)] hA C (fun w => cm_get0 l D Q G fL fS fN fD (a0, a1, a2, a3, a4, g, g2) k hk w) (cwV 2 C.1.2.2.2.2 (wL_V kL_22 nX5_get slX5_get iniX5 cdX5_get) rfl rfl rfl (by decide +kernel) ⟨Nat.le_of_ble_eq_true rfl, Nat.le_of_ble_eq_true rfl⟩) rfl ⟨by show cells ≤ 600000; omega, by show slots ≤ 7302250; omega⟩ (Nat.le_of_ble_eq_true rfl) hdg _ rfl (fun q u hu => ?_)
    obtain ⟨hq, rfl⟩ := hu
    have e : q = r := by
      rw [hq, hpost]
      by_cases h : 0 ≤ k ∧ k ≤ 8
      · rw [if_pos h, if_pos ⟨Or.inl rfl, h⟩, if_pos rfl]
      · rw [if_neg h, if_neg (fun t => h t.2)]; rfl
    subst e
    exact kk _ ⟨Q, fL, fS, fN, fD, Z, a0, a1, a2, a3, a4, rfl, hZ, rfl, hfd⟩
  · rcases Classical.em (z = 1) with e1 | e1
    · subst e1
      refine m_lcalli [.int (iZ 1), .int (iZ k)] hA C (fun w => cm_get1 l D Q G fL fS fN fD (a0, a1, a2, a3, a4, g, g2) k hk w) (cwV 2 C.1.2.2.2.2 (wL_V kL_22 nX5_get slX5_get iniX5 cdX5_get) rfl rfl rfl (by decide +kernel) ⟨Nat.le_of_ble_eq_true rfl, Nat.le_of_ble_eq_true rfl⟩) rfl ⟨by show cells ≤ 600000; omega, by show slots ≤ 7302250; omega⟩ (Nat.le_of_ble_eq_true rfl) hdg _ rfl (fun q u hu => ?_)
      obtain ⟨hq, rfl⟩ := hu
      have e : q = r := by
        rw [hq, hpost]
        by_cases h : 0 ≤ k ∧ k ≤ 8
        · rw [if_pos h, if_pos ⟨Or.inr rfl, h⟩, if_neg (by omega)]
        · rw [if_neg h, if_neg (fun t => h t.2)]; rfl
      subst e
      exact kk _ ⟨Q, fL, fS, fN, fD, Z, a0, a1, a2, a3, a4, rfl, hZ, rfl, hfd⟩
    · refine m_lcalli [.int (iZ z), .int (iZ k)] hA C (fun w => cm_getB l D Q G fL fS fN fD (a0, a1, a2, a3, a4, g, g2) z k hz (by omega) w) (cwV 2 C.1.2.2.2.2 (wL_V kL_22 nX5_get slX5_get iniX5 cdX5_get) rfl rfl rfl (by decide +kernel) ⟨Nat.le_of_ble_eq_true rfl, Nat.le_of_ble_eq_true rfl⟩) rfl ⟨by show cells ≤ 600000; omega, by show slots ≤ 7302250; omega⟩ (Nat.le_of_ble_eq_true rfl) hdg _ rfl (fun q u hu => ?_)
      obtain ⟨hq, rfl⟩ := hu
      have e : q = r := by
        rw [hq, hpost, if_neg (fun t => t.1.elim e0 e1)]
      subst e
      exact kk _ ⟨Q, fL, fS, fN, fD, Z, a0, a1, a2, a3, a4, rfl, hZ, rfl, hfd⟩
set_option maxHeartbeats 4000000 in
set_option maxRecDepth 100000 in
theorem lm_degree {p : Program} {l : Launch} {e : Env} {s : State} {m : MethodId} {args : Array Value} {below : List Frame} {meth : Method} {c : Code} {D : va_G} {A : Nat → Prop} {cells slots : Nat} {Qp : State → Prop} {pc : Nat} {lw : List (Nat × Value)} {G : Nat → ClassId} {mq : Nat} {g g2 : Nat → Int32} {fd : Int} {gl : Nat → Int32} {gc : Nat → Int64} {ge gr : Nat → Int32} {Wc Wm : va_W} (hA : ∀ q, s.heap.size ≤ q → A q) (C : ZC p s m args c code 4 lw_tbl RL D (cty G)) (hM : isM G mq g g2 fd gl gc Wm) (ha : aI g g2 fd gl gc ge gr) (hR : cells ≤ 2067 ∧ slots ≤ 497312) (z : Int) (hz : -2147483648 ≤ z ∧ z < 2147483648) {r : Int32} (hpost : ((¬ (z = 0 ∨ z = 1) ∧ r = iZ (-2)) ∨ (z = 0 ∧ ∃ N : Nat, tpN (gp g) 9 N ∧ r = iZ (tpv N)) ∨ (z = 1 ∧ ∃ N : Nat, tpN (gp g2) 9 N ∧ r = iZ (tpv N)))) (hdg : decode code pc = .ok (.invokevirtual 27, 3))
    (kk : ∀ Wn : va_W, isM G mq g g2 fd gl gc Wn → ZW p l e room_1 s m args below meth c D A 4 cells slots Qp (Wc ++ Wn) (pc + 3) lw [.int r, .int r]) : ZW p l e room_1 s m args below meth c D A 4 cells slots Qp (Wc ++ Wm) pc lw [.int (iZ z), .ref mq, .int r] := by
  obtain ⟨Q, fL, fS, fN, fD, Z, a0, a1, a2, a3, a4, rfl, hZ, rfl, hfd⟩ := hM
  rcases Classical.em (z = 0) with e0 | e0
  · subst e0
    refine m_lcalli [.int (iZ 0)] hA C (fun w => cm_degree0 l D Q G fL fS fN fD (a0, a1, a2, a3, a4, g, g2) w) (cwV 1 C.1.2.2.2.2 (wL_V kL_27 nX5_degree slX5_degree iniX5 cdX5_degree) rfl rfl rfl (by decide +kernel) ⟨Nat.le_of_ble_eq_true rfl, Nat.le_of_ble_eq_true rfl⟩) rfl ⟨by show cells ≤ 600000; omega, by show slots ≤ 7302250; omega⟩ (Nat.le_of_ble_eq_true rfl) hdg _ rfl (fun q u hu => ?_)
    obtain ⟨⟨n, hn, hq⟩, rfl⟩ := hu
    have e : q = r := by
      rcases hpost with ⟨h, _⟩ | ⟨_, N, hN, hr⟩ | ⟨h, _⟩
      · exact absurd (Or.inl rfl) h
      · rw [hq, hr, tpu hN hn]; rfl
      · exact absurd h (by omega)
    subst e
    exact kk _ ⟨Q, fL, fS, fN, fD, Z, a0, a1, a2, a3, a4, rfl, hZ, rfl, hfd⟩
  · rcases Classical.em (z = 1) with e1 | e1
    · subst e1
      refine m_lcalli [.int (iZ 1)] hA C (fun w => cm_degree1 l D Q G fL fS fN fD (a0, a1, a2, a3, a4, g, g2) w) (cwV 1 C.1.2.2.2.2 (wL_V kL_27 nX5_degree slX5_degree iniX5 cdX5_degree) rfl rfl rfl (by decide +kernel) ⟨Nat.le_of_ble_eq_true rfl, Nat.le_of_ble_eq_true rfl⟩) rfl ⟨by show cells ≤ 600000; omega, by show slots ≤ 7302250; omega⟩ (Nat.le_of_ble_eq_true rfl) hdg _ rfl (fun q u hu => ?_)
      obtain ⟨⟨n, hn, hq⟩, rfl⟩ := hu
      have e : q = r := by
        rcases hpost with ⟨h, _⟩ | ⟨h, _⟩ | ⟨_, N, hN, hr⟩
        · exact absurd (Or.inr rfl) h
        · exact absurd h (by omega)
        · rw [hq, hr, tpu hN hn]; rfl
      subst e
      exact kk _ ⟨Q, fL, fS, fN, fD, Z, a0, a1, a2, a3, a4, rfl, hZ, rfl, hfd⟩
    · refine m_lcalli [.int (iZ z)] hA C (fun w => cm_degreeB l D Q G fL fS fN fD (a0, a1, a2, a3, a4, g, g2) z hz (by omega) w) (cwV 1 C.1.2.2.2.2 (wL_V kL_27 nX5_degree slX5_degree iniX5 cdX5_degree) rfl rfl rfl (by decide +kernel) ⟨Nat.le_of_ble_eq_true rfl, Nat.le_of_ble_eq_true rfl⟩) rfl ⟨by show cells ≤ 600000; omega, by show slots ≤ 7302250; omega⟩ (Nat.le_of_ble_eq_true rfl) hdg _ rfl (fun q u hu => ?_)
      obtain ⟨hq, rfl⟩ := hu
      have e : q = r := by
        rcases hpost with ⟨_, h⟩ | ⟨h, _⟩ | ⟨h, _⟩
        · rw [hq, h]
        · exact absurd h e0
        · exact absurd h e1
      subst e
      exact kk _ ⟨Q, fL, fS, fN, fD, Z, a0, a1, a2, a3, a4, rfl, hZ, rfl, hfd⟩
set_option maxHeartbeats 4000000 in
set_option maxRecDepth 100000 in
theorem lm_set {p : Program} {l : Launch} {e : Env} {s : State} {m : MethodId} {args : Array Value} {below : List Frame} {meth : Method} {c : Code} {D : va_G} {A : Nat → Prop} {cells slots : Nat} {Qp : State → Prop} {pc : Nat} {lw : List (Nat × Value)} {G : Nat → ClassId} {mq : Nat} {g g2 : Nat → Int32} {fd : Int} {gl : Nat → Int32} {gc : Nat → Int64} {ge gr : Nat → Int32} {Wc Wm : va_W} (hA : ∀ q, s.heap.size ≤ q → A q) (C : ZC p s m args c code 4 lw_tbl RL D (cty G)) (hM : isM G mq g g2 fd gl gc Wm) (ha : aI g g2 fd gl gc ge gr) (hR : cells ≤ 2067 ∧ slots ≤ 497312) (z k v : Int) (g' g2' : Nat → Int32) (fd' : Int) (hz : -2147483648 ≤ z ∧ z < 2147483648) (hk : -2147483648 ≤ k ∧ k < 2147483648) (hv : -2147483648 ≤ v ∧ v < 2147483648) {r : Int32} (hpost : ((((z = 0 ∨ z = 1) ∧ (0 ≤ k ∧ k ≤ 8) ∧ -1000000000 ≤ v ∧ v ≤ 1000000000) ∧ r = iZ 0 ∧ ((z = 0 ∧ g' = upd g k.toNat (iZ v) ∧ g2' = g2 ∧ fd' = -1) ∨ (z = 1 ∧ g' = g ∧ g2' = upd g2 k.toNat (iZ v) ∧ fd' = fd))) ∨ (¬ ((z = 0 ∨ z = 1) ∧ (0 ≤ k ∧ k ≤ 8) ∧ -1000000000 ≤ v ∧ v ≤ 1000000000) ∧ r = iZ (-2) ∧ g' = g ∧ g2' = g2 ∧ fd' = fd))) (hdg : decode code pc = .ok (.invokevirtual 17, 3))
    (kk : ∀ Wn : va_W, isM G mq g' g2' fd' gl gc Wn → ZW p l e room_1 s m args below meth c D A 4 cells slots Qp (Wc ++ Wn) (pc + 3) lw [.int r, .int r]) : ZW p l e room_1 s m args below meth c D A 4 cells slots Qp (Wc ++ Wm) pc lw [.int (iZ v), .int (iZ k), .int (iZ z), .ref mq, .int r] := by
  obtain ⟨Q, fL, fS, fN, fD, Z, a0, a1, a2, a3, a4, rfl, hZ, rfl, hfd⟩ := hM
  rcases Classical.em (z = 0) with e0 | e0
  · subst e0
    refine m_lcalli [.int (iZ 0), .int (iZ k), .int (iZ v)] hA C (fun w => cm_set0 l D Q G fL fS fN fD (a0, a1, a2, a3, a4, g, g2) k v hk hv w) (cwV 3 C.1.2.2.2.2 (wL_V kL_17 nX5_set slX5_set iniX5 cdX5_set) rfl rfl rfl (by decide +kernel) ⟨Nat.le_of_ble_eq_true rfl, Nat.le_of_ble_eq_true rfl⟩) rfl ⟨by show cells ≤ 600000; omega, by show slots ≤ 7302250; omega⟩ (Nat.le_of_ble_eq_true rfl) hdg _ rfl (fun q u hu => ?_)
    rcases hpost with ⟨hok, hr, ⟨_, rfl, rfl, rfl⟩ | ⟨h, _⟩⟩ | ⟨hno, hr, rfl, rfl, rfl⟩
    · rcases hu with ⟨_, hq, rfl⟩ | ⟨h, _⟩
      · have e : q = r := by rw [hq, hr]
        subst e
        exact kk _ ⟨Q, fL, fS, fN, fD, Z, iZ 0, iZ 0, a2, a3, a4, rfl, hZ, rfl, Or.inl ⟨rfl, rfl, rfl⟩⟩
      · exact absurd hok.2 h
    · exact absurd h (by omega)
    · rcases hu with ⟨h, _⟩ | ⟨_, hq, rfl⟩
      · exact absurd ⟨Or.inl rfl, h⟩ hno
      · have e : q = r := by rw [hq, hr]
        subst e
        exact kk _ ⟨Q, fL, fS, fN, fD, Z, a0, a1, a2, a3, a4, rfl, hZ, rfl, hfd⟩
  · rcases Classical.em (z = 1) with e1 | e1
    · subst e1
      refine m_lcalli [.int (iZ 1), .int (iZ k), .int (iZ v)] hA C (fun w => cm_set1 l D Q G fL fS fN fD (a0, a1, a2, a3, a4, g, g2) k v hk hv w) (cwV 3 C.1.2.2.2.2 (wL_V kL_17 nX5_set slX5_set iniX5 cdX5_set) rfl rfl rfl (by decide +kernel) ⟨Nat.le_of_ble_eq_true rfl, Nat.le_of_ble_eq_true rfl⟩) rfl ⟨by show cells ≤ 600000; omega, by show slots ≤ 7302250; omega⟩ (Nat.le_of_ble_eq_true rfl) hdg _ rfl (fun q u hu => ?_)
      rcases hpost with ⟨hok, hr, ⟨h, _⟩ | ⟨_, rfl, rfl, rfl⟩⟩ | ⟨hno, hr, rfl, rfl, rfl⟩
      · exact absurd h (by omega)
      · rcases hu with ⟨_, hq, rfl⟩ | ⟨h, _⟩
        · have e : q = r := by rw [hq, hr]
          subst e
          exact kk _ ⟨Q, fL, fS, fN, fD, Z, a0, a1, a2, a3, a4, rfl, hZ, rfl, hfd⟩
        · exact absurd hok.2 h
      · rcases hu with ⟨h, _⟩ | ⟨_, hq, rfl⟩
        · exact absurd ⟨Or.inr rfl, h⟩ hno
        · have e : q = r := by rw [hq, hr]
          subst e
          exact kk _ ⟨Q, fL, fS, fN, fD, Z, a0, a1, a2, a3, a4, rfl, hZ, rfl, hfd⟩
    · refine m_lcalli [.int (iZ z), .int (iZ k), .int (iZ v)] hA C (fun w => cm_setB l D Q G fL fS fN fD (a0, a1, a2, a3, a4, g, g2) z k v hz (by omega) w) (cwV 3 C.1.2.2.2.2 (wL_V kL_17 nX5_set slX5_set iniX5 cdX5_set) rfl rfl rfl (by decide +kernel) ⟨Nat.le_of_ble_eq_true rfl, Nat.le_of_ble_eq_true rfl⟩) rfl ⟨by show cells ≤ 600000; omega, by show slots ≤ 7302250; omega⟩ (Nat.le_of_ble_eq_true rfl) hdg _ rfl (fun q u hu => ?_)
      obtain ⟨hq, rfl⟩ := hu
      rcases hpost with ⟨hok, _⟩ | ⟨hno, hr, rfl, rfl, rfl⟩
      · exact absurd hok.1 (fun t => t.elim e0 e1)
      · have e : q = r := by rw [hq, hr]
        subst e
        exact kk _ ⟨Q, fL, fS, fN, fD, Z, a0, a1, a2, a3, a4, rfl, hZ, rfl, hfd⟩
set_option maxHeartbeats 4000000 in
set_option maxRecDepth 100000 in
theorem lm_level {p : Program} {l : Launch} {e : Env} {s : State} {m : MethodId} {args : Array Value} {below : List Frame} {meth : Method} {c : Code} {D : va_G} {A : Nat → Prop} {cells slots : Nat} {Qp : State → Prop} {pc : Nat} {lw : List (Nat × Value)} {G : Nat → ClassId} {mq : Nat} {g g2 : Nat → Int32} {fd : Int} {gl : Nat → Int32} {gc : Nat → Int64} {ge gr : Nat → Int32} {Wc Wm : va_W} (hA : ∀ q, s.heap.size ≤ q → A q) (C : ZC p s m args c code 4 lw_tbl RL D (cty G)) (hM : isM G mq g g2 fd gl gc Wm) (ha : aI g g2 fd gl gc ge gr) (hR : cells ≤ 2067 ∧ slots ≤ 497312) (z : Int) (hz : -2147483648 ≤ z ∧ z < 2147483648) {r : Int32} (hpost : r = (if 0 ≤ z ∧ z < fd ∧ z < 8 then gl z.toNat else iZ (-1))) (hdg : decode code pc = .ok (.invokevirtual 51, 3))
    (kk : ∀ Wn : va_W, isM G mq g g2 fd gl gc Wn → ZW p l e room_1 s m args below meth c D A 4 cells slots Qp (Wc ++ Wn) (pc + 3) lw [.int r, .int r]) : ZW p l e room_1 s m args below meth c D A 4 cells slots Qp (Wc ++ Wm) pc lw [.int (iZ z), .ref mq, .int r] := by
  obtain ⟨Q, fL, fS, fN, fD, Z, a0, a1, a2, a3, a4, rfl, hZ, rfl, hfd⟩ := hM
  have hfl : ∃ f : Int, a0 = iZ f ∧ (f = 0 ∨ f = 1) ∧ ∃ n : Int, a1 = iZ n ∧ (0 ≤ n ∧ n ≤ 8) ∧ ∀ t : Int, (f = 1 ∧ 0 ≤ t ∧ t ≤ n - 1) ↔ (0 ≤ t ∧ t < fd ∧ t < 8) := by
    rcases hfd with ⟨h, h0, h1⟩ | ⟨h1, h2, h3, h4, h5⟩
    · exact ⟨0, h0, Or.inl rfl, 0, h1, by omega, fun t => by omega⟩
    · exact ⟨1, h3, Or.inr rfl, fd, h4, by omega, fun t => by omega⟩
  obtain ⟨f, hf0, hf1, n, hn0, hn1, hiff⟩ := hfl
  refine m_lcalli [.int (iZ z)] hA C (fun w => cm_level l D Q G fL fS fN fD (a0, a1, a2, a3, a4, g, g2) f n z hf0 hn0 hf1 hn1 hz w) (cwV 1 C.1.2.2.2.2 (wL_V kL_51 nX5_level slX5_level iniX5 cdX5_level) rfl rfl rfl (by decide +kernel) ⟨Nat.le_of_ble_eq_true rfl, Nat.le_of_ble_eq_true rfl⟩) rfl ⟨by show cells ≤ 600000; omega, by show slots ≤ 7302250; omega⟩ (Nat.le_of_ble_eq_true rfl) hdg _ rfl (fun q u hu => ?_)
  obtain ⟨hq, rfl⟩ := hu
  have hin : ∀ i : Nat, (i : Int) < fd → a2 i = gl i ∧ a3 i = gc i := by
    rcases hfd with ⟨h, _⟩ | ⟨_, _, _, _, h5⟩
    · exact fun i hi => absurd hi (by omega)
    · exact h5
  have e : q = r := by
    rw [hq, hpost]
    by_cases h : 0 ≤ z ∧ z < fd ∧ z < 8
    · rw [if_pos h, if_pos ((hiff z).2 h)]
      exact (hin z.toNat (by omega)).1
    · rw [if_neg h, if_neg (fun t => h ((hiff z).1 t))]
  subst e
  exact kk _ ⟨Q, fL, fS, fN, fD, Z, a0, a1, a2, a3, a4, rfl, hZ, rfl, hfd⟩
set_option maxHeartbeats 4000000 in
set_option maxRecDepth 100000 in
theorem lm_cell {p : Program} {l : Launch} {e : Env} {s : State} {m : MethodId} {args : Array Value} {below : List Frame} {meth : Method} {c : Code} {D : va_G} {A : Nat → Prop} {cells slots : Nat} {Qp : State → Prop} {pc : Nat} {lw : List (Nat × Value)} {G : Nat → ClassId} {mq : Nat} {g g2 : Nat → Int32} {fd : Int} {gl : Nat → Int32} {gc : Nat → Int64} {ge gr : Nat → Int32} {Wc Wm : va_W} (hA : ∀ q, s.heap.size ≤ q → A q) (C : ZC p s m args c code 4 lw_tbl RL D (cty G)) (hM : isM G mq g g2 fd gl gc Wm) (ha : aI g g2 fd gl gc ge gr) (hR : cells ≤ 2067 ∧ slots ≤ 497312) (z : Int) (hz : -2147483648 ≤ z ∧ z < 2147483648) {r : Int64} (hpost : r = (if 0 ≤ z ∧ z < fd ∧ z < 8 then gc z.toNat else lZ 0)) (hdg : decode code pc = .ok (.invokevirtual 56, 3))
    (kk : ∀ Wn : va_W, isM G mq g g2 fd gl gc Wn → ZW p l e room_1 s m args below meth c D A 4 cells slots Qp (Wc ++ Wn) (pc + 3) lw [.long r, .long r]) : ZW p l e room_1 s m args below meth c D A 4 cells slots Qp (Wc ++ Wm) pc lw [.int (iZ z), .ref mq, .long r] := by
  obtain ⟨Q, fL, fS, fN, fD, Z, a0, a1, a2, a3, a4, rfl, hZ, rfl, hfd⟩ := hM
  have hfl : ∃ f : Int, a0 = iZ f ∧ (f = 0 ∨ f = 1) ∧ ∃ n : Int, a1 = iZ n ∧ (0 ≤ n ∧ n ≤ 8) ∧ ∀ t : Int, (f = 1 ∧ 0 ≤ t ∧ t ≤ n - 1) ↔ (0 ≤ t ∧ t < fd ∧ t < 8) := by
    rcases hfd with ⟨h, h0, h1⟩ | ⟨h1, h2, h3, h4, h5⟩
    · exact ⟨0, h0, Or.inl rfl, 0, h1, by omega, fun t => by omega⟩
    · exact ⟨1, h3, Or.inr rfl, fd, h4, by omega, fun t => by omega⟩
  obtain ⟨f, hf0, hf1, n, hn0, hn1, hiff⟩ := hfl
  refine m_lcalll [.int (iZ z)] hA C (fun w => cm_cell l D Q G fL fS fN fD (a0, a1, a2, a3, a4, g, g2) f n z hf0 hn0 hf1 hn1 hz w) (cwV 1 C.1.2.2.2.2 (wL_V kL_56 nX5_cell slX5_cell iniX5 cdX5_cell) rfl rfl rfl (by decide +kernel) ⟨Nat.le_of_ble_eq_true rfl, Nat.le_of_ble_eq_true rfl⟩) rfl ⟨by show cells ≤ 600000; omega, by show slots ≤ 7302250; omega⟩ (Nat.le_of_ble_eq_true rfl) hdg _ rfl (fun q u hu => ?_)
  obtain ⟨hq, rfl⟩ := hu
  have hin : ∀ i : Nat, (i : Int) < fd → a2 i = gl i ∧ a3 i = gc i := by
    rcases hfd with ⟨h, _⟩ | ⟨_, _, _, _, h5⟩
    · exact fun i hi => absurd hi (by omega)
    · exact h5
  have e : q = r := by
    rw [hq, hpost]
    by_cases h : 0 ≤ z ∧ z < fd ∧ z < 8
    · rw [if_pos h, if_pos ((hiff z).2 h)]
      exact (hin z.toNat (by omega)).2
    · rw [if_neg h, if_neg (fun t => h ((hiff z).1 t))]
  subst e
  exact kk _ ⟨Q, fL, fS, fN, fD, Z, a0, a1, a2, a3, a4, rfl, hZ, rfl, hfd⟩
set_option maxHeartbeats 4000000 in
set_option maxRecDepth 100000 in
theorem lm_swap {p : Program} {l : Launch} {e : Env} {s : State} {m : MethodId} {args : Array Value} {below : List Frame} {meth : Method} {c : Code} {D : va_G} {A : Nat → Prop} {cells slots : Nat} {Qp : State → Prop} {pc : Nat} {lw : List (Nat × Value)} {G : Nat → ClassId} {mq : Nat} {g g2 : Nat → Int32} {fd : Int} {gl : Nat → Int32} {gc : Nat → Int64} {ge gr : Nat → Int32} {Wc Wm : va_W} (hA : ∀ q, s.heap.size ≤ q → A q) (C : ZC p s m args c code 4 lw_tbl RL D (cty G)) (hM : isM G mq g g2 fd gl gc Wm) (ha : aI g g2 fd gl gc ge gr) (hR : cells ≤ 2067 ∧ slots ≤ 497312)   {r : Int32} (hpost : ∃ N : Nat, tpN (gp g2) 9 N ∧ r = iZ (tpv N)) (hdg : decode code pc = .ok (.invokevirtual 93, 3))
    (kk : ∀ Wn : va_W, isM G mq g2 g (-1) gl gc Wn → ZW p l e room_1 s m args below meth c D A 4 cells slots Qp (Wc ++ Wn) (pc + 3) lw [.int r, .int r]) : ZW p l e room_1 s m args below meth c D A 4 cells slots Qp (Wc ++ Wm) pc lw [.ref mq, .int r] := by
  obtain ⟨Q, fL, fS, fN, fD, Z, a0, a1, a2, a3, a4, rfl, hZ, rfl, hfd⟩ := hM
  refine m_lcalli [] hA C (fun w => cm_swap l D Q G fL fS fN fD (a0, a1, a2, a3, a4, g, g2) w) (cwV 0 C.1.2.2.2.2 (wL_V kL_93 nX5_swap slX5_swap iniX5 cdX5_swap) rfl rfl rfl (by decide +kernel) ⟨Nat.le_of_ble_eq_true rfl, Nat.le_of_ble_eq_true rfl⟩) rfl ⟨by show cells ≤ 600000; omega, by show slots ≤ 7302250; omega⟩ (Nat.le_of_ble_eq_true rfl) hdg _ rfl (fun q u hu => ?_)
  obtain ⟨h0, h1, n, e0, e1, hn, hq, rfl⟩ := hu
  obtain ⟨N, hN, hr⟩ := hpost
  have e : q = r := by rw [hq, hr, tpu hN (topN_same e0 hn)]; rfl
  subst e
  refine w_conv (Wc ++ mU Q G (fL, fS, fN, fD, (iZ 0), (iZ 0), a2, a3, a4, g2, g)) (wq_app (wq_refl D Wc) (mU_rows D Q G fL fS fN fD (iZ 0) (iZ 0) a2 a3 a4 h0 h1 g2 g e0 e1)) ?_
  exact kk _ ⟨Q, fL, fS, fN, fD, Z, iZ 0, iZ 0, a2, a3, a4, rfl, hZ, rfl, Or.inl ⟨rfl, rfl, rfl⟩⟩
set_option maxHeartbeats 4000000 in
set_option maxRecDepth 100000 in
theorem lm_derive {p : Program} {l : Launch} {e : Env} {s : State} {m : MethodId} {args : Array Value} {below : List Frame} {meth : Method} {c : Code} {D : va_G} {A : Nat → Prop} {cells slots : Nat} {Qp : State → Prop} {pc : Nat} {lw : List (Nat × Value)} {G : Nat → ClassId} {mq : Nat} {g g2 : Nat → Int32} {fd : Int} {gl : Nat → Int32} {gc : Nat → Int64} {ge gr : Nat → Int32} {Wc Wm : va_W} (hA : ∀ q, s.heap.size ≤ q → A q) (C : ZC p s m args c code 4 lw_tbl RL D (cty G)) (hM : isM G mq g g2 fd gl gc Wm) (ha : aI g g2 fd gl gc ge gr) (hR : cells ≤ 2067 ∧ slots ≤ 497312) (g2' : Nat → Int32)  {r : Int32} (hpost : ∃ h9 : Nat → Int64, (∀ i : Nat, i < 9 → (h9 i).toInt = dvz g i) ∧ (((∀ i : Nat, i < 9 → -1000000000 ≤ (h9 i).toInt ∧ (h9 i).toInt ≤ 1000000000) ∧ ∃ (N : Nat), (∀ i : Nat, i < 9 → g2' i = iZ (h9 i).toInt) ∧ tpN (gp g2') 9 N ∧ r = iZ (tpv N)) ∨ (¬ (∀ i : Nat, i < 9 → -1000000000 ≤ (h9 i).toInt ∧ (h9 i).toInt ≤ 1000000000) ∧ r = iZ (-5) ∧ g2' = g2))) (hdg : decode code pc = .ok (.invokevirtual 81, 3))
    (kk : ∀ Wn : va_W, isM G mq g g2' fd gl gc Wn → ZW p l e room_1 s m args below meth c D A 4 cells slots Qp (Wc ++ Wn) (pc + 3) lw [.int r, .int r]) : ZW p l e room_1 s m args below meth c D A 4 cells slots Qp (Wc ++ Wm) pc lw [.ref mq, .int r] := by
  obtain ⟨Q, fL, fS, fN, fD, Z, a0, a1, a2, a3, a4, rfl, hZ, rfl, hfd⟩ := hM
  refine m_lcalli [] hA C (fun w => cm_derive l D Q G fL fS fN fD (a0, a1, a2, a3, a4, g, g2) w) (cwV 0 C.1.2.2.2.2 (wL_V kL_81 nX5_derive slX5_derive iniX5 cdX5_derive) rfl rfl rfl (by decide +kernel) ⟨Nat.le_of_ble_eq_true rfl, Nat.le_of_ble_eq_true rfl⟩) rfl ⟨by show cells ≤ 600000; omega, by show slots ≤ 7302250; omega⟩ (Nat.le_of_ble_eq_true rfl) hdg _ rfl (fun q u hu => ?_)
  obtain ⟨h9, hh9, hpost⟩ := hpost
  have hiff : (∀ i : Nat, i < 9 → -1000000000 ≤ (h9 i).toInt ∧ (h9 i).toInt ≤ 1000000000) ↔ (∀ i : Nat, i < 8 → inB (((i + 1 : Nat) : Int) * (g (i + 1)).toInt)) := by
    constructor
    · intro h i hi
      have h1 := h i (by omega)
      rw [hh9 i (by omega)] at h1
      unfold dvz at h1
      rw [if_pos hi] at h1
      exact h1
    · intro h i hi
      rw [hh9 i hi]
      unfold dvz
      by_cases c8 : i < 8
      · rw [if_pos c8]; exact h i c8
      · rw [if_neg c8]; omega
  rcases hu with ⟨hno, hq, rfl⟩ | ⟨hok, h1, k, e1, e8, hk, hq, rfl⟩
  · rcases hpost with ⟨hin, _⟩ | ⟨_, hr, rfl⟩
    · exact absurd (hiff.1 hin) hno
    · have e : q = r := by rw [hq, hr]
      subst e
      exact kk _ ⟨Q, fL, fS, fN, fD, Z, a0, a1, a2, a3, a4, rfl, hZ, rfl, hfd⟩
  · rcases hpost with ⟨hin, N, hg9, hN, hr⟩ | ⟨hin, _⟩
    · have ee : ∀ i : Nat, i < 9 → h1 i = g2' i := fun i hi => by
        rw [hg9 i hi, hh9 i hi]
        unfold dvz
        by_cases c8 : i < 8
        · rw [if_pos c8]; exact e1 i c8
        · rw [if_neg c8, show i = 8 by omega]; exact e8
      have e : q = r := by rw [hq, hr, tpu hN (topN_same ee hk)]; rfl
      subst e
      refine w_conv (Wc ++ mU Q G (fL, fS, fN, fD, a0, a1, a2, a3, a4, g, g2')) (wq_app (wq_refl D Wc) (mU_rows D Q G fL fS fN fD a0 a1 a2 a3 a4 g h1 g g2' (fun _ _ => rfl) ee)) ?_
      exact kk _ ⟨Q, fL, fS, fN, fD, Z, a0, a1, a2, a3, a4, rfl, hZ, rfl, hfd⟩
    · exact absurd (hiff.2 hok) hin
set_option maxHeartbeats 4000000 in
set_option maxRecDepth 100000 in
theorem lm_times {p : Program} {l : Launch} {e : Env} {s : State} {m : MethodId} {args : Array Value} {below : List Frame} {meth : Method} {c : Code} {D : va_G} {A : Nat → Prop} {cells slots : Nat} {Qp : State → Prop} {pc : Nat} {lw : List (Nat × Value)} {G : Nat → ClassId} {mq : Nat} {g g2 : Nat → Int32} {fd : Int} {gl : Nat → Int32} {gc : Nat → Int64} {ge gr : Nat → Int32} {Wc Wm : va_W} (hA : ∀ q, s.heap.size ≤ q → A q) (C : ZC p s m args c code 4 lw_tbl RL D (cty G)) (hM : isM G mq g g2 fd gl gc Wm) (ha : aI g g2 fd gl gc ge gr) (hR : cells ≤ 2067 ∧ slots ≤ 497312) (r0 : Int) (g' : Nat → Int32) (fd' : Int) (hr0 : -2147483648 ≤ r0 ∧ r0 < 2147483648) {r : Int32} (hpost : ∃ N0 : Nat, tpN (gp g) 9 N0 ∧ ((N0 = 0 ∧ r = iZ (-3) ∧ g' = g ∧ fd' = fd) ∨ (N0 = 9 ∧ r = iZ (-5) ∧ g' = g ∧ fd' = fd) ∨ (1 ≤ N0 ∧ N0 ≤ 8 ∧ ∃ h9 : Nat → Int64, (∀ i : Nat, i < 9 → (h9 i).toInt = tmz g r0 i) ∧ (((∀ i : Nat, i < 9 → -1000000000 ≤ (h9 i).toInt ∧ (h9 i).toInt ≤ 1000000000) ∧ ∃ N : Nat, (∀ i : Nat, i < 9 → g' i = iZ (h9 i).toInt) ∧ tpN (gp g') 9 N ∧ r = iZ (tpv N) ∧ fd' = -1) ∨ (¬ (∀ i : Nat, i < 9 → -1000000000 ≤ (h9 i).toInt ∧ (h9 i).toInt ≤ 1000000000) ∧ r = iZ (-5) ∧ g' = g ∧ fd' = fd))))) (hdg : decode code pc = .ok (.invokevirtual 85, 3))
    (kk : ∀ Wn : va_W, isM G mq g' g2 fd' gl gc Wn → ZW p l e room_1 s m args below meth c D A 4 cells slots Qp (Wc ++ Wn) (pc + 3) lw [.int r, .int r]) : ZW p l e room_1 s m args below meth c D A 4 cells slots Qp (Wc ++ Wm) pc lw [.int (iZ r0), .ref mq, .int r] := by
  obtain ⟨Q, fL, fS, fN, fD, Z, a0, a1, a2, a3, a4, rfl, hZ, rfl, hfd⟩ := hM
  refine m_lcalli [.int (iZ r0)] hA C (fun w => cm_times l D Q G fL fS fN fD (a0, a1, a2, a3, a4, g, g2) r0 hr0 w) (cwV 1 C.1.2.2.2.2 (wL_V kL_85 nX5_times slX5_times iniX5 cdX5_times) rfl rfl rfl (by decide +kernel) ⟨Nat.le_of_ble_eq_true rfl, Nat.le_of_ble_eq_true rfl⟩) rfl ⟨by show cells ≤ 600000; omega, by show slots ≤ 7302250; omega⟩ (Nat.le_of_ble_eq_true rfl) hdg _ rfl (fun q u hu => ?_)
  obtain ⟨N0, hN0, hpost⟩ := hpost
  obtain ⟨n, hn, hu⟩ := hu
  have en : n = N0 := tpu hN0 hn
  subst en
  have hn9 := hN0.1
  have htm : ∀ i : Nat, tmz g r0 i = tmA g r0 i := fun i => by
    unfold tmz tmA
    by_cases c0 : i = 0
    · rw [if_pos c0, if_neg (by omega)]
    · rw [if_neg c0, if_pos (by omega)]
  rcases hpost with ⟨h0, hr, rfl, rfl⟩ | ⟨h0, hr, rfl, rfl⟩ | ⟨h1, h8, h9, hh9, hpost⟩
  · rcases hu with ⟨_, hq, rfl⟩ | ⟨h, _⟩ | ⟨h, _⟩
    · have e : q = r := by rw [hq, hr]
      subst e
      exact kk _ ⟨Q, fL, fS, fN, fD, Z, a0, a1, a2, a3, a4, rfl, hZ, rfl, hfd⟩
    · exact absurd h0 h
    · exact absurd h0 h
  · rcases hu with ⟨h, _⟩ | ⟨_, _, hq, rfl⟩ | ⟨_, h, _⟩
    · exact absurd h (by omega)
    · have e : q = r := by rw [hq, hr]
      subst e
      exact kk _ ⟨Q, fL, fS, fN, fD, Z, a0, a1, a2, a3, a4, rfl, hZ, rfl, hfd⟩
    · exact absurd h.1 (by omega)
  · have hiff : (∀ i : Nat, i < 9 → -1000000000 ≤ (h9 i).toInt ∧ (h9 i).toInt ≤ 1000000000) ↔ (n < 9 ∧ ∀ i : Nat, i < 9 → inB (tmA g r0 i)) := by
      constructor
      · intro h
        refine ⟨by omega, fun i hi => ?_⟩
        have h2 := h i hi
        rw [hh9 i hi, htm] at h2
        exact h2
      · intro h i hi
        rw [hh9 i hi, htm]
        exact h.2 i hi
    rcases hu with ⟨h, _⟩ | ⟨_, hno, hq, rfl⟩ | ⟨_, hok, h0, k, e0, hk, hq, rfl⟩
    · exact absurd h (by omega)
    · rcases hpost with ⟨hin, _⟩ | ⟨_, hr, rfl, rfl⟩
      · exact absurd (hiff.1 hin) hno
      · have e : q = r := by rw [hq, hr]
        subst e
        exact kk _ ⟨Q, fL, fS, fN, fD, Z, a0, a1, a2, a3, a4, rfl, hZ, rfl, hfd⟩
    · rcases hpost with ⟨hin, N, hg9, hN, hr, rfl⟩ | ⟨hin, _⟩
      · have ee : ∀ i : Nat, i < 9 → h0 i = g' i := fun i hi => by rw [hg9 i hi, hh9 i hi, htm]; exact e0 i hi
        have e : q = r := by rw [hq, hr, tpu hN (topN_same ee hk)]; rfl
        subst e
        refine w_conv (Wc ++ mU Q G (fL, fS, fN, fD, (iZ 0), (iZ 0), a2, a3, a4, g', g2)) (wq_app (wq_refl D Wc) (mU_rows D Q G fL fS fN fD (iZ 0) (iZ 0) a2 a3 a4 h0 g2 g' g2 ee (fun _ _ => rfl))) ?_
        exact kk _ ⟨Q, fL, fS, fN, fD, Z, iZ 0, iZ 0, a2, a3, a4, rfl, hZ, rfl, Or.inl ⟨rfl, rfl, rfl⟩⟩
      · exact absurd (hiff.2 hok) hin
