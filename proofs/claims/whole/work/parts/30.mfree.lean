theorem FC_len : ∀ {h : Nat} {a : Nat → Int} {Na : Nat} {b : Nat → Int} {Nb : Nat} {G : Nat → Int} {NG : Nat}, FC h a Na b Nb G NG → Nb ≤ Na → 0 < Na → NG ≤ Na ∧ 0 < NG
  | 0, a, Na, b, Nb, G, NG, h, _, h0 => by rw [h.1]; omega
  | n + 1, a, Na, b, Nb, G, NG, h, h1, h0 => by
    rcases h with ⟨_, h2, _⟩ | ⟨h2, r, Nr, ⟨y, h3, _⟩, _, h4⟩
    · rw [h2]; omega
    · have := FC_len h4 (by omega) h2
      omega
def der (a : Nat → Int) : Nat → Int := fun i => a (i + 1) * ((i + 1 : Nat) : Int)
/-- f is a without its repeated factors, G what a and its derivative share: as the chain of remainders gives them -/
def freeR (a : Nat → Int) (N : Nat) (f : Nat → Int) (Nf : Nat) (G : Nat → Int) (NG : Nat) : Prop := ∃ a1 b1 q y : Nat → Int, ∃ j k : Nat, primR a N a1 ∧ primR (der a) (N - 1) b1 ∧ FC 9 a1 N b1 (N - 1) G NG ∧ Nf = N - NG + 1 ∧ j < NG ∧ ldn y j ∧ 1 ≤ k ∧ (∀ t : Int, (G (NG - 1)) ^ k * ev a N t = ev q Nf t * ev G NG t + ev y j t) ∧ q (N - NG) ≠ 0 ∧ primR q Nf f
theorem FC_congr {h : Nat} {a b a' b' : Nat → Int} {Na Nb : Nat} {G : Nat → Int} {NG : Nat} (h0 : FC h a Na b Nb G NG) (ha : a = a') (hb : b = b') : FC h a' Na b' Nb G NG := by rw [← ha, ← hb]; exact h0
theorem primR_left {a a' e : Nat → Int} {N : Nat} (h : primR a N e) (h1 : ∀ i : Nat, i < N → a i = a' i) : primR a' N e := primR_congr h (fun i hi => (h1 i hi).symm) (fun _ _ => rfl)
theorem abs8 {x : Int} {i : Nat} (h : (x.natAbs : Int) ≤ 2 ^ 1196) (hi : i < 9) : ((x * ((i + 1 : Nat) : Int)).natAbs : Int) ≤ 2 ^ 1200 := by
  rw [Int.natAbs_mul, Int.natCast_mul]
  have h1 := Int.mul_le_mul h (show ((((i + 1 : Nat) : Int)).natAbs : Int) ≤ 16 by omega) (by omega) (Int.le_of_lt (i2pos _))
  rw [show (2 : Int) ^ 1200 = 2 ^ 1196 * 16 from Int.pow_add 2 1196 4]
  exact h1
theorem prim_abs {a e : Nat → Int} {N i : Nat} (h : primR a N e) (ha : ldn a N) (hi : i < N) : ((e i).natAbs : Int) ≤ ((a i).natAbs : Int) := by
  have h1 := h i hi
  have h0 : 0 < gN a N := gN_pos (i := N - 1) (by omega) (ha (N - 1) (by omega))
  have h2 : ((gN a N : Nat) : Int) * ((e i).natAbs : Int) = (((a (N - 1)).sign.natAbs : Nat) : Int) * ((a i).natAbs : Int) := by
    have g := congrArg (fun z : Int => (z.natAbs : Int)) h1
    simp only [Int.natAbs_mul, Int.natCast_mul, Int.natAbs_natCast] at g
    exact g
  have h3 : (((a (N - 1)).sign.natAbs : Nat) : Int) ≤ 1 := by have := sgn_r (a (N - 1)); omega
  have h4 := Int.mul_le_mul_of_nonneg_right h3 (show (0 : Int) ≤ ((a i).natAbs : Int) by omega)
  have h5 := Int.mul_le_mul_of_nonneg_right (show (1 : Int) ≤ ((gN a N : Nat) : Int) by omega) (show (0 : Int) ≤ ((e i).natAbs : Int) by omega)
  omega
theorem bnd3 {sx : Nat} (h : sx ≤ 9) {v : Int} (hv : v ≤ ((2 : Int) * 2 ^ 1200) ^ sx * 2 ^ 1200) : v ≤ 2 ^ 12009 := by
  have h1 := Int.mul_le_mul_of_nonneg_right (pow_mono (x := 2 * 2 ^ 1200) (by have := i2pos 1200; omega) h) (Int.le_of_lt (i2pos 1200))
  have h2 : ((2 : Int) * 2 ^ 1200) ^ 9 * 2 ^ 1200 = 2 ^ 12009 := by
    rw [show (2 : Int) * 2 ^ 1200 = 2 ^ 1201 by rw [Int.pow_succ (2 : Int) 1200, Int.mul_comm], i2pow, ← Int.pow_add]
  omega
theorem FC_G : ∀ {h : Nat} {a : Nat → Int} {Na : Nat} {b : Nat → Int} {Nb : Nat} {G G2 : Nat → Int} {NG : Nat}, FC h a Na b Nb G NG → (∀ i : Nat, i < NG → G2 i = G i) → FC h a Na b Nb G2 NG
  | 0, a, Na, b, Nb, G, G2, NG, h, e => ⟨h.1, fun i hi => (e i (by rw [h.1]; exact hi)).trans (h.2 i hi)⟩
  | n + 1, a, Na, b, Nb, G, G2, NG, h, e => by
    rcases h with ⟨h1, h2, h3⟩ | ⟨h2, r, Nr, h3, h5, h4⟩
    · exact Or.inl ⟨h1, h2, fun i hi => (e i (by omega)).trans (h3 i hi)⟩
    · exact Or.inr ⟨h2, r, Nr, h3, h5, FC_G h4 e⟩
set_option maxHeartbeats 4000000 in
set_option maxRecDepth 100000 in
/-- makeFree: the row without its repeated factors -/
theorem cm_makeFree (l : Launch) (D : va_G) (Q : Nat → Nat) (G : Nat → ClassId) (fL fS fN fD : Nat → Int32) (X : mX) (Z : Nat → Int) (t r N : Nat) (hZ : mAll fL fS fN Z) (ht : t = 5 ∨ t = 6) (hr2 : r < 2) (hn : fD r = iZ ((N : Int) - 1)) (hN : N ≤ 9) (hN1 : 1 ≤ N) (hl : ldn (fun i => Z (9 * r + i)) N) (hB : ∀ i : Nat, i < N → ((Z (9 * r + i)).natAbs : Int) ≤ 2 ^ 1196) (hF : ∀ a1 b1 : Nat → Int, primR (fun i => Z (9 * r + i)) N a1 → primR (der (fun i => Z (9 * r + i))) (N - 1) b1 → FZ 9 a1 N b1 (N - 1)) (sz : Nat) : Met l yX5_makeFree (wC yX5_makeFree cX5_makeFree 3 none) ({ frames := 6, cells := 0, slots := 0, locals := 145 }) (va_Pc [.ref (Q 0), .int (iZ ((t : Int))), .int (iZ ((r : Int)))] (mPre D Q G (fL, fS, fN, fD, X) sz)) (va_Qv (fun u : mT => ∃ (Y : Nat → Int) (gD : Nat → Int32) (NG : Nat), mPost gD X Y u ∧ gD t = iZ (((N - NG + 1 : Nat) : Int) - 1) ∧ gD 7 = iZ ((NG : Int) - 1) ∧ NG ≤ N ∧ 0 < NG ∧ ldn (fun i => Y (9 * 7 + i)) NG ∧ okP (fun i => Y (9 * 7 + i)) NG ∧ ldn (fun i => Y (9 * t + i)) (N - NG + 1) ∧ freeR (fun i => Z (9 * r + i)) N (fun i => Y (9 * t + i)) (N - NG + 1) (fun i => Y (9 * 7 + i)) NG ∧ (∀ i : Nat, i < N - NG + 1 → ((Y (9 * t + i)).natAbs : Int) ≤ 2 ^ 12009) ∧ (∀ q : Nat, q ≠ 2 → q ≠ 3 → q ≠ 4 → q ≠ 7 → q ≠ 13 → q ≠ 14 → q ≠ t → gD q = fD q) ∧ ∀ c : Nat, (c < 18 ∨ 45 ≤ c) → (c < 63 ∨ 72 ≤ c) → (c < 9 * t ∨ 9 * t + 9 ≤ c) → c < 117 → Y c = Z c) (mAt D Q G (mA Q sz)) (mA Q sz)) 0 0 (mA Q sz) := by
  refine m_met (cc := cX5_makeFree) (maxL := 3) (ret := none) (by decide) rfl rfl (Nat.le_of_ble_eq_true rfl) ?_
  intro p e s m below meth c hsz C hr hlk
  refine w_sub [(0, .ref (Q 0)), (1, .int (iZ ((t : Int)))), (2, .int (iZ ((r : Int))))] [0, 1, 2] rfl ?_
  have h1196 : (2 : Int) ^ 1196 < 2 ^ (31 * 638) := i2lt (by omega)
  have h96 : (2 : Int) ^ 1196 ≤ 2 ^ 1200 := pow_mono (by decide) (by omega)
  refine w_aload_n C dX5_makeFree_0 0 rfl ?_
  refine w_bipush C dX5_makeFree_1 (by decide) ?_
  refine w_iload_n C dX5_makeFree_3 2 rfl ?_
  refine m_callv [.int (iZ (13)), .int (iZ ((r : Int)))] hsz C (fun z => cm_copyRow l D Q G fL fS fN fD X Z 13 r N hZ (by omega) (by omega) hn hN z) (cwV 2 C.1.2.2.2.2 (wC_V kX5_94 nX5_copyRow slX5_copyRow iniX5 cdX5_copyRow) rfl rfl rfl (by decide +kernel) ⟨Nat.le_of_ble_eq_true rfl, Nat.le_of_ble_eq_true rfl⟩) rfl ⟨Nat.zero_le _, Nat.zero_le _⟩ (Nat.le_of_ble_eq_true rfl) dX5_makeFree_4 [.int (iZ ((r : Int))), .int (iZ (13)), .ref (Q 0)] rfl (fun v1 hv1 => ?_)
  obtain ⟨Y1, ⟨g1L, g1S, g1N, hZ1, rfl⟩, y1a, y1b⟩ := hv1
  refine w_aload_n C dX5_makeFree_7 0 rfl ?_
  refine w_bipush C dX5_makeFree_8 (by decide) ?_
  refine w_iload_n C dX5_makeFree_10 2 rfl ?_
  refine m_callv [.int (iZ (14)), .int (iZ ((r : Int)))] hsz C (fun z => cm_deriveRow l D Q G g1L g1S g1N (upd fD 13 (iZ ((N : Int) - 1))) X Y1 14 r N 638 hZ1 (by omega) (by omega) (by omega) ((upd_ne (by omega)).trans hn) hN (fun i hi => by rw [y1b _ (by omega)]; have := hB i hi; omega) (by omega) z) (cwV 2 C.1.2.2.2.2 (wC_V kX5_104 nX5_deriveRow slX5_deriveRow iniX5 cdX5_deriveRow) rfl rfl rfl (by decide +kernel) ⟨Nat.le_of_ble_eq_true rfl, Nat.le_of_ble_eq_true rfl⟩) rfl ⟨Nat.zero_le _, Nat.zero_le _⟩ (Nat.le_of_ble_eq_true rfl) dX5_makeFree_11 [.int (iZ ((r : Int))), .int (iZ (14)), .ref (Q 0)] rfl (fun v2 hv2 => ?_)
  obtain ⟨Y2, dD, ⟨g2L, g2S, g2N, hZ2, rfl⟩, d14, dq, y2a, y2b⟩ := hv2
  have e13 : ∀ i : Nat, i < N → Y2 (9 * 13 + i) = Z (9 * r + i) := fun i hi => (y2b _ (by omega) (by omega)).trans (y1a i hi)
  have e14 : ∀ i : Nat, i < N - 1 → Y2 (9 * 14 + i) = der (fun i => Z (9 * r + i)) i := fun i hi => by
    rw [y2a i (by omega), y1b _ (by omega)]; rfl
  have er : ∀ i : Nat, i < N → Y2 (9 * r + i) = Z (9 * r + i) := fun i hi => (y2b _ (by omega) (by omega)).trans (y1b _ (by omega))
  refine w_aload_n C dX5_makeFree_14 0 rfl ?_
  refine m_callv [] hsz C (fun z => cm_findCommon l D Q G g2L g2S g2N dD X Y2 N (N - 1) hZ2 ((dq 13 (by omega)).trans upd_eq) d14 hN (by omega) (fun i hi => by show Y2 (9 * 13 + i) ≠ 0; rw [e13 i (by omega)]; exact hl i hi) (fun i hi => by show Y2 (9 * 14 + i) ≠ 0; rw [e14 i (by omega)]; exact Int.mul_ne_zero (hl (i + 1) (by omega)) (by omega)) (fun i hi => by show ((Y2 (9 * 13 + i)).natAbs : Int) ≤ _; rw [e13 i hi]; have := hB i hi; omega) (fun i hi => by show ((Y2 (9 * 14 + i)).natAbs : Int) ≤ _; rw [e14 i hi]; exact abs8 (hB (i + 1) (by omega)) (by omega)) (fun a1 b1 g1 g2 => hF a1 b1 (primR_left g1 e13) (primR_left g2 e14)) z) (cwV 0 C.1.2.2.2.2 (wC_V kX5_107 nX5_findCommon slX5_findCommon iniX5 cdX5_findCommon) rfl rfl rfl (by decide +kernel) ⟨Nat.le_of_ble_eq_true rfl, Nat.le_of_ble_eq_true rfl⟩) rfl ⟨Nat.zero_le _, Nat.zero_le _⟩ (Nat.le_of_ble_eq_true rfl) dX5_makeFree_15 [.ref (Q 0)] rfl (fun v3 hv3 => ?_)
  obtain ⟨Y3, cD, NG, ⟨g3L, g3S, g3N, hZ3, rfl⟩, c7, cN, cl, co, ⟨a1, b1, cp1, cp2, cfc⟩, cq, y3b⟩ := hv3
  have hNG := FC_len cfc (by omega) (by omega)
  have er3 : ∀ i : Nat, i < N → Y3 (9 * r + i) = Z (9 * r + i) := fun i hi => (y3b _ (by omega) (by omega) (by omega)).trans (er i hi)
  have hcr : cD r = iZ ((N : Int) - 1) := (cq r (by omega) (by omega) (by omega) (by omega)).trans ((dq r (by omega)).trans ((upd_ne (by omega)).trans hn))
  refine w_aload_n C dX5_makeFree_18 0 rfl ?_
  refine w_iconst C dX5_makeFree_19 ?_
  refine w_iload_n C dX5_makeFree_20 2 rfl ?_
  refine m_callv [.int (iZ (2)), .int (iZ ((r : Int)))] hsz C (fun z => cm_copyRow l D Q G g3L g3S g3N cD X Y3 2 r N hZ3 (by omega) (by omega) hcr hN z) (cwV 2 C.1.2.2.2.2 (wC_V kX5_94 nX5_copyRow slX5_copyRow iniX5 cdX5_copyRow) rfl rfl rfl (by decide +kernel) ⟨Nat.le_of_ble_eq_true rfl, Nat.le_of_ble_eq_true rfl⟩) rfl ⟨Nat.zero_le _, Nat.zero_le _⟩ (Nat.le_of_ble_eq_true rfl) dX5_makeFree_21 [.int (iZ ((r : Int))), .int (iZ (2)), .ref (Q 0)] rfl (fun v4 hv4 => ?_)
  obtain ⟨Y4, ⟨g4L, g4S, g4N, hZ4, rfl⟩, y4a, y4b⟩ := hv4
  refine w_aload_n C dX5_makeFree_24 0 rfl ?_
  refine w_iconst C dX5_makeFree_25 ?_
  refine w_bipush C dX5_makeFree_26 (by decide) ?_
  refine m_callv [.int (iZ (3)), .int (iZ (7))] hsz C (fun z => cm_copyRow l D Q G g4L g4S g4N (upd cD 2 (iZ ((N : Int) - 1))) X Y4 3 7 NG hZ4 (by omega) (by omega) ((upd_ne (by omega)).trans c7) (by omega) z) (cwV 2 C.1.2.2.2.2 (wC_V kX5_94 nX5_copyRow slX5_copyRow iniX5 cdX5_copyRow) rfl rfl rfl (by decide +kernel) ⟨Nat.le_of_ble_eq_true rfl, Nat.le_of_ble_eq_true rfl⟩) rfl ⟨Nat.zero_le _, Nat.zero_le _⟩ (Nat.le_of_ble_eq_true rfl) dX5_makeFree_28 [.int (iZ (7)), .int (iZ (3)), .ref (Q 0)] rfl (fun v5 hv5 => ?_)
  obtain ⟨Y5, ⟨g5L, g5S, g5N, hZ5, rfl⟩, y5a, y5b⟩ := hv5
  have f2 : ∀ i : Nat, i < N → Y5 (9 * 2 + i) = Z (9 * r + i) := fun i hi => (y5b _ (by omega)).trans ((y4a i hi).trans (er3 i hi))
  have f3 : ∀ i : Nat, i < NG → Y5 (9 * 3 + i) = Y3 (9 * 7 + i) := fun i hi => (y5a i hi).trans (y4b _ (by omega))
  refine w_aload_n C dX5_makeFree_31 0 rfl ?_
  refine m_callv [] hsz C (fun z => cm_reduce l D Q G g5L g5S g5N (upd (upd cD 2 (iZ ((N : Int) - 1))) 3 (iZ ((NG : Int) - 1))) X Y5 N NG 400 39 (2 ^ 1200) (2 ^ 1200) hZ5 ((upd_ne (by omega)).trans upd_eq) upd_eq hN (by omega) (by omega) (by rw [f2 _ (by omega)]; exact hl _ (by omega)) (by rw [f3 _ (by omega)]; exact cl _ (by omega)) (Int.le_of_lt (i2pos _)) (by have := i2pos 1200; omega) (fun i hi => by rw [f2 i hi]; have := hB i hi; omega) (fun i hi => by rw [f3 i hi]; exact co i hi) bnd1 (i2lt (by omega)) (by omega) z) (cwV 0 C.1.2.2.2.2 (wC_V kX5_101 nX5_reduce slX5_reduce iniX5 cdX5_reduce) rfl rfl rfl (by decide +kernel) ⟨Nat.le_of_ble_eq_true rfl, Nat.le_of_ble_eq_true rfl⟩) rfl ⟨Nat.zero_le _, Nat.zero_le _⟩ (Nat.le_of_ble_eq_true rfl) dX5_makeFree_32 [.ref (Q 0)] rfl (fun v6 hv6 => ?_)
  obtain ⟨Y6, sD, j, kx, ⟨g6L, g6S, g6N, hZ6, rfl⟩, q2, q4, qo, q5, q6, q7, q8, q9, q10, q11, q12, y6b⟩ := hv6
  refine w_aload_n C dX5_makeFree_35 0 rfl ?_
  refine w_iload_n C dX5_makeFree_36 1 rfl ?_
  refine w_iconst C dX5_makeFree_37 ?_
  refine m_callv [.int (iZ ((t : Int))), .int (iZ (4))] hsz C (fun z => cm_copyRow l D Q G g6L g6S g6N sD X Y6 t 4 (N - NG + 1) hZ6 (by omega) (by omega) q4 (by omega) z) (cwV 2 C.1.2.2.2.2 (wC_V kX5_94 nX5_copyRow slX5_copyRow iniX5 cdX5_copyRow) rfl rfl rfl (by decide +kernel) ⟨Nat.le_of_ble_eq_true rfl, Nat.le_of_ble_eq_true rfl⟩) rfl ⟨Nat.zero_le _, Nat.zero_le _⟩ (Nat.le_of_ble_eq_true rfl) dX5_makeFree_38 [.int (iZ (4)), .int (iZ ((t : Int))), .ref (Q 0)] rfl (fun v7 hv7 => ?_)
  obtain ⟨Y7, ⟨g7L, g7S, g7N, hZ7, rfl⟩, y7a, y7b⟩ := hv7
  refine w_aload_n C dX5_makeFree_41 0 rfl ?_
  refine w_iload_n C dX5_makeFree_42 1 rfl ?_
  refine m_callv [.int (iZ ((t : Int)))] hsz C (fun z => cm_makePrimitive l D Q G g7L g7S g7N (upd sD t (iZ (((N - NG + 1 : Nat) : Int) - 1))) X Y7 t (N - NG + 1) hZ7 (by omega) upd_eq (by omega) (fun i hi => by rw [y7a i hi]; exact bnd2 (by omega) (q12 i hi)) (fun i hi => by rw [y7a i (by omega), show i = N - NG by omega]; exact q10) z) (cwV 1 C.1.2.2.2.2 (wC_V kX5_97 nX5_makePrimitive slX5_makePrimitive iniX5 cdX5_makePrimitive) rfl rfl rfl (by decide +kernel) ⟨Nat.le_of_ble_eq_true rfl, Nat.le_of_ble_eq_true rfl⟩) rfl ⟨Nat.zero_le _, Nat.zero_le _⟩ (Nat.le_of_ble_eq_true rfl) dX5_makeFree_43 [.int (iZ ((t : Int))), .ref (Q 0)] rfl (fun v8 hv8 => ?_)
  obtain ⟨Y8, ⟨g8L, g8S, g8N, hZ8, rfl⟩, y8a, y8b⟩ := hv8
  have e7 : ∀ i : Nat, i < 9 → Y8 (9 * 7 + i) = Y3 (9 * 7 + i) := fun i hi => by rw [y8b _ (by omega) (by omega) (by omega) (by omega) (by omega), y7b _ (by omega), y6b _ (by omega) (by omega) (by omega) (by omega), y5b _ (by omega), y4b _ (by omega)]
  have hpq : primR (fun i => Y6 (9 * 4 + i)) (N - NG + 1) (fun i => Y8 (9 * t + i)) := primR_congr (a := fun i => Y7 (9 * t + i)) y8a (fun i hi => (y7a i hi).symm) (fun _ _ => rfl)
  have hkx : kx ≤ 9 := by omega
  have hld6 : ldn (fun i => Y6 (9 * 4 + i)) (N - NG + 1) := fun i hi => by
    show Y6 (9 * 4 + i) ≠ 0
    rw [(Nat.succ.inj hi).symm]; exact q10
  have hfb : ∀ i : Nat, i < N - NG + 1 → ((Y8 (9 * t + i)).natAbs : Int) ≤ 2 ^ 12009 := fun i hi => by
    have g1 : ((Y8 (9 * t + i)).natAbs : Int) ≤ ((Y6 (9 * 4 + i)).natAbs : Int) := prim_abs hpq hld6 hi
    have g3 := bnd3 hkx (q12 i hi)
    exact Int.le_trans g1 g3
  have hfc : FC 9 a1 N b1 (N - 1) (fun i => Y8 (9 * 7 + i)) NG := FC_G cfc (fun i hi => e7 i (by omega))
  have hid : ∀ t1 : Int, ((fun i => Y8 (9 * 7 + i)) (NG - 1)) ^ kx * ev (fun i => Z (9 * r + i)) N t1 = ev (fun i => Y6 (9 * 4 + i)) (N - NG + 1) t1 * ev (fun i => Y8 (9 * 7 + i)) NG t1 + ev (fun i => Y6 (9 * 2 + i)) j t1 := fun t1 => by
    have g := q9 t1
    rw [f3 (NG - 1) (by omega), ev_congr (c := fun i => Y5 (9 * 2 + i)) (e := (fun i => Z (9 * r + i))) f2, ev_congr (c := fun i => Y5 (9 * 3 + i)) (e := fun i => Y8 (9 * 7 + i)) (fun i hi => (f3 i hi).trans (e7 i (by omega)).symm), ← e7 (NG - 1) (by omega)] at g
    exact g
  exact m_vret hsz C hr hlk (⟨Y8, _, NG, ⟨_, _, _, hZ8, rfl⟩, upd_eq, (upd_ne (by omega)).trans ((qo 7 (by omega) (by omega)).trans ((upd_ne (by omega)).trans ((upd_ne (by omega)).trans c7))), hNG.1, hNG.2, fun i hi => by show Y8 (9 * 7 + i) ≠ 0; rw [e7 i (by omega)]; exact cl i hi, fun i hi => by show ((Y8 (9 * 7 + i)).natAbs : Int) ≤ _; rw [e7 i (by omega)]; exact co i hi, prim_ldn hpq (fun i hi => by show Y6 (9 * 4 + i) ≠ 0; rw [show i = N - NG by omega]; exact q10), ⟨a1, b1, _, _, j, kx, primR_left cp1 e13, primR_left cp2 e14, hfc, rfl, q5, q6, q7, hid, q10, hpq⟩, hfb, fun q g1 g2 g3 g4 g5 g6 g7 => (upd_ne g7).trans ((qo q g1 g3).trans ((upd_ne g2).trans ((upd_ne g1).trans ((cq q g1 g2 g3 g4).trans ((dq q g6).trans (upd_ne g5)))))), fun c g1 g2 g3 g4 => by rw [y8b _ (by omega) (by omega) (by omega) (by omega) (by omega), y7b _ (by omega), y6b _ (by omega) (by omega) (by omega) (by omega), y5b _ (by omega), y4b _ (by omega), y3b _ (by omega) (by omega) (by omega), y2b _ (by omega) (by omega), y1b _ (by omega)]⟩) dX5_makeFree_46
