theorem i2pow (a : Nat) : ∀ b : Nat, ((2 : Int) ^ a) ^ b = 2 ^ (a * b)
  | 0 => by simp
  | b + 1 => by rw [Int.pow_succ, i2pow a b, Nat.mul_succ, Int.pow_add]
theorem i2lt {a b : Nat} (h : a < b) : (2 : Int) ^ a < 2 ^ b := by
  have h1 := pow_mono (x := 2) (by decide) (show a + 1 ≤ b by omega)
  have h2 := i2pos a
  rw [Int.pow_succ] at h1
  omega
theorem bnd1 : ((2 : Int) * 2 ^ 1200) ^ 9 * 2 ^ 1200 < 2 ^ (31 * 400) := by
  rw [show (2 : Int) * 2 ^ 1200 = 2 ^ 1201 by rw [Int.pow_succ (2 : Int) 1200, Int.mul_comm], i2pow, ← Int.pow_add]
  exact i2lt (by omega)
theorem bnd2 {sx : Nat} (h : sx ≤ 9) {v : Int} (hv : v ≤ ((2 : Int) * 2 ^ 1200) ^ sx * 2 ^ 1200) : v < 2 ^ (31 * 638) := by
  have h1 := Int.mul_le_mul_of_nonneg_right (pow_mono (x := 2 * 2 ^ 1200) (by have := i2pos 1200; omega) h) (Int.le_of_lt (i2pos 1200))
  have h2 := bnd1
  have h3 := pw31_le (show 400 ≤ 638 by omega)
  omega
/-- numbers of at most 1200 bits -/
def okP (a : Nat → Int) (N : Nat) : Prop := ∀ i : Nat, i < N → ((a i).natAbs : Int) ≤ 2 ^ 1200
def ldn (a : Nat → Int) (N : Nat) : Prop := ∀ i : Nat, N = i + 1 → a i ≠ 0
def primR (a : Nat → Int) (N : Nat) (e : Nat → Int) : Prop := ∀ i : Nat, i < N → ((gN a N : Nat) : Int) * e i = (a (N - 1)).sign * a i
/-- one step of the chain of remainders: the next row r, out of a and b -/
def stepR (a : Nat → Int) (Na : Nat) (b : Nat → Int) (Nb : Nat) (r : Nat → Int) (Nr : Nat) : Prop := ∃ y : Nat → Int, Nr < Nb ∧ ldn y Nr ∧ primR y Nr r ∧ ((Na < Nb ∧ Nr = Na ∧ ∀ i : Nat, i < Nr → y i = a i) ∨ (Nb ≤ Na ∧ ∃ (q : Nat → Int) (k : Nat), 1 ≤ k ∧ k ≤ Na - Nb + 1 ∧ q (Na - Nb) ≠ 0 ∧ ∀ t : Int, (b (Nb - 1)) ^ k * ev a Na t = ev q (Na - Nb + 1) t * ev b Nb t + ev y Nr t))
def FC : Nat → (Nat → Int) → Nat → (Nat → Int) → Nat → (Nat → Int) → Nat → Prop
  | 0, a, Na, _, _, G, NG => NG = Na ∧ ∀ i : Nat, i < Na → G i = a i
  | h + 1, a, Na, b, Nb, G, NG => (Nb = 0 ∧ NG = Na ∧ ∀ i : Nat, i < Na → G i = a i) ∨ (0 < Nb ∧ ∃ (r : Nat → Int) (Nr : Nat), stepR a Na b Nb r Nr ∧ ldn r Nr ∧ FC h b Nb r Nr G NG)
def FZ : Nat → (Nat → Int) → Nat → (Nat → Int) → Nat → Prop
  | 0, a, Na, b, Nb => okP a Na ∧ okP b Nb
  | h + 1, a, Na, b, Nb => okP a Na ∧ okP b Nb ∧ ∀ (r : Nat → Int) (Nr : Nat), 0 < Nb → stepR a Na b Nb r Nr → ldn r Nr → FZ h b Nb r Nr
theorem FZ_ok {h : Nat} {a b : Nat → Int} {Na Nb : Nat} (H : FZ h a Na b Nb) : okP a Na ∧ okP b Nb := by
  cases h with
  | zero => exact H
  | succ h => exact ⟨H.1, H.2.1⟩
theorem prim_ldn {a e : Nat → Int} {N : Nat} (h : primR a N e) (ha : ldn a N) : ldn e N := fun i hi g => by
  have h1 := h i (by omega)
  rw [g, Int.mul_zero, show N - 1 = i by omega] at h1
  have h2 := ha i hi
  rcases sgn_cases (a i) with ⟨g1, g2⟩ | ⟨g1, g2⟩ | ⟨g1, g2⟩
  · rw [g2] at h1; omega
  · exact h2 g1
  · rw [g2] at h1; omega
theorem primR_congr {a e a' e' : Nat → Int} {N : Nat} (h : primR a N e) (h1 : ∀ i : Nat, i < N → a' i = a i) (h2 : ∀ i : Nat, i < N → e' i = e i) : primR a' N e' := fun i hi => by
  rw [gN_congr h1, h2 i hi, h1 i hi, h1 (N - 1) (by omega)]; exact h i hi
set_option maxHeartbeats 4000000 in
set_option maxRecDepth 100000 in
/-- findCommon: the chain of remainders, made primitive each time -/
theorem cm_findCommon (l : Launch) (D : va_G) (Q : Nat → Nat) (G : Nat → ClassId) (fL fS fN fD : Nat → Int32) (X : mX) (Z : Nat → Int) (Na0 Nb0 : Nat) (hZ : mAll fL fS fN Z) (hda : fD 13 = iZ ((Na0 : Int) - 1)) (hdb : fD 14 = iZ ((Nb0 : Int) - 1)) (hNa : Na0 ≤ 9) (hNb : Nb0 ≤ 9) (hla : ldn (fun i => Z (9 * 13 + i)) Na0) (hlb : ldn (fun i => Z (9 * 14 + i)) Nb0) (hBa : okP (fun i => Z (9 * 13 + i)) Na0) (hBb : okP (fun i => Z (9 * 14 + i)) Nb0) (hF : ∀ a1 b1 : Nat → Int, primR (fun i => Z (9 * 13 + i)) Na0 a1 → primR (fun i => Z (9 * 14 + i)) Nb0 b1 → FZ 9 a1 Na0 b1 Nb0) (sz : Nat) : Met l yX5_findCommon (wC yX5_findCommon cX5_findCommon 1 none) ({ frames := 5, cells := 0, slots := 0, locals := 125 }) (va_Pc [.ref (Q 0)] (mPre D Q G (fL, fS, fN, fD, X) sz)) (va_Qv (fun u : mT => ∃ (Y : Nat → Int) (gD : Nat → Int32) (NG : Nat), mPost gD X Y u ∧ gD 7 = iZ ((NG : Int) - 1) ∧ NG ≤ 9 ∧ ldn (fun i => Y (9 * 7 + i)) NG ∧ okP (fun i => Y (9 * 7 + i)) NG ∧ (fun (G : Nat → Int) (NG : Nat) => ∃ a1 b1 : Nat → Int, primR (fun i => Z (9 * 13 + i)) Na0 a1 ∧ primR (fun i => Z (9 * 14 + i)) Nb0 b1 ∧ FC 9 a1 Na0 b1 Nb0 G NG) (fun i => Y (9 * 7 + i)) NG ∧ (∀ q : Nat, q ≠ 2 → q ≠ 3 → q ≠ 4 → q ≠ 7 → gD q = fD q) ∧ ∀ c : Nat, (c < 18 ∨ 45 ≤ c) → (c < 63 ∨ 72 ≤ c) → c < 135 → Y c = Z c) (mAt D Q G (mA Q sz)) (mA Q sz)) 0 0 (mA Q sz) := by
  refine m_met (cc := cX5_findCommon) (maxL := 1) (ret := none) (by decide) rfl rfl (Nat.le_of_ble_eq_true rfl) ?_
  intro p e s m below meth c hsz C hr hlk
  refine w_sub [(0, .ref (Q 0))] [0] rfl ?_
  have h1200 : (2 : Int) ^ 1200 < 2 ^ (31 * 638) := i2lt (by omega)
  refine w_aload_n C dX5_findCommon_0 0 rfl ?_
  refine w_bipush C dX5_findCommon_1 (by decide) ?_
  refine w_bipush C dX5_findCommon_3 (by decide) ?_
  refine m_callv [.int (iZ (7)), .int (iZ (13))] hsz C (fun z => cm_copyRow l D Q G fL fS fN fD X Z 7 13 Na0 hZ (by omega) (by omega) hda hNa z) (cwV 2 C.1.2.2.2.2 (wC_V kX5_94 nX5_copyRow slX5_copyRow iniX5 cdX5_copyRow) rfl rfl rfl (by decide +kernel) ⟨Nat.le_of_ble_eq_true rfl, Nat.le_of_ble_eq_true rfl⟩) rfl ⟨Nat.zero_le _, Nat.zero_le _⟩ (Nat.le_of_ble_eq_true rfl) dX5_findCommon_5 [.int (iZ (13)), .int (iZ (7)), .ref (Q 0)] rfl (fun v1 hv1 => ?_)
  obtain ⟨Y1, ⟨g1L, g1S, g1N, hZ1, rfl⟩, y1a, y1b⟩ := hv1
  refine w_aload_n C dX5_findCommon_8 0 rfl ?_
  refine w_iconst C dX5_findCommon_9 ?_
  refine w_bipush C dX5_findCommon_10 (by decide) ?_
  refine m_callv [.int (iZ (3)), .int (iZ (14))] hsz C (fun z => cm_copyRow l D Q G g1L g1S g1N (upd fD 7 (iZ ((Na0 : Int) - 1))) X Y1 3 14 Nb0 hZ1 (by omega) (by omega) ((upd_ne (by omega)).trans hdb) hNb z) (cwV 2 C.1.2.2.2.2 (wC_V kX5_94 nX5_copyRow slX5_copyRow iniX5 cdX5_copyRow) rfl rfl rfl (by decide +kernel) ⟨Nat.le_of_ble_eq_true rfl, Nat.le_of_ble_eq_true rfl⟩) rfl ⟨Nat.zero_le _, Nat.zero_le _⟩ (Nat.le_of_ble_eq_true rfl) dX5_findCommon_12 [.int (iZ (14)), .int (iZ (3)), .ref (Q 0)] rfl (fun v2 hv2 => ?_)
  obtain ⟨Y2, ⟨g2L, g2S, g2N, hZ2, rfl⟩, y2a, y2b⟩ := hv2
  have e7 : ∀ i : Nat, i < Na0 → Y2 (9 * 7 + i) = Z (9 * 13 + i) := fun i hi => (y2b _ (by omega)).trans (y1a i hi)
  have e3 : ∀ i : Nat, i < Nb0 → Y2 (9 * 3 + i) = Z (9 * 14 + i) := fun i hi => (y2a i hi).trans (y1b _ (by omega))
  refine w_aload_n C dX5_findCommon_15 0 rfl ?_
  refine w_bipush C dX5_findCommon_16 (by decide) ?_
  refine m_callv [.int (iZ (7))] hsz C (fun z => cm_makePrimitive l D Q G g2L g2S g2N (upd (upd fD 7 (iZ ((Na0 : Int) - 1))) 3 (iZ ((Nb0 : Int) - 1))) X Y2 7 Na0 hZ2 (by omega) ((upd_ne (by omega)).trans upd_eq) hNa (fun i hi => by rw [e7 i hi]; have g : ((Z (9 * 13 + i)).natAbs : Int) ≤ 2 ^ 1200 := hBa i hi; omega) (fun i hi => by rw [e7 i (by omega)]; exact hla i hi) z) (cwV 1 C.1.2.2.2.2 (wC_V kX5_97 nX5_makePrimitive slX5_makePrimitive iniX5 cdX5_makePrimitive) rfl rfl rfl (by decide +kernel) ⟨Nat.le_of_ble_eq_true rfl, Nat.le_of_ble_eq_true rfl⟩) rfl ⟨Nat.zero_le _, Nat.zero_le _⟩ (Nat.le_of_ble_eq_true rfl) dX5_findCommon_18 [.int (iZ (7)), .ref (Q 0)] rfl (fun v3 hv3 => ?_)
  obtain ⟨Y3, ⟨g3L, g3S, g3N, hZ3, rfl⟩, y3a, y3b⟩ := hv3
  have hpa3 : primR (fun i => Z (9 * 13 + i)) Na0 (fun i => Y3 (9 * 7 + i)) := primR_congr (a := fun i => Y2 (9 * 7 + i)) y3a (fun i hi => (e7 i hi).symm) (fun _ _ => rfl)
  have e33 : ∀ i : Nat, i < Nb0 → Y3 (9 * 3 + i) = Z (9 * 14 + i) := fun i hi => (y3b _ (by omega) (by omega) (by omega) (by omega) (by omega)).trans (e3 i hi)
  refine w_aload_n C dX5_findCommon_21 0 rfl ?_
  refine w_iconst C dX5_findCommon_22 ?_
  refine m_callv [.int (iZ (3))] hsz C (fun z => cm_makePrimitive l D Q G g3L g3S g3N (upd (upd fD 7 (iZ ((Na0 : Int) - 1))) 3 (iZ ((Nb0 : Int) - 1))) X Y3 3 Nb0 hZ3 (by omega) upd_eq hNb (fun i hi => by rw [e33 i hi]; have g : ((Z (9 * 14 + i)).natAbs : Int) ≤ 2 ^ 1200 := hBb i hi; omega) (fun i hi => by rw [e33 i (by omega)]; exact hlb i hi) z) (cwV 1 C.1.2.2.2.2 (wC_V kX5_97 nX5_makePrimitive slX5_makePrimitive iniX5 cdX5_makePrimitive) rfl rfl rfl (by decide +kernel) ⟨Nat.le_of_ble_eq_true rfl, Nat.le_of_ble_eq_true rfl⟩) rfl ⟨Nat.zero_le _, Nat.zero_le _⟩ (Nat.le_of_ble_eq_true rfl) dX5_findCommon_23 [.int (iZ (3)), .ref (Q 0)] rfl (fun v4 hv4 => ?_)
  obtain ⟨Y4, ⟨g4L, g4S, g4N, hZ4, rfl⟩, y4a, y4b⟩ := hv4
  have hpb : primR (fun i => Z (9 * 14 + i)) Nb0 (fun i => Y4 (9 * 3 + i)) := primR_congr (a := fun i => Y3 (9 * 3 + i)) y4a (fun i hi => (e33 i hi).symm) (fun _ _ => rfl)
  have hpa : primR (fun i => Z (9 * 13 + i)) Na0 (fun i => Y4 (9 * 7 + i)) := primR_congr hpa3 (fun _ _ => rfl) (fun i hi => y4b _ (by omega) (by omega) (by omega) (by omega) (by omega))
  have loop : ∀ (d : Nat) (a : Nat → Int) (Na : Nat) (b : Nat → Int) (Nb : Nat) (Y : Nat → Int) (kL : Nat → Int32) (kS : Nat → Int32) (kN : Nat → Int32) (gD : Nat → Int32), Nb < d → (∀ h : Nat, mAll kL kS kN Y → gD 7 = iZ ((Na : Int) - 1) → gD 3 = iZ ((Nb : Int) - 1) → Na ≤ 9 → Nb ≤ 9 → Nb ≤ h → (∀ q : Nat, q ≠ 2 → q ≠ 3 → q ≠ 4 → q ≠ 7 → gD q = fD q) → (∀ i : Nat, i < Na → Y (9 * 7 + i) = a i) → (∀ i : Nat, i < Nb → Y (9 * 3 + i) = b i) → ldn a Na → ldn b Nb → FZ h a Na b Nb → (∀ (G : Nat → Int) (NG : Nat), FC h a Na b Nb G NG → (fun (G : Nat → Int) (NG : Nat) => ∃ a1 b1 : Nat → Int, primR (fun i => Z (9 * 13 + i)) Na0 a1 ∧ primR (fun i => Z (9 * 14 + i)) Nb0 b1 ∧ FC 9 a1 Na0 b1 Nb0 G NG) G NG) → (∀ c : Nat, (c < 18 ∨ 45 ≤ c) → (c < 63 ∨ 72 ≤ c) → c < 135 → Y c = Z c) → ZW p l e ({ frames := 5, cells := 0, slots := 0, locals := 125 }) s m ([.ref (Q 0)] : List Value).toArray below meth c D (mA Q sz) 1 0 0 (MQ below (va_Qv (fun u : mT => ∃ (Y : Nat → Int) (gD : Nat → Int32) (NG : Nat), mPost gD X Y u ∧ gD 7 = iZ ((NG : Int) - 1) ∧ NG ≤ 9 ∧ ldn (fun i => Y (9 * 7 + i)) NG ∧ okP (fun i => Y (9 * 7 + i)) NG ∧ (fun (G : Nat → Int) (NG : Nat) => ∃ a1 b1 : Nat → Int, primR (fun i => Z (9 * 13 + i)) Na0 a1 ∧ primR (fun i => Z (9 * 14 + i)) Nb0 b1 ∧ FC 9 a1 Na0 b1 Nb0 G NG) (fun i => Y (9 * 7 + i)) NG ∧ (∀ q : Nat, q ≠ 2 → q ≠ 3 → q ≠ 4 → q ≠ 7 → gD q = fD q) ∧ ∀ c : Nat, (c < 18 ∨ 45 ≤ c) → (c < 63 ∨ 72 ≤ c) → c < 135 → Y c = Z c) (mAt D Q G (mA Q sz)) (mA Q sz)) ([.ref (Q 0)] : List Value).toArray s 0 0 (mA Q sz)) (mU Q G (kL, kS, kN, gD, X)) 26 [(0, .ref (Q 0))] []) := by
    intro d
    induction d with
    | zero =>
      intro a Na b Nb Y kL kS kN gD hd
      exact absurd hd (by omega)
    | succ d ih2 =>
      intro a Na b Nb Y kL kS kN gD hd h hZ hg7 hg3 hna hnb hnh hgq ha2 hb2 hla2 hlb2 hFZ K hfr
      refine w_aload_n C dX5_findCommon_26 0 rfl ?_
      refine w_get (ci := 5) (ref := "RootIsolatorModel") (T := TX5) (Cn := RX5) (N := 10) C (fun w h => wC_in (inX5 w h)) 0 rfl rfl 4 (by decide) (wC_in fX5_degrees) rfl rfl dX5_findCommon_27 ?_
      refine w_iconst C dX5_findCommon_30 ?_
      refine w_iald C 4 0 rfl rfl (3) ((Nb : Int) - 1) ⟨by omega, by omega, by omega⟩ (hg3) dX5_findCommon_31 ?_
      refine w_if_lt C 82 dX5_findCommon_32 (by decide) ⟨by omega, by omega⟩ (fun c32 => ?_) (fun c32 => ?_)
      · have hend : FC h a Na b Nb (fun i => Y (9 * 7 + i)) Na := by
          cases h with
          | zero => exact ⟨rfl, ha2⟩
          | succ h => exact Or.inl ⟨by omega, rfl, ha2⟩
        exact m_vret hsz C hr hlk (⟨Y, gD, Na, ⟨_, _, _, hZ, rfl⟩, hg7, hna, (fun i hi => by show Y (9 * 7 + i) ≠ 0; rw [ha2 i (by omega)]; exact hla2 i hi), (fun i hi => by show ((Y (9 * 7 + i)).natAbs : Int) ≤ _; rw [ha2 i hi]; exact (FZ_ok hFZ).1 i hi), K _ _ hend, hgq, hfr⟩) dX5_findCommon_82
      · obtain ⟨h, rfl⟩ : ∃ k, h = k + 1 := ⟨h - 1, by omega⟩
        refine w_aload_n C dX5_findCommon_35 0 rfl ?_
        refine w_iconst C dX5_findCommon_36 ?_
        refine w_bipush C dX5_findCommon_37 (by decide) ?_
        refine m_callv [.int (iZ (2)), .int (iZ (7))] hsz C (fun z => cm_copyRow l D Q G kL kS kN gD X Y 2 7 Na hZ (by omega) (by omega) hg7 hna z) (cwV 2 C.1.2.2.2.2 (wC_V kX5_94 nX5_copyRow slX5_copyRow iniX5 cdX5_copyRow) rfl rfl rfl (by decide +kernel) ⟨Nat.le_of_ble_eq_true rfl, Nat.le_of_ble_eq_true rfl⟩) rfl ⟨Nat.zero_le _, Nat.zero_le _⟩ (Nat.le_of_ble_eq_true rfl) dX5_findCommon_39 [.int (iZ (7)), .int (iZ (2)), .ref (Q 0)] rfl (fun v105 hv105 => ?_)
        obtain ⟨Y1, ⟨uL, uS, uN, hZ1, rfl⟩, a1, a2⟩ := hv105
        refine w_aload_n C dX5_findCommon_42 0 rfl ?_
        refine w_bipush C dX5_findCommon_43 (by decide) ?_
        refine w_iconst C dX5_findCommon_45 ?_
        refine m_callv [.int (iZ (7)), .int (iZ (3))] hsz C (fun z => cm_copyRow l D Q G uL uS uN (upd gD 2 (iZ ((Na : Int) - 1))) X Y1 7 3 Nb hZ1 (by omega) (by omega) ((upd_ne (by omega)).trans hg3) hnb z) (cwV 2 C.1.2.2.2.2 (wC_V kX5_94 nX5_copyRow slX5_copyRow iniX5 cdX5_copyRow) rfl rfl rfl (by decide +kernel) ⟨Nat.le_of_ble_eq_true rfl, Nat.le_of_ble_eq_true rfl⟩) rfl ⟨Nat.zero_le _, Nat.zero_le _⟩ (Nat.le_of_ble_eq_true rfl) dX5_findCommon_46 [.int (iZ (3)), .int (iZ (7)), .ref (Q 0)] rfl (fun v106 hv106 => ?_)
        obtain ⟨Y2, ⟨tL, tS, tN, hZ2, rfl⟩, b1, b2⟩ := hv106
        have ra : ∀ i : Nat, i < Na → Y2 (9 * 2 + i) = a i := fun i hi => by rw [b2 _ (by omega), a1 i hi]; exact ha2 i hi
        have rb : ∀ i : Nat, i < Nb → Y2 (9 * 3 + i) = b i := fun i hi => by rw [b2 _ (by omega), a2 _ (by omega)]; exact hb2 i hi
        have r7 : ∀ i : Nat, i < Nb → Y2 (9 * 7 + i) = b i := fun i hi => by rw [b1 i hi, a2 _ (by omega)]; exact hb2 i hi
        have rf : ∀ c : Nat, (c < 18 ∨ 45 ≤ c) → (c < 63 ∨ 72 ≤ c) → c < 135 → Y2 c = Z c := fun c c1 c2 c3 => by rw [b2 _ (by omega), a2 _ (by omega)]; exact hfr c c1 c2 c3
        have hoka := (FZ_ok hFZ).1
        have hokb := (FZ_ok hFZ).2
        refine w_aload_n C dX5_findCommon_49 0 rfl ?_
        refine w_get (ci := 5) (ref := "RootIsolatorModel") (T := TX5) (Cn := RX5) (N := 10) C (fun w h => wC_in (inX5 w h)) 0 rfl rfl 4 (by decide) (wC_in fX5_degrees) rfl rfl dX5_findCommon_50 ?_
        refine w_iconst C dX5_findCommon_53 ?_
        refine w_iald C 4 0 rfl rfl (2) ((Na : Int) - 1) ⟨by omega, by omega, by omega⟩ (((upd_ne (by omega)).trans upd_eq : (upd (upd gD 2 (iZ ((Na : Int) - 1))) 7 (iZ ((Nb : Int) - 1))) 2 = _)) dX5_findCommon_54 ?_
        refine w_aload_n C dX5_findCommon_55 0 rfl ?_
        refine w_get (ci := 5) (ref := "RootIsolatorModel") (T := TX5) (Cn := RX5) (N := 10) C (fun w h => wC_in (inX5 w h)) 0 rfl rfl 4 (by decide) (wC_in fX5_degrees) rfl rfl dX5_findCommon_56 ?_
        refine w_iconst C dX5_findCommon_59 ?_
        refine w_iald C 4 0 rfl rfl (3) ((Nb : Int) - 1) ⟨by omega, by omega, by omega⟩ (((upd_ne (by omega)).trans ((upd_ne (by omega)).trans hg3) : (upd (upd gD 2 (iZ ((Na : Int) - 1))) 7 (iZ ((Nb : Int) - 1))) 3 = _)) dX5_findCommon_60 ?_
        have beh : ∀ (V : Nat → Int) (vL : Nat → Int32) (vS : Nat → Int32) (vN : Nat → Int32) (hD : Nat → Int32) (Nr : Nat), mAll vL vS vN V → hD 2 = iZ ((Nr : Int) - 1) → hD 3 = iZ ((Nb : Int) - 1) → hD 7 = iZ ((Nb : Int) - 1) → (∀ q : Nat, q ≠ 2 → q ≠ 3 → q ≠ 4 → q ≠ 7 → hD q = fD q) → Nr < Nb → ldn (fun i => V (9 * 2 + i)) Nr → (∀ i : Nat, i < Nr → ((V (9 * 2 + i)).natAbs : Int) < 2 ^ (31 * 638)) → (∀ i : Nat, i < Nb → V (9 * 7 + i) = b i) → (∀ r : Nat → Int, primR (fun i => V (9 * 2 + i)) Nr r → stepR a Na b Nb r Nr) → (∀ c : Nat, (c < 18 ∨ 45 ≤ c) → (c < 63 ∨ 72 ≤ c) → c < 135 → V c = Z c) → ZW p l e ({ frames := 5, cells := 0, slots := 0, locals := 125 }) s m ([.ref (Q 0)] : List Value).toArray below meth c D (mA Q sz) 1 0 0 (MQ below (va_Qv (fun u : mT => ∃ (Y : Nat → Int) (gD : Nat → Int32) (NG : Nat), mPost gD X Y u ∧ gD 7 = iZ ((NG : Int) - 1) ∧ NG ≤ 9 ∧ ldn (fun i => Y (9 * 7 + i)) NG ∧ okP (fun i => Y (9 * 7 + i)) NG ∧ (fun (G : Nat → Int) (NG : Nat) => ∃ a1 b1 : Nat → Int, primR (fun i => Z (9 * 13 + i)) Na0 a1 ∧ primR (fun i => Z (9 * 14 + i)) Nb0 b1 ∧ FC 9 a1 Na0 b1 Nb0 G NG) (fun i => Y (9 * 7 + i)) NG ∧ (∀ q : Nat, q ≠ 2 → q ≠ 3 → q ≠ 4 → q ≠ 7 → gD q = fD q) ∧ ∀ c : Nat, (c < 18 ∨ 45 ≤ c) → (c < 63 ∨ 72 ≤ c) → c < 135 → Y c = Z c) (mAt D Q G (mA Q sz)) (mA Q sz)) ([.ref (Q 0)] : List Value).toArray s 0 0 (mA Q sz)) (mU Q G (vL, vS, vN, hD, X)) 68 [(0, .ref (Q 0))] [] := by
          intro V vL vS vN hD Nr hZv v2 v3 v7 vq vr vl vb vbb vst vf
          refine w_aload_n C dX5_findCommon_68 0 rfl ?_
          refine w_iconst C dX5_findCommon_69 ?_
          refine m_callv [.int (iZ (2))] hsz C (fun z => cm_makePrimitive l D Q G vL vS vN hD X V 2 Nr hZv (by omega) v2 (by omega) vb (fun i hi => vl i hi) z) (cwV 1 C.1.2.2.2.2 (wC_V kX5_97 nX5_makePrimitive slX5_makePrimitive iniX5 cdX5_makePrimitive) rfl rfl rfl (by decide +kernel) ⟨Nat.le_of_ble_eq_true rfl, Nat.le_of_ble_eq_true rfl⟩) rfl ⟨Nat.zero_le _, Nat.zero_le _⟩ (Nat.le_of_ble_eq_true rfl) dX5_findCommon_70 [.int (iZ (2)), .ref (Q 0)] rfl (fun v207 hv207 => ?_)
          obtain ⟨O, ⟨oL, oS, oN, hZo, rfl⟩, o1, o2⟩ := hv207
          have hst := vst (fun i => O (9 * 2 + i)) o1
          have hlr := prim_ldn (e := fun i => O (9 * 2 + i)) o1 vl
          have hFr := hFZ.2.2 _ Nr (by omega) hst hlr
          have hokr := (FZ_ok hFr).2
          refine w_aload_n C dX5_findCommon_73 0 rfl ?_
          refine w_iconst C dX5_findCommon_74 ?_
          refine w_iconst C dX5_findCommon_75 ?_
          refine m_callv [.int (iZ (3)), .int (iZ (2))] hsz C (fun z => cm_copyRow l D Q G oL oS oN hD X O 3 2 Nr hZo (by omega) (by omega) v2 (by omega) z) (cwV 2 C.1.2.2.2.2 (wC_V kX5_94 nX5_copyRow slX5_copyRow iniX5 cdX5_copyRow) rfl rfl rfl (by decide +kernel) ⟨Nat.le_of_ble_eq_true rfl, Nat.le_of_ble_eq_true rfl⟩) rfl ⟨Nat.zero_le _, Nat.zero_le _⟩ (Nat.le_of_ble_eq_true rfl) dX5_findCommon_76 [.int (iZ (2)), .int (iZ (3)), .ref (Q 0)] rfl (fun v208 hv208 => ?_)
          obtain ⟨P, ⟨xL, xS, xN, hZx, rfl⟩, x1, x2⟩ := hv208
          refine w_goto C 26 dX5_findCommon_79 (by decide) ?_
          exact ih2 b Nb (fun i => O (9 * 2 + i)) Nr P _ _ _ _ (by omega) h hZx ((upd_ne (by omega)).trans v7) upd_eq (by omega) (by omega) (by omega) (fun q q1 q2 q3 q4 => (upd_ne q2).trans (vq q q1 q2 q3 q4)) (fun i hi => by rw [x2 _ (by omega), o2 _ (by omega) (by omega) (by omega) (by omega) (by omega)]; exact vbb i hi) (fun i hi => x1 i hi) hlb2 hlr hFr (fun G NG g => K G NG (Or.inr ⟨by omega, _, Nr, hst, hlr, g⟩)) (fun c c1 c2 c3 => by rw [x2 _ (by omega), o2 _ (by omega) (by omega) (by omega) (by omega) (by omega)]; exact vf c c1 c2 c3)
        refine w_icmp_lt C 68 dX5_findCommon_61 (by decide) ⟨⟨by omega, by omega⟩, by omega, by omega⟩ (fun c61 => ?_) (fun c61 => ?_)
        · exact beh Y2 _ _ _ _ Na hZ2 ((upd_ne (by omega)).trans upd_eq) ((upd_ne (by omega)).trans ((upd_ne (by omega)).trans hg3)) upd_eq (fun q c1 c2 c3 c4 => (upd_ne c4).trans ((upd_ne c1).trans (hgq q c1 c2 c3 c4))) (by omega) (fun i hi => by
            show Y2 (9 * 2 + i) ≠ 0
            rw [ra i (by omega)]; exact hla2 i hi) (fun i hi => by rw [ra i hi]; have := hoka i hi; omega) r7 (fun r hr3 => ⟨_, by omega, (fun i hi => by
            show Y2 (9 * 2 + i) ≠ 0
            rw [ra i (by omega)]; exact hla2 i hi), hr3, Or.inl ⟨by omega, rfl, fun i hi => ra i hi⟩⟩) rf
        · refine w_aload_n C dX5_findCommon_64 0 rfl ?_
          refine m_callv [] hsz C (fun z => cm_reduce l D Q G tL tS tN (upd (upd gD 2 (iZ ((Na : Int) - 1))) 7 (iZ ((Nb : Int) - 1))) X Y2 Na Nb 400 39 (2 ^ 1200) (2 ^ 1200) hZ2 ((upd_ne (by omega)).trans upd_eq) ((upd_ne (by omega)).trans ((upd_ne (by omega)).trans hg3)) hna (by omega) (by omega) (by rw [ra _ (by omega)]; exact hla2 _ (by omega)) (by rw [rb _ (by omega)]; exact hlb2 _ (by omega)) (Int.le_of_lt (i2pos _)) (by have := i2pos 1200; omega) (fun i hi => by rw [ra i hi]; exact hoka i hi) (fun i hi => by rw [rb i hi]; exact hokb i hi) bnd1 (i2lt (by omega)) (by omega) z) (cwV 0 C.1.2.2.2.2 (wC_V kX5_101 nX5_reduce slX5_reduce iniX5 cdX5_reduce) rfl rfl rfl (by decide +kernel) ⟨Nat.le_of_ble_eq_true rfl, Nat.le_of_ble_eq_true rfl⟩) rfl ⟨Nat.zero_le _, Nat.zero_le _⟩ (Nat.le_of_ble_eq_true rfl) dX5_findCommon_65 [.ref (Q 0)] rfl (fun v309 hv309 => ?_)
          obtain ⟨R2, sD2, Nr, kx, ⟨sL2, sS2, sN2, hZr, rfl⟩, q2, q4, qo, q5, q6, q7, q8, q9, q10, q11, q12, q13⟩ := hv309
          exact beh R2 _ _ _ _ Nr hZr q2 ((qo 3 (by omega) (by omega)).trans ((upd_ne (by omega)).trans ((upd_ne (by omega)).trans hg3))) ((qo 7 (by omega) (by omega)).trans upd_eq) (fun q c1 c2 c3 c4 => (qo q c1 c3).trans ((upd_ne c4).trans ((upd_ne c1).trans (hgq q c1 c2 c3 c4)))) q5 (fun i hi => q6 i hi) (fun i hi => bnd2 (by omega) (q11 i hi)) (fun i hi => by rw [q13 _ (by omega) (by omega) (by omega) (by omega)]; exact r7 i hi) (fun r hr3 => ⟨_, q5, fun i hi => q6 i hi, hr3, Or.inr ⟨by omega, (fun i => R2 (9 * 4 + i)), kx, q7, q8, q10, fun t => by
            have g := q9 t
            rw [rb (Nb - 1) (by omega), ev_congr (c := fun i => Y2 (9 * 2 + i)) (e := a) ra, ev_congr (c := fun i => Y2 (9 * 3 + i)) (e := b) rb] at g
            exact g⟩⟩) (fun c c1 c2 c3 => by rw [q13 _ (by omega) (by omega) (by omega) (by omega)]; exact rf c c1 c2 c3)
  have t1 : okP (fun i => Y4 (9 * 7 + i)) Na0 := fun i hi => (FZ_ok (hF _ _ hpa hpb)).1 i hi
  exact loop (Nb0 + 1) (fun i => Y4 (9 * 7 + i)) Na0 (fun i => Y4 (9 * 3 + i)) Nb0 Y4 _ _ _ _ (by omega) 9 hZ4 ((upd_ne (by omega)).trans upd_eq) upd_eq hNa hNb hNb (fun q q1 q2 q3 q4 => (upd_ne q2).trans (upd_ne q4)) (fun _ _ => rfl) (fun _ _ => rfl) (prim_ldn hpa hla) (prim_ldn hpb hlb) (hF _ _ hpa hpb) (fun G NG g => ⟨_, _, hpa, hpb, g⟩) (fun c c1 c2 c3 => by rw [y4b _ (by omega) (by omega) (by omega) (by omega) (by omega), y3b _ (by omega) (by omega) (by omega) (by omega) (by omega), y2b _ (by omega), y1b _ (by omega)])
