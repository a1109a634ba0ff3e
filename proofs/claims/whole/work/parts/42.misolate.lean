set_option maxHeartbeats 4000000 in
set_option maxRecDepth 100000 in
/-- isolate -/
theorem cm_isolate (l : Launch) (D : va_G) (Q : Nat → Nat) (G : Nat → ClassId) (fL fS fN fD : Nat → Int32) (X : mX) (Z : Nat → Int) (ex N : Nat) (hZ : mAll fL fS fN Z) (hex : ex ≤ 30) (hT : topN X.2.2.2.2.2.1 N) (hC : N ≠ 0 → (∀ a1 b1 : Nat → Int, primR (gz X.2.2.2.2.2.1) N a1 → primR (der (gz X.2.2.2.2.2.1)) (N - 1) b1 → FZ 9 a1 N b1 (N - 1)) ∧ ∀ (f : Nat → Int) (Nf : Nat) (G : Nat → Int) (NG : Nat), freeR (gz X.2.2.2.2.2.1) N f Nf G NG → IKl Nf ex 62 (mvd f Nf (-1152921504606846976) 2305843009213693952) 0 8) (sz : Nat) : Met l yX5_isolate (wC yX5_isolate cX5_isolate 9 (some .int)) ({ frames := 7, cells := 0, slots := 0, locals := 176 }) (va_Pc [.ref (Q 0), .int (iZ ((ex : Int)))] (mPre D Q G (fL, fS, fN, fD, X) sz)) (va_Qi (fun (q : Int32) (u : mT) => (N = 0 ∧ q = iZ (-3) ∧ mScr (xF X (iZ 0) (iZ 0)) u) ∨ (N ≠ 0 ∧ ∃ (f : Nat → Int) (Nf : Nat) (G : Nat → Int) (NG : Nat), freeR (gz X.2.2.2.2.2.1) N f Nf G NG ∧ ldn f Nf ∧ ((IRl Nf ex 62 (mvd f Nf (-1152921504606846976) 2305843009213693952) 0 0 none ∧ q = iZ (-4) ∧ ∃ (lf : Nat → Int32) (cf : Nat → Int64), mScr (xI X (iZ 0) (iZ 0) lf cf X.2.2.2.2.1) u) ∨ ∃ r : List (Int × Int), IRl Nf ex 62 (mvd f Nf (-1152921504606846976) 2305843009213693952) 0 0 (some r) ∧ r.length ≤ 8 ∧ q = iZ (r.length : Int) ∧ mScr (xI X (iZ 1) (iZ (r.length : Int)) (apL X.2.2.1 0 r) (apC X.2.2.2.1 0 r) X.2.2.2.2.1) u))) (mAt D Q G (mA Q sz)) (mA Q sz)) 0 0 (mA Q sz) := by
  refine m_met (cc := cX5_isolate) (maxL := 9) (ret := (some .int)) (by decide) rfl rfl (Nat.le_of_ble_eq_true rfl) ?_
  intro p e s m below meth c hsz C hr hlk
  refine w_sub [(0, .ref (Q 0)), (1, .int (iZ ((ex : Int))))] [0, 1] rfl ?_
  refine w_iload_n C dX5_isolate_0 1 rfl ?_
  refine w_i2l C dX5_isolate_1 ⟨by omega, by omega⟩ ?_
  refine w_lconst C 0 dX5_isolate_2 rfl ?_
  refine w_ldc2 C (30) dX5_isolate_3 (wC_in kclX5_159) ?_
  refine m_callSi [.long (lZ ((ex : Int))), .long (lZ (0)), .long (lZ (30))] hsz C (fun z => cm_in l D Q G fL fS fN fD X ((ex : Int)) (0) (30) (by omega) (by omega) (by omega) z) (cwS 3 C.1.2.2.2.2 (wC_S kX5_132 stX5_in iniX5 cdX5_in) rfl rfl rfl (by decide +kernel) ⟨Nat.le_of_ble_eq_true rfl, Nat.le_of_ble_eq_true rfl⟩) rfl ⟨Nat.zero_le _, Nat.zero_le _⟩ (Nat.le_of_ble_eq_true rfl) dX5_isolate_6 [.long (lZ (30)), .long (lZ (0)), .long (lZ ((ex : Int)))] rfl (fun r v1 hv1 => ?_)
  obtain ⟨rfl, rfl⟩ := hv1
  refine w_top C (1) (if_pos (by omega)) ?_
  refine w_if_ne C 15 dX5_isolate_9 (by decide) ⟨by omega, by omega⟩ (fun c9 => ?_) (fun c9 => ?_)
  · refine w_aload_n C dX5_isolate_15 0 rfl ?_
    refine m_callv [] hsz C (fun z => cm_forget l D Q G fL fS fN fD X  z) (cwV 0 C.1.2.2.2.2 (wC_V kX5_150 nX5_forget slX5_forget iniX5 cdX5_forget) rfl rfl rfl (by decide +kernel) ⟨Nat.le_of_ble_eq_true rfl, Nat.le_of_ble_eq_true rfl⟩) rfl ⟨Nat.zero_le _, Nat.zero_le _⟩ (Nat.le_of_ble_eq_true rfl) dX5_isolate_16 [.ref (Q 0)] rfl (fun v2 hv2 => ?_)
    obtain rfl := hv2
    refine w_aload_n C dX5_isolate_19 0 rfl ?_
    refine w_iconst C dX5_isolate_20 ?_
    refine m_calli [.int (iZ (0))] hsz C (fun z => cm_degreeOf0 l D Q G fL fS fN fD (xF X (iZ 0) (iZ 0))  z) (cwV 1 C.1.2.2.2.2 (wC_V kX5_153 nX5_degreeOf slX5_degreeOf iniX5 cdX5_degreeOf) rfl rfl rfl (by decide +kernel) ⟨Nat.le_of_ble_eq_true rfl, Nat.le_of_ble_eq_true rfl⟩) rfl ⟨Nat.zero_le _, Nat.zero_le _⟩ (Nat.le_of_ble_eq_true rfl) dX5_isolate_21 [.int (iZ (0)), .ref (Q 0)] rfl (fun r v3 hv3 => ?_)
    obtain ⟨⟨qn, hqn, rfl⟩, rfl⟩ := hv3
    have hq9 := hqn.1
    have eqn : qn = N := topN_u hqn hT
    refine w_top C ((N : Int) - 1) (by omega) ?_
    refine w_if_ge C 30 dX5_isolate_24 (by decide) (by have := hT.1; omega) (fun c24 => ?_) (fun c24 => ?_)
    · obtain ⟨hC1, hC2⟩ := hC (by omega)
      refine w_aload_n C dX5_isolate_30 0 rfl ?_
      refine w_iconst C dX5_isolate_31 ?_
      refine w_iconst C dX5_isolate_32 ?_
      refine m_callv [.int (iZ (0)), .int (iZ (0))] hsz C (fun z => cm_take0 l D Q G fL fS fN fD (xF X (iZ 0) (iZ 0)) Z 0 hZ (by omega) z) (cwV 2 C.1.2.2.2.2 (wC_V kX5_165 nX5_take slX5_take iniX5 cdX5_take) rfl rfl rfl (by decide +kernel) ⟨Nat.le_of_ble_eq_true rfl, Nat.le_of_ble_eq_true rfl⟩) rfl ⟨Nat.zero_le _, Nat.zero_le _⟩ (Nat.le_of_ble_eq_true rfl) dX5_isolate_33 [.int (iZ (0)), .int (iZ (0)), .ref (Q 0)] rfl (fun v4 hv4 => ?_)
      obtain ⟨Y1, j0, ⟨g1L, g1S, g1N, hZ1, rfl⟩, a1, a2, a3, a4, a5⟩ := hv4
      have ej : j0 = N := topN_u ⟨a1, a2, a3⟩ hT
      subst ej
      have e0 : ∀ i : Nat, i < j0 → Y1 (9 * 0 + i) = gz X.2.2.2.2.2.1 i := fun i hi => a4 i (by omega)
      refine w_aload_n C dX5_isolate_36 0 rfl ?_
      refine w_iconst C dX5_isolate_37 ?_
      refine w_iconst C dX5_isolate_38 ?_
      refine m_callv [.int (iZ (5)), .int (iZ (0))] hsz C (fun z => cm_makeFree l D Q G g1L g1S g1N (upd fD 0 (iZ ((j0 : Int) - 1))) (xF X (iZ 0) (iZ 0)) Y1 5 0 j0 hZ1 (Or.inl rfl) (by omega) upd_eq a1 (by omega) (fun i hi => by show Y1 (9 * 0 + i) ≠ 0; rw [e0 i (by omega)]; exact gz_ldn hT i hi) (fun i hi => by rw [e0 i hi]; exact gz_abs _ _) (fun x1 x2 h1 h2 => hC1 x1 x2 (primR_left h1 e0) (primR_left h2 (fun i hi => congrArg (· * ((i + 1 : Nat) : Int)) (e0 (i + 1) (by omega))))) z) (cwV 2 C.1.2.2.2.2 (wC_V kX5_168 nX5_makeFree slX5_makeFree iniX5 cdX5_makeFree) rfl rfl rfl (by decide +kernel) ⟨Nat.le_of_ble_eq_true rfl, Nat.le_of_ble_eq_true rfl⟩) rfl ⟨Nat.zero_le _, Nat.zero_le _⟩ (Nat.le_of_ble_eq_true rfl) dX5_isolate_39 [.int (iZ (0)), .int (iZ (5)), .ref (Q 0)] rfl (fun v5 hv5 => ?_)
      obtain ⟨Y2, gD, NG, ⟨g2L, g2S, g2N, hZ2, rfl⟩, m5, m7, mN, mP, ml7, mo7, ml5, mfr, mfb, mq, mf⟩ := hv5
      have hfree := freeR_congr mfr e0
      refine w_aload_n C dX5_isolate_42 0 rfl ?_
      refine w_bipush C dX5_isolate_43 (by decide) ?_
      refine w_iconst C dX5_isolate_45 ?_
      refine w_ldc2 C (-1152921504606846976) dX5_isolate_46 (wC_in kclX5_187) ?_
      refine w_ldc2 C (2305843009213693952) dX5_isolate_49 (wC_in kclX5_189) ?_
      refine m_callv [.int (iZ (8)), .int (iZ (5)), .long (lZ ((-1152921504606846976))), .long (lZ (2305843009213693952))] hsz C (fun z => cm_move l D Q G g2L g2S g2N gD (xF X (iZ 0) (iZ 0)) Y2 8 5 (j0 - NG + 1) (-1152921504606846976) 2305843009213693952 (2 ^ 12009) (2 ^ 61) hZ2 (by omega) (by omega) (by omega) m5 (by omega) (by omega) (by omega) (Int.le_of_lt (i2pos _)) (by decide) (by decide) (by decide) (fun i hi => mfb i hi) (bnd4 (by decide) (Int.le_refl _)) z) (cwV 4 C.1.2.2.2.2 (wC_V kX5_171 nX5_move slX5_move iniX5 cdX5_move) rfl rfl rfl (by decide +kernel) ⟨Nat.le_of_ble_eq_true rfl, Nat.le_of_ble_eq_true rfl⟩) rfl ⟨Nat.zero_le _, Nat.zero_le _⟩ (Nat.le_of_ble_eq_true rfl) dX5_isolate_52 [.long (lZ (2305843009213693952)), .long (lZ ((-1152921504606846976))), .int (iZ (5)), .int (iZ (8)), .ref (Q 0)] rfl (fun v6 hv6 => ?_)
      obtain ⟨Y3, ⟨g3L, g3S, g3N, hZ3, rfl⟩, v1, v2⟩ := hv6
      refine w_iconst C dX5_isolate_55 ?_
      refine w_istore_n C [(2, .int (iZ (0))), (0, .ref (Q 0)), (1, .int (iZ ((ex : Int))))] dX5_isolate_56 rfl (by decide) rfl ?_
      refine w_lconst C 0 dX5_isolate_57 rfl ?_
      refine w_lstore_n C [(3, .long (lZ (0))), (2, .int (iZ (0))), (0, .ref (Q 0)), (1, .int (iZ ((ex : Int))))] dX5_isolate_58 rfl (by decide) rfl ?_
      refine w_iconst C dX5_isolate_59 ?_
      refine w_istore C [(5, .int (iZ (1))), (3, .long (lZ (0))), (2, .int (iZ (0))), (0, .ref (Q 0)), (1, .int (iZ ((ex : Int))))] dX5_isolate_60 (by decide) rfl ?_
      have node : ∀ (g : Nat) (dp : Nat) (pl : Int) (c0 : Nat → Int) (b : Nat) (mn : Nat) (lf : Nat → Int32) (cf : Nat → Int64) (Y : Nat → Int) (kL : Nat → Int32) (kS : Nat → Int32) (kN : Nat → Int32) (gD : Nat → Int32) (fB : Nat → Int32), dp ≤ 61 → 0 ≤ pl ∧ pl < 2 ^ dp → IKl (j0 - NG + 1) ex g c0 dp b → mn + b ≤ 8 → iSt (j0 - NG + 1) c0 Y kL kS kN gD → (IRl (j0 - NG + 1) ex g c0 dp pl none → IRl (j0 - NG + 1) ex 62 (mvd (fun i => Y2 (9 * 5 + i)) (j0 - NG + 1) (-1152921504606846976) 2305843009213693952) 0 0 none) → (∀ (r : List (Int × Int)) (Yz : Nat → Int) (kLz : Nat → Int32) (kSz : Nat → Int32) (kNz : Nat → Int32) (gDz : Nat → Int32) (fBz : Nat → Int32), IRl (j0 - NG + 1) ex g c0 dp pl (some r) → r.length ≤ b → iSt (j0 - NG + 1) (sh1 c0 (j0 - NG + 1)) Yz kLz kSz kNz gDz → ZW p l e ({ frames := 7, cells := 0, slots := 0, locals := 176 }) s m ([.ref (Q 0), .int (iZ ((ex : Int)))] : List Value).toArray below meth c D (mA Q sz) 9 0 0 (MQ below (va_Qi (fun (q : Int32) (u : mT) => (j0 = 0 ∧ q = iZ (-3) ∧ mScr (xF X (iZ 0) (iZ 0)) u) ∨ (j0 ≠ 0 ∧ ∃ (f : Nat → Int) (Nf : Nat) (G : Nat → Int) (NG : Nat), freeR (gz X.2.2.2.2.2.1) j0 f Nf G NG ∧ ldn f Nf ∧ ((IRl Nf ex 62 (mvd f Nf (-1152921504606846976) 2305843009213693952) 0 0 none ∧ q = iZ (-4) ∧ ∃ (lf : Nat → Int32) (cf : Nat → Int64), mScr (xI X (iZ 0) (iZ 0) lf cf X.2.2.2.2.1) u) ∨ ∃ r : List (Int × Int), IRl Nf ex 62 (mvd f Nf (-1152921504606846976) 2305843009213693952) 0 0 (some r) ∧ r.length ≤ 8 ∧ q = iZ (r.length : Int) ∧ mScr (xI X (iZ 1) (iZ (r.length : Int)) (apL X.2.2.1 0 r) (apC X.2.2.2.1 0 r) X.2.2.2.2.1) u))) (mAt D Q G (mA Q sz)) (mA Q sz)) ([.ref (Q 0), .int (iZ ((ex : Int)))] : List Value).toArray s 0 0 (mA Q sz)) (mU Q G (kLz, kSz, kNz, gDz, (xI X (iZ 0) (iZ ((mn + r.length : Nat) : Int)) (apL lf mn r) (apC cf mn r) fBz))) 203 [(3, .long (lZ (pl))), (2, .int (iZ ((dp : Int)))), (0, .ref (Q 0)), (1, .int (iZ ((ex : Int))))] []) → ZW p l e ({ frames := 7, cells := 0, slots := 0, locals := 176 }) s m ([.ref (Q 0), .int (iZ ((ex : Int)))] : List Value).toArray below meth c D (mA Q sz) 9 0 0 (MQ below (va_Qi (fun (q : Int32) (u : mT) => (j0 = 0 ∧ q = iZ (-3) ∧ mScr (xF X (iZ 0) (iZ 0)) u) ∨ (j0 ≠ 0 ∧ ∃ (f : Nat → Int) (Nf : Nat) (G : Nat → Int) (NG : Nat), freeR (gz X.2.2.2.2.2.1) j0 f Nf G NG ∧ ldn f Nf ∧ ((IRl Nf ex 62 (mvd f Nf (-1152921504606846976) 2305843009213693952) 0 0 none ∧ q = iZ (-4) ∧ ∃ (lf : Nat → Int32) (cf : Nat → Int64), mScr (xI X (iZ 0) (iZ 0) lf cf X.2.2.2.2.1) u) ∨ ∃ r : List (Int × Int), IRl Nf ex 62 (mvd f Nf (-1152921504606846976) 2305843009213693952) 0 0 (some r) ∧ r.length ≤ 8 ∧ q = iZ (r.length : Int) ∧ mScr (xI X (iZ 1) (iZ (r.length : Int)) (apL X.2.2.1 0 r) (apC X.2.2.2.1 0 r) X.2.2.2.2.1) u))) (mAt D Q G (mA Q sz)) (mA Q sz)) ([.ref (Q 0), .int (iZ ((ex : Int)))] : List Value).toArray s 0 0 (mA Q sz)) (mU Q G (kL, kS, kN, gD, (xI X (iZ 0) (iZ (mn : Int)) lf cf fB))) 62 [(5, .int (iZ (1))), (3, .long (lZ (pl))), (2, .int (iZ ((dp : Int)))), (0, .ref (Q 0)), (1, .int (iZ ((ex : Int))))] [] := by
        intro g
        induction g with
        | zero =>
          intro dp pl c0 b mn lf cf Y kL kS kN gD fB hdp hpl hok hmb hS T K
          exact hok.elim
        | succ g ih =>
          intro dp pl c0 b mn lf cf Y kL kS kN gD fB hdp hpl hok hmb hS T K
          obtain ⟨⟨M, hM, hB, hM2⟩, h, hh, o2, o3, o4, o5⟩ := hok
          have h9 := le16 hM
          have hpd : (2 : Int) ^ dp ≤ 2 ^ 61 := pow_mono (by decide) hdp
          rw [show (2 : Int) ^ 61 = 2305843009213693952 by decide] at hpd
          have hpd1 : (2 : Int) ^ (dp - 1) ≤ 2 ^ 61 := pow_mono (by decide) (by omega)
          rw [show (2 : Int) ^ 61 = 2305843009213693952 by decide] at hpd1
          refine w_iload C dX5_isolate_62 0 rfl ?_
          refine w_if_eq C 249 dX5_isolate_64 (by decide) ⟨by omega, by omega⟩ (fun c64 => ?_) (fun c64 => ?_)
          · exact absurd c64 (by omega)
          · refine w_aload_n C dX5_isolate_67 3 rfl ?_
            refine w_bipush C dX5_isolate_68 (by decide) ?_
            refine m_calli [.int (iZ (8))] hsz C (fun z => cm_upTo l D Q G kL kS kN gD (xI X (iZ 0) (iZ (mn : Int)) lf cf fB) Y c0 8 (j0 - NG + 1) h hS.1 (by omega) hS.2.1 (by omega) (fun i hi => hS.2.2 i hi) o2 hh z) (cwV 1 C.1.2.2.2.2 (wC_V kX5_175 nX5_upTo slX5_upTo iniX5 cdX5_upTo) rfl rfl rfl (by decide +kernel) ⟨Nat.le_of_ble_eq_true rfl, Nat.le_of_ble_eq_true rfl⟩) rfl ⟨Nat.zero_le _, Nat.zero_le _⟩ (Nat.le_of_ble_eq_true rfl) dX5_isolate_70 [.int (iZ (8)), .ref (Q 0)] rfl (fun r v107 hv107 => ?_)
            obtain ⟨rfl, Yt, tD, tB, ⟨tL, tS, tN, hZt, rfl⟩, d1, d2⟩ := hv107
            obtain ⟨uv, huv⟩ : ∃ z : Int, z = UV (j0 - NG + 1) h c0 := ⟨_, rfl⟩
            rw [← huv]
            have huv0 : 0 ≤ uv := by rw [huv]; exact UV_0 _ _ _
            rw [← huv] at o3 o4 o5
            have hSt : iSt (j0 - NG + 1) c0 Yt tL tS tN tD := ⟨hZt, (d1 8 (by omega) (by omega)).trans hS.2.1, fun i hi => (d2 _ (by omega) (by omega)).trans (hS.2.2 i hi)⟩
            by_cases g0 : uv ≤ 0
            · refine w_istore C [(6, .int (iZ (uv))), (5, .int (iZ (1))), (3, .long (lZ (pl))), (2, .int (iZ ((dp : Int)))), (0, .ref (Q 0)), (1, .int (iZ ((ex : Int))))] dX5_isolate_73 (by decide) rfl ?_
              refine w_iload_n C dX5_isolate_75 3 rfl ?_
              refine w_bipush C dX5_isolate_76 (by decide) ?_
              refine w_isub C dX5_isolate_78 ?_
              refine w_istore C [(7, .int (iZ ((dp : Int) - 31))), (6, .int (iZ (uv))), (5, .int (iZ (1))), (3, .long (lZ (pl))), (2, .int (iZ ((dp : Int)))), (0, .ref (Q 0)), (1, .int (iZ ((ex : Int))))] dX5_isolate_79 (by decide) rfl ?_
              refine w_iload C dX5_isolate_81 1 rfl ?_
              refine w_iconst C dX5_isolate_83 ?_
              refine w_icmp_ne C 97 dX5_isolate_84 (by decide) ⟨⟨by omega, by omega⟩, by omega, by omega⟩ (fun c84 => ?_) (fun c84 => ?_)
              · refine w_iconst C dX5_isolate_97 ?_
                refine w_istore C [(8, .int (iZ (0))), (7, .int (iZ ((dp : Int) - 31))), (6, .int (iZ (uv))), (5, .int (iZ (1))), (3, .long (lZ (pl))), (2, .int (iZ ((dp : Int)))), (0, .ref (Q 0)), (1, .int (iZ ((ex : Int))))] dX5_isolate_98 (by decide) rfl ?_
                refine w_iload C dX5_isolate_100 2 rfl ?_
                refine w_if_le C 125 dX5_isolate_102 (by decide) ⟨by omega, by omega⟩ (fun c102 => ?_) (fun c102 => ?_)
                · refine w_iload C dX5_isolate_125 2 rfl ?_
                  refine w_if_le C 153 dX5_isolate_127 (by decide) ⟨by omega, by omega⟩ (fun c127 => ?_) (fun c127 => ?_)
                  · refine w_iload C dX5_isolate_153 0 rfl ?_
                    refine w_if_eq C 197 dX5_isolate_155 (by decide) ⟨by omega, by omega⟩ (fun c155 => ?_) (fun c155 => ?_)
                    · refine w_aload_n C dX5_isolate_197 6 rfl ?_
                      refine w_bipush C dX5_isolate_198 (by decide) ?_
                      refine m_callv [.int (iZ (8))] hsz C (fun z => cm_shiftRow l D Q G tL tS tN tD (xI X (iZ 0) (iZ (mn : Int)) lf cf tB) Yt 8 (j0 - NG + 1) M hZt (by omega) hSt.2.1 (by omega) hM (fun i hi => by rw [hSt.2.2 i hi]; exact hB i hi) (by have := p639; omega) z) (cwV 1 C.1.2.2.2.2 (wC_V kX5_113 nX5_shiftRow slX5_shiftRow iniX5 cdX5_shiftRow) rfl rfl rfl (by decide +kernel) ⟨Nat.le_of_ble_eq_true rfl, Nat.le_of_ble_eq_true rfl⟩) rfl ⟨Nat.zero_le _, Nat.zero_le _⟩ (Nat.le_of_ble_eq_true rfl) dX5_isolate_200 [.int (iZ (8)), .ref (Q 0)] rfl (fun v208 hv208 => ?_)
                      obtain ⟨Yq, ⟨qL, qS, qN, hZq, rfl⟩, q1, q2⟩ := hv208
                      have hSq : iSt (j0 - NG + 1) (sh1 c0 (j0 - NG + 1)) Yq qL qS qN tD := ⟨hZq, hSt.2.1, fun i hi => (q1 i hi).trans (shf_congr (fun j hj => hSt.2.2 j hj) _ i hi)⟩
                      refine w_sub [(3, .long (lZ (pl))), (2, .int (iZ ((dp : Int)))), (0, .ref (Q 0)), (1, .int (iZ ((ex : Int))))] [4, 5, 6, 7] rfl ?_
                      exact K [] Yq _ _ _ _ _ ⟨h, hh, o2, Or.inl ⟨by rw [← huv]; omega, rfl⟩⟩ (Nat.zero_le _) hSq
                    · exact absurd c155 (by omega)
                  · exact absurd c127 (by omega)
                · exact absurd c102 (by omega)
              · exact absurd c84 (by omega)
            by_cases g1 : uv = 1 ∧ (ex : Int) ≤ (dp : Int) - 31
            · have hb1 : 1 ≤ b := o4 ⟨g1.1, g1.2⟩
              refine w_istore C [(6, .int (iZ (uv))), (5, .int (iZ (1))), (3, .long (lZ (pl))), (2, .int (iZ ((dp : Int)))), (0, .ref (Q 0)), (1, .int (iZ ((ex : Int))))] dX5_isolate_73 (by decide) rfl ?_
              refine w_iload_n C dX5_isolate_75 3 rfl ?_
              refine w_bipush C dX5_isolate_76 (by decide) ?_
              refine w_isub C dX5_isolate_78 ?_
              refine w_istore C [(7, .int (iZ ((dp : Int) - 31))), (6, .int (iZ (uv))), (5, .int (iZ (1))), (3, .long (lZ (pl))), (2, .int (iZ ((dp : Int)))), (0, .ref (Q 0)), (1, .int (iZ ((ex : Int))))] dX5_isolate_79 (by decide) rfl ?_
              refine w_iload C dX5_isolate_81 1 rfl ?_
              refine w_iconst C dX5_isolate_83 ?_
              refine w_icmp_ne C 97 dX5_isolate_84 (by decide) ⟨⟨by omega, by omega⟩, by omega, by omega⟩ (fun c84 => ?_) (fun c84 => ?_)
              · exact absurd c84 (by omega)
              · refine w_iload C dX5_isolate_87 0 rfl ?_
                refine w_iload_n C dX5_isolate_89 6 rfl ?_
                refine w_icmp_lt C 97 dX5_isolate_90 (by decide) ⟨⟨by omega, by omega⟩, by omega, by omega⟩ (fun c90 => ?_) (fun c90 => ?_)
                · exact absurd c90 (by omega)
                · refine w_iconst C dX5_isolate_93 ?_
                  refine w_goto C 98 dX5_isolate_94 (by decide) ?_
                  refine w_istore C [(8, .int (iZ (1))), (7, .int (iZ ((dp : Int) - 31))), (6, .int (iZ (uv))), (5, .int (iZ (1))), (3, .long (lZ (pl))), (2, .int (iZ ((dp : Int)))), (0, .ref (Q 0)), (1, .int (iZ ((ex : Int))))] dX5_isolate_98 (by decide) rfl ?_
                  refine w_iload C dX5_isolate_100 2 rfl ?_
                  refine w_if_le C 125 dX5_isolate_102 (by decide) ⟨by omega, by omega⟩ (fun c102 => ?_) (fun c102 => ?_)
                  · exact absurd c102 (by omega)
                  · refine w_iload C dX5_isolate_105 0 rfl ?_
                    refine w_if_ne C 125 dX5_isolate_107 (by decide) ⟨by omega, by omega⟩ (fun c107 => ?_) (fun c107 => ?_)
                    · refine w_iload C dX5_isolate_125 2 rfl ?_
                      refine w_if_le C 153 dX5_isolate_127 (by decide) ⟨by omega, by omega⟩ (fun c127 => ?_) (fun c127 => ?_)
                      · exact absurd c127 (by omega)
                      · refine w_iload C dX5_isolate_130 0 rfl ?_
                        refine w_if_ne C 153 dX5_isolate_132 (by decide) ⟨by omega, by omega⟩ (fun c132 => ?_) (fun c132 => ?_)
                        · refine w_iload C dX5_isolate_153 0 rfl ?_
                          refine w_if_eq C 197 dX5_isolate_155 (by decide) ⟨by omega, by omega⟩ (fun c155 => ?_) (fun c155 => ?_)
                          · exact absurd c155 (by omega)
                          · refine w_aload_n C dX5_isolate_158 6 rfl ?_
                            refine w_get (ci := 5) (ref := "RootIsolatorModel") (T := TX5) (Cn := RX5) (N := 10) C (fun w h => wC_in (inX5 w h)) 0 rfl rfl 7 (by decide) (wC_in fX5_levels) rfl rfl dX5_isolate_159 ?_
                            refine w_aload_n C dX5_isolate_162 6 rfl ?_
                            refine w_get (ci := 5) (ref := "RootIsolatorModel") (T := TX5) (Cn := RX5) (N := 10) C (fun w h => wC_in (inX5 w h)) 0 rfl rfl 6 (by decide) (wC_in fX5_many) rfl rfl dX5_isolate_163 ?_
                            refine w_topR C ((mn : Int)) (rfl) ?_
                            refine w_iload C dX5_isolate_166 1 rfl ?_
                            refine w_iast C (mU Q G (tL, tS, tN, tD, (xI X (iZ 0) (iZ (mn : Int)) (upd lf (mn) (iZ ((dp : Int) - 31))) cf tB))) 6 0 rfl rfl (mn) ⟨by omega, by omega, by omega⟩ rfl dX5_isolate_168 ?_
                            refine w_aload_n C dX5_isolate_169 6 rfl ?_
                            refine w_get (ci := 5) (ref := "RootIsolatorModel") (T := TX5) (Cn := RX5) (N := 10) C (fun w h => wC_in (inX5 w h)) 0 rfl rfl 8 (by decide) (wC_in fX5_cells) rfl rfl dX5_isolate_170 ?_
                            refine w_aload_n C dX5_isolate_173 6 rfl ?_
                            refine w_get (ci := 5) (ref := "RootIsolatorModel") (T := TX5) (Cn := RX5) (N := 10) C (fun w h => wC_in (inX5 w h)) 0 rfl rfl 6 (by decide) (wC_in fX5_many) rfl rfl dX5_isolate_174 ?_
                            refine w_topR C ((mn : Int)) (rfl) ?_
                            refine w_lload_n C dX5_isolate_177 4 rfl ?_
                            refine w_lconst C 1 dX5_isolate_178 rfl ?_
                            refine w_bipush C dX5_isolate_179 (by decide) ?_
                            refine w_iload C dX5_isolate_181 1 rfl ?_
                            refine w_iadd C dX5_isolate_183 ?_
                            refine w_top C (((dp - 1 : Nat) : Int)) (by omega) ?_
                            refine w_lshl C (dp - 1) dX5_isolate_184 ⟨rfl, by omega⟩ ?_
                            refine w_topl C (2 ^ (dp - 1)) (Int.one_mul _) ?_
                            refine w_lsub C dX5_isolate_185 ?_
                            refine w_last C (mU Q G (tL, tS, tN, tD, (xI X (iZ 0) (iZ (mn : Int)) (upd lf (mn) (iZ ((dp : Int) - 31))) (vp_updL cf (mn) (lZ (pl - (2 ^ (dp - 1))))) tB))) 7 1 rfl rfl (mn) ⟨by omega, by omega, by omega⟩ rfl dX5_isolate_186 ?_
                            refine w_aload_n C dX5_isolate_187 6 rfl ?_
                            refine w_dup C dX5_isolate_188 rfl ?_
                            refine w_get (ci := 5) (ref := "RootIsolatorModel") (T := TX5) (Cn := RX5) (N := 10) C (fun w h => wC_in (inX5 w h)) 0 rfl rfl 6 (by decide) (wC_in fX5_many) rfl rfl dX5_isolate_189 ?_
                            refine w_topR C ((mn : Int)) (rfl) ?_
                            refine w_iconst C dX5_isolate_192 ?_
                            refine w_iadd C dX5_isolate_193 ?_
                            refine w_top C (((mn + 1 : Nat) : Int)) (by omega) ?_
                            refine w_put (ci := 5) (ref := "RootIsolatorModel") (T := TX5) (Cn := RX5) (N := 10) (ty := .int) C (mU Q G (tL, tS, tN, tD, (xI X (iZ 0) ((iZ (((mn + 1 : Nat) : Int)))) (upd lf (mn) (iZ ((dp : Int) - 31))) (vp_updL cf (mn) (lZ (pl - (2 ^ (dp - 1))))) tB))) (fun w h => wC_in (inX5 w h)) tyX5 tyX5_ok nmX5 0 rfl rfl 6 (by decide) (wC_in fX5_many) rfl rfl (by decide +kernel) rfl rfl (Nat.le_of_ble_eq_true rfl) rfl dX5_isolate_194 ?_
                            refine w_aload_n C dX5_isolate_197 6 rfl ?_
                            refine w_bipush C dX5_isolate_198 (by decide) ?_
                            refine m_callv [.int (iZ (8))] hsz C (fun z => cm_shiftRow l D Q G tL tS tN tD (xI X (iZ 0) ((iZ (((mn + 1 : Nat) : Int)))) (upd lf (mn) (iZ ((dp : Int) - 31))) (vp_updL cf (mn) (lZ (pl - (2 ^ (dp - 1))))) tB) Yt 8 (j0 - NG + 1) M hZt (by omega) hSt.2.1 (by omega) hM (fun i hi => by rw [hSt.2.2 i hi]; exact hB i hi) (by have := p639; omega) z) (cwV 1 C.1.2.2.2.2 (wC_V kX5_113 nX5_shiftRow slX5_shiftRow iniX5 cdX5_shiftRow) rfl rfl rfl (by decide +kernel) ⟨Nat.le_of_ble_eq_true rfl, Nat.le_of_ble_eq_true rfl⟩) rfl ⟨Nat.zero_le _, Nat.zero_le _⟩ (Nat.le_of_ble_eq_true rfl) dX5_isolate_200 [.int (iZ (8)), .ref (Q 0)] rfl (fun v409 hv409 => ?_)
                            obtain ⟨Yq, ⟨qL, qS, qN, hZq, rfl⟩, q1, q2⟩ := hv409
                            have hSq : iSt (j0 - NG + 1) (sh1 c0 (j0 - NG + 1)) Yq qL qS qN tD := ⟨hZq, hSt.2.1, fun i hi => (q1 i hi).trans (shf_congr (fun j hj => hSt.2.2 j hj) _ i hi)⟩
                            refine w_sub [(3, .long (lZ (pl))), (2, .int (iZ ((dp : Int)))), (0, .ref (Q 0)), (1, .int (iZ ((ex : Int))))] [4, 5, 6, 7] rfl ?_
                            exact K [((dp : Int) - 31, pl - 2 ^ (dp - 1))] Yq _ _ _ _ _ ⟨h, hh, o2, Or.inr (Or.inl ⟨by rw [← huv]; exact ⟨g1.1, g1.2⟩, rfl⟩)⟩ (o4 ⟨g1.1, g1.2⟩) hSq
                        · exact absurd c132 (by omega)
                    · exact absurd c107 (by omega)
            by_cases g2 : dp = 61
            · refine w_istore C [(6, .int (iZ (uv))), (5, .int (iZ (1))), (3, .long (lZ (pl))), (2, .int (iZ ((dp : Int)))), (0, .ref (Q 0)), (1, .int (iZ ((ex : Int))))] dX5_isolate_73 (by decide) rfl ?_
              refine w_iload_n C dX5_isolate_75 3 rfl ?_
              refine w_bipush C dX5_isolate_76 (by decide) ?_
              refine w_isub C dX5_isolate_78 ?_
              refine w_istore C [(7, .int (iZ ((dp : Int) - 31))), (6, .int (iZ (uv))), (5, .int (iZ (1))), (3, .long (lZ (pl))), (2, .int (iZ ((dp : Int)))), (0, .ref (Q 0)), (1, .int (iZ ((ex : Int))))] dX5_isolate_79 (by decide) rfl ?_
              refine w_iload C dX5_isolate_81 1 rfl ?_
              refine w_iconst C dX5_isolate_83 ?_
              refine w_icmp_ne C 97 dX5_isolate_84 (by decide) ⟨⟨by omega, by omega⟩, by omega, by omega⟩ (fun c84 => ?_) (fun c84 => ?_)
              · refine w_iconst C dX5_isolate_97 ?_
                refine w_istore C [(8, .int (iZ (0))), (7, .int (iZ ((dp : Int) - 31))), (6, .int (iZ (uv))), (5, .int (iZ (1))), (3, .long (lZ (pl))), (2, .int (iZ ((dp : Int)))), (0, .ref (Q 0)), (1, .int (iZ ((ex : Int))))] dX5_isolate_98 (by decide) rfl ?_
                refine w_iload C dX5_isolate_100 2 rfl ?_
                refine w_if_le C 125 dX5_isolate_102 (by decide) ⟨by omega, by omega⟩ (fun c102 => ?_) (fun c102 => ?_)
                · exact absurd c102 (by omega)
                · refine w_iload C dX5_isolate_105 0 rfl ?_
                  refine w_if_ne C 125 dX5_isolate_107 (by decide) ⟨by omega, by omega⟩ (fun c107 => ?_) (fun c107 => ?_)
                  · exact absurd c107 (by omega)
                  · refine w_iload C dX5_isolate_110 1 rfl ?_
                    refine w_bipush C dX5_isolate_112 (by decide) ?_
                    refine w_icmp_ne C 125 dX5_isolate_114 (by decide) ⟨⟨by omega, by omega⟩, by omega, by omega⟩ (fun c114 => ?_) (fun c114 => ?_)
                    · exact absurd c114 (by omega)
                    · refine w_aload_n C dX5_isolate_117 6 rfl ?_
                      refine w_iconst C dX5_isolate_118 ?_
                      refine w_put (ci := 5) (ref := "RootIsolatorModel") (T := TX5) (Cn := RX5) (N := 10) (ty := .int) C (mU Q G (tL, tS, tN, tD, (xI X (iZ 0) ((iZ (0))) lf cf tB))) (fun w h => wC_in (inX5 w h)) tyX5 tyX5_ok nmX5 0 rfl rfl 6 (by decide) (wC_in fX5_many) rfl rfl (by decide +kernel) rfl rfl (Nat.le_of_ble_eq_true rfl) rfl dX5_isolate_119 ?_
                      refine w_bipush C dX5_isolate_122 (by decide) ?_
                      exact m_iret hsz C hr hlk (Or.inr ⟨by omega, _, _, _, NG, hfree, ml5, Or.inl ⟨T ⟨h, hh, o2, Or.inr (Or.inr (Or.inl ⟨by rw [← huv]; omega, by rw [← huv]; exact g1, g2, rfl⟩))⟩, rfl, lf, cf, ⟨Yt, tD, tB, ⟨_, _, _, hZt, rfl⟩⟩⟩⟩) dX5_isolate_124
              · refine w_iload C dX5_isolate_87 0 rfl ?_
                refine w_iload_n C dX5_isolate_89 6 rfl ?_
                refine w_icmp_lt C 97 dX5_isolate_90 (by decide) ⟨⟨by omega, by omega⟩, by omega, by omega⟩ (fun c90 => ?_) (fun c90 => ?_)
                · refine w_iconst C dX5_isolate_97 ?_
                  refine w_istore C [(8, .int (iZ (0))), (7, .int (iZ ((dp : Int) - 31))), (6, .int (iZ (uv))), (5, .int (iZ (1))), (3, .long (lZ (pl))), (2, .int (iZ ((dp : Int)))), (0, .ref (Q 0)), (1, .int (iZ ((ex : Int))))] dX5_isolate_98 (by decide) rfl ?_
                  refine w_iload C dX5_isolate_100 2 rfl ?_
                  refine w_if_le C 125 dX5_isolate_102 (by decide) ⟨by omega, by omega⟩ (fun c102 => ?_) (fun c102 => ?_)
                  · exact absurd c102 (by omega)
                  · refine w_iload C dX5_isolate_105 0 rfl ?_
                    refine w_if_ne C 125 dX5_isolate_107 (by decide) ⟨by omega, by omega⟩ (fun c107 => ?_) (fun c107 => ?_)
                    · exact absurd c107 (by omega)
                    · refine w_iload C dX5_isolate_110 1 rfl ?_
                      refine w_bipush C dX5_isolate_112 (by decide) ?_
                      refine w_icmp_ne C 125 dX5_isolate_114 (by decide) ⟨⟨by omega, by omega⟩, by omega, by omega⟩ (fun c114 => ?_) (fun c114 => ?_)
                      · exact absurd c114 (by omega)
                      · refine w_aload_n C dX5_isolate_117 6 rfl ?_
                        refine w_iconst C dX5_isolate_118 ?_
                        refine w_put (ci := 5) (ref := "RootIsolatorModel") (T := TX5) (Cn := RX5) (N := 10) (ty := .int) C (mU Q G (tL, tS, tN, tD, (xI X (iZ 0) ((iZ (0))) lf cf tB))) (fun w h => wC_in (inX5 w h)) tyX5 tyX5_ok nmX5 0 rfl rfl 6 (by decide) (wC_in fX5_many) rfl rfl (by decide +kernel) rfl rfl (Nat.le_of_ble_eq_true rfl) rfl dX5_isolate_119 ?_
                        refine w_bipush C dX5_isolate_122 (by decide) ?_
                        exact m_iret hsz C hr hlk (Or.inr ⟨by omega, _, _, _, NG, hfree, ml5, Or.inl ⟨T ⟨h, hh, o2, Or.inr (Or.inr (Or.inl ⟨by rw [← huv]; omega, by rw [← huv]; exact g1, g2, rfl⟩))⟩, rfl, lf, cf, ⟨Yt, tD, tB, ⟨_, _, _, hZt, rfl⟩⟩⟩⟩) dX5_isolate_124
                · exact absurd c90 (by omega)
            obtain ⟨b1, b2, k1, k2, k3, k4⟩ := o5 (by omega) g1 g2
            have hpl2 : 2 * pl + 1 < 2 ^ (dp + 1) := by rw [Int.pow_succ]; omega
            have hpl3 : (2 : Int) ^ (dp + 1) ≤ 2 ^ 61 := pow_mono (by decide) (by omega)
            rw [show (2 : Int) ^ 61 = 2305843009213693952 by decide] at hpl3
            refine w_istore C [(6, .int (iZ (uv))), (5, .int (iZ (1))), (3, .long (lZ (pl))), (2, .int (iZ ((dp : Int)))), (0, .ref (Q 0)), (1, .int (iZ ((ex : Int))))] dX5_isolate_73 (by decide) rfl ?_
            refine w_iload_n C dX5_isolate_75 3 rfl ?_
            refine w_bipush C dX5_isolate_76 (by decide) ?_
            refine w_isub C dX5_isolate_78 ?_
            refine w_istore C [(7, .int (iZ ((dp : Int) - 31))), (6, .int (iZ (uv))), (5, .int (iZ (1))), (3, .long (lZ (pl))), (2, .int (iZ ((dp : Int)))), (0, .ref (Q 0)), (1, .int (iZ ((ex : Int))))] dX5_isolate_79 (by decide) rfl ?_
            refine w_iload C dX5_isolate_81 1 rfl ?_
            refine w_iconst C dX5_isolate_83 ?_
            refine w_icmp_ne C 97 dX5_isolate_84 (by decide) ⟨⟨by omega, by omega⟩, by omega, by omega⟩ (fun c84 => ?_) (fun c84 => ?_)
            · refine w_iconst C dX5_isolate_97 ?_
              refine w_istore C [(8, .int (iZ (0))), (7, .int (iZ ((dp : Int) - 31))), (6, .int (iZ (uv))), (5, .int (iZ (1))), (3, .long (lZ (pl))), (2, .int (iZ ((dp : Int)))), (0, .ref (Q 0)), (1, .int (iZ ((ex : Int))))] dX5_isolate_98 (by decide) rfl ?_
              refine w_iload C dX5_isolate_100 2 rfl ?_
              refine w_if_le C 125 dX5_isolate_102 (by decide) ⟨by omega, by omega⟩ (fun c102 => ?_) (fun c102 => ?_)
              · exact absurd c102 (by omega)
              · refine w_iload C dX5_isolate_105 0 rfl ?_
                refine w_if_ne C 125 dX5_isolate_107 (by decide) ⟨by omega, by omega⟩ (fun c107 => ?_) (fun c107 => ?_)
                · exact absurd c107 (by omega)
                · refine w_iload C dX5_isolate_110 1 rfl ?_
                  refine w_bipush C dX5_isolate_112 (by decide) ?_
                  refine w_icmp_ne C 125 dX5_isolate_114 (by decide) ⟨⟨by omega, by omega⟩, by omega, by omega⟩ (fun c114 => ?_) (fun c114 => ?_)
                  · refine w_iload C dX5_isolate_125 2 rfl ?_
                    refine w_if_le C 153 dX5_isolate_127 (by decide) ⟨by omega, by omega⟩ (fun c127 => ?_) (fun c127 => ?_)
                    · exact absurd c127 (by omega)
                    · refine w_iload C dX5_isolate_130 0 rfl ?_
                      refine w_if_ne C 153 dX5_isolate_132 (by decide) ⟨by omega, by omega⟩ (fun c132 => ?_) (fun c132 => ?_)
                      · exact absurd c132 (by omega)
                      · refine w_aload_n C dX5_isolate_135 6 rfl ?_
                        refine w_bipush C dX5_isolate_136 (by decide) ?_
                        refine m_callv [.int (iZ (8))] hsz C (fun z => cm_halve l D Q G tL tS tN tD (xI X (iZ 0) (iZ (mn : Int)) lf cf tB) Yt 8 (j0 - NG + 1) 638 hZt (by omega) hSt.2.1 (by omega) (fun i hi => by rw [hSt.2.2 i hi]; have := hB i hi; omega) (by omega) z) (cwV 1 C.1.2.2.2.2 (wC_V kX5_120 nX5_halve slX5_halve iniX5 cdX5_halve) rfl rfl rfl (by decide +kernel) ⟨Nat.le_of_ble_eq_true rfl, Nat.le_of_ble_eq_true rfl⟩) rfl ⟨Nat.zero_le _, Nat.zero_le _⟩ (Nat.le_of_ble_eq_true rfl) dX5_isolate_138 [.int (iZ (8)), .ref (Q 0)] rfl (fun v810 hv810 => ?_)
                        obtain ⟨Yh, ⟨hL, hS_, hN_, hZh, rfl⟩, x1, x2⟩ := hv810
                        have hSh : iSt (j0 - NG + 1) (hlv c0 (j0 - NG + 1)) Yh hL hS_ hN_ tD := ⟨hZh, hSt.2.1, fun i hi => by rw [x1 i hi, hSt.2.2 i hi]; rfl⟩
                        refine w_iinc C (((dp + 1 : Nat) : Int)) (by omega) [(2, .int (iZ (((dp + 1 : Nat) : Int)))), (8, .int (iZ (0))), (7, .int (iZ ((dp : Int) - 31))), (6, .int (iZ (uv))), (5, .int (iZ (1))), (3, .long (lZ (pl))), (0, .ref (Q 0)), (1, .int (iZ ((ex : Int))))] dX5_isolate_141 5 rfl (by decide) rfl ?_
                        refine w_ldc2 C (2) dX5_isolate_144 (wC_in kclX5_191) ?_
                        refine w_lload_n C dX5_isolate_147 5 rfl ?_
                        refine w_lmul C dX5_isolate_148 ?_
                        refine w_lstore_n C [(3, .long (lZ (2 * pl))), (2, .int (iZ (((dp + 1 : Nat) : Int)))), (8, .int (iZ (0))), (7, .int (iZ ((dp : Int) - 31))), (6, .int (iZ (uv))), (5, .int (iZ (1))), (0, .ref (Q 0)), (1, .int (iZ ((ex : Int))))] dX5_isolate_149 rfl (by decide) rfl ?_
                        refine w_goto C 246 dX5_isolate_150 (by decide) ?_
                        refine w_goto C 62 dX5_isolate_246 (by decide) ?_
                        refine w_sub [(5, .int (iZ (1))), (3, .long (lZ (2 * pl))), (2, .int (iZ (((dp + 1 : Nat) : Int)))), (0, .ref (Q 0)), (1, .int (iZ ((ex : Int))))] [5, 0, 1, 6, 7] rfl ?_
                        refine ih (dp + 1) (2 * pl) (hlv c0 (j0 - NG + 1)) b1 mn lf cf Yh _ _ _ _ _ (by omega) (by omega) k2 (by omega) hSh (fun g => T ⟨h, hh, o2, Or.inr (Or.inr (Or.inr ⟨by rw [← huv]; omega, by rw [← huv]; exact g1, g2, Or.inl ⟨g, rfl⟩⟩))⟩) (fun r1 Y3 kL3 kS3 kN3 gD3 fB3 i1 l1 hS3 => ?_)
                        refine w_iload_n C dX5_isolate_203 1 rfl ?_
                        refine w_if_le C 231 dX5_isolate_204 (by decide) ⟨by omega, by omega⟩ (fun c204 => ?_) (fun c204 => ?_)
                        · exact absurd c204 (by omega)
                        · refine w_lload_n C dX5_isolate_207 0 rfl ?_
                          refine w_lconst C 1 dX5_isolate_208 rfl ?_
                          refine w_land C dX5_isolate_209 (v := (lZ (0))) ((land1 (by omega) (by omega)).trans (congrArg lZ (by omega))) ?_
                          refine w_lconst C 1 dX5_isolate_210 rfl ?_
                          refine w_lif_ne C 231 dX5_isolate_211 dX5_isolate_212 (by decide) ⟨⟨by omega, by omega⟩, by omega, by omega⟩ (fun c211 => ?_) (fun c211 => ?_)
                          · refine w_iload_n C dX5_isolate_231 1 rfl ?_
                            refine w_if_le C 239 dX5_isolate_232 (by decide) ⟨by omega, by omega⟩ (fun c232 => ?_) (fun c232 => ?_)
                            · exact absurd c232 (by omega)
                            · refine w_iconst C dX5_isolate_235 ?_
                              refine w_goto C 240 dX5_isolate_236 (by decide) ?_
                              refine w_istore C [(5, .int (iZ (1))), (3, .long (lZ (2 * pl))), (2, .int (iZ (((dp + 1 : Nat) : Int)))), (0, .ref (Q 0)), (1, .int (iZ ((ex : Int))))] dX5_isolate_240 (by decide) rfl ?_
                              refine w_lload_n C dX5_isolate_242 1 rfl ?_
                              refine w_lconst C 1 dX5_isolate_243 rfl ?_
                              refine w_lor C dX5_isolate_244 (v := (lZ (2 * pl + 1))) (lor1 (by omega) (by omega) (by omega)) ?_
                              refine w_lstore_n C [(3, .long (lZ (2 * pl + 1))), (5, .int (iZ (1))), (2, .int (iZ (((dp + 1 : Nat) : Int)))), (0, .ref (Q 0)), (1, .int (iZ ((ex : Int))))] dX5_isolate_245 rfl (by decide) rfl ?_
                              refine w_goto C 62 dX5_isolate_246 (by decide) ?_
                              refine w_sub [(5, .int (iZ (1))), (3, .long (lZ (2 * pl + 1))), (2, .int (iZ (((dp + 1 : Nat) : Int)))), (0, .ref (Q 0)), (1, .int (iZ ((ex : Int))))] [1, 0, 2, 3, 4] rfl ?_
                              refine ih (dp + 1) (2 * pl + 1) (sh1 (hlv c0 (j0 - NG + 1)) (j0 - NG + 1)) b2 (mn + r1.length) (apL lf mn r1) (apC cf mn r1) Y3 _ _ _ _ _ (by omega) (by omega) k3 (by omega) hS3 (fun g => T ⟨h, hh, o2, Or.inr (Or.inr (Or.inr ⟨by rw [← huv]; omega, by rw [← huv]; exact g1, g2, Or.inr ⟨r1, i1, Or.inl ⟨g, rfl⟩⟩⟩))⟩) (fun r2 Y4 kL4 kS4 kN4 gD4 fB4 i2 l2 hS4 => ?_)
                              refine w_iload_n C dX5_isolate_203 1 rfl ?_
                              refine w_if_le C 231 dX5_isolate_204 (by decide) ⟨by omega, by omega⟩ (fun c204 => ?_) (fun c204 => ?_)
                              · exact absurd c204 (by omega)
                              · refine w_lload_n C dX5_isolate_207 0 rfl ?_
                                refine w_lconst C 1 dX5_isolate_208 rfl ?_
                                refine w_land C dX5_isolate_209 (v := (lZ (1))) ((land1 (by omega) (by omega)).trans (congrArg lZ (by omega))) ?_
                                refine w_lconst C 1 dX5_isolate_210 rfl ?_
                                refine w_lif_ne C 231 dX5_isolate_211 dX5_isolate_212 (by decide) ⟨⟨by omega, by omega⟩, by omega, by omega⟩ (fun c211 => ?_) (fun c211 => ?_)
                                · exact absurd c211 (by omega)
                                · refine w_aload_n C dX5_isolate_215 2 rfl ?_
                                  refine w_bipush C dX5_isolate_216 (by decide) ?_
                                  refine m_callv [.int (iZ (8))] hsz C (fun z => cm_twice l D Q G kL4 kS4 kN4 gD4 (xI X (iZ 0) (iZ ((mn + r1.length + r2.length : Nat) : Int)) (apL (apL lf mn r1) (mn + r1.length) r2) (apC (apC cf mn r1) (mn + r1.length) r2) fB4) Y4 8 (j0 - NG + 1) hS4.1 (by omega) hS4.2.1 (by omega) z) (cwV 1 C.1.2.2.2.2 (wC_V kX5_123 nX5_twice slX5_twice iniX5 cdX5_twice) rfl rfl rfl (by decide +kernel) ⟨Nat.le_of_ble_eq_true rfl, Nat.le_of_ble_eq_true rfl⟩) rfl ⟨Nat.zero_le _, Nat.zero_le _⟩ (Nat.le_of_ble_eq_true rfl) dX5_isolate_218 [.int (iZ (8)), .ref (Q 0)] rfl (fun v1011 hv1011 => ?_)
                                  obtain ⟨Yw, ⟨wL, wS, wN, hZw, rfl⟩, w1, w2⟩ := hv1011
                                  have hSw : iSt (j0 - NG + 1) (sh1 c0 (j0 - NG + 1)) Yw wL wS wN gD4 := ⟨hZw, hS4.2.1, fun i hi => by
                                    rw [← k4 i hi]
                                    unfold twc
                                    by_cases g : i < (j0 - NG + 1) - 1
                                    · rw [if_pos g, ← hS4.2.2 i hi]; exact w1 i g
                                    · rw [if_neg g, ← hS4.2.2 i hi]; exact w2 _ (by omega)⟩
                                  refine w_iinc C ((dp : Int)) (by omega) [(2, .int (iZ ((dp : Int)))), (3, .long (lZ (2 * pl + 1))), (0, .ref (Q 0)), (1, .int (iZ ((ex : Int))))] dX5_isolate_221 1 rfl (by decide) rfl ?_
                                  refine w_lload_n C dX5_isolate_224 1 rfl ?_
                                  refine w_iconst C dX5_isolate_225 ?_
                                  refine w_lshr C (1) dX5_isolate_226 ⟨by omega, by omega⟩ ⟨by omega, by omega⟩ ?_
                                  refine w_topl C (pl) (by omega) ?_
                                  refine w_lstore_n C [(3, .long (lZ (pl))), (2, .int (iZ ((dp : Int)))), (0, .ref (Q 0)), (1, .int (iZ ((ex : Int))))] dX5_isolate_227 rfl (by decide) rfl ?_
                                  refine w_goto C 203 dX5_isolate_228 (by decide) ?_
                                  have e1 := K (r1 ++ r2) Yw _ _ _ _ fB4 ⟨h, hh, o2, Or.inr (Or.inr (Or.inr ⟨by rw [← huv]; omega, by rw [← huv]; exact g1, g2, Or.inr ⟨r1, i1, Or.inr ⟨r2, i2, rfl⟩⟩⟩))⟩ (by rw [List.length_append]; omega) hSw
                                  rw [apL_app, apC_app, List.length_append, ← Nat.add_assoc] at e1
                                  exact e1
                          · exact absurd c211 (by omega)
                  · exact absurd c114 (by omega)
            · refine w_iload C dX5_isolate_87 0 rfl ?_
              refine w_iload_n C dX5_isolate_89 6 rfl ?_
              refine w_icmp_lt C 97 dX5_isolate_90 (by decide) ⟨⟨by omega, by omega⟩, by omega, by omega⟩ (fun c90 => ?_) (fun c90 => ?_)
              · refine w_iconst C dX5_isolate_97 ?_
                refine w_istore C [(8, .int (iZ (0))), (7, .int (iZ ((dp : Int) - 31))), (6, .int (iZ (uv))), (5, .int (iZ (1))), (3, .long (lZ (pl))), (2, .int (iZ ((dp : Int)))), (0, .ref (Q 0)), (1, .int (iZ ((ex : Int))))] dX5_isolate_98 (by decide) rfl ?_
                refine w_iload C dX5_isolate_100 2 rfl ?_
                refine w_if_le C 125 dX5_isolate_102 (by decide) ⟨by omega, by omega⟩ (fun c102 => ?_) (fun c102 => ?_)
                · exact absurd c102 (by omega)
                · refine w_iload C dX5_isolate_105 0 rfl ?_
                  refine w_if_ne C 125 dX5_isolate_107 (by decide) ⟨by omega, by omega⟩ (fun c107 => ?_) (fun c107 => ?_)
                  · exact absurd c107 (by omega)
                  · refine w_iload C dX5_isolate_110 1 rfl ?_
                    refine w_bipush C dX5_isolate_112 (by decide) ?_
                    refine w_icmp_ne C 125 dX5_isolate_114 (by decide) ⟨⟨by omega, by omega⟩, by omega, by omega⟩ (fun c114 => ?_) (fun c114 => ?_)
                    · refine w_iload C dX5_isolate_125 2 rfl ?_
                      refine w_if_le C 153 dX5_isolate_127 (by decide) ⟨by omega, by omega⟩ (fun c127 => ?_) (fun c127 => ?_)
                      · exact absurd c127 (by omega)
                      · refine w_iload C dX5_isolate_130 0 rfl ?_
                        refine w_if_ne C 153 dX5_isolate_132 (by decide) ⟨by omega, by omega⟩ (fun c132 => ?_) (fun c132 => ?_)
                        · exact absurd c132 (by omega)
                        · refine w_aload_n C dX5_isolate_135 6 rfl ?_
                          refine w_bipush C dX5_isolate_136 (by decide) ?_
                          refine m_callv [.int (iZ (8))] hsz C (fun z => cm_halve l D Q G tL tS tN tD (xI X (iZ 0) (iZ (mn : Int)) lf cf tB) Yt 8 (j0 - NG + 1) 638 hZt (by omega) hSt.2.1 (by omega) (fun i hi => by rw [hSt.2.2 i hi]; have := hB i hi; omega) (by omega) z) (cwV 1 C.1.2.2.2.2 (wC_V kX5_120 nX5_halve slX5_halve iniX5 cdX5_halve) rfl rfl rfl (by decide +kernel) ⟨Nat.le_of_ble_eq_true rfl, Nat.le_of_ble_eq_true rfl⟩) rfl ⟨Nat.zero_le _, Nat.zero_le _⟩ (Nat.le_of_ble_eq_true rfl) dX5_isolate_138 [.int (iZ (8)), .ref (Q 0)] rfl (fun v1212 hv1212 => ?_)
                          obtain ⟨Yh, ⟨hL, hS_, hN_, hZh, rfl⟩, x1, x2⟩ := hv1212
                          have hSh : iSt (j0 - NG + 1) (hlv c0 (j0 - NG + 1)) Yh hL hS_ hN_ tD := ⟨hZh, hSt.2.1, fun i hi => by rw [x1 i hi, hSt.2.2 i hi]; rfl⟩
                          refine w_iinc C (((dp + 1 : Nat) : Int)) (by omega) [(2, .int (iZ (((dp + 1 : Nat) : Int)))), (8, .int (iZ (0))), (7, .int (iZ ((dp : Int) - 31))), (6, .int (iZ (uv))), (5, .int (iZ (1))), (3, .long (lZ (pl))), (0, .ref (Q 0)), (1, .int (iZ ((ex : Int))))] dX5_isolate_141 5 rfl (by decide) rfl ?_
                          refine w_ldc2 C (2) dX5_isolate_144 (wC_in kclX5_191) ?_
                          refine w_lload_n C dX5_isolate_147 5 rfl ?_
                          refine w_lmul C dX5_isolate_148 ?_
                          refine w_lstore_n C [(3, .long (lZ (2 * pl))), (2, .int (iZ (((dp + 1 : Nat) : Int)))), (8, .int (iZ (0))), (7, .int (iZ ((dp : Int) - 31))), (6, .int (iZ (uv))), (5, .int (iZ (1))), (0, .ref (Q 0)), (1, .int (iZ ((ex : Int))))] dX5_isolate_149 rfl (by decide) rfl ?_
                          refine w_goto C 246 dX5_isolate_150 (by decide) ?_
                          refine w_goto C 62 dX5_isolate_246 (by decide) ?_
                          refine w_sub [(5, .int (iZ (1))), (3, .long (lZ (2 * pl))), (2, .int (iZ (((dp + 1 : Nat) : Int)))), (0, .ref (Q 0)), (1, .int (iZ ((ex : Int))))] [5, 0, 1, 6, 7] rfl ?_
                          refine ih (dp + 1) (2 * pl) (hlv c0 (j0 - NG + 1)) b1 mn lf cf Yh _ _ _ _ _ (by omega) (by omega) k2 (by omega) hSh (fun g => T ⟨h, hh, o2, Or.inr (Or.inr (Or.inr ⟨by rw [← huv]; omega, by rw [← huv]; exact g1, g2, Or.inl ⟨g, rfl⟩⟩))⟩) (fun r1 Y3 kL3 kS3 kN3 gD3 fB3 i1 l1 hS3 => ?_)
                          refine w_iload_n C dX5_isolate_203 1 rfl ?_
                          refine w_if_le C 231 dX5_isolate_204 (by decide) ⟨by omega, by omega⟩ (fun c204 => ?_) (fun c204 => ?_)
                          · exact absurd c204 (by omega)
                          · refine w_lload_n C dX5_isolate_207 0 rfl ?_
                            refine w_lconst C 1 dX5_isolate_208 rfl ?_
                            refine w_land C dX5_isolate_209 (v := (lZ (0))) ((land1 (by omega) (by omega)).trans (congrArg lZ (by omega))) ?_
                            refine w_lconst C 1 dX5_isolate_210 rfl ?_
                            refine w_lif_ne C 231 dX5_isolate_211 dX5_isolate_212 (by decide) ⟨⟨by omega, by omega⟩, by omega, by omega⟩ (fun c211 => ?_) (fun c211 => ?_)
                            · refine w_iload_n C dX5_isolate_231 1 rfl ?_
                              refine w_if_le C 239 dX5_isolate_232 (by decide) ⟨by omega, by omega⟩ (fun c232 => ?_) (fun c232 => ?_)
                              · exact absurd c232 (by omega)
                              · refine w_iconst C dX5_isolate_235 ?_
                                refine w_goto C 240 dX5_isolate_236 (by decide) ?_
                                refine w_istore C [(5, .int (iZ (1))), (3, .long (lZ (2 * pl))), (2, .int (iZ (((dp + 1 : Nat) : Int)))), (0, .ref (Q 0)), (1, .int (iZ ((ex : Int))))] dX5_isolate_240 (by decide) rfl ?_
                                refine w_lload_n C dX5_isolate_242 1 rfl ?_
                                refine w_lconst C 1 dX5_isolate_243 rfl ?_
                                refine w_lor C dX5_isolate_244 (v := (lZ (2 * pl + 1))) (lor1 (by omega) (by omega) (by omega)) ?_
                                refine w_lstore_n C [(3, .long (lZ (2 * pl + 1))), (5, .int (iZ (1))), (2, .int (iZ (((dp + 1 : Nat) : Int)))), (0, .ref (Q 0)), (1, .int (iZ ((ex : Int))))] dX5_isolate_245 rfl (by decide) rfl ?_
                                refine w_goto C 62 dX5_isolate_246 (by decide) ?_
                                refine w_sub [(5, .int (iZ (1))), (3, .long (lZ (2 * pl + 1))), (2, .int (iZ (((dp + 1 : Nat) : Int)))), (0, .ref (Q 0)), (1, .int (iZ ((ex : Int))))] [1, 0, 2, 3, 4] rfl ?_
                                refine ih (dp + 1) (2 * pl + 1) (sh1 (hlv c0 (j0 - NG + 1)) (j0 - NG + 1)) b2 (mn + r1.length) (apL lf mn r1) (apC cf mn r1) Y3 _ _ _ _ _ (by omega) (by omega) k3 (by omega) hS3 (fun g => T ⟨h, hh, o2, Or.inr (Or.inr (Or.inr ⟨by rw [← huv]; omega, by rw [← huv]; exact g1, g2, Or.inr ⟨r1, i1, Or.inl ⟨g, rfl⟩⟩⟩))⟩) (fun r2 Y4 kL4 kS4 kN4 gD4 fB4 i2 l2 hS4 => ?_)
                                refine w_iload_n C dX5_isolate_203 1 rfl ?_
                                refine w_if_le C 231 dX5_isolate_204 (by decide) ⟨by omega, by omega⟩ (fun c204 => ?_) (fun c204 => ?_)
                                · exact absurd c204 (by omega)
                                · refine w_lload_n C dX5_isolate_207 0 rfl ?_
                                  refine w_lconst C 1 dX5_isolate_208 rfl ?_
                                  refine w_land C dX5_isolate_209 (v := (lZ (1))) ((land1 (by omega) (by omega)).trans (congrArg lZ (by omega))) ?_
                                  refine w_lconst C 1 dX5_isolate_210 rfl ?_
                                  refine w_lif_ne C 231 dX5_isolate_211 dX5_isolate_212 (by decide) ⟨⟨by omega, by omega⟩, by omega, by omega⟩ (fun c211 => ?_) (fun c211 => ?_)
                                  · exact absurd c211 (by omega)
                                  · refine w_aload_n C dX5_isolate_215 2 rfl ?_
                                    refine w_bipush C dX5_isolate_216 (by decide) ?_
                                    refine m_callv [.int (iZ (8))] hsz C (fun z => cm_twice l D Q G kL4 kS4 kN4 gD4 (xI X (iZ 0) (iZ ((mn + r1.length + r2.length : Nat) : Int)) (apL (apL lf mn r1) (mn + r1.length) r2) (apC (apC cf mn r1) (mn + r1.length) r2) fB4) Y4 8 (j0 - NG + 1) hS4.1 (by omega) hS4.2.1 (by omega) z) (cwV 1 C.1.2.2.2.2 (wC_V kX5_123 nX5_twice slX5_twice iniX5 cdX5_twice) rfl rfl rfl (by decide +kernel) ⟨Nat.le_of_ble_eq_true rfl, Nat.le_of_ble_eq_true rfl⟩) rfl ⟨Nat.zero_le _, Nat.zero_le _⟩ (Nat.le_of_ble_eq_true rfl) dX5_isolate_218 [.int (iZ (8)), .ref (Q 0)] rfl (fun v1413 hv1413 => ?_)
                                    obtain ⟨Yw, ⟨wL, wS, wN, hZw, rfl⟩, w1, w2⟩ := hv1413
                                    have hSw : iSt (j0 - NG + 1) (sh1 c0 (j0 - NG + 1)) Yw wL wS wN gD4 := ⟨hZw, hS4.2.1, fun i hi => by
                                      rw [← k4 i hi]
                                      unfold twc
                                      by_cases g : i < (j0 - NG + 1) - 1
                                      · rw [if_pos g, ← hS4.2.2 i hi]; exact w1 i g
                                      · rw [if_neg g, ← hS4.2.2 i hi]; exact w2 _ (by omega)⟩
                                    refine w_iinc C ((dp : Int)) (by omega) [(2, .int (iZ ((dp : Int)))), (3, .long (lZ (2 * pl + 1))), (0, .ref (Q 0)), (1, .int (iZ ((ex : Int))))] dX5_isolate_221 1 rfl (by decide) rfl ?_
                                    refine w_lload_n C dX5_isolate_224 1 rfl ?_
                                    refine w_iconst C dX5_isolate_225 ?_
                                    refine w_lshr C (1) dX5_isolate_226 ⟨by omega, by omega⟩ ⟨by omega, by omega⟩ ?_
                                    refine w_topl C (pl) (by omega) ?_
                                    refine w_lstore_n C [(3, .long (lZ (pl))), (2, .int (iZ ((dp : Int)))), (0, .ref (Q 0)), (1, .int (iZ ((ex : Int))))] dX5_isolate_227 rfl (by decide) rfl ?_
                                    refine w_goto C 203 dX5_isolate_228 (by decide) ?_
                                    have e1 := K (r1 ++ r2) Yw _ _ _ _ fB4 ⟨h, hh, o2, Or.inr (Or.inr (Or.inr ⟨by rw [← huv]; omega, by rw [← huv]; exact g1, g2, Or.inr ⟨r1, i1, Or.inr ⟨r2, i2, rfl⟩⟩⟩))⟩ (by rw [List.length_append]; omega) hSw
                                    rw [apL_app, apC_app, List.length_append, ← Nat.add_assoc] at e1
                                    exact e1
                            · exact absurd c211 (by omega)
                    · exact absurd c114 (by omega)
              · exact absurd c90 (by omega)
      refine node 62 0 0 (mvd (fun i => Y2 (9 * 5 + i)) (j0 - NG + 1) (-1152921504606846976) 2305843009213693952) 8 0 X.2.2.1 X.2.2.2.1 Y3 _ _ _ _ X.2.2.2.2.1 (by omega) (by decide) (hC2 _ _ _ _ hfree) (by omega) ⟨hZ3, upd_eq, fun i hi => v1 i hi⟩ (fun g => g) (fun r Yz kLz kSz kNz gDz fBz iz lz hSz => ?_)
      refine w_iload_n C dX5_isolate_203 1 rfl ?_
      refine w_if_le C 231 dX5_isolate_204 (by decide) ⟨by omega, by omega⟩ (fun c204 => ?_) (fun c204 => ?_)
      · refine w_iload_n C dX5_isolate_231 1 rfl ?_
        refine w_if_le C 239 dX5_isolate_232 (by decide) ⟨by omega, by omega⟩ (fun c232 => ?_) (fun c232 => ?_)
        · refine w_iconst C dX5_isolate_239 ?_
          refine w_istore C [(5, .int (iZ (0))), (3, .long (lZ (0))), (2, .int (iZ (((0 : Nat) : Int)))), (0, .ref (Q 0)), (1, .int (iZ ((ex : Int))))] dX5_isolate_240 (by decide) rfl ?_
          refine w_lload_n C dX5_isolate_242 1 rfl ?_
          refine w_lconst C 1 dX5_isolate_243 rfl ?_
          refine w_lor C dX5_isolate_244 (v := (lZ (0 + 1))) (lor1 (by omega) (by omega) (by omega)) ?_
          refine w_lstore_n C [(3, .long (lZ (0 + 1))), (5, .int (iZ (0))), (2, .int (iZ (((0 : Nat) : Int)))), (0, .ref (Q 0)), (1, .int (iZ ((ex : Int))))] dX5_isolate_245 rfl (by decide) rfl ?_
          refine w_goto C 62 dX5_isolate_246 (by decide) ?_
          refine w_iload C dX5_isolate_62 1 rfl ?_
          refine w_if_eq C 249 dX5_isolate_64 (by decide) ⟨by omega, by omega⟩ (fun c64 => ?_) (fun c64 => ?_)
          · refine w_aload_n C dX5_isolate_249 3 rfl ?_
            refine w_iconst C dX5_isolate_250 ?_
            refine w_put (ci := 5) (ref := "RootIsolatorModel") (T := TX5) (Cn := RX5) (N := 10) (ty := .boolean) C (mU Q G (kLz, kSz, kNz, gDz, (xI X ((iZ (1))) (iZ ((0 + r.length : Nat) : Int)) (apL X.2.2.1 0 r) (apC X.2.2.2.1 0 r) fBz))) (fun w h => wC_in (inX5 w h)) tyX5 tyX5_ok nmX5 0 rfl rfl 5 (by decide) (wC_in fX5_isFound) rfl rfl (by decide +kernel) rfl rfl (Nat.le_of_ble_eq_true rfl) rfl dX5_isolate_251 ?_
            refine w_aload_n C dX5_isolate_254 3 rfl ?_
            refine w_get (ci := 5) (ref := "RootIsolatorModel") (T := TX5) (Cn := RX5) (N := 10) C (fun w h => wC_in (inX5 w h)) 0 rfl rfl 6 (by decide) (wC_in fX5_many) rfl rfl dX5_isolate_255 ?_
            refine w_topR C (((0 + r.length : Nat) : Int)) (rfl) ?_
            exact m_iret hsz C hr hlk (Or.inr ⟨by omega, _, _, _, NG, hfree, ml5, Or.inr ⟨r, iz, lz, by rw [Nat.zero_add], ⟨Yz, gDz, fBz, ⟨_, _, _, hSz.1, by rw [Nat.zero_add]; rfl⟩⟩⟩⟩) dX5_isolate_258
          · exact absurd c64 (by omega)
        · exact absurd c232 (by omega)
      · exact absurd c204 (by omega)
    · refine w_bipush C dX5_isolate_27 (by decide) ?_
      exact m_iret hsz C hr hlk (Or.inl ⟨by omega, rfl, mScr_of ⟨_, _, _, hZ, rfl⟩⟩) dX5_isolate_29
  · exact absurd c9 (by omega)
