section MLC
variable {p : Program} {l : Launch} {e : Env} {R : Room} {s : State} {m : MethodId} {args : Array Value} {below : List Frame} {meth : Method} {c : Code} {D : va_G} {nL cells slots : Nat} {Qp : State → Prop}
variable {cc : ByteArray} {Ts : List Cond} {pc : Nat} {lv : List (Nat × Value)} {rest : List Value} {Q : Nat → Nat} {G : Nat → ClassId} {u : mT} {sz : Nat}
theorem m_calll {y : MethodName} {bytes : ByteArray} {maxL n index : Nat} {ret : Option FieldType} {ws : List Cond} {rm : Room} {post : Int64 → mT → Prop} (As : List Value) (hsz : s.heap.size = sz) (C : ZC p s m args c cc nL Ts RX5 D (mty G))
    (hM : ∀ z : Nat, Met l y ws rm (va_Pc (.ref (Q 0) :: As) (mPre D Q G u z)) (va_Ql post (mAt D Q G (mA Q z)) (mA Q z)) 0 0 (mA Q z)) (cw : CallW R s args RX5 RX5 index y bytes maxL ret ws rm 0 0 n) (hn : As.length = n) (hR : cells ≤ R.cells ∧ slots ≤ R.slots) (hW : (rest.map fun v => v.category).sum ≤ 8) (hdg : decode cc pc = .ok (.invokevirtual index, 3)) (st : List Value) (hst : st = As.reverse ++ .ref (Q 0) :: rest)
    (kk : ∀ (r : Int64) (v : mT), post r v → ZW p l e R s m args below meth c D (mA Q sz) nL cells slots Qp (mU Q G v) (pc + 3) lv (.long r :: rest)) : ZW p l e R s m args below meth c D (mA Q sz) nL cells slots Qp (mU Q G u) pc lv st := by
  intro H locs ls hP hD hS hl
  subst hst
  refine va_calll (va_runV (As := As) (rest := rest) C.1 (hM H.size) cw ⟨mPre_blind, va_recv C.2 hP (ci := 5) (q0 := 0) rfl rfl, fun U hU hW => ⟨rfl, by rw [hU], by rw [hU]; exact hP, va_K.moved hW.alike C.2, hD.weaken (fun _ _ _ _ => trivial)⟩⟩ rfl hn hl.1 rfl (lv_room hW) hdg hR) hS (fun q _ h => mA_sub hsz hS q h) (mA_sub hsz hS) (fun r v t H1 locs1 ht hvm hw hB hz1 hk1 hS1 => ?_)
  obtain ⟨hP1, hK1, hD1⟩ := hB
  rw [ht] at hP1
  exact kk r v hw H1 locs1 ls hP1 (hD1.weaken (fun k q _ h => mA_sub hsz hS q.1 h)) hS1 hl
end MLC
def inB (v : Int) : Prop := -1000000000 ≤ v ∧ v ≤ 1000000000
/-- Horner's sums at the point n / 2 to the power ex, made whole -/
def hrn (c : Nat → Int) (N : Nat) (n : Int) (ex : Nat) : Nat → Int
  | 0 => 0
  | m + 1 => hrn c N n ex m * n + 1 * (c (N - 1 - m) * 2 ^ (ex * m))
theorem hrn_abs {c : Nat → Int} {N : Nat} {n : Int} {ex : Nat} (hn : (n.natAbs : Int) ≤ 2 ^ 63) (hex : ex ≤ 30) (hc : ∀ k, ((c k).natAbs : Int) ≤ 2 ^ 31) : ∀ m : Nat, ((hrn c N n ex m).natAbs : Int) ≤ 2 ^ (64 * m + 31)
  | 0 => by simp only [hrn]; exact Int.le_of_lt (i2pos _)
  | m + 1 => by
    have h1 := hrn_abs (N := N) hn hex hc m
    have h2 := Int.natAbs_add_le (hrn c N n ex m * n) (1 * (c (N - 1 - m) * 2 ^ (ex * m)))
    have h3 : ((hrn c N n ex m * n).natAbs : Int) ≤ 2 ^ (64 * m + 31) * 2 ^ 63 := by
      rw [Int.natAbs_mul, Int.natCast_mul]
      exact Int.mul_le_mul h1 hn (by omega) (Int.le_of_lt (i2pos _))
    have h4 : ((1 * (c (N - 1 - m) * 2 ^ (ex * m))).natAbs : Int) ≤ 2 ^ 31 * 2 ^ (30 * m) := by
      rw [Int.one_mul, Int.natAbs_mul, Int.natCast_mul]
      have e1 : (((2 : Int) ^ (ex * m)).natAbs : Int) = 2 ^ (ex * m) := Int.natAbs_of_nonneg (Int.le_of_lt (i2pos _))
      rw [e1]
      exact Int.mul_le_mul (hc _) (pow_mono (by decide) (Nat.mul_le_mul_right m hex)) (Int.le_of_lt (i2pos _)) (Int.le_of_lt (i2pos _))
    rw [← Int.pow_add] at h3 h4
    have h5 : (2 : Int) ^ (31 + 30 * m) ≤ 2 ^ (64 * m + 31 + 63) := pow_mono (by decide) (by omega)
    have h6 : (2 : Int) ^ (64 * (m + 1) + 31) = 2 ^ (64 * m + 31 + 63) * 2 := by rw [← Int.pow_succ]; congr 1
    simp only [hrn]
    omega
set_option maxHeartbeats 4000000 in
set_option maxRecDepth 100000 in
/-- times -/
theorem cm_times (l : Launch) (D : va_G) (Q : Nat → Nat) (G : Nat → ClassId) (fL fS fN fD : Nat → Int32) (X : mX) (r : Int) (hr0 : -2147483648 ≤ r ∧ r < 2147483648) (sz : Nat) : Met l yX5_times (wC yX5_times cX5_times 5 (some .int)) ({ frames := 2, cells := 0, slots := 0, locals := 44 }) (va_Pc [.ref (Q 0), .int (iZ (r))] (mPre D Q G (fL, fS, fN, fD, X) sz)) (va_Qi (fun (q : Int32) (u : mT) => ∃ n : Nat, topN X.2.2.2.2.2.1 n ∧ ((n = 0 ∧ q = iZ (-3) ∧ u = (fL, fS, fN, fD, X)) ∨ (n ≠ 0 ∧ ¬ (n < 9 ∧ ∀ i : Nat, i < 9 → inB (tmA X.2.2.2.2.2.1 r i)) ∧ q = iZ (-5) ∧ u = (fL, fS, fN, fD, X)) ∨ (n ≠ 0 ∧ (n < 9 ∧ ∀ i : Nat, i < 9 → inB (tmA X.2.2.2.2.2.1 r i)) ∧ ∃ (h0 : Nat → Int32) (k : Nat), (∀ i : Nat, i < 9 → h0 i = iZ (tmA X.2.2.2.2.2.1 r i)) ∧ topN h0 k ∧ q = iZ (if k = 0 then -3 else (k : Int) - 1) ∧ u = (fL, fS, fN, fD, xF (xG0 X h0) (iZ 0) (iZ 0))))) (mAt D Q G (mA Q sz)) (mA Q sz)) 0 0 (mA Q sz) := by
  refine m_met (cc := cX5_times) (maxL := 5) (ret := (some .int)) (by decide) rfl rfl (Nat.le_of_ble_eq_true rfl) ?_
  intro p e s m below meth c hsz C hr hlk
  refine w_sub [(0, .ref (Q 0)), (1, .int (iZ (r)))] [0, 1] rfl ?_
  refine w_aload_n C dX5_times_0 0 rfl ?_
  refine w_iconst C dX5_times_1 ?_
  refine m_calli [.int (iZ (0))] hsz C (fun z => cm_degreeOf0 l D Q G fL fS fN fD X  z) (cwV 1 C.1.2.2.2.2 (wC_V kX5_153 nX5_degreeOf slX5_degreeOf iniX5 cdX5_degreeOf) rfl rfl rfl (by decide +kernel) ⟨Nat.le_of_ble_eq_true rfl, Nat.le_of_ble_eq_true rfl⟩) rfl ⟨Nat.zero_le _, Nat.zero_le _⟩ (Nat.le_of_ble_eq_true rfl) dX5_times_2 [.int (iZ (0)), .ref (Q 0)] rfl (fun r v1 hv1 => ?_)
  obtain ⟨⟨n, hn, rfl⟩, rfl⟩ := hv1
  have hn9 := hn.1
  refine w_istore_n C [(2, .int (iZ ((n : Int) - 1))), (0, .ref (Q 0)), (1, .int (iZ (r)))] dX5_times_5 rfl (by decide) rfl ?_
  refine w_iload_n C dX5_times_6 0 rfl ?_
  refine w_if_ge C 13 dX5_times_7 (by decide) ⟨by omega, by omega⟩ (fun c7 => ?_) (fun c7 => ?_)
  · refine w_iload_n C dX5_times_13 0 rfl ?_
    refine w_bipush C dX5_times_14 (by decide) ?_
    have J2 : ZW p l e ({ frames := 2, cells := 0, slots := 0, locals := 44 }) s m ([.ref (Q 0), .int (iZ (r))] : List Value).toArray below meth c D (mA Q sz) 5 0 0 (MQ below (va_Qi (fun (q : Int32) (u : mT) => ∃ n : Nat, topN X.2.2.2.2.2.1 n ∧ ((n = 0 ∧ q = iZ (-3) ∧ u = (fL, fS, fN, fD, X)) ∨ (n ≠ 0 ∧ ¬ (n < 9 ∧ ∀ i : Nat, i < 9 → inB (tmA X.2.2.2.2.2.1 r i)) ∧ q = iZ (-5) ∧ u = (fL, fS, fN, fD, X)) ∨ (n ≠ 0 ∧ (n < 9 ∧ ∀ i : Nat, i < 9 → inB (tmA X.2.2.2.2.2.1 r i)) ∧ ∃ (h0 : Nat → Int32) (k : Nat), (∀ i : Nat, i < 9 → h0 i = iZ (tmA X.2.2.2.2.2.1 r i)) ∧ topN h0 k ∧ q = iZ (if k = 0 then -3 else (k : Int) - 1) ∧ u = (fL, fS, fN, fD, xF (xG0 X h0) (iZ 0) (iZ 0))))) (mAt D Q G (mA Q sz)) (mA Q sz)) ([.ref (Q 0), .int (iZ (r))] : List Value).toArray s 0 0 (mA Q sz)) (mU Q G (fL, fS, fN, fD, X)) 24 [(2, .int (iZ ((n : Int) - 1))), (0, .ref (Q 0)), (1, .int (iZ (r)))] [.int (iZ (if n < 9 then 1 else 0))] := by
      refine w_istore_n C [(3, .int (iZ (if n < 9 then 1 else 0))), (2, .int (iZ ((n : Int) - 1))), (0, .ref (Q 0)), (1, .int (iZ (r)))] dX5_times_24 rfl (by decide) rfl ?_
      refine w_iconst C dX5_times_25 ?_
      refine w_istore C [(4, .int (iZ (0))), (3, .int (iZ (if n < 9 then 1 else 0))), (2, .int (iZ ((n : Int) - 1))), (0, .ref (Q 0)), (1, .int (iZ (r)))] dX5_times_26 (by decide) rfl ?_
      have l1 : ∀ (d : Nat) (k : Nat) (ft : Int), 9 < k + d → k ≤ 9 → ((ft = 1 ∧ n < 9 ∧ ∀ i : Nat, i < k → inB (tmA X.2.2.2.2.2.1 r i)) ∨ (ft = 0 ∧ ¬ (n < 9 ∧ ∀ i : Nat, i < 9 → inB (tmA X.2.2.2.2.2.1 r i)))) → ZW p l e ({ frames := 2, cells := 0, slots := 0, locals := 44 }) s m ([.ref (Q 0), .int (iZ (r))] : List Value).toArray below meth c D (mA Q sz) 5 0 0 (MQ below (va_Qi (fun (q : Int32) (u : mT) => ∃ n : Nat, topN X.2.2.2.2.2.1 n ∧ ((n = 0 ∧ q = iZ (-3) ∧ u = (fL, fS, fN, fD, X)) ∨ (n ≠ 0 ∧ ¬ (n < 9 ∧ ∀ i : Nat, i < 9 → inB (tmA X.2.2.2.2.2.1 r i)) ∧ q = iZ (-5) ∧ u = (fL, fS, fN, fD, X)) ∨ (n ≠ 0 ∧ (n < 9 ∧ ∀ i : Nat, i < 9 → inB (tmA X.2.2.2.2.2.1 r i)) ∧ ∃ (h0 : Nat → Int32) (k : Nat), (∀ i : Nat, i < 9 → h0 i = iZ (tmA X.2.2.2.2.2.1 r i)) ∧ topN h0 k ∧ q = iZ (if k = 0 then -3 else (k : Int) - 1) ∧ u = (fL, fS, fN, fD, xF (xG0 X h0) (iZ 0) (iZ 0))))) (mAt D Q G (mA Q sz)) (mA Q sz)) ([.ref (Q 0), .int (iZ (r))] : List Value).toArray s 0 0 (mA Q sz)) (mU Q G (fL, fS, fN, fD, X)) 28 [(4, .int (iZ ((k : Int)))), (3, .int (iZ (ft))), (2, .int (iZ ((n : Int) - 1))), (0, .ref (Q 0)), (1, .int (iZ (r)))] [] := by
        intro d
        induction d with
        | zero =>
          intro k ft hd hk hft
          exact absurd hd (by omega)
        | succ d ih1 =>
          intro k ft hd hk hft
          have hft2 : ft = 0 ∨ ft = 1 := hft.elim (fun g => Or.inr g.1) (fun g => Or.inl g.1)
          refine w_iload C dX5_times_28 0 rfl ?_
          refine w_bipush C dX5_times_30 (by decide) ?_
          refine w_icmp_ge C 62 dX5_times_32 (by decide) ⟨⟨by omega, by omega⟩, by omega, by omega⟩ (fun c32 => ?_) (fun c32 => ?_)
          · refine w_iload_n C dX5_times_62 1 rfl ?_
            refine w_if_ne C 69 dX5_times_63 (by decide) ⟨by omega, by omega⟩ (fun c63 => ?_) (fun c63 => ?_)
            · have hall : (n < 9 ∧ ∀ i : Nat, i < 9 → inB (tmA X.2.2.2.2.2.1 r i)) := by
                rcases hft with g | g
                · exact ⟨g.2.1, fun i hi => g.2.2 i (by omega)⟩
                · exact absurd g.1 c63
              refine w_bipush C dX5_times_69 (by decide) ?_
              refine w_top C (((9 : Nat) : Int) - 1) (by omega) ?_
              refine w_istore C [(4, .int (iZ (((9 : Nat) : Int) - 1))), (3, .int (iZ (ft))), (2, .int (iZ ((n : Int) - 1))), (0, .ref (Q 0)), (1, .int (iZ (r)))] dX5_times_71 (by decide) rfl ?_
              have l2 : ∀ (d : Nat) (j : Nat) (h0 : Nat → Int32), j < d → j ≤ 9 → (∀ i : Nat, j ≤ i → i < 9 → h0 i = iZ (tmA X.2.2.2.2.2.1 r i)) → (∀ i : Nat, i < j → h0 i = X.2.2.2.2.2.1 i) → ZW p l e ({ frames := 2, cells := 0, slots := 0, locals := 44 }) s m ([.ref (Q 0), .int (iZ (r))] : List Value).toArray below meth c D (mA Q sz) 5 0 0 (MQ below (va_Qi (fun (q : Int32) (u : mT) => ∃ n : Nat, topN X.2.2.2.2.2.1 n ∧ ((n = 0 ∧ q = iZ (-3) ∧ u = (fL, fS, fN, fD, X)) ∨ (n ≠ 0 ∧ ¬ (n < 9 ∧ ∀ i : Nat, i < 9 → inB (tmA X.2.2.2.2.2.1 r i)) ∧ q = iZ (-5) ∧ u = (fL, fS, fN, fD, X)) ∨ (n ≠ 0 ∧ (n < 9 ∧ ∀ i : Nat, i < 9 → inB (tmA X.2.2.2.2.2.1 r i)) ∧ ∃ (h0 : Nat → Int32) (k : Nat), (∀ i : Nat, i < 9 → h0 i = iZ (tmA X.2.2.2.2.2.1 r i)) ∧ topN h0 k ∧ q = iZ (if k = 0 then -3 else (k : Int) - 1) ∧ u = (fL, fS, fN, fD, xF (xG0 X h0) (iZ 0) (iZ 0))))) (mAt D Q G (mA Q sz)) (mA Q sz)) ([.ref (Q 0), .int (iZ (r))] : List Value).toArray s 0 0 (mA Q sz)) (mU Q G (fL, fS, fN, fD, (xG0 X h0))) 73 [(4, .int (iZ ((j : Int) - 1))), (3, .int (iZ (ft))), (2, .int (iZ ((n : Int) - 1))), (0, .ref (Q 0)), (1, .int (iZ (r)))] [] := by
                intro d
                induction d with
                | zero =>
                  intro j h0 hd hj e1 e2
                  exact absurd hd (by omega)
                | succ d ih2 =>
                  intro j h0 hd hj e1 e2
                  refine w_iload C dX5_times_73 0 rfl ?_
                  refine w_if_lt C 101 dX5_times_75 (by decide) ⟨by omega, by omega⟩ (fun c75 => ?_) (fun c75 => ?_)
                  · refine w_aload_n C dX5_times_101 3 rfl ?_
                    refine m_callv [] hsz C (fun z => cm_forget l D Q G fL fS fN fD (xG0 X h0)  z) (cwV 0 C.1.2.2.2.2 (wC_V kX5_150 nX5_forget slX5_forget iniX5 cdX5_forget) rfl rfl rfl (by decide +kernel) ⟨Nat.le_of_ble_eq_true rfl, Nat.le_of_ble_eq_true rfl⟩) rfl ⟨Nat.zero_le _, Nat.zero_le _⟩ (Nat.le_of_ble_eq_true rfl) dX5_times_102 [.ref (Q 0)] rfl (fun v203 hv203 => ?_)
                    obtain rfl := hv203
                    refine w_aload_n C dX5_times_105 3 rfl ?_
                    refine w_iconst C dX5_times_106 ?_
                    refine m_calli [.int (iZ (0))] hsz C (fun z => cm_told0 l D Q G fL fS fN fD (xF (xG0 X h0) (iZ 0) (iZ 0))  z) (cwV 1 C.1.2.2.2.2 (wC_V kX5_156 nX5_told slX5_told iniX5 cdX5_told) rfl rfl rfl (by decide +kernel) ⟨Nat.le_of_ble_eq_true rfl, Nat.le_of_ble_eq_true rfl⟩) rfl ⟨Nat.zero_le _, Nat.zero_le _⟩ (Nat.le_of_ble_eq_true rfl) dX5_times_107 [.int (iZ (0)), .ref (Q 0)] rfl (fun r v204 hv204 => ?_)
                    obtain ⟨⟨kk, hkk, rfl⟩, rfl⟩ := hv204
                    exact m_iret hsz C hr hlk (⟨n, hn, Or.inr (Or.inr ⟨by omega, hall, h0, kk, fun i hi => e1 i (by omega) hi, hkk, rfl, rfl⟩)⟩) dX5_times_110
                  · obtain ⟨i, rfl⟩ : ∃ i, j = i + 1 := ⟨j - 1, by omega⟩
                    have hti : tmA h0 r i = tmA X.2.2.2.2.2.1 r i := tmA_congr (e2 i (by omega)) (fun _ => e2 (i - 1) (by omega))
                    refine w_aload_n C dX5_times_78 3 rfl ?_
                    refine w_get (ci := 5) (ref := "RootIsolatorModel") (T := TX5) (Cn := RX5) (N := 10) C (fun w h => wC_in (inX5 w h)) 0 rfl rfl 0 (by decide) (wC_in fX5_given) rfl rfl dX5_times_79 ?_
                    refine w_iconst C dX5_times_82 ?_
                    refine w_aald (n := 2) (f := fun j => some (Q (9 + j))) C 5 3 rfl rfl rfl (0) ⟨rfl, by decide, by decide⟩ (rfl) dX5_times_83 ?_
                    refine w_iload C dX5_times_84 0 rfl ?_
                    refine w_aload_n C dX5_times_86 3 rfl ?_
                    refine w_iload C dX5_times_87 0 rfl ?_
                    refine w_top C ((i : Int)) (by omega) ?_
                    refine w_iload_n C dX5_times_89 4 rfl ?_
                    refine m_calll [.int (iZ ((i : Int))), .int (iZ (r))] hsz C (fun z => cm_timesAt l D Q G fL fS fN fD (xG0 X h0) i r (by omega) hr0 z) (cwV 2 C.1.2.2.2.2 (wC_V kX5_206 nX5_timesAt slX5_timesAt iniX5 cdX5_timesAt) rfl rfl rfl (by decide +kernel) ⟨Nat.le_of_ble_eq_true rfl, Nat.le_of_ble_eq_true rfl⟩) rfl ⟨Nat.zero_le _, Nat.zero_le _⟩ (Nat.le_of_ble_eq_true rfl) dX5_times_90 [.int (iZ (r)), .int (iZ ((i : Int))), .ref (Q 0), .int (iZ (((i + 1 : Nat) : Int) - 1)), .ref (Q 9)] rfl (fun r v205 hv205 => ?_)
                    obtain ⟨rfl, rfl⟩ := hv205
                    refine w_topl C (tmA X.2.2.2.2.2.1 r i) (hti) ?_
                    refine w_l2i C dX5_times_93 ?_
                    refine w_iast C (mU Q G (fL, fS, fN, fD, (xG0 (xG0 X h0) (upd h0 (i) (iZ (tmA X.2.2.2.2.2.1 r i)))))) 9 0 rfl rfl (i) ⟨by omega, by omega, by omega⟩ rfl dX5_times_94 ?_
                    refine w_iinc C ((i : Int) - 1) (by omega) [(4, .int (iZ ((i : Int) - 1))), (3, .int (iZ (ft))), (2, .int (iZ ((n : Int) - 1))), (0, .ref (Q 0)), (1, .int (iZ (r)))] dX5_times_95 0 rfl (by decide) rfl ?_
                    refine w_goto C 73 dX5_times_98 (by decide) ?_
                    exact ih2 i _ (by omega) (by omega) (fun q g1 g2 => by
                      by_cases g : q = i
                      · subst g; rw [upd_eq]
                      · rw [upd_ne g]; exact e1 q (by omega) g2) (fun q g1 => by rw [upd_ne (by omega)]; exact e2 q (by omega))
              exact l2 10 9 X.2.2.2.2.2.1 (by omega) (by omega) (fun i g1 g2 => absurd g1 (by omega)) (fun _ _ => rfl)
            · have hno : ¬ (n < 9 ∧ ∀ i : Nat, i < 9 → inB (tmA X.2.2.2.2.2.1 r i)) := by
                rcases hft with g | g
                · omega
                · exact g.2
              refine w_bipush C dX5_times_66 (by decide) ?_
              exact m_iret hsz C hr hlk (⟨n, hn, Or.inr (Or.inl ⟨by omega, hno, rfl, rfl⟩)⟩) dX5_times_68
          · refine w_iload_n C dX5_times_35 1 rfl ?_
            refine w_if_eq C 62 dX5_times_36 (by decide) ⟨by omega, by omega⟩ (fun c36 => ?_) (fun c36 => ?_)
            · refine w_iload_n C dX5_times_62 1 rfl ?_
              refine w_if_ne C 69 dX5_times_63 (by decide) ⟨by omega, by omega⟩ (fun c63 => ?_) (fun c63 => ?_)
              · have hall : (n < 9 ∧ ∀ i : Nat, i < 9 → inB (tmA X.2.2.2.2.2.1 r i)) := by
                  rcases hft with g | g
                  · exact ⟨g.2.1, fun i hi => g.2.2 i (by omega)⟩
                  · exact absurd g.1 c63
                refine w_bipush C dX5_times_69 (by decide) ?_
                refine w_top C (((9 : Nat) : Int) - 1) (by omega) ?_
                refine w_istore C [(4, .int (iZ (((9 : Nat) : Int) - 1))), (3, .int (iZ (ft))), (2, .int (iZ ((n : Int) - 1))), (0, .ref (Q 0)), (1, .int (iZ (r)))] dX5_times_71 (by decide) rfl ?_
                have l2 : ∀ (d : Nat) (j : Nat) (h0 : Nat → Int32), j < d → j ≤ 9 → (∀ i : Nat, j ≤ i → i < 9 → h0 i = iZ (tmA X.2.2.2.2.2.1 r i)) → (∀ i : Nat, i < j → h0 i = X.2.2.2.2.2.1 i) → ZW p l e ({ frames := 2, cells := 0, slots := 0, locals := 44 }) s m ([.ref (Q 0), .int (iZ (r))] : List Value).toArray below meth c D (mA Q sz) 5 0 0 (MQ below (va_Qi (fun (q : Int32) (u : mT) => ∃ n : Nat, topN X.2.2.2.2.2.1 n ∧ ((n = 0 ∧ q = iZ (-3) ∧ u = (fL, fS, fN, fD, X)) ∨ (n ≠ 0 ∧ ¬ (n < 9 ∧ ∀ i : Nat, i < 9 → inB (tmA X.2.2.2.2.2.1 r i)) ∧ q = iZ (-5) ∧ u = (fL, fS, fN, fD, X)) ∨ (n ≠ 0 ∧ (n < 9 ∧ ∀ i : Nat, i < 9 → inB (tmA X.2.2.2.2.2.1 r i)) ∧ ∃ (h0 : Nat → Int32) (k : Nat), (∀ i : Nat, i < 9 → h0 i = iZ (tmA X.2.2.2.2.2.1 r i)) ∧ topN h0 k ∧ q = iZ (if k = 0 then -3 else (k : Int) - 1) ∧ u = (fL, fS, fN, fD, xF (xG0 X h0) (iZ 0) (iZ 0))))) (mAt D Q G (mA Q sz)) (mA Q sz)) ([.ref (Q 0), .int (iZ (r))] : List Value).toArray s 0 0 (mA Q sz)) (mU Q G (fL, fS, fN, fD, (xG0 X h0))) 73 [(4, .int (iZ ((j : Int) - 1))), (3, .int (iZ (ft))), (2, .int (iZ ((n : Int) - 1))), (0, .ref (Q 0)), (1, .int (iZ (r)))] [] := by
                  intro d
                  induction d with
                  | zero =>
                    intro j h0 hd hj e1 e2
                    exact absurd hd (by omega)
                  | succ d ih2 =>
                    intro j h0 hd hj e1 e2
                    refine w_iload C dX5_times_73 0 rfl ?_
                    refine w_if_lt C 101 dX5_times_75 (by decide) ⟨by omega, by omega⟩ (fun c75 => ?_) (fun c75 => ?_)
                    · refine w_aload_n C dX5_times_101 3 rfl ?_
                      refine m_callv [] hsz C (fun z => cm_forget l D Q G fL fS fN fD (xG0 X h0)  z) (cwV 0 C.1.2.2.2.2 (wC_V kX5_150 nX5_forget slX5_forget iniX5 cdX5_forget) rfl rfl rfl (by decide +kernel) ⟨Nat.le_of_ble_eq_true rfl, Nat.le_of_ble_eq_true rfl⟩) rfl ⟨Nat.zero_le _, Nat.zero_le _⟩ (Nat.le_of_ble_eq_true rfl) dX5_times_102 [.ref (Q 0)] rfl (fun v406 hv406 => ?_)
                      obtain rfl := hv406
                      refine w_aload_n C dX5_times_105 3 rfl ?_
                      refine w_iconst C dX5_times_106 ?_
                      refine m_calli [.int (iZ (0))] hsz C (fun z => cm_told0 l D Q G fL fS fN fD (xF (xG0 X h0) (iZ 0) (iZ 0))  z) (cwV 1 C.1.2.2.2.2 (wC_V kX5_156 nX5_told slX5_told iniX5 cdX5_told) rfl rfl rfl (by decide +kernel) ⟨Nat.le_of_ble_eq_true rfl, Nat.le_of_ble_eq_true rfl⟩) rfl ⟨Nat.zero_le _, Nat.zero_le _⟩ (Nat.le_of_ble_eq_true rfl) dX5_times_107 [.int (iZ (0)), .ref (Q 0)] rfl (fun r v407 hv407 => ?_)
                      obtain ⟨⟨kk, hkk, rfl⟩, rfl⟩ := hv407
                      exact m_iret hsz C hr hlk (⟨n, hn, Or.inr (Or.inr ⟨by omega, hall, h0, kk, fun i hi => e1 i (by omega) hi, hkk, rfl, rfl⟩)⟩) dX5_times_110
                    · obtain ⟨i, rfl⟩ : ∃ i, j = i + 1 := ⟨j - 1, by omega⟩
                      have hti : tmA h0 r i = tmA X.2.2.2.2.2.1 r i := tmA_congr (e2 i (by omega)) (fun _ => e2 (i - 1) (by omega))
                      refine w_aload_n C dX5_times_78 3 rfl ?_
                      refine w_get (ci := 5) (ref := "RootIsolatorModel") (T := TX5) (Cn := RX5) (N := 10) C (fun w h => wC_in (inX5 w h)) 0 rfl rfl 0 (by decide) (wC_in fX5_given) rfl rfl dX5_times_79 ?_
                      refine w_iconst C dX5_times_82 ?_
                      refine w_aald (n := 2) (f := fun j => some (Q (9 + j))) C 5 3 rfl rfl rfl (0) ⟨rfl, by decide, by decide⟩ (rfl) dX5_times_83 ?_
                      refine w_iload C dX5_times_84 0 rfl ?_
                      refine w_aload_n C dX5_times_86 3 rfl ?_
                      refine w_iload C dX5_times_87 0 rfl ?_
                      refine w_top C ((i : Int)) (by omega) ?_
                      refine w_iload_n C dX5_times_89 4 rfl ?_
                      refine m_calll [.int (iZ ((i : Int))), .int (iZ (r))] hsz C (fun z => cm_timesAt l D Q G fL fS fN fD (xG0 X h0) i r (by omega) hr0 z) (cwV 2 C.1.2.2.2.2 (wC_V kX5_206 nX5_timesAt slX5_timesAt iniX5 cdX5_timesAt) rfl rfl rfl (by decide +kernel) ⟨Nat.le_of_ble_eq_true rfl, Nat.le_of_ble_eq_true rfl⟩) rfl ⟨Nat.zero_le _, Nat.zero_le _⟩ (Nat.le_of_ble_eq_true rfl) dX5_times_90 [.int (iZ (r)), .int (iZ ((i : Int))), .ref (Q 0), .int (iZ (((i + 1 : Nat) : Int) - 1)), .ref (Q 9)] rfl (fun r v408 hv408 => ?_)
                      obtain ⟨rfl, rfl⟩ := hv408
                      refine w_topl C (tmA X.2.2.2.2.2.1 r i) (hti) ?_
                      refine w_l2i C dX5_times_93 ?_
                      refine w_iast C (mU Q G (fL, fS, fN, fD, (xG0 (xG0 X h0) (upd h0 (i) (iZ (tmA X.2.2.2.2.2.1 r i)))))) 9 0 rfl rfl (i) ⟨by omega, by omega, by omega⟩ rfl dX5_times_94 ?_
                      refine w_iinc C ((i : Int) - 1) (by omega) [(4, .int (iZ ((i : Int) - 1))), (3, .int (iZ (ft))), (2, .int (iZ ((n : Int) - 1))), (0, .ref (Q 0)), (1, .int (iZ (r)))] dX5_times_95 0 rfl (by decide) rfl ?_
                      refine w_goto C 73 dX5_times_98 (by decide) ?_
                      exact ih2 i _ (by omega) (by omega) (fun q g1 g2 => by
                        by_cases g : q = i
                        · subst g; rw [upd_eq]
                        · rw [upd_ne g]; exact e1 q (by omega) g2) (fun q g1 => by rw [upd_ne (by omega)]; exact e2 q (by omega))
                exact l2 10 9 X.2.2.2.2.2.1 (by omega) (by omega) (fun i g1 g2 => absurd g1 (by omega)) (fun _ _ => rfl)
              · have hno : ¬ (n < 9 ∧ ∀ i : Nat, i < 9 → inB (tmA X.2.2.2.2.2.1 r i)) := by
                  rcases hft with g | g
                  · omega
                  · exact g.2
                refine w_bipush C dX5_times_66 (by decide) ?_
                exact m_iret hsz C hr hlk (⟨n, hn, Or.inr (Or.inl ⟨by omega, hno, rfl, rfl⟩)⟩) dX5_times_68
            · refine w_aload_n C dX5_times_39 3 rfl ?_
              refine w_iload C dX5_times_40 0 rfl ?_
              refine w_iload_n C dX5_times_42 4 rfl ?_
              refine m_calll [.int (iZ ((k : Int))), .int (iZ (r))] hsz C (fun z => cm_timesAt l D Q G fL fS fN fD X k r (by omega) hr0 z) (cwV 2 C.1.2.2.2.2 (wC_V kX5_206 nX5_timesAt slX5_timesAt iniX5 cdX5_timesAt) rfl rfl rfl (by decide +kernel) ⟨Nat.le_of_ble_eq_true rfl, Nat.le_of_ble_eq_true rfl⟩) rfl ⟨Nat.zero_le _, Nat.zero_le _⟩ (Nat.le_of_ble_eq_true rfl) dX5_times_43 [.int (iZ (r)), .int (iZ ((k : Int))), .ref (Q 0)] rfl (fun r v509 hv509 => ?_)
              obtain ⟨rfl, rfl⟩ := hv509
              refine w_ldc2 C (-1000000000) dX5_times_46 (wC_in kclX5_146) ?_
              refine w_ldc2 C (1000000000) dX5_times_49 (wC_in kclX5_148) ?_
              refine m_callSi [.long (lZ (tmA X.2.2.2.2.2.1 r k)), .long (lZ ((-1000000000))), .long (lZ (1000000000))] hsz C (fun z => cm_in l D Q G fL fS fN fD X (tmA X.2.2.2.2.2.1 r k) (-1000000000) 1000000000 (tmA_r _ hr0 k) (by omega) (by omega) z) (cwS 3 C.1.2.2.2.2 (wC_S kX5_132 stX5_in iniX5 cdX5_in) rfl rfl rfl (by decide +kernel) ⟨Nat.le_of_ble_eq_true rfl, Nat.le_of_ble_eq_true rfl⟩) rfl ⟨Nat.zero_le _, Nat.zero_le _⟩ (Nat.le_of_ble_eq_true rfl) dX5_times_52 [.long (lZ (1000000000)), .long (lZ ((-1000000000))), .long (lZ (tmA X.2.2.2.2.2.1 r k))] rfl (fun r v510 hv510 => ?_)
              obtain ⟨rfl, rfl⟩ := hv510
              refine w_istore_n C [(3, .int (iZ (if -1000000000 ≤ tmA X.2.2.2.2.2.1 r k ∧ tmA X.2.2.2.2.2.1 r k ≤ 1000000000 then 1 else 0))), (4, .int (iZ ((k : Int)))), (2, .int (iZ ((n : Int) - 1))), (0, .ref (Q 0)), (1, .int (iZ (r)))] dX5_times_55 rfl (by decide) rfl ?_
              refine w_iinc C (((k + 1 : Nat) : Int)) (by omega) [(4, .int (iZ (((k + 1 : Nat) : Int)))), (3, .int (iZ (if -1000000000 ≤ tmA X.2.2.2.2.2.1 r k ∧ tmA X.2.2.2.2.2.1 r k ≤ 1000000000 then 1 else 0))), (2, .int (iZ ((n : Int) - 1))), (0, .ref (Q 0)), (1, .int (iZ (r)))] dX5_times_56 1 rfl (by decide) rfl ?_
              refine w_goto C 28 dX5_times_59 (by decide) ?_
              exact ih1 (k + 1) _ (by omega) (by omega) (by
                by_cases g : -1000000000 ≤ tmA X.2.2.2.2.2.1 r k ∧ tmA X.2.2.2.2.2.1 r k ≤ 1000000000
                · rcases hft with h | h
                  · exact Or.inl ⟨if_pos g, h.2.1, fun i hi => by
                      rcases Nat.lt_or_ge i k with q | q
                      · exact h.2.2 i q
                      · rw [show i = k by omega]; exact g⟩
                  · exact absurd h.1 c36
                · exact Or.inr ⟨if_neg g, fun h => g (h.2 k (by omega))⟩)
      exact l1 10 0 _ (by omega) (by omega) (by
        by_cases g : n < 9
        · exact Or.inl ⟨if_pos g, g, fun i hi => absurd hi (by omega)⟩
        · exact Or.inr ⟨if_neg g, fun h => g h.1⟩)
    refine w_icmp_ge C 23 dX5_times_16 (by decide) ⟨⟨by omega, by omega⟩, by omega, by omega⟩ (fun c16 => ?_) (fun c16 => ?_)
    · refine w_iconst C dX5_times_23 ?_
      refine w_top C (if n < 9 then 1 else 0) (by rw [if_neg (by omega)]) ?_
      exact J2
    · refine w_iconst C dX5_times_19 ?_
      refine w_goto C 24 dX5_times_20 (by decide) ?_
      refine w_top C (if n < 9 then 1 else 0) (by rw [if_pos (by omega)]) ?_
      exact J2
  · refine w_bipush C dX5_times_10 (by decide) ?_
    exact m_iret hsz C hr hlk (⟨n, hn, Or.inl ⟨by omega, rfl, rfl⟩⟩) dX5_times_12
set_option maxHeartbeats 4000000 in
set_option maxRecDepth 100000 in
/-- derive -/
theorem cm_derive (l : Launch) (D : va_G) (Q : Nat → Nat) (G : Nat → ClassId) (fL fS fN fD : Nat → Int32) (X : mX)   (sz : Nat) : Met l yX5_derive (wC yX5_derive cX5_derive 2 (some .int)) ({ frames := 2, cells := 0, slots := 0, locals := 44 }) (va_Pc [.ref (Q 0)] (mPre D Q G (fL, fS, fN, fD, X) sz)) (va_Qi (fun (q : Int32) (u : mT) => (¬ (∀ i : Nat, i < 8 → inB (((i + 1 : Nat) : Int) * (X.2.2.2.2.2.1 (i + 1)).toInt)) ∧ q = iZ (-5) ∧ u = (fL, fS, fN, fD, X)) ∨ ((∀ i : Nat, i < 8 → inB (((i + 1 : Nat) : Int) * (X.2.2.2.2.2.1 (i + 1)).toInt)) ∧ ∃ (h1 : Nat → Int32) (k : Nat), (∀ i : Nat, i < 8 → h1 i = iZ (((i + 1 : Nat) : Int) * (X.2.2.2.2.2.1 (i + 1)).toInt)) ∧ h1 8 = iZ 0 ∧ topN h1 k ∧ q = iZ (if k = 0 then -3 else (k : Int) - 1) ∧ u = (fL, fS, fN, fD, xG1 X h1))) (mAt D Q G (mA Q sz)) (mA Q sz)) 0 0 (mA Q sz) := by
  refine m_met (cc := cX5_derive) (maxL := 2) (ret := (some .int)) (by decide) rfl rfl (Nat.le_of_ble_eq_true rfl) ?_
  intro p e s m below meth c hsz C hr hlk
  refine w_sub [(0, .ref (Q 0))] [0] rfl ?_
  have d1 : ∀ (d : Nat) (k : Nat), 9 < k + d → k ≤ 8 → (∀ i : Nat, i < k → inB (((i + 1 : Nat) : Int) * (X.2.2.2.2.2.1 (i + 1)).toInt)) → ZW p l e ({ frames := 2, cells := 0, slots := 0, locals := 44 }) s m ([.ref (Q 0)] : List Value).toArray below meth c D (mA Q sz) 2 0 0 (MQ below (va_Qi (fun (q : Int32) (u : mT) => (¬ (∀ i : Nat, i < 8 → inB (((i + 1 : Nat) : Int) * (X.2.2.2.2.2.1 (i + 1)).toInt)) ∧ q = iZ (-5) ∧ u = (fL, fS, fN, fD, X)) ∨ ((∀ i : Nat, i < 8 → inB (((i + 1 : Nat) : Int) * (X.2.2.2.2.2.1 (i + 1)).toInt)) ∧ ∃ (h1 : Nat → Int32) (k : Nat), (∀ i : Nat, i < 8 → h1 i = iZ (((i + 1 : Nat) : Int) * (X.2.2.2.2.2.1 (i + 1)).toInt)) ∧ h1 8 = iZ 0 ∧ topN h1 k ∧ q = iZ (if k = 0 then -3 else (k : Int) - 1) ∧ u = (fL, fS, fN, fD, xG1 X h1))) (mAt D Q G (mA Q sz)) (mA Q sz)) ([.ref (Q 0)] : List Value).toArray s 0 0 (mA Q sz)) (mU Q G (fL, fS, fN, fD, X)) 2 [(1, .int (iZ (((k + 1 : Nat) : Int)))), (0, .ref (Q 0))] [] := by
    intro d
    induction d with
    | zero =>
      intro k hd hk e1
      exact absurd hd (by omega)
    | succ d ih =>
      intro k hd hk e1
      refine w_iload_n C dX5_derive_2 0 rfl ?_
      refine w_bipush C dX5_derive_3 (by decide) ?_
      refine w_icmp_ge C 41 dX5_derive_5 (by decide) ⟨⟨by omega, by omega⟩, by omega, by omega⟩ (fun c5 => ?_) (fun c5 => ?_)
      · have hall : (∀ i : Nat, i < 8 → inB (((i + 1 : Nat) : Int) * (X.2.2.2.2.2.1 (i + 1)).toInt)) := fun i hi => e1 i (by omega)
        refine w_iconst C dX5_derive_41 ?_
        refine w_istore_n C [(1, .int (iZ (0))), (0, .ref (Q 0))] dX5_derive_42 rfl (by decide) rfl ?_
        have d2 : ∀ (d : Nat) (k : Nat) (h1 : Nat → Int32), 9 < k + d → k ≤ 9 → (∀ i : Nat, i < k → i < 8 → h1 i = iZ (((i + 1 : Nat) : Int) * (X.2.2.2.2.2.1 (i + 1)).toInt)) → (k = 9 → h1 8 = iZ 0) → ZW p l e ({ frames := 2, cells := 0, slots := 0, locals := 44 }) s m ([.ref (Q 0)] : List Value).toArray below meth c D (mA Q sz) 2 0 0 (MQ below (va_Qi (fun (q : Int32) (u : mT) => (¬ (∀ i : Nat, i < 8 → inB (((i + 1 : Nat) : Int) * (X.2.2.2.2.2.1 (i + 1)).toInt)) ∧ q = iZ (-5) ∧ u = (fL, fS, fN, fD, X)) ∨ ((∀ i : Nat, i < 8 → inB (((i + 1 : Nat) : Int) * (X.2.2.2.2.2.1 (i + 1)).toInt)) ∧ ∃ (h1 : Nat → Int32) (k : Nat), (∀ i : Nat, i < 8 → h1 i = iZ (((i + 1 : Nat) : Int) * (X.2.2.2.2.2.1 (i + 1)).toInt)) ∧ h1 8 = iZ 0 ∧ topN h1 k ∧ q = iZ (if k = 0 then -3 else (k : Int) - 1) ∧ u = (fL, fS, fN, fD, xG1 X h1))) (mAt D Q G (mA Q sz)) (mA Q sz)) ([.ref (Q 0)] : List Value).toArray s 0 0 (mA Q sz)) (mU Q G (fL, fS, fN, fD, (xG1 X h1))) 43 [(1, .int (iZ ((k : Int)))), (0, .ref (Q 0))] [] := by
          intro d
          induction d with
          | zero =>
            intro k h1 hd hk e1 e8
            exact absurd hd (by omega)
          | succ d ih2 =>
            intro k h1 hd hk e1 e8
            refine w_iload_n C dX5_derive_43 0 rfl ?_
            refine w_bipush C dX5_derive_44 (by decide) ?_
            refine w_icmp_ge C 89 dX5_derive_46 (by decide) ⟨⟨by omega, by omega⟩, by omega, by omega⟩ (fun c46 => ?_) (fun c46 => ?_)
            · refine w_aload_n C dX5_derive_89 1 rfl ?_
              refine w_iconst C dX5_derive_90 ?_
              refine m_calli [.int (iZ (1))] hsz C (fun z => cm_told1 l D Q G fL fS fN fD (xG1 X h1)  z) (cwV 1 C.1.2.2.2.2 (wC_V kX5_156 nX5_told slX5_told iniX5 cdX5_told) rfl rfl rfl (by decide +kernel) ⟨Nat.le_of_ble_eq_true rfl, Nat.le_of_ble_eq_true rfl⟩) rfl ⟨Nat.zero_le _, Nat.zero_le _⟩ (Nat.le_of_ble_eq_true rfl) dX5_derive_91 [.int (iZ (1)), .ref (Q 0)] rfl (fun r v101 hv101 => ?_)
              obtain ⟨⟨kk, hkk, rfl⟩, rfl⟩ := hv101
              exact m_iret hsz C hr hlk (Or.inr ⟨hall, h1, kk, fun i hi => e1 i (by omega) hi, e8 (by omega), hkk, rfl, rfl⟩) dX5_derive_94
            · refine w_aload_n C dX5_derive_49 1 rfl ?_
              refine w_get (ci := 5) (ref := "RootIsolatorModel") (T := TX5) (Cn := RX5) (N := 10) C (fun w h => wC_in (inX5 w h)) 0 rfl rfl 0 (by decide) (wC_in fX5_given) rfl rfl dX5_derive_50 ?_
              refine w_iconst C dX5_derive_53 ?_
              refine w_aald (n := 2) (f := fun j => some (Q (9 + j))) C 5 3 rfl rfl rfl (1) ⟨rfl, by decide, by decide⟩ (rfl) dX5_derive_54 ?_
              refine w_iload_n C dX5_derive_55 0 rfl ?_
              refine w_iload_n C dX5_derive_56 0 rfl ?_
              refine w_iconst C dX5_derive_57 ?_
              refine w_iadd C dX5_derive_58 ?_
              refine w_bipush C dX5_derive_59 (by decide) ?_
              have J102 : ZW p l e ({ frames := 2, cells := 0, slots := 0, locals := 44 }) s m ([.ref (Q 0)] : List Value).toArray below meth c D (mA Q sz) 2 0 0 (MQ below (va_Qi (fun (q : Int32) (u : mT) => (¬ (∀ i : Nat, i < 8 → inB (((i + 1 : Nat) : Int) * (X.2.2.2.2.2.1 (i + 1)).toInt)) ∧ q = iZ (-5) ∧ u = (fL, fS, fN, fD, X)) ∨ ((∀ i : Nat, i < 8 → inB (((i + 1 : Nat) : Int) * (X.2.2.2.2.2.1 (i + 1)).toInt)) ∧ ∃ (h1 : Nat → Int32) (k : Nat), (∀ i : Nat, i < 8 → h1 i = iZ (((i + 1 : Nat) : Int) * (X.2.2.2.2.2.1 (i + 1)).toInt)) ∧ h1 8 = iZ 0 ∧ topN h1 k ∧ q = iZ (if k = 0 then -3 else (k : Int) - 1) ∧ u = (fL, fS, fN, fD, xG1 X h1))) (mAt D Q G (mA Q sz)) (mA Q sz)) ([.ref (Q 0)] : List Value).toArray s 0 0 (mA Q sz)) (mU Q G (fL, fS, fN, fD, (xG1 X h1))) 82 [(1, .int (iZ ((k : Int)))), (0, .ref (Q 0))] [.int (iZ (if k < 8 then ((k + 1 : Nat) : Int) * (X.2.2.2.2.2.1 (k + 1)).toInt else 0)), .int (iZ ((k : Int))), .ref (Q 10)] := by
                refine w_iast C (mU Q G (fL, fS, fN, fD, (xG1 (xG1 X h1) (upd h1 (k) (iZ (if k < 8 then ((k + 1 : Nat) : Int) * (X.2.2.2.2.2.1 (k + 1)).toInt else 0)))))) 10 0 rfl rfl (k) ⟨by omega, by omega, by omega⟩ rfl dX5_derive_82 ?_
                refine w_iinc C (((k + 1 : Nat) : Int)) (by omega) [(1, .int (iZ (((k + 1 : Nat) : Int)))), (0, .ref (Q 0))] dX5_derive_83 0 rfl (by decide) rfl ?_
                refine w_goto C 43 dX5_derive_86 (by decide) ?_
                exact ih2 (k + 1) _ (by omega) (by omega) (fun i g1 g2 => by
                  by_cases g : i = k
                  · subst g; rw [upd_eq, if_pos g2]
                  · rw [upd_ne g]; exact e1 i (by omega) g2) (fun g => by rw [show (8 : Nat) = k by omega, upd_eq, if_neg (by omega)])
              refine w_icmp_ge C 81 dX5_derive_61 (by decide) ⟨⟨by omega, by omega⟩, by omega, by omega⟩ (fun c61 => ?_) (fun c61 => ?_)
              · refine w_iconst C dX5_derive_81 ?_
                refine w_top C (if k < 8 then ((k + 1 : Nat) : Int) * (X.2.2.2.2.2.1 (k + 1)).toInt else 0) (by rw [if_neg (by omega)]) ?_
                exact J102
              · refine w_iload_n C dX5_derive_64 0 rfl ?_
                refine w_iconst C dX5_derive_65 ?_
                refine w_iadd C dX5_derive_66 ?_
                refine w_aload_n C dX5_derive_67 1 rfl ?_
                refine w_get (ci := 5) (ref := "RootIsolatorModel") (T := TX5) (Cn := RX5) (N := 10) C (fun w h => wC_in (inX5 w h)) 0 rfl rfl 0 (by decide) (wC_in fX5_given) rfl rfl dX5_derive_68 ?_
                refine w_iconst C dX5_derive_71 ?_
                refine w_aald (n := 2) (f := fun j => some (Q (9 + j))) C 5 3 rfl rfl rfl (0) ⟨rfl, by decide, by decide⟩ (rfl) dX5_derive_72 ?_
                refine w_iload_n C dX5_derive_73 0 rfl ?_
                refine w_iconst C dX5_derive_74 ?_
                refine w_iadd C dX5_derive_75 ?_
                refine w_iald C 9 0 rfl rfl (k + 1) ((X.2.2.2.2.2.1 (k + 1)).toInt) ⟨by omega, by omega, by omega⟩ ((iZ_self _).symm) dX5_derive_76 ?_
                refine w_imul C dX5_derive_77 ?_
                refine w_goto C 82 dX5_derive_78 (by decide) ?_
                refine w_top C (if k < 8 then ((k + 1 : Nat) : Int) * (X.2.2.2.2.2.1 (k + 1)).toInt else 0) (by rw [if_pos (by omega)]; exact congrArg (· * _) (by omega)) ?_
                exact J102
        exact d2 10 0 X.2.2.2.2.2.2 (by omega) (by omega) (fun i g => absurd g (by omega)) (fun g => absurd g (by omega))
      · refine w_iload_n C dX5_derive_8 0 rfl ?_
        refine w_i2l C dX5_derive_9 ⟨by omega, by omega⟩ ?_
        refine w_aload_n C dX5_derive_10 1 rfl ?_
        refine w_get (ci := 5) (ref := "RootIsolatorModel") (T := TX5) (Cn := RX5) (N := 10) C (fun w h => wC_in (inX5 w h)) 0 rfl rfl 0 (by decide) (wC_in fX5_given) rfl rfl dX5_derive_11 ?_
        refine w_iconst C dX5_derive_14 ?_
        refine w_aald (n := 2) (f := fun j => some (Q (9 + j))) C 5 3 rfl rfl rfl (0) ⟨rfl, by decide, by decide⟩ (rfl) dX5_derive_15 ?_
        refine w_iload_n C dX5_derive_16 0 rfl ?_
        refine w_iald C 9 0 rfl rfl (k + 1) ((X.2.2.2.2.2.1 (k + 1)).toInt) ⟨by omega, by omega, by omega⟩ ((iZ_self _).symm) dX5_derive_17 ?_
        refine w_i2l C dX5_derive_18 (i32r _) ?_
        refine w_lmul C dX5_derive_19 ?_
        refine w_ldc2 C (-1000000000) dX5_derive_20 (wC_in kclX5_146) ?_
        refine w_ldc2 C (1000000000) dX5_derive_23 (wC_in kclX5_148) ?_
        refine m_callSi [.long (lZ ((((k + 1 : Nat) : Int)) * ((X.2.2.2.2.2.1 (k + 1)).toInt))), .long (lZ ((-1000000000))), .long (lZ (1000000000))] hsz C (fun z => cm_in l D Q G fL fS fN fD X (((k + 1 : Nat) : Int) * (X.2.2.2.2.2.1 (k + 1)).toInt) (-1000000000) 1000000000 (by have := mul_rng (show -2147483648 ≤ ((k + 1 : Nat) : Int) ∧ ((k + 1 : Nat) : Int) < 2147483648 by omega) (i32r (X.2.2.2.2.2.1 (k + 1))); omega) (by omega) (by omega) z) (cwS 3 C.1.2.2.2.2 (wC_S kX5_132 stX5_in iniX5 cdX5_in) rfl rfl rfl (by decide +kernel) ⟨Nat.le_of_ble_eq_true rfl, Nat.le_of_ble_eq_true rfl⟩) rfl ⟨Nat.zero_le _, Nat.zero_le _⟩ (Nat.le_of_ble_eq_true rfl) dX5_derive_26 [.long (lZ (1000000000)), .long (lZ ((-1000000000))), .long (lZ ((((k + 1 : Nat) : Int)) * ((X.2.2.2.2.2.1 (k + 1)).toInt)))] rfl (fun r v203 hv203 => ?_)
        obtain ⟨rfl, rfl⟩ := hv203
        refine w_if_ne C 35 dX5_derive_29 (by decide) (by split <;> omega) (fun c29 => ?_) (fun c29 => ?_)
        · refine w_iinc C (((k + 1 + 1 : Nat) : Int)) (by omega) [(1, .int (iZ (((k + 1 + 1 : Nat) : Int)))), (0, .ref (Q 0))] dX5_derive_35 0 rfl (by decide) rfl ?_
          refine w_goto C 2 dX5_derive_38 (by decide) ?_
          exact ih (k + 1) (by omega) (by omega) (fun i hi => by
            rcases Nat.lt_or_ge i k with g | g
            · exact e1 i g
            · rw [show i = k by omega]; exact Classical.byContradiction (fun g => c29 (if_neg g)))
        · have hno : ¬ (∀ i : Nat, i < 8 → inB (((i + 1 : Nat) : Int) * (X.2.2.2.2.2.1 (i + 1)).toInt)) := fun h => by have g := h k (by omega); unfold inB at g; rw [if_pos g] at c29; omega
          refine w_bipush C dX5_derive_32 (by decide) ?_
          exact m_iret hsz C hr hlk (Or.inl ⟨hno, rfl, rfl⟩) dX5_derive_34
  refine w_iconst C dX5_derive_0 ?_
  refine w_istore_n C [(1, .int (iZ (1))), (0, .ref (Q 0))] dX5_derive_1 rfl (by decide) rfl ?_
  exact d1 10 0 (by omega) (by omega) (fun i hi => absurd hi (by omega))
