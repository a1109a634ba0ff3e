/-- four numbers of the chain set -/
def n4 (Z : Nat → Int) (a b c x : Int) : Nat → Int := fun q => if q = 77 then a else if q = 78 then b else if q = 79 then c else if q = 80 then x else Z q
theorem n4_o {Z : Nat → Int} {a b c x : Int} {q : Nat} (h : q < 77 ∨ 80 < q) : n4 Z a b c x q = Z q := by
  unfold n4
  rw [if_neg (by omega), if_neg (by omega), if_neg (by omega), if_neg (by omega)]
theorem n4_77 {Z : Nat → Int} {a b c x : Int} : n4 Z a b c x 77 = a := rfl
theorem n4_78 {Z : Nat → Int} {a b c x : Int} : n4 Z a b c x 78 = b := rfl
theorem n4_79 {Z : Nat → Int} {a b c x : Int} : n4 Z a b c x 79 = c := rfl
theorem n4_80 {Z : Nat → Int} {a b c x : Int} : n4 Z a b c x 80 = x := rfl
theorem n4_s77 (Z : Nat → Int) (a b c x v : Int) : qu (n4 Z a b c x) 77 v = n4 Z v b c x := by
  funext q; unfold qu n4
  by_cases h : q = 77
  · rw [if_pos h, if_pos h]
  · rw [if_neg h, if_neg h, if_neg h]
theorem n4_s78 (Z : Nat → Int) (a b c x v : Int) : qu (n4 Z a b c x) 78 v = n4 Z a v c x := by
  funext q; unfold qu n4
  by_cases h : q = 78
  · subst h; rfl
  · simp only [if_neg h]
theorem n4_s79 (Z : Nat → Int) (a b c x v : Int) : qu (n4 Z a b c x) 79 v = n4 Z a b v x := by
  funext q; unfold qu n4
  by_cases h : q = 79
  · subst h; rfl
  · simp only [if_neg h]
theorem n4_s80 (Z : Nat → Int) (a b c x v : Int) : qu (n4 Z a b c x) 80 v = n4 Z a b c v := by
  funext q; unfold qu n4
  by_cases h : q = 80
  · subst h; rfl
  · simp only [if_neg h]
theorem n4_self (Z : Nat → Int) : Z = n4 Z (Z 77) (Z 78) (Z 79) (Z 80) := by
  funext q; unfold n4
  by_cases h1 : q = 77
  · rw [if_pos h1, h1]
  · rw [if_neg h1]
    by_cases h2 : q = 78
    · rw [if_pos h2, h2]
    · rw [if_neg h2]
      by_cases h3 : q = 79
      · rw [if_pos h3, h3]
      · rw [if_neg h3]
        by_cases h4 : q = 80
        · rw [if_pos h4, h4]
        · rw [if_neg h4]
/-- the rest and the divider set -/
def dZ (Z : Nat → Int) (x : Int) (ρ : Nat → Int) : Nat → Int := sP (qu Z 79 x) 61 16 ρ
theorem dZ_79 {Z : Nat → Int} {x : Int} {ρ : Nat → Int} : dZ Z x ρ 79 = x := rfl
theorem dZ_r {Z : Nat → Int} {x : Int} {ρ : Nat → Int} {i : Nat} (h : i < 16) : dZ Z x ρ (61 + i) = ρ i := sP_in _ _ h
theorem dZ_o {Z : Nat → Int} {x : Int} {ρ : Nat → Int} {q : Nat} (h : (q < 61 ∨ 77 ≤ q) ∧ q ≠ 79) : dZ Z x ρ q = Z q := by
  unfold dZ
  rw [sP_out _ _ (by omega), qu_other _ _ h.2]
theorem dZ_s79 (Z : Nat → Int) (x v : Int) (ρ : Nat → Int) : qu (dZ Z x ρ) 79 v = dZ Z v ρ := by
  unfold dZ; rw [sP_qs _ _ _ (by omega), qu_qu]
theorem dZ_put {Z : Nat → Int} {x v : Int} {ρ ρ' : Nat → Int} {i : Nat} (hi : i < 16) (hv : v = ρ' i) (h : ∀ j : Nat, j < 16 → j ≠ i → ρ' j = ρ j) : qu (dZ Z x ρ) (61 + i) v = dZ Z x ρ' := sP_put _ hi hv h
theorem dZ_congr {Z : Nat → Int} {x : Int} {ρ ρ' : Nat → Int} (h : ∀ j : Nat, j < 16 → ρ j = ρ' j) : dZ Z x ρ = dZ Z x ρ' := sP_congr _ _ _ h
theorem dZ_self (Z : Nat → Int) : Z = dZ Z (Z 79) (fun i => Z (61 + i)) := by
  funext q
  by_cases h : 61 ≤ q ∧ q < 77
  · obtain ⟨i, rfl⟩ : ∃ i, q = 61 + i := ⟨q - 61, by omega⟩
    rw [dZ_r (by omega)]
  · by_cases h1 : q = 79
    · rw [h1]; rfl
    · rw [dZ_o ⟨by omega, h1⟩]
theorem shd_val {v w : Int} {bt : Nat} (h : v = w * 2 ^ bt) : v.sign * ((v.natAbs : Int) / 2 ^ bt) = w := by
  have hp : (0 : Int) < 2 ^ bt := Int.pow_pos (by omega)
  have h1 : (v.natAbs : Int) = (w.natAbs : Int) * 2 ^ bt := by
    rw [h, Int.natAbs_mul, Int.natCast_mul]
    congr 1
  have h2 : v.sign = w.sign := by rw [h, Int.sign_mul, Int.sign_eq_one_of_pos hp, Int.mul_one]
  rw [h1, h2, Int.mul_ediv_cancel _ (by omega), Int.sign_mul_natAbs]
theorem odd_ne {y w : Int} {bt : Nat} (h : w = y * 2 ^ bt) (h0 : w ≠ 0) : y ≠ 0 := fun q => h0 (by rw [h, q, Int.zero_mul])
theorem pow_z {x : Int} : ∀ {k : Nat}, x ^ k = 0 → x = 0
  | 0, h => absurd h (by rw [Int.pow_zero]; decide)
  | k + 1, h => by
    rw [Int.pow_succ] at h
    rcases Int.mul_eq_zero.1 h with q | q
    · exact pow_z q
    · exact q
set_option maxHeartbeats 4000000 in
set_option maxRecDepth 100000 in
/-- divideRest -/
theorem cc_divideRest (l : Launch) (D : va_G) (G : Nat → ClassId) (X : va_W) (Q P PA T : Nat → Nat) (st : Nat → va_W) (nn : Nat → Nat) (Z : Nat → Int) (cx rx d : Nat) (us : Int32) (f : Nat → Int) (hZ : pAll G Q st nn Z) (hd : d ≤ 16) (hNa : T 10 ≤ 16) (hf : ∀ i : Nat, i < T 10 → Z (61 + i) = f i * (Z 77 * Z 78 ^ d)) (h0 : (Z 77 * Z 78 ^ d) ≠ 0) (hlb : lb (Z 78) 100 ∧ ∀ e : Nat, e ≤ d → lb (Z 77 * Z 78 ^ e) 900) (sz hs : Nat) : Met l yX0_divideRest (wC yX0_divideRest cX0_divideRest 4 none) ({ frames := 3, cells := 2156, slots := 802816, locals := 92 }) (va_Pc [.ref cx, .int (iZ ((d : Int)))] (cPre nW D G ((cx, .inr (0, [.ref rx, .int (us), .ref (P 10), .ref (Q 77), .ref (Q 78), .ref (Q 79), .ref (Q 80), .ref (Q 81), .ref (Q 82), .ref (Q 83)])) :: (rx, .inl (G 5, 10, .inr (.inr (.inr (.inr (fun i => some (P i))))))) :: ((fp G Q P PA T ++ X) ++ pl st) : va_W) sz hs)) (va_Qv (fun (u : cS) => ∃ (st1 : Nat → va_W) (nn1 : Nat → Nat) (c1 s1 : Nat) (y : Int), pAll G Q st1 nn1 (dZ Z y (fun i => if i < T 10 then -(f i) else Z (61 + i))) ∧ pG (pC nn) (pS nn) nn1 c1 s1 ∧ u = (((cx, .inr (0, [.ref rx, .int (us), .ref (P 10), .ref (Q 77), .ref (Q 78), .ref (Q 79), .ref (Q 80), .ref (Q 81), .ref (Q 82), .ref (Q 83)])) :: (rx, .inl (G 5, 10, .inr (.inr (.inr (.inr (fun i => some (P i))))))) :: ((fp G Q P PA T ++ X) ++ pl st1) : va_W), c1, s1)) (cAt D G (va_A ((cx, .inr (0, [.ref rx, .int (us), .ref (P 10), .ref (Q 77), .ref (Q 78), .ref (Q 79), .ref (Q 80), .ref (Q 81), .ref (Q 82), .ref (Q 83)])) :: (rx, .inl (G 5, 10, .inr (.inr (.inr (.inr (fun i => some (P i))))))) :: ((fp G Q P PA T ++ X) ++ pl st) : va_W) sz) sz hs) (va_A ((cx, .inr (0, [.ref rx, .int (us), .ref (P 10), .ref (Q 77), .ref (Q 78), .ref (Q 79), .ref (Q 80), .ref (Q 81), .ref (Q 82), .ref (Q 83)])) :: (rx, .inl (G 5, 10, .inr (.inr (.inr (.inr (fun i => some (P i))))))) :: ((fp G Q P PA T ++ X) ++ pl st) : va_W) sz)) 2156 802816 (va_A ((cx, .inr (0, [.ref rx, .int (us), .ref (P 10), .ref (Q 77), .ref (Q 78), .ref (Q 79), .ref (Q 80), .ref (Q 81), .ref (Q 82), .ref (Q 83)])) :: (rx, .inl (G 5, 10, .inr (.inr (.inr (.inr (fun i => some (P i))))))) :: ((fp G Q P PA T ++ X) ++ pl st) : va_W) sz) := by
  refine g_met (cc := cX0_divideRest) (maxL := 4) (ret := none) (own := RX0) (by decide) rfl rfl (Nat.le_of_ble_eq_true rfl) ?_
  intro p e s m below meth c hsz hhs hNs hA C hr hlk
  refine w_sub [(0, .ref cx), (1, .int (iZ ((d : Int))))] [0, 1] rfl ?_
  have hG : pG (pC nn) (pS nn) nn 0 0 := ⟨Nat.le_of_eq (Nat.zero_add _), Nat.le_of_eq (Nat.zero_add _)⟩
  refine w_aload_n C dX0_divideRest_0 0 rfl ?_
  refine w_get (ci := 0) (ref := "RootIsolator$Chain") (T := TX0) (Cn := RX0) (N := 10) C (fun w h => wC_in (inX0 w h)) 0 rfl rfl 5 (by decide) (wC_in fX0_38) rfl rfl dX0_divideRest_1 ?_
  refine w_aload_n C dX0_divideRest_4 0 rfl ?_
  refine w_get (ci := 0) (ref := "RootIsolator$Chain") (T := TX0) (Cn := RX0) (N := 10) C (fun w h => wC_in (inX0 w h)) 0 rfl rfl 3 (by decide) (wC_in fX0_31) rfl rfl dX0_divideRest_5 ?_
  refine p_copy hA C ((cx, .inr (0, [.ref rx, .int (us), .ref (P 10), .ref (Q 77), .ref (Q 78), .ref (Q 79), .ref (Q 80), .ref (Q 81), .ref (Q 82), .ref (Q 83)])) :: (rx, .inl (G 5, 10, .inr (.inr (.inr (.inr (fun i => some (P i))))))) :: (fp G Q P PA T ++ X) : va_W) hZ hG (79) (77) (by omega) (by omega) (by omega) (lb_le (by have h9 := hlb.2 0 (by omega); rw [Int.pow_zero, Int.mul_one] at h9; exact h9) (by omega)) (cwV 1 C.1.2.2.2.2 (wC_V kX0_93 nX3_copy slX3_copy iniX3 cdX3_copy) rfl rfl rfl (by decide +kernel) ⟨Nat.le_of_ble_eq_true rfl, Nat.le_of_ble_eq_true rfl⟩) ⟨Nat.le_of_ble_eq_true rfl, Nat.le_of_ble_eq_true rfl⟩ (Nat.le_of_ble_eq_true rfl) dX0_divideRest_8 (fun st1 nn1 c1 s1 hZ1 hG1 => ?_)
  rw [show (qu Z 79 (Z 77)) = (dZ Z (Z 77) (fun i => Z (61 + i))) from by
  have e := dZ_s79 Z (Z 79) (Z 77) (fun i => Z (61 + i))
  rw [← dZ_self] at e
  exact e] at hZ1
  refine w_iconst C dX0_divideRest_11 ?_
  refine w_istore_n C [(2, .int (iZ (0))), (0, .ref cx), (1, .int (iZ ((d : Int))))] dX0_divideRest_12 rfl (by decide) rfl ?_
  have lp1 : ∀ (d9 : Nat) (e9 : Nat) (sti : Nat → va_W) (nni : Nat → Nat) (ci : Nat) (si : Nat), d < e9 + d9 → e9 ≤ d → pAll G Q sti nni (dZ Z (Z 77 * Z 78 ^ e9) (fun i => Z (61 + i))) → pG (pC nn) (pS nn) nni ci si → ZW p l e ({ frames := 3, cells := 2156, slots := 802816, locals := 92 }) s m ([.ref cx, .int (iZ ((d : Int)))] : List Value).toArray below meth c D (va_A ((cx, .inr (0, [.ref rx, .int (us), .ref (P 10), .ref (Q 77), .ref (Q 78), .ref (Q 79), .ref (Q 80), .ref (Q 81), .ref (Q 82), .ref (Q 83)])) :: (rx, .inl (G 5, 10, .inr (.inr (.inr (.inr (fun i => some (P i))))))) :: ((fp G Q P PA T ++ X) ++ pl st) : va_W) sz) 4 ci si (MQ below (va_Qv (fun (u : cS) => ∃ (st1 : Nat → va_W) (nn1 : Nat → Nat) (c1 s1 : Nat) (y : Int), pAll G Q st1 nn1 (dZ Z y (fun i => if i < T 10 then -(f i) else Z (61 + i))) ∧ pG (pC nn) (pS nn) nn1 c1 s1 ∧ u = (((cx, .inr (0, [.ref rx, .int (us), .ref (P 10), .ref (Q 77), .ref (Q 78), .ref (Q 79), .ref (Q 80), .ref (Q 81), .ref (Q 82), .ref (Q 83)])) :: (rx, .inl (G 5, 10, .inr (.inr (.inr (.inr (fun i => some (P i))))))) :: ((fp G Q P PA T ++ X) ++ pl st1) : va_W), c1, s1)) (cAt D G (va_A ((cx, .inr (0, [.ref rx, .int (us), .ref (P 10), .ref (Q 77), .ref (Q 78), .ref (Q 79), .ref (Q 80), .ref (Q 81), .ref (Q 82), .ref (Q 83)])) :: (rx, .inl (G 5, 10, .inr (.inr (.inr (.inr (fun i => some (P i))))))) :: ((fp G Q P PA T ++ X) ++ pl st) : va_W) sz) sz hs) (va_A ((cx, .inr (0, [.ref rx, .int (us), .ref (P 10), .ref (Q 77), .ref (Q 78), .ref (Q 79), .ref (Q 80), .ref (Q 81), .ref (Q 82), .ref (Q 83)])) :: (rx, .inl (G 5, 10, .inr (.inr (.inr (.inr (fun i => some (P i))))))) :: ((fp G Q P PA T ++ X) ++ pl st) : va_W) sz)) ([.ref cx, .int (iZ ((d : Int)))] : List Value).toArray s 2156 802816 (va_A ((cx, .inr (0, [.ref rx, .int (us), .ref (P 10), .ref (Q 77), .ref (Q 78), .ref (Q 79), .ref (Q 80), .ref (Q 81), .ref (Q 82), .ref (Q 83)])) :: (rx, .inl (G 5, 10, .inr (.inr (.inr (.inr (fun i => some (P i))))))) :: ((fp G Q P PA T ++ X) ++ pl st) : va_W) sz)) ((cx, .inr (0, [.ref rx, .int (us), .ref (P 10), .ref (Q 77), .ref (Q 78), .ref (Q 79), .ref (Q 80), .ref (Q 81), .ref (Q 82), .ref (Q 83)])) :: (rx, .inl (G 5, 10, .inr (.inr (.inr (.inr (fun i => some (P i))))))) :: ((fp G Q P PA T ++ X) ++ pl sti) : va_W) 13 [(2, .int (iZ ((e9 : Int)))), (0, .ref cx), (1, .int (iZ ((d : Int))))] [] := by
    intro d9
    induction d9 with
    | zero =>
      intro e9 sti nni ci si hd he hZi hGi
      exact absurd hd (by omega)
    | succ d9 ih2 =>
      intro e9 sti nni ci si hd he hZi hGi
      refine w_iload_n C dX0_divideRest_13 0 rfl ?_
      refine w_iload_n C dX0_divideRest_14 2 rfl ?_
      refine w_icmp_ge C 35 dX0_divideRest_15 (by decide) ⟨⟨by omega, by omega⟩, by omega, by omega⟩ (fun c15 => ?_) (fun c15 => ?_)
      · obtain rfl : e9 = d := by omega
        refine w_aload_n C dX0_divideRest_35 1 rfl ?_
        refine w_get (ci := 0) (ref := "RootIsolator$Chain") (T := TX0) (Cn := RX0) (N := 10) C (fun w h => wC_in (inX0 w h)) 0 rfl rfl 5 (by decide) (wC_in fX0_38) rfl rfl dX0_divideRest_36 ?_
        refine p_makeOdd hA C ((cx, .inr (0, [.ref rx, .int (us), .ref (P 10), .ref (Q 77), .ref (Q 78), .ref (Q 79), .ref (Q 80), .ref (Q 81), .ref (Q 82), .ref (Q 83)])) :: (rx, .inl (G 5, 10, .inr (.inr (.inr (.inr (fun i => some (P i))))))) :: (fp G Q P PA T ++ X) : va_W) hZi hGi (79) (by omega)  (cwV 0 C.1.2.2.2.2 (wC_V kX0_97 nX3_makeOdd slX3_makeOdd iniX3 cdX3_makeOdd) rfl rfl rfl (by decide +kernel) ⟨Nat.le_of_ble_eq_true rfl, Nat.le_of_ble_eq_true rfl⟩) ⟨Nat.le_of_ble_eq_true rfl, Nat.le_of_ble_eq_true rfl⟩ (Nat.le_of_ble_eq_true rfl) dX0_divideRest_39 (fun st102 nn102 c102 s102 bt y hbt hyv hyo hZ102 hG102 => ?_)
        rw [show (qu (dZ Z (Z 77 * Z 78 ^ e9) (fun i => Z (61 + i))) 79 y) = (dZ Z y (fun i => Z (61 + i))) from dZ_s79 _ _ _ _] at hZ102
        rw [dZ_79] at hyv hyo
        have hyo2 := hyo h0
        refine w_istore_n C [(2, .int (iZ ((bt : Int)))), (0, .ref cx), (1, .int (iZ ((e9 : Int))))] dX0_divideRest_42 rfl (by decide) rfl ?_
        refine w_iconst C dX0_divideRest_43 ?_
        refine w_istore_n C [(3, .int (iZ (0))), (2, .int (iZ ((bt : Int)))), (0, .ref cx), (1, .int (iZ ((e9 : Int))))] dX0_divideRest_44 rfl (by decide) rfl ?_
        have lp2 : ∀ (d9 : Nat) (k : Nat) (sti : Nat → va_W) (nni : Nat → Nat) (ci : Nat) (si : Nat), T 10 < k + d9 → k ≤ T 10 → pAll G Q sti nni (dZ Z y (fun i => if i < k then -(f i) else Z (61 + i))) → pG (pC nn) (pS nn) nni ci si → ZW p l e ({ frames := 3, cells := 2156, slots := 802816, locals := 92 }) s m ([.ref cx, .int (iZ ((e9 : Int)))] : List Value).toArray below meth c D (va_A ((cx, .inr (0, [.ref rx, .int (us), .ref (P 10), .ref (Q 77), .ref (Q 78), .ref (Q 79), .ref (Q 80), .ref (Q 81), .ref (Q 82), .ref (Q 83)])) :: (rx, .inl (G 5, 10, .inr (.inr (.inr (.inr (fun i => some (P i))))))) :: ((fp G Q P PA T ++ X) ++ pl st) : va_W) sz) 4 ci si (MQ below (va_Qv (fun (u : cS) => ∃ (st1 : Nat → va_W) (nn1 : Nat → Nat) (c1 s1 : Nat) (y : Int), pAll G Q st1 nn1 (dZ Z y (fun i => if i < T 10 then -(f i) else Z (61 + i))) ∧ pG (pC nn) (pS nn) nn1 c1 s1 ∧ u = (((cx, .inr (0, [.ref rx, .int (us), .ref (P 10), .ref (Q 77), .ref (Q 78), .ref (Q 79), .ref (Q 80), .ref (Q 81), .ref (Q 82), .ref (Q 83)])) :: (rx, .inl (G 5, 10, .inr (.inr (.inr (.inr (fun i => some (P i))))))) :: ((fp G Q P PA T ++ X) ++ pl st1) : va_W), c1, s1)) (cAt D G (va_A ((cx, .inr (0, [.ref rx, .int (us), .ref (P 10), .ref (Q 77), .ref (Q 78), .ref (Q 79), .ref (Q 80), .ref (Q 81), .ref (Q 82), .ref (Q 83)])) :: (rx, .inl (G 5, 10, .inr (.inr (.inr (.inr (fun i => some (P i))))))) :: ((fp G Q P PA T ++ X) ++ pl st) : va_W) sz) sz hs) (va_A ((cx, .inr (0, [.ref rx, .int (us), .ref (P 10), .ref (Q 77), .ref (Q 78), .ref (Q 79), .ref (Q 80), .ref (Q 81), .ref (Q 82), .ref (Q 83)])) :: (rx, .inl (G 5, 10, .inr (.inr (.inr (.inr (fun i => some (P i))))))) :: ((fp G Q P PA T ++ X) ++ pl st) : va_W) sz)) ([.ref cx, .int (iZ ((e9 : Int)))] : List Value).toArray s 2156 802816 (va_A ((cx, .inr (0, [.ref rx, .int (us), .ref (P 10), .ref (Q 77), .ref (Q 78), .ref (Q 79), .ref (Q 80), .ref (Q 81), .ref (Q 82), .ref (Q 83)])) :: (rx, .inl (G 5, 10, .inr (.inr (.inr (.inr (fun i => some (P i))))))) :: ((fp G Q P PA T ++ X) ++ pl st) : va_W) sz)) ((cx, .inr (0, [.ref rx, .int (us), .ref (P 10), .ref (Q 77), .ref (Q 78), .ref (Q 79), .ref (Q 80), .ref (Q 81), .ref (Q 82), .ref (Q 83)])) :: (rx, .inl (G 5, 10, .inr (.inr (.inr (.inr (fun i => some (P i))))))) :: ((fp G Q P PA T ++ X) ++ pl sti) : va_W) 45 [(3, .int (iZ ((k : Int)))), (2, .int (iZ ((bt : Int)))), (0, .ref cx), (1, .int (iZ ((e9 : Int))))] [] := by
          intro d9
          induction d9 with
          | zero =>
            intro k sti nni ci si hd hk hZi hGi
            exact absurd hd (by omega)
          | succ d9 ih3 =>
            intro k sti nni ci si hd hk hZi hGi
            refine w_iload_n C dX0_divideRest_45 0 rfl ?_
            refine w_aload_n C dX0_divideRest_46 2 rfl ?_
            refine w_get (ci := 0) (ref := "RootIsolator$Chain") (T := TX0) (Cn := RX0) (N := 10) C (fun w h => wC_in (inX0 w h)) 0 rfl rfl 2 (by decide) (wC_in fX0_24) rfl rfl dX0_divideRest_47 ?_
            refine c_top C ((cx, .inr (0, [.ref rx, .int (us), .ref (P 10), .ref (Q 77), .ref (Q 78), .ref (Q 79), .ref (Q 80), .ref (Q 81), .ref (Q 82), .ref (Q 83)])) :: (rx, .inl (G 5, 10, .inr (.inr (.inr (.inr (fun i => some (P i))))))) :: [] : va_W) X (fun w h => wC_in (inX2 w h)) (10) (by omega) hNs.2.2.2.2.2.2.1 dX0_divideRest_50 ?_
            refine w_icmp_gt C 103 dX0_divideRest_53 (by decide) ⟨⟨by omega, by omega⟩, by omega, by omega⟩ (fun c53 => ?_) (fun c53 => ?_)
            · have hkT : k = T 10 := by omega
              rw [hkT] at hZi
              have hle := pG_le hZi hGi
              exact g_vret hsz hhs C hr hlk ⟨by omega, by omega⟩ (⟨_, _, _, _, y, hZi, hGi, rfl⟩) dX0_divideRest_103
            · refine w_aload_n C dX0_divideRest_56 2 rfl ?_
              refine w_get (ci := 0) (ref := "RootIsolator$Chain") (T := TX0) (Cn := RX0) (N := 10) C (fun w h => wC_in (inX0 w h)) 0 rfl rfl 2 (by decide) (wC_in fX0_24) rfl rfl dX0_divideRest_57 ?_
              refine c_parts C ((cx, .inr (0, [.ref rx, .int (us), .ref (P 10), .ref (Q 77), .ref (Q 78), .ref (Q 79), .ref (Q 80), .ref (Q 81), .ref (Q 82), .ref (Q 83)])) :: (rx, .inl (G 5, 10, .inr (.inr (.inr (.inr (fun i => some (P i))))))) :: [] : va_W) X (fun w h => wC_in (inX2 w h)) (10) (by omega) hNs.2.2.2.2.1 dX0_divideRest_60 ?_
              refine w_iload_n C dX0_divideRest_63 0 rfl ?_
              refine c_elem C ((cx, .inr (0, [.ref rx, .int (us), .ref (P 10), .ref (Q 77), .ref (Q 78), .ref (Q 79), .ref (Q 80), .ref (Q 81), .ref (Q 82), .ref (Q 83)])) :: (rx, .inl (G 5, 10, .inr (.inr (.inr (.inr (fun i => some (P i))))))) :: [] : va_W) X (10) (by omega) (k) ⟨by omega, by show _ < 16; omega⟩ dX0_divideRest_64 ?_
              refine w_iload_n C dX0_divideRest_65 1 rfl ?_
              refine p_shiftDown hA C ((cx, .inr (0, [.ref rx, .int (us), .ref (P 10), .ref (Q 77), .ref (Q 78), .ref (Q 79), .ref (Q 80), .ref (Q 81), .ref (Q 82), .ref (Q 83)])) :: (rx, .inl (G 5, 10, .inr (.inr (.inr (.inr (fun i => some (P i))))))) :: (fp G Q P PA T ++ X) : va_W) hZi hGi (61 + k) (by omega) bt (by omega) (cwV 1 C.1.2.2.2.2 (wC_V kX0_107 nX3_shiftDown slX3_shiftDown iniX3 cdX3_shiftDown) rfl rfl rfl (by decide +kernel) ⟨Nat.le_of_ble_eq_true rfl, Nat.le_of_ble_eq_true rfl⟩) ⟨Nat.le_of_ble_eq_true rfl, Nat.le_of_ble_eq_true rfl⟩ (Nat.le_of_ble_eq_true rfl) dX0_divideRest_66 (fun st203 nn203 c203 s203 hZ203 hG203 => ?_)
              rw [show (qu (dZ Z y (fun i => if i < k then -(f i) else Z (61 + i))) (61 + k) (((dZ Z y (fun i => if i < k then -(f i) else Z (61 + i))) (61 + k)).sign * ((((dZ Z y (fun i => if i < k then -(f i) else Z (61 + i))) (61 + k)).natAbs : Int) / 2 ^ bt))) = (dZ Z y (qu (fun i => if i < k then -(f i) else Z (61 + i)) k (f k * y))) from by
  rw [dZ_r (by omega), if_neg (show ¬ k < k by omega), shd_val (w := f k * y) (by rw [hf k (by omega), hyv, Int.mul_assoc])]
  exact dZ_put (by omega) (qu_same _ _ _).symm (fun q h1 h2 => qu_other _ _ h2)] at hZ203
              refine w_aload_n C dX0_divideRest_69 2 rfl ?_
              refine w_get (ci := 0) (ref := "RootIsolator$Chain") (T := TX0) (Cn := RX0) (N := 10) C (fun w h => wC_in (inX0 w h)) 0 rfl rfl 2 (by decide) (wC_in fX0_24) rfl rfl dX0_divideRest_70 ?_
              refine c_parts C ((cx, .inr (0, [.ref rx, .int (us), .ref (P 10), .ref (Q 77), .ref (Q 78), .ref (Q 79), .ref (Q 80), .ref (Q 81), .ref (Q 82), .ref (Q 83)])) :: (rx, .inl (G 5, 10, .inr (.inr (.inr (.inr (fun i => some (P i))))))) :: [] : va_W) X (fun w h => wC_in (inX2 w h)) (10) (by omega) hNs.2.2.2.2.1 dX0_divideRest_73 ?_
              refine w_iload_n C dX0_divideRest_76 0 rfl ?_
              refine c_elem C ((cx, .inr (0, [.ref rx, .int (us), .ref (P 10), .ref (Q 77), .ref (Q 78), .ref (Q 79), .ref (Q 80), .ref (Q 81), .ref (Q 82), .ref (Q 83)])) :: (rx, .inl (G 5, 10, .inr (.inr (.inr (.inr (fun i => some (P i))))))) :: [] : va_W) X (10) (by omega) (k) ⟨by omega, by show _ < 16; omega⟩ dX0_divideRest_77 ?_
              refine w_aload_n C dX0_divideRest_78 2 rfl ?_
              refine w_get (ci := 0) (ref := "RootIsolator$Chain") (T := TX0) (Cn := RX0) (N := 10) C (fun w h => wC_in (inX0 w h)) 0 rfl rfl 5 (by decide) (wC_in fX0_38) rfl rfl dX0_divideRest_79 ?_
              refine p_divideByOdd hA C ((cx, .inr (0, [.ref rx, .int (us), .ref (P 10), .ref (Q 77), .ref (Q 78), .ref (Q 79), .ref (Q 80), .ref (Q 81), .ref (Q 82), .ref (Q 83)])) :: (rx, .inl (G 5, 10, .inr (.inr (.inr (.inr (fun i => some (P i))))))) :: (fp G Q P PA T ++ X) : va_W) hZ203 hG203 (61 + k) (79) (by omega) (by omega) (by omega) (f k) (by rw [dZ_79]; exact hyo2) (by rw [dZ_r (by omega), dZ_79, qu_same]) (cwV 1 C.1.2.2.2.2 (wC_V kX0_110 nX3_divideByOdd slX3_divideByOdd iniX3 cdX3_divideByOdd) rfl rfl rfl (by decide +kernel) ⟨Nat.le_of_ble_eq_true rfl, Nat.le_of_ble_eq_true rfl⟩) ⟨Nat.le_of_ble_eq_true rfl, Nat.le_of_ble_eq_true rfl⟩ (Nat.le_of_ble_eq_true rfl) dX0_divideRest_82 (fun st204 nn204 c204 s204 hZ204 hG204 => ?_)
              rw [show (qu (dZ Z y (qu (fun i => if i < k then -(f i) else Z (61 + i)) k (f k * y))) (61 + k) (f k)) = (dZ Z y (qu (fun i => if i < k then -(f i) else Z (61 + i)) k (f k))) from by
  refine dZ_put (by omega) (qu_same _ _ _).symm (fun q h1 h2 => ?_)
  rw [qu_other _ _ h2, qu_other _ _ h2]] at hZ204
              refine w_aload_n C dX0_divideRest_85 2 rfl ?_
              refine w_get (ci := 0) (ref := "RootIsolator$Chain") (T := TX0) (Cn := RX0) (N := 10) C (fun w h => wC_in (inX0 w h)) 0 rfl rfl 2 (by decide) (wC_in fX0_24) rfl rfl dX0_divideRest_86 ?_
              refine c_parts C ((cx, .inr (0, [.ref rx, .int (us), .ref (P 10), .ref (Q 77), .ref (Q 78), .ref (Q 79), .ref (Q 80), .ref (Q 81), .ref (Q 82), .ref (Q 83)])) :: (rx, .inl (G 5, 10, .inr (.inr (.inr (.inr (fun i => some (P i))))))) :: [] : va_W) X (fun w h => wC_in (inX2 w h)) (10) (by omega) hNs.2.2.2.2.1 dX0_divideRest_89 ?_
              refine w_iload_n C dX0_divideRest_92 0 rfl ?_
              refine c_elem C ((cx, .inr (0, [.ref rx, .int (us), .ref (P 10), .ref (Q 77), .ref (Q 78), .ref (Q 79), .ref (Q 80), .ref (Q 81), .ref (Q 82), .ref (Q 83)])) :: (rx, .inl (G 5, 10, .inr (.inr (.inr (.inr (fun i => some (P i))))))) :: [] : va_W) X (10) (by omega) (k) ⟨by omega, by show _ < 16; omega⟩ dX0_divideRest_93 ?_
              refine p_negate hA C ((cx, .inr (0, [.ref rx, .int (us), .ref (P 10), .ref (Q 77), .ref (Q 78), .ref (Q 79), .ref (Q 80), .ref (Q 81), .ref (Q 82), .ref (Q 83)])) :: (rx, .inl (G 5, 10, .inr (.inr (.inr (.inr (fun i => some (P i))))))) :: (fp G Q P PA T ++ X) : va_W) hZ204 hG204 (61 + k) (by omega)  (cwV 0 C.1.2.2.2.2 (wC_V kX0_129 nX3_negate slX3_negate iniX3 cdX3_negate) rfl rfl rfl (by decide +kernel) ⟨Nat.le_of_ble_eq_true rfl, Nat.le_of_ble_eq_true rfl⟩) ⟨Nat.le_of_ble_eq_true rfl, Nat.le_of_ble_eq_true rfl⟩ (Nat.le_of_ble_eq_true rfl) dX0_divideRest_94 (fun st205 nn205 c205 s205 hZ205 hG205 => ?_)
              rw [show (qu (dZ Z y (qu (fun i => if i < k then -(f i) else Z (61 + i)) k (f k))) (61 + k) (-((dZ Z y (qu (fun i => if i < k then -(f i) else Z (61 + i)) k (f k))) (61 + k)))) = (dZ Z y (fun i => if i < (k + 1) then -(f i) else Z (61 + i))) from by
  rw [dZ_r (by omega), qu_same]
  refine dZ_put (by omega) ?_ (fun q h1 h2 => ?_)
  · rw [if_pos (by omega)]
  · rw [qu_other _ _ h2]
    exact if_lt_same2 (by omega)] at hZ205
              refine w_iinc C (((k + 1 : Nat) : Int)) (by omega) [(3, .int (iZ (((k + 1 : Nat) : Int)))), (2, .int (iZ ((bt : Int)))), (0, .ref cx), (1, .int (iZ ((e9 : Int))))] dX0_divideRest_97 0 rfl (by decide) rfl ?_
              refine w_goto C 45 dX0_divideRest_100 (by decide) ?_
              exact ih3 (k + 1) _ _ _ _ (by omega) (by omega) hZ205 hG205
        exact lp2 (T 10 + 1) 0 st102 nn102 c102 s102 (by omega) (by omega) (by
          rw [dZ_congr (ρ := (fun i => if i < 0 then -(f i) else Z (61 + i))) (ρ' := (fun i => Z (61 + i))) (fun i hi => if_neg (by omega))]
          exact hZ102) hG102
      · refine w_aload_n C dX0_divideRest_18 1 rfl ?_
        refine w_get (ci := 0) (ref := "RootIsolator$Chain") (T := TX0) (Cn := RX0) (N := 10) C (fun w h => wC_in (inX0 w h)) 0 rfl rfl 5 (by decide) (wC_in fX0_38) rfl rfl dX0_divideRest_19 ?_
        refine w_aload_n C dX0_divideRest_22 1 rfl ?_
        refine w_get (ci := 0) (ref := "RootIsolator$Chain") (T := TX0) (Cn := RX0) (N := 10) C (fun w h => wC_in (inX0 w h)) 0 rfl rfl 4 (by decide) (wC_in fX0_35) rfl rfl dX0_divideRest_23 ?_
        refine p_multiply hA C ((cx, .inr (0, [.ref rx, .int (us), .ref (P 10), .ref (Q 77), .ref (Q 78), .ref (Q 79), .ref (Q 80), .ref (Q 81), .ref (Q 82), .ref (Q 83)])) :: (rx, .inl (G 5, 10, .inr (.inr (.inr (.inr (fun i => some (P i))))))) :: (fp G Q P PA T ++ X) : va_W) hZi hGi (79) (78) (by omega) (by omega) (by omega) 900 100 (by omega) ⟨by rw [dZ_79]; exact hlb.2 e9 he, by rw [dZ_o (by omega)]; exact hlb.1⟩ (cwV 1 C.1.2.2.2.2 (wC_V kX0_104 nX3_multiply slX3_multiply iniX3 cdX3_multiply) rfl rfl rfl (by decide +kernel) ⟨Nat.le_of_ble_eq_true rfl, Nat.le_of_ble_eq_true rfl⟩) ⟨Nat.le_of_ble_eq_true rfl, Nat.le_of_ble_eq_true rfl⟩ (Nat.le_of_ble_eq_true rfl) dX0_divideRest_26 (fun st306 nn306 c306 s306 hZ306 hG306 => ?_)
        rw [show (qu (dZ Z (Z 77 * Z 78 ^ e9) (fun i => Z (61 + i))) 79 ((dZ Z (Z 77 * Z 78 ^ e9) (fun i => Z (61 + i))) 79 * (dZ Z (Z 77 * Z 78 ^ e9) (fun i => Z (61 + i))) 78)) = (dZ Z (Z 77 * Z 78 ^ (e9 + 1)) (fun i => Z (61 + i))) from by rw [dZ_79, dZ_o (by omega), dZ_s79, Int.pow_succ, Int.mul_assoc]] at hZ306
        refine w_iinc C (((e9 + 1 : Nat) : Int)) (by omega) [(2, .int (iZ (((e9 + 1 : Nat) : Int)))), (0, .ref cx), (1, .int (iZ ((d : Int))))] dX0_divideRest_29 0 rfl (by decide) rfl ?_
        refine w_goto C 13 dX0_divideRest_32 (by decide) ?_
        exact ih2 (e9 + 1) _ _ _ _ (by omega) (by omega) hZ306 hG306
  exact lp1 (d + 1) 0 st1 nn1 c1 s1 (by omega) (by omega) (by rw [Int.pow_zero, Int.mul_one]; exact hZ1) hG1
set_option maxHeartbeats 4000000 in
set_option maxRecDepth 100000 in
/-- nextGauge -/
theorem cc_nextGauge (l : Launch) (D : va_G) (G : Nat → ClassId) (X : va_W) (Q P PA T : Nat → Nat) (st : Nat → va_W) (nn : Nat → Nat) (Z : Nat → Int) (cx rx j d : Nat) (us : Int32) (hq : Int) (hZ : pAll G Q st nn Z) (hd : d ≤ 16) (hj : j < 10) (hNb : 1 ≤ T j ∧ T j ≤ pN j) (hld : (Z (pB j + (T j - 1))) ≠ 0) (h78 : Z 78 ≠ 0) (hqv : 1 ≤ d → (((Z (pB j + (T j - 1))).natAbs : Nat) : Int) ^ d = hq * Z 78 ^ (d - 1)) (hlb : lb (Z 78) 100 ∧ (∀ e : Nat, e ≤ d → lb ((((Z (pB j + (T j - 1))).natAbs : Nat) : Int) ^ e) 900 ∧ lb (Z 78 ^ e) 900) ∧ lb hq 100 ∧ lb (((Z (pB j + (T j - 1))).natAbs : Nat) : Int) 100) (sz hs : Nat) : Met l yX0_nextGauge (wC yX0_nextGauge cX0_nextGauge 4 none) ({ frames := 3, cells := 2156, slots := 802816, locals := 92 }) (va_Pc [.ref cx, .ref (P j), .int (iZ ((d : Int)))] (cPre nW D G ((cx, .inr (0, [.ref rx, .int (us), .ref (P 10), .ref (Q 77), .ref (Q 78), .ref (Q 79), .ref (Q 80), .ref (Q 81), .ref (Q 82), .ref (Q 83)])) :: (rx, .inl (G 5, 10, .inr (.inr (.inr (.inr (fun i => some (P i))))))) :: ((fp G Q P PA T ++ X) ++ pl st) : va_W) sz hs)) (va_Qv (fun (u : cS) => ∃ (st1 : Nat → va_W) (nn1 : Nat → Nat) (c1 s1 : Nat) (x79 x80 : Int), pAll G Q st1 nn1 (n4 Z (((Z (pB j + (T j - 1))).natAbs : Nat) : Int) (if d = 0 then Z 78 else hq) x79 x80) ∧ pG (pC nn) (pS nn) nn1 c1 s1 ∧ u = (((cx, .inr (0, [.ref rx, .int (us), .ref (P 10), .ref (Q 77), .ref (Q 78), .ref (Q 79), .ref (Q 80), .ref (Q 81), .ref (Q 82), .ref (Q 83)])) :: (rx, .inl (G 5, 10, .inr (.inr (.inr (.inr (fun i => some (P i))))))) :: ((fp G Q P PA T ++ X) ++ pl st1) : va_W), c1, s1)) (cAt D G (va_A ((cx, .inr (0, [.ref rx, .int (us), .ref (P 10), .ref (Q 77), .ref (Q 78), .ref (Q 79), .ref (Q 80), .ref (Q 81), .ref (Q 82), .ref (Q 83)])) :: (rx, .inl (G 5, 10, .inr (.inr (.inr (.inr (fun i => some (P i))))))) :: ((fp G Q P PA T ++ X) ++ pl st) : va_W) sz) sz hs) (va_A ((cx, .inr (0, [.ref rx, .int (us), .ref (P 10), .ref (Q 77), .ref (Q 78), .ref (Q 79), .ref (Q 80), .ref (Q 81), .ref (Q 82), .ref (Q 83)])) :: (rx, .inl (G 5, 10, .inr (.inr (.inr (.inr (fun i => some (P i))))))) :: ((fp G Q P PA T ++ X) ++ pl st) : va_W) sz)) 2156 802816 (va_A ((cx, .inr (0, [.ref rx, .int (us), .ref (P 10), .ref (Q 77), .ref (Q 78), .ref (Q 79), .ref (Q 80), .ref (Q 81), .ref (Q 82), .ref (Q 83)])) :: (rx, .inl (G 5, 10, .inr (.inr (.inr (.inr (fun i => some (P i))))))) :: ((fp G Q P PA T ++ X) ++ pl st) : va_W) sz) := by
  refine g_met (cc := cX0_nextGauge) (maxL := 4) (ret := none) (own := RX0) (by decide) rfl rfl (Nat.le_of_ble_eq_true rfl) ?_
  intro p e s m below meth c hsz hhs hNs hA C hr hlk
  refine w_sub [(0, .ref cx), (1, .ref (P j)), (2, .int (iZ ((d : Int))))] [0, 1, 2] rfl ?_
  have hG : pG (pC nn) (pS nn) nn 0 0 := ⟨Nat.le_of_eq (Nat.zero_add _), Nat.le_of_eq (Nat.zero_add _)⟩
  have hpj := pB_r (j := j) (by omega)
  obtain ⟨ca, hca⟩ : ∃ ca : Int, ca = (((Z (pB j + (T j - 1))).natAbs : Nat) : Int) := ⟨_, rfl⟩
  rw [← hca] at hlb hqv
  have hlc : lb (Z (pB j + (T j - 1))) 100 := by have h9 := hlb.2.2.2; rw [hca] at h9; unfold lb at *; rw [Int.natAbs_natCast] at h9; exact h9
  have hca0 : 0 < ca := by rw [hca]; omega
  refine w_aload_n C dX0_nextGauge_0 0 rfl ?_
  refine w_get (ci := 0) (ref := "RootIsolator$Chain") (T := TX0) (Cn := RX0) (N := 10) C (fun w h => wC_in (inX0 w h)) 0 rfl rfl 3 (by decide) (wC_in fX0_31) rfl rfl dX0_nextGauge_1 ?_
  refine w_aload_n C dX0_nextGauge_4 1 rfl ?_
  refine c_parts C ((cx, .inr (0, [.ref rx, .int (us), .ref (P 10), .ref (Q 77), .ref (Q 78), .ref (Q 79), .ref (Q 80), .ref (Q 81), .ref (Q 82), .ref (Q 83)])) :: (rx, .inl (G 5, 10, .inr (.inr (.inr (.inr (fun i => some (P i))))))) :: [] : va_W) X (fun w h => wC_in (inX2 w h)) (j) (by omega) hNs.2.2.2.2.1 dX0_nextGauge_5 ?_
  refine w_aload_n C dX0_nextGauge_8 1 rfl ?_
  refine c_top C ((cx, .inr (0, [.ref rx, .int (us), .ref (P 10), .ref (Q 77), .ref (Q 78), .ref (Q 79), .ref (Q 80), .ref (Q 81), .ref (Q 82), .ref (Q 83)])) :: (rx, .inl (G 5, 10, .inr (.inr (.inr (.inr (fun i => some (P i))))))) :: [] : va_W) X (fun w h => wC_in (inX2 w h)) (j) (by omega) hNs.2.2.2.2.2.2.1 dX0_nextGauge_9 ?_
  refine c_elem C ((cx, .inr (0, [.ref rx, .int (us), .ref (P 10), .ref (Q 77), .ref (Q 78), .ref (Q 79), .ref (Q 80), .ref (Q 81), .ref (Q 82), .ref (Q 83)])) :: (rx, .inl (G 5, 10, .inr (.inr (.inr (.inr (fun i => some (P i))))))) :: [] : va_W) X (j) (by omega) (T j - 1) ⟨by omega, by omega⟩ dX0_nextGauge_12 ?_
  refine p_copy hA C ((cx, .inr (0, [.ref rx, .int (us), .ref (P 10), .ref (Q 77), .ref (Q 78), .ref (Q 79), .ref (Q 80), .ref (Q 81), .ref (Q 82), .ref (Q 83)])) :: (rx, .inl (G 5, 10, .inr (.inr (.inr (.inr (fun i => some (P i))))))) :: (fp G Q P PA T ++ X) : va_W) hZ hG (77) (pB j + (T j - 1)) (by omega) (by omega) (by omega) (lb_le hlc (by omega)) (cwV 1 C.1.2.2.2.2 (wC_V kX0_93 nX3_copy slX3_copy iniX3 cdX3_copy) rfl rfl rfl (by decide +kernel) ⟨Nat.le_of_ble_eq_true rfl, Nat.le_of_ble_eq_true rfl⟩) ⟨Nat.le_of_ble_eq_true rfl, Nat.le_of_ble_eq_true rfl⟩ (Nat.le_of_ble_eq_true rfl) dX0_nextGauge_13 (fun st1 nn1 c1 s1 hZ1 hG1 => ?_)
  rw [show (qu Z 77 (Z (pB j + (T j - 1)))) = (n4 Z (Z (pB j + (T j - 1))) (Z 78) (Z 79) (Z 80)) from by
  have e := n4_s77 Z (Z 77) (Z 78) (Z 79) (Z 80) (Z (pB j + (T j - 1)))
  rw [← n4_self] at e
  exact e] at hZ1
  refine w_aload_n C dX0_nextGauge_16 0 rfl ?_
  refine w_get (ci := 0) (ref := "RootIsolator$Chain") (T := TX0) (Cn := RX0) (N := 10) C (fun w h => wC_in (inX0 w h)) 0 rfl rfl 3 (by decide) (wC_in fX0_31) rfl rfl dX0_nextGauge_17 ?_
  refine p_dropSign hA C ((cx, .inr (0, [.ref rx, .int (us), .ref (P 10), .ref (Q 77), .ref (Q 78), .ref (Q 79), .ref (Q 80), .ref (Q 81), .ref (Q 82), .ref (Q 83)])) :: (rx, .inl (G 5, 10, .inr (.inr (.inr (.inr (fun i => some (P i))))))) :: (fp G Q P PA T ++ X) : va_W) hZ1 hG1 (77) (by omega)  (cwV 0 C.1.2.2.2.2 (wC_V kX0_126 nX3_dropSign slX3_dropSign iniX3 cdX3_dropSign) rfl rfl rfl (by decide +kernel) ⟨Nat.le_of_ble_eq_true rfl, Nat.le_of_ble_eq_true rfl⟩) ⟨Nat.le_of_ble_eq_true rfl, Nat.le_of_ble_eq_true rfl⟩ (Nat.le_of_ble_eq_true rfl) dX0_nextGauge_20 (fun st2 nn2 c2 s2 hZ2 hG2 => ?_)
  rw [show (qu (n4 Z (Z (pB j + (T j - 1))) (Z 78) (Z 79) (Z 80)) 77 (((n4 Z (Z (pB j + (T j - 1))) (Z 78) (Z 79) (Z 80)) 77).natAbs : Int)) = (n4 Z ca (Z 78) (Z 79) (Z 80)) from by rw [n4_77, n4_s77, ← hca]] at hZ2
  refine w_iload_n C dX0_nextGauge_23 2 rfl ?_
  refine w_if_gt C 28 dX0_nextGauge_24 (by decide) ⟨by omega, by omega⟩ (fun c24 => ?_) (fun c24 => ?_)
  · refine w_aload_n C dX0_nextGauge_28 0 rfl ?_
    refine w_get (ci := 0) (ref := "RootIsolator$Chain") (T := TX0) (Cn := RX0) (N := 10) C (fun w h => wC_in (inX0 w h)) 0 rfl rfl 5 (by decide) (wC_in fX0_38) rfl rfl dX0_nextGauge_29 ?_
    refine w_aload_n C dX0_nextGauge_32 0 rfl ?_
    refine w_get (ci := 0) (ref := "RootIsolator$Chain") (T := TX0) (Cn := RX0) (N := 10) C (fun w h => wC_in (inX0 w h)) 0 rfl rfl 3 (by decide) (wC_in fX0_31) rfl rfl dX0_nextGauge_33 ?_
    refine p_copy hA C ((cx, .inr (0, [.ref rx, .int (us), .ref (P 10), .ref (Q 77), .ref (Q 78), .ref (Q 79), .ref (Q 80), .ref (Q 81), .ref (Q 82), .ref (Q 83)])) :: (rx, .inl (G 5, 10, .inr (.inr (.inr (.inr (fun i => some (P i))))))) :: (fp G Q P PA T ++ X) : va_W) hZ2 hG2 (79) (77) (by omega) (by omega) (by omega) (by rw [n4_77]; exact lb_le hlb.2.2.2 (by omega)) (cwV 1 C.1.2.2.2.2 (wC_V kX0_93 nX3_copy slX3_copy iniX3 cdX3_copy) rfl rfl rfl (by decide +kernel) ⟨Nat.le_of_ble_eq_true rfl, Nat.le_of_ble_eq_true rfl⟩) ⟨Nat.le_of_ble_eq_true rfl, Nat.le_of_ble_eq_true rfl⟩ (Nat.le_of_ble_eq_true rfl) dX0_nextGauge_36 (fun st3 nn3 c3 s3 hZ3 hG3 => ?_)
    rw [show (qu (n4 Z ca (Z 78) (Z 79) (Z 80)) 79 ((n4 Z ca (Z 78) (Z 79) (Z 80)) 77)) = (n4 Z ca (Z 78) ca (Z 80)) from by rw [n4_77, n4_s79]] at hZ3
    refine w_aload_n C dX0_nextGauge_39 0 rfl ?_
    refine w_get (ci := 0) (ref := "RootIsolator$Chain") (T := TX0) (Cn := RX0) (N := 10) C (fun w h => wC_in (inX0 w h)) 0 rfl rfl 6 (by decide) (wC_in fX0_41) rfl rfl dX0_nextGauge_40 ?_
    refine w_lconst C 1 dX0_nextGauge_43 rfl ?_
    refine p_put hA C ((cx, .inr (0, [.ref rx, .int (us), .ref (P 10), .ref (Q 77), .ref (Q 78), .ref (Q 79), .ref (Q 80), .ref (Q 81), .ref (Q 82), .ref (Q 83)])) :: (rx, .inl (G 5, 10, .inr (.inr (.inr (.inr (fun i => some (P i))))))) :: (fp G Q P PA T ++ X) : va_W) hZ3 hG3 (80) (by omega) 1 (by omega) (cwV 1 C.1.2.2.2.2 (wC_V kX0_78 nX3_put slX3_put iniX3 cdX3_put) rfl rfl rfl (by decide +kernel) ⟨Nat.le_of_ble_eq_true rfl, Nat.le_of_ble_eq_true rfl⟩) ⟨Nat.le_of_ble_eq_true rfl, Nat.le_of_ble_eq_true rfl⟩ (Nat.le_of_ble_eq_true rfl) dX0_nextGauge_44 (fun st4 nn4 c4 s4 hZ4 hG4 => ?_)
    rw [show (qu (n4 Z ca (Z 78) ca (Z 80)) 80 1) = (n4 Z ca (Z 78) ca 1) from n4_s80 _ _ _ _ _ _] at hZ4
    refine w_iconst C dX0_nextGauge_47 ?_
    refine w_istore_n C [(3, .int (iZ (1))), (0, .ref cx), (1, .ref (P j)), (2, .int (iZ ((d : Int))))] dX0_nextGauge_48 rfl (by decide) rfl ?_
    have lp : ∀ (d9 : Nat) (e9 : Nat) (sti : Nat → va_W) (nni : Nat → Nat) (ci : Nat) (si : Nat), d < e9 + d9 → 1 ≤ e9 ∧ e9 ≤ d → pAll G Q sti nni ((n4 Z ca (Z 78) (ca ^ e9) (Z 78 ^ (e9 - 1)))) → pG (pC nn) (pS nn) nni ci si → ZW p l e ({ frames := 3, cells := 2156, slots := 802816, locals := 92 }) s m ([.ref cx, .ref (P j), .int (iZ ((d : Int)))] : List Value).toArray below meth c D (va_A ((cx, .inr (0, [.ref rx, .int (us), .ref (P 10), .ref (Q 77), .ref (Q 78), .ref (Q 79), .ref (Q 80), .ref (Q 81), .ref (Q 82), .ref (Q 83)])) :: (rx, .inl (G 5, 10, .inr (.inr (.inr (.inr (fun i => some (P i))))))) :: ((fp G Q P PA T ++ X) ++ pl st) : va_W) sz) 4 ci si (MQ below (va_Qv (fun (u : cS) => ∃ (st1 : Nat → va_W) (nn1 : Nat → Nat) (c1 s1 : Nat) (x79 x80 : Int), pAll G Q st1 nn1 (n4 Z (((Z (pB j + (T j - 1))).natAbs : Nat) : Int) (if d = 0 then Z 78 else hq) x79 x80) ∧ pG (pC nn) (pS nn) nn1 c1 s1 ∧ u = (((cx, .inr (0, [.ref rx, .int (us), .ref (P 10), .ref (Q 77), .ref (Q 78), .ref (Q 79), .ref (Q 80), .ref (Q 81), .ref (Q 82), .ref (Q 83)])) :: (rx, .inl (G 5, 10, .inr (.inr (.inr (.inr (fun i => some (P i))))))) :: ((fp G Q P PA T ++ X) ++ pl st1) : va_W), c1, s1)) (cAt D G (va_A ((cx, .inr (0, [.ref rx, .int (us), .ref (P 10), .ref (Q 77), .ref (Q 78), .ref (Q 79), .ref (Q 80), .ref (Q 81), .ref (Q 82), .ref (Q 83)])) :: (rx, .inl (G 5, 10, .inr (.inr (.inr (.inr (fun i => some (P i))))))) :: ((fp G Q P PA T ++ X) ++ pl st) : va_W) sz) sz hs) (va_A ((cx, .inr (0, [.ref rx, .int (us), .ref (P 10), .ref (Q 77), .ref (Q 78), .ref (Q 79), .ref (Q 80), .ref (Q 81), .ref (Q 82), .ref (Q 83)])) :: (rx, .inl (G 5, 10, .inr (.inr (.inr (.inr (fun i => some (P i))))))) :: ((fp G Q P PA T ++ X) ++ pl st) : va_W) sz)) ([.ref cx, .ref (P j), .int (iZ ((d : Int)))] : List Value).toArray s 2156 802816 (va_A ((cx, .inr (0, [.ref rx, .int (us), .ref (P 10), .ref (Q 77), .ref (Q 78), .ref (Q 79), .ref (Q 80), .ref (Q 81), .ref (Q 82), .ref (Q 83)])) :: (rx, .inl (G 5, 10, .inr (.inr (.inr (.inr (fun i => some (P i))))))) :: ((fp G Q P PA T ++ X) ++ pl st) : va_W) sz)) ((cx, .inr (0, [.ref rx, .int (us), .ref (P 10), .ref (Q 77), .ref (Q 78), .ref (Q 79), .ref (Q 80), .ref (Q 81), .ref (Q 82), .ref (Q 83)])) :: (rx, .inl (G 5, 10, .inr (.inr (.inr (.inr (fun i => some (P i))))))) :: ((fp G Q P PA T ++ X) ++ pl sti) : va_W) 49 [(3, .int (iZ ((e9 : Int)))), (0, .ref cx), (1, .ref (P j)), (2, .int (iZ ((d : Int))))] [] := by
      intro d9
      induction d9 with
      | zero =>
        intro e9 sti nni ci si hd he hZi hGi
        exact absurd hd (by omega)
      | succ d9 ih2 =>
        intro e9 sti nni ci si hd he hZi hGi
        refine w_iload_n C dX0_nextGauge_49 0 rfl ?_
        refine w_iload_n C dX0_nextGauge_50 3 rfl ?_
        refine w_icmp_ge C 82 dX0_nextGauge_51 (by decide) ⟨⟨by omega, by omega⟩, by omega, by omega⟩ (fun c51 => ?_) (fun c51 => ?_)
        · have hed : e9 = d := by omega
          rw [hed] at hZi
          refine w_aload_n C dX0_nextGauge_82 1 rfl ?_
          refine w_get (ci := 0) (ref := "RootIsolator$Chain") (T := TX0) (Cn := RX0) (N := 10) C (fun w h => wC_in (inX0 w h)) 0 rfl rfl 5 (by decide) (wC_in fX0_38) rfl rfl dX0_nextGauge_83 ?_
          refine w_aload_n C dX0_nextGauge_86 1 rfl ?_
          refine w_get (ci := 0) (ref := "RootIsolator$Chain") (T := TX0) (Cn := RX0) (N := 10) C (fun w h => wC_in (inX0 w h)) 0 rfl rfl 6 (by decide) (wC_in fX0_41) rfl rfl dX0_nextGauge_87 ?_
          refine p_makeOdd hA C ((cx, .inr (0, [.ref rx, .int (us), .ref (P 10), .ref (Q 77), .ref (Q 78), .ref (Q 79), .ref (Q 80), .ref (Q 81), .ref (Q 82), .ref (Q 83)])) :: (rx, .inl (G 5, 10, .inr (.inr (.inr (.inr (fun i => some (P i))))))) :: (fp G Q P PA T ++ X) : va_W) hZi hGi (80) (by omega)  (cwV 0 C.1.2.2.2.2 (wC_V kX0_97 nX3_makeOdd slX3_makeOdd iniX3 cdX3_makeOdd) rfl rfl rfl (by decide +kernel) ⟨Nat.le_of_ble_eq_true rfl, Nat.le_of_ble_eq_true rfl⟩) ⟨Nat.le_of_ble_eq_true rfl, Nat.le_of_ble_eq_true rfl⟩ (Nat.le_of_ble_eq_true rfl) dX0_nextGauge_90 (fun st205 nn205 c205 s205 bt y hbt hyv hyo hZ205 hG205 => ?_)
          rw [show (qu (n4 Z ca (Z 78) (ca ^ d) (Z 78 ^ (d - 1))) 80 y) = (n4 Z ca (Z 78) (ca ^ d) y) from n4_s80 _ _ _ _ _ _] at hZ205
          rw [n4_80] at hyv hyo
          have hyo2 := hyo (fun h => h78 (pow_z h))
          refine p_shiftDown hA C ((cx, .inr (0, [.ref rx, .int (us), .ref (P 10), .ref (Q 77), .ref (Q 78), .ref (Q 79), .ref (Q 80), .ref (Q 81), .ref (Q 82), .ref (Q 83)])) :: (rx, .inl (G 5, 10, .inr (.inr (.inr (.inr (fun i => some (P i))))))) :: (fp G Q P PA T ++ X) : va_W) hZ205 hG205 (79) (by omega) bt (by omega) (cwV 1 C.1.2.2.2.2 (wC_V kX0_107 nX3_shiftDown slX3_shiftDown iniX3 cdX3_shiftDown) rfl rfl rfl (by decide +kernel) ⟨Nat.le_of_ble_eq_true rfl, Nat.le_of_ble_eq_true rfl⟩) ⟨Nat.le_of_ble_eq_true rfl, Nat.le_of_ble_eq_true rfl⟩ (Nat.le_of_ble_eq_true rfl) dX0_nextGauge_93 (fun st206 nn206 c206 s206 hZ206 hG206 => ?_)
          rw [show (qu (n4 Z ca (Z 78) (ca ^ d) y) 79 (((n4 Z ca (Z 78) (ca ^ d) y) 79).sign * ((((n4 Z ca (Z 78) (ca ^ d) y) 79).natAbs : Int) / 2 ^ bt))) = (n4 Z ca (Z 78) (hq * y) y) from by rw [n4_79, shd_val (w := hq * y) (by rw [hqv (by omega), hyv, Int.mul_assoc]), n4_s79]] at hZ206
          refine w_aload_n C dX0_nextGauge_96 1 rfl ?_
          refine w_get (ci := 0) (ref := "RootIsolator$Chain") (T := TX0) (Cn := RX0) (N := 10) C (fun w h => wC_in (inX0 w h)) 0 rfl rfl 5 (by decide) (wC_in fX0_38) rfl rfl dX0_nextGauge_97 ?_
          refine w_aload_n C dX0_nextGauge_100 1 rfl ?_
          refine w_get (ci := 0) (ref := "RootIsolator$Chain") (T := TX0) (Cn := RX0) (N := 10) C (fun w h => wC_in (inX0 w h)) 0 rfl rfl 6 (by decide) (wC_in fX0_41) rfl rfl dX0_nextGauge_101 ?_
          refine p_divideByOdd hA C ((cx, .inr (0, [.ref rx, .int (us), .ref (P 10), .ref (Q 77), .ref (Q 78), .ref (Q 79), .ref (Q 80), .ref (Q 81), .ref (Q 82), .ref (Q 83)])) :: (rx, .inl (G 5, 10, .inr (.inr (.inr (.inr (fun i => some (P i))))))) :: (fp G Q P PA T ++ X) : va_W) hZ206 hG206 (79) (80) (by omega) (by omega) (by omega) hq (by rw [n4_80]; exact hyo2) (by rw [n4_79, n4_80]) (cwV 1 C.1.2.2.2.2 (wC_V kX0_110 nX3_divideByOdd slX3_divideByOdd iniX3 cdX3_divideByOdd) rfl rfl rfl (by decide +kernel) ⟨Nat.le_of_ble_eq_true rfl, Nat.le_of_ble_eq_true rfl⟩) ⟨Nat.le_of_ble_eq_true rfl, Nat.le_of_ble_eq_true rfl⟩ (Nat.le_of_ble_eq_true rfl) dX0_nextGauge_104 (fun st207 nn207 c207 s207 hZ207 hG207 => ?_)
          rw [show (qu (n4 Z ca (Z 78) (hq * y) y) 79 hq) = (n4 Z ca (Z 78) hq y) from n4_s79 _ _ _ _ _ _] at hZ207
          refine w_aload_n C dX0_nextGauge_107 1 rfl ?_
          refine w_get (ci := 0) (ref := "RootIsolator$Chain") (T := TX0) (Cn := RX0) (N := 10) C (fun w h => wC_in (inX0 w h)) 0 rfl rfl 4 (by decide) (wC_in fX0_35) rfl rfl dX0_nextGauge_108 ?_
          refine w_aload_n C dX0_nextGauge_111 1 rfl ?_
          refine w_get (ci := 0) (ref := "RootIsolator$Chain") (T := TX0) (Cn := RX0) (N := 10) C (fun w h => wC_in (inX0 w h)) 0 rfl rfl 5 (by decide) (wC_in fX0_38) rfl rfl dX0_nextGauge_112 ?_
          refine p_copy hA C ((cx, .inr (0, [.ref rx, .int (us), .ref (P 10), .ref (Q 77), .ref (Q 78), .ref (Q 79), .ref (Q 80), .ref (Q 81), .ref (Q 82), .ref (Q 83)])) :: (rx, .inl (G 5, 10, .inr (.inr (.inr (.inr (fun i => some (P i))))))) :: (fp G Q P PA T ++ X) : va_W) hZ207 hG207 (78) (79) (by omega) (by omega) (by omega) (by rw [n4_79]; exact lb_le hlb.2.2.1 (by omega)) (cwV 1 C.1.2.2.2.2 (wC_V kX0_93 nX3_copy slX3_copy iniX3 cdX3_copy) rfl rfl rfl (by decide +kernel) ⟨Nat.le_of_ble_eq_true rfl, Nat.le_of_ble_eq_true rfl⟩) ⟨Nat.le_of_ble_eq_true rfl, Nat.le_of_ble_eq_true rfl⟩ (Nat.le_of_ble_eq_true rfl) dX0_nextGauge_115 (fun st208 nn208 c208 s208 hZ208 hG208 => ?_)
          rw [show (qu (n4 Z ca (Z 78) hq y) 78 ((n4 Z ca (Z 78) hq y) 79)) = (n4 Z ca hq hq y) from by rw [n4_79, n4_s78]] at hZ208
          have hle := pG_le hZ208 hG208
          exact g_vret hsz hhs C hr hlk ⟨by omega, by omega⟩ (⟨_, _, _, _, hq, y, by rw [if_neg (by omega), ← hca]; exact hZ208, hG208, rfl⟩) dX0_nextGauge_118
        · refine w_aload_n C dX0_nextGauge_54 1 rfl ?_
          refine w_get (ci := 0) (ref := "RootIsolator$Chain") (T := TX0) (Cn := RX0) (N := 10) C (fun w h => wC_in (inX0 w h)) 0 rfl rfl 5 (by decide) (wC_in fX0_38) rfl rfl dX0_nextGauge_55 ?_
          refine w_aload_n C dX0_nextGauge_58 1 rfl ?_
          refine w_get (ci := 0) (ref := "RootIsolator$Chain") (T := TX0) (Cn := RX0) (N := 10) C (fun w h => wC_in (inX0 w h)) 0 rfl rfl 3 (by decide) (wC_in fX0_31) rfl rfl dX0_nextGauge_59 ?_
          refine p_multiply hA C ((cx, .inr (0, [.ref rx, .int (us), .ref (P 10), .ref (Q 77), .ref (Q 78), .ref (Q 79), .ref (Q 80), .ref (Q 81), .ref (Q 82), .ref (Q 83)])) :: (rx, .inl (G 5, 10, .inr (.inr (.inr (.inr (fun i => some (P i))))))) :: (fp G Q P PA T ++ X) : va_W) hZi hGi (79) (77) (by omega) (by omega) (by omega) 900 100 (by omega) ⟨by rw [n4_79]; exact (hlb.2.1 e9 (by omega)).1, by rw [n4_77]; exact hlb.2.2.2⟩ (cwV 1 C.1.2.2.2.2 (wC_V kX0_104 nX3_multiply slX3_multiply iniX3 cdX3_multiply) rfl rfl rfl (by decide +kernel) ⟨Nat.le_of_ble_eq_true rfl, Nat.le_of_ble_eq_true rfl⟩) ⟨Nat.le_of_ble_eq_true rfl, Nat.le_of_ble_eq_true rfl⟩ (Nat.le_of_ble_eq_true rfl) dX0_nextGauge_62 (fun st105 nn105 c105 s105 hZ105 hG105 => ?_)
          rw [show (qu (n4 Z ca (Z 78) (ca ^ e9) (Z 78 ^ (e9 - 1))) 79 ((n4 Z ca (Z 78) (ca ^ e9) (Z 78 ^ (e9 - 1))) 79 * (n4 Z ca (Z 78) (ca ^ e9) (Z 78 ^ (e9 - 1))) 77)) = (n4 Z ca (Z 78) (ca ^ (e9 + 1)) (Z 78 ^ (e9 - 1))) from by rw [n4_79, n4_77, n4_s79, Int.pow_succ]] at hZ105
          refine w_aload_n C dX0_nextGauge_65 1 rfl ?_
          refine w_get (ci := 0) (ref := "RootIsolator$Chain") (T := TX0) (Cn := RX0) (N := 10) C (fun w h => wC_in (inX0 w h)) 0 rfl rfl 6 (by decide) (wC_in fX0_41) rfl rfl dX0_nextGauge_66 ?_
          refine w_aload_n C dX0_nextGauge_69 1 rfl ?_
          refine w_get (ci := 0) (ref := "RootIsolator$Chain") (T := TX0) (Cn := RX0) (N := 10) C (fun w h => wC_in (inX0 w h)) 0 rfl rfl 4 (by decide) (wC_in fX0_35) rfl rfl dX0_nextGauge_70 ?_
          refine p_multiply hA C ((cx, .inr (0, [.ref rx, .int (us), .ref (P 10), .ref (Q 77), .ref (Q 78), .ref (Q 79), .ref (Q 80), .ref (Q 81), .ref (Q 82), .ref (Q 83)])) :: (rx, .inl (G 5, 10, .inr (.inr (.inr (.inr (fun i => some (P i))))))) :: (fp G Q P PA T ++ X) : va_W) hZ105 hG105 (80) (78) (by omega) (by omega) (by omega) 900 100 (by omega) ⟨by rw [n4_80]; exact (hlb.2.1 (e9 - 1) (by omega)).2, by rw [n4_78]; exact hlb.1⟩ (cwV 1 C.1.2.2.2.2 (wC_V kX0_104 nX3_multiply slX3_multiply iniX3 cdX3_multiply) rfl rfl rfl (by decide +kernel) ⟨Nat.le_of_ble_eq_true rfl, Nat.le_of_ble_eq_true rfl⟩) ⟨Nat.le_of_ble_eq_true rfl, Nat.le_of_ble_eq_true rfl⟩ (Nat.le_of_ble_eq_true rfl) dX0_nextGauge_73 (fun st106 nn106 c106 s106 hZ106 hG106 => ?_)
          rw [show (qu (n4 Z ca (Z 78) (ca ^ (e9 + 1)) (Z 78 ^ (e9 - 1))) 80 ((n4 Z ca (Z 78) (ca ^ (e9 + 1)) (Z 78 ^ (e9 - 1))) 80 * (n4 Z ca (Z 78) (ca ^ (e9 + 1)) (Z 78 ^ (e9 - 1))) 78)) = (n4 Z ca (Z 78) (ca ^ (e9 + 1)) (Z 78 ^ (e9 + 1 - 1))) from by rw [n4_80, n4_78, n4_s80, ← Int.pow_succ]; congr 1; congr 1; omega] at hZ106
          refine w_iinc C (((e9 + 1 : Nat) : Int)) (by omega) [(3, .int (iZ (((e9 + 1 : Nat) : Int)))), (0, .ref cx), (1, .ref (P j)), (2, .int (iZ ((d : Int))))] dX0_nextGauge_76 0 rfl (by decide) rfl ?_
          refine w_goto C 49 dX0_nextGauge_79 (by decide) ?_
          exact ih2 (e9 + 1) _ _ _ _ (by omega) (by omega) hZ106 hG106
    exact lp (d + 1) 1 st4 nn4 c4 s4 (by omega) (by omega) (by rw [Int.pow_one, Nat.sub_self, Int.pow_zero]; exact hZ4) hG4
  · have hle := pG_le hZ2 hG2
    exact g_vret hsz hhs C hr hlk ⟨by omega, by omega⟩ (⟨_, _, _, _, _, _, by rw [if_pos (by omega), ← hca]; exact hZ2, hG2, rfl⟩) dX0_nextGauge_27
