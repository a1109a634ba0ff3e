/-- the sign of the polynomial without its repeated factors, as the class takes it -/
def ssd (Z : Nat → Int) (T : Nat → Nat) (us ex : Nat) (x : Int) : Int := if yV (qu Z 84 x) T ex 0 0 = 0 then 0 else (yV (qu Z 84 x) T ex 0 0).sign * (yV (qu Z 84 x) T ex 0 (us - 1)).sign
theorem yV_to {Z Z' : Nat → Int} {T : Nat → Nat} {ex od k : Nat} (hk : k < 10) (hT : T k ≤ pN k) (he : ∀ q : Nat, q < 61 → Z' q = Z q) (h84 : Z' 84 = Z 84) : yV Z' T ex od k = yV Z T ex od k := by
  have h6 := pB_61 hk
  unfold yV
  rw [h84]
  exact tyl_congr (fun i hi => he _ (by omega)) _ (by omega)
theorem ssd_to {Z Z' : Nat → Int} {T : Nat → Nat} {us ex : Nat} {x : Int} (hus : us ≤ 10 ∧ 1 ≤ us) (hT : ∀ k : Nat, k < 12 → T k ≤ pN k) (he : ∀ q : Nat, q < 61 → Z' q = Z q) : ssd Z' T us ex x = ssd Z T us ex x := by
  have e1 : ∀ k : Nat, k < 10 → yV (qu Z' 84 x) T ex 0 k = yV (qu Z 84 x) T ex 0 k := fun k hk => yV_to hk (hT k (by omega)) (fun q hq => by rw [qu_other _ _ (by omega), qu_other _ _ (by omega), he q hq]) (by rw [qu_same, qu_same])
  unfold ssd
  rw [e1 0 (by omega), e1 (us - 1) (by omega)]
theorem ssd_r (Z : Nat → Int) (T : Nat → Nat) (us ex : Nat) (x : Int) : -1 ≤ ssd Z T us ex x ∧ ssd Z T us ex x ≤ 1 := by
  unfold ssd
  split
  · omega
  · rcases sgn_cases (yV (qu Z 84 x) T ex 0 0) with ⟨_, h2⟩ | ⟨_, h2⟩ | ⟨_, h2⟩ <;> rcases sgn_cases (yV (qu Z 84 x) T ex 0 (us - 1)) with ⟨_, h4⟩ | ⟨_, h4⟩ | ⟨_, h4⟩ <;> rw [h2, h4] <;> omega
/-- halving as the class does it -/
def nrw (f : Int → Int) (sh : Int) : Nat → Int → Int → Int
  | 0, lo, _ => lo
  | n + 1, lo, hi => if 1 < hi - lo then (if f ((lo + hi) / 2) = 0 then (lo + hi) / 2 - 1 else if f ((lo + hi) / 2) = sh then nrw f sh n lo ((lo + hi) / 2) else nrw f sh n ((lo + hi) / 2) hi) else lo
def nrF (f : Int → Int) (lo hi : Int) : Int := if f hi = 0 then hi - 1 else nrw f (f hi) 64 lo hi
set_option maxHeartbeats 4000000 in
set_option maxRecDepth 100000 in
/-- narrow -/
theorem cc_narrow (l : Launch) (D : va_G) (G : Nat → ClassId) (X : va_W) (Q P PA T : Nat → Nat) (st : Nat → va_W) (nn : Nat → Nat) (Z : Nat → Int) (ri ra rb lv ce en re cx rx px fx lo hi : Nat) (fd hfl : Int32) (us ex : Nat) (e0 : Int32) (lw hw : Int) (hZ : pAll G Q st nn Z) (hus : us ≤ 10 ∧ 1 ≤ us) (hT : ∀ k : Nat, k < 12 → T k ≤ pN k) (hc : ∀ k : Nat, k < us → ∀ i : Nat, i < T k → lb (Z (pB k + i)) 400) (hex : ex ≤ 30) (hlw : -2305843009213693952 ≤ lw ∧ lw ≤ hw ∧ hw ≤ 2305843009213693952) (sz hs : Nat) : Met l yX4_narrow (wC yX4_narrow cX4_narrow 11 (some .long)) ({ frames := 5, cells := 4312, slots := 1605632, locals := 139 }) (va_Pc [.ref ri, .long (lZ (lw)), .long (lZ (hw)), .int (iZ ((ex : Int)))] (cPre nW D G ((cx, .inr (0, [.ref rx, .int (iZ ((us : Int))), .ref (P 10), .ref (Q 77), .ref (Q 78), .ref (Q 79), .ref (Q 80), .ref (Q 81), .ref (Q 82), .ref (Q 83)])) :: (rx, .inl (G 5, 10, .inr (.inr (.inr (.inr (fun i => some (P i))))))) :: (px, .inr (1, [.ref (Q 84), .int (e0), .ref (Q 85), .ref (Q 86), .ref (Q 87)])) :: (ri, .inr (4, [.ref ra, .ref rb, .int (fd), .ref lv, .ref ce, .ref en, .ref re, .ref cx, .int (hfl), .ref px, .ref (P 11), .ref fx, .ref lo, .ref hi])) :: ((fp G Q P PA T ++ X) ++ pl st) : va_W) sz hs)) (va_Ql (fun (r : Int64) (u : cS) => ∃ (st1 : Nat → va_W) (nn1 : Nat → Nat) (c1 s1 : Nat) (Z1 : Nat → Int), r = lZ (nrF (ssd Z T us ex) lw hw) ∧ (∀ q : Nat, q < 84 → Z1 q = Z q) ∧ pAll G Q st1 nn1 (Z1) ∧ pG (pC nn) (pS nn) nn1 c1 s1 ∧ u = (((cx, .inr (0, [.ref rx, .int (iZ ((us : Int))), .ref (P 10), .ref (Q 77), .ref (Q 78), .ref (Q 79), .ref (Q 80), .ref (Q 81), .ref (Q 82), .ref (Q 83)])) :: (rx, .inl (G 5, 10, .inr (.inr (.inr (.inr (fun i => some (P i))))))) :: (px, .inr (1, [.ref (Q 84), .int (iZ ((ex : Int))), .ref (Q 85), .ref (Q 86), .ref (Q 87)])) :: (ri, .inr (4, [.ref ra, .ref rb, .int (fd), .ref lv, .ref ce, .ref en, .ref re, .ref cx, .int (hfl), .ref px, .ref (P 11), .ref fx, .ref lo, .ref hi])) :: ((fp G Q P PA T ++ X) ++ pl st1) : va_W), c1, s1)) (cAt D G (va_A ((cx, .inr (0, [.ref rx, .int (iZ ((us : Int))), .ref (P 10), .ref (Q 77), .ref (Q 78), .ref (Q 79), .ref (Q 80), .ref (Q 81), .ref (Q 82), .ref (Q 83)])) :: (rx, .inl (G 5, 10, .inr (.inr (.inr (.inr (fun i => some (P i))))))) :: (px, .inr (1, [.ref (Q 84), .int (e0), .ref (Q 85), .ref (Q 86), .ref (Q 87)])) :: (ri, .inr (4, [.ref ra, .ref rb, .int (fd), .ref lv, .ref ce, .ref en, .ref re, .ref cx, .int (hfl), .ref px, .ref (P 11), .ref fx, .ref lo, .ref hi])) :: ((fp G Q P PA T ++ X) ++ pl st) : va_W) sz) sz hs) (va_A ((cx, .inr (0, [.ref rx, .int (iZ ((us : Int))), .ref (P 10), .ref (Q 77), .ref (Q 78), .ref (Q 79), .ref (Q 80), .ref (Q 81), .ref (Q 82), .ref (Q 83)])) :: (rx, .inl (G 5, 10, .inr (.inr (.inr (.inr (fun i => some (P i))))))) :: (px, .inr (1, [.ref (Q 84), .int (e0), .ref (Q 85), .ref (Q 86), .ref (Q 87)])) :: (ri, .inr (4, [.ref ra, .ref rb, .int (fd), .ref lv, .ref ce, .ref en, .ref re, .ref cx, .int (hfl), .ref px, .ref (P 11), .ref fx, .ref lo, .ref hi])) :: ((fp G Q P PA T ++ X) ++ pl st) : va_W) sz)) 4312 1605632 (va_A ((cx, .inr (0, [.ref rx, .int (iZ ((us : Int))), .ref (P 10), .ref (Q 77), .ref (Q 78), .ref (Q 79), .ref (Q 80), .ref (Q 81), .ref (Q 82), .ref (Q 83)])) :: (rx, .inl (G 5, 10, .inr (.inr (.inr (.inr (fun i => some (P i))))))) :: (px, .inr (1, [.ref (Q 84), .int (e0), .ref (Q 85), .ref (Q 86), .ref (Q 87)])) :: (ri, .inr (4, [.ref ra, .ref rb, .int (fd), .ref lv, .ref ce, .ref en, .ref re, .ref cx, .int (hfl), .ref px, .ref (P 11), .ref fx, .ref lo, .ref hi])) :: ((fp G Q P PA T ++ X) ++ pl st) : va_W) sz) := by
  refine g_met (cc := cX4_narrow) (maxL := 11) (ret := (some .long)) (own := RX4) (by decide) rfl rfl (Nat.le_of_ble_eq_true rfl) ?_
  intro p e s m below meth c hsz hhs hNs hA C hr hlk
  refine w_sub [(0, .ref ri), (1, .long (lZ (lw))), (3, .long (lZ (hw))), (5, .int (iZ ((ex : Int))))] [0, 1, 2, 3] rfl ?_
  have hG : pG (pC nn) (pS nn) nn 0 0 := ⟨Nat.le_of_eq (Nat.zero_add _), Nat.le_of_eq (Nat.zero_add _)⟩
  refine w_aload_n C dX4_narrow_0 0 rfl ?_
  refine w_lload_n C dX4_narrow_1 2 rfl ?_
  refine w_iload C dX4_narrow_2 3 rfl ?_
  have hle1 := pG_le hZ hG
  refine g_calli (N := nW) [.long (lZ (hw)), .int (iZ ((ex : Int)))] hA C hNs nW_ok (cc_simpleSide l D G X Q P PA T st nn Z ri ra rb lv ce en re cx rx px fx lo hi fd hfl us ex (e0) hw hZ hus hT hc ⟨by omega, by omega⟩ hex) (cwV 2 C.1.2.2.2.2 (wC_V kX4_217 nX4_simpleSide slX4_simpleSide iniX4 cdX4_simpleSide) rfl rfl rfl (by decide +kernel) ⟨Nat.le_of_ble_eq_true rfl, Nat.le_of_ble_eq_true rfl⟩) (q0 := 3) rfl rfl rfl rfl ⟨by show 0 + 3234 ≤ 4312; omega, by show 0 + 1204224 ≤ 1605632; omega⟩ (Nat.le_of_ble_eq_true rfl) dX4_narrow_4 [.int (iZ ((ex : Int))), .long (lZ (hw)), .ref ri] rfl (fun r v1 hv1 => ?_)
  obtain ⟨st1, nn1, e1, f1, Z11, rfl, hqq1, hZ1, hH1, rfl⟩ := hv1
  have hG1 := pG_trans hG hH1
  refine w_cs (0 + e1) (0 + f1) rfl rfl ?_
  have hq1 : ∀ q : Nat, q < 84 → Z11 q = Z q := fun q hq => hqq1 q hq
  obtain ⟨sh, hsh⟩ : ∃ x : Int, x = ssd Z T us ex hw := ⟨_, rfl⟩
  refine w_top C (sh) (hsh.symm) ?_
  have hshr := ssd_r Z T us ex hw
  rw [← hsh] at hshr
  refine w_istore C [(6, .int (iZ (sh))), (0, .ref ri), (1, .long (lZ (lw))), (3, .long (lZ (hw))), (5, .int (iZ ((ex : Int))))] dX4_narrow_7 (by decide) rfl ?_
  refine w_iload C dX4_narrow_9 0 rfl ?_
  refine w_if_ne C 18 dX4_narrow_11 (by decide) ⟨by omega, by omega⟩ (fun c11 => ?_) (fun c11 => ?_)
  · refine w_iconst C dX4_narrow_18 ?_
    refine w_istore C [(7, .int (iZ (0))), (6, .int (iZ (sh))), (0, .ref ri), (1, .long (lZ (lw))), (3, .long (lZ (hw))), (5, .int (iZ ((ex : Int))))] dX4_narrow_19 (by decide) rfl ?_
    have lp : ∀ (d : Nat) (n : Nat) (lo9 : Int) (hi9 : Int) (Zi : Nat → Int) (sti : Nat → va_W) (nni : Nat → Nat) (ci : Nat) (si : Nat), n < d → n ≤ 64 → nrF (ssd Z T us ex) lw hw = nrw (ssd Z T us ex) sh n lo9 hi9 → (-2305843009213693952 ≤ lo9 ∧ lo9 ≤ hi9 ∧ hi9 ≤ 2305843009213693952) → (∀ q : Nat, q < 84 → Zi q = Z q) → pAll G Q sti nni Zi → pG (pC nn) (pS nn) nni ci si → ZW p l e ({ frames := 5, cells := 4312, slots := 1605632, locals := 139 }) s m ([.ref ri, .long (lZ (lw)), .long (lZ (hw)), .int (iZ ((ex : Int)))] : List Value).toArray below meth c D (va_A ((cx, .inr (0, [.ref rx, .int (iZ ((us : Int))), .ref (P 10), .ref (Q 77), .ref (Q 78), .ref (Q 79), .ref (Q 80), .ref (Q 81), .ref (Q 82), .ref (Q 83)])) :: (rx, .inl (G 5, 10, .inr (.inr (.inr (.inr (fun i => some (P i))))))) :: (px, .inr (1, [.ref (Q 84), .int (e0), .ref (Q 85), .ref (Q 86), .ref (Q 87)])) :: (ri, .inr (4, [.ref ra, .ref rb, .int (fd), .ref lv, .ref ce, .ref en, .ref re, .ref cx, .int (hfl), .ref px, .ref (P 11), .ref fx, .ref lo, .ref hi])) :: ((fp G Q P PA T ++ X) ++ pl st) : va_W) sz) 11 ci si (MQ below (va_Ql (fun (r : Int64) (u : cS) => ∃ (st1 : Nat → va_W) (nn1 : Nat → Nat) (c1 s1 : Nat) (Z1 : Nat → Int), r = lZ (nrF (ssd Z T us ex) lw hw) ∧ (∀ q : Nat, q < 84 → Z1 q = Z q) ∧ pAll G Q st1 nn1 (Z1) ∧ pG (pC nn) (pS nn) nn1 c1 s1 ∧ u = (((cx, .inr (0, [.ref rx, .int (iZ ((us : Int))), .ref (P 10), .ref (Q 77), .ref (Q 78), .ref (Q 79), .ref (Q 80), .ref (Q 81), .ref (Q 82), .ref (Q 83)])) :: (rx, .inl (G 5, 10, .inr (.inr (.inr (.inr (fun i => some (P i))))))) :: (px, .inr (1, [.ref (Q 84), .int (iZ ((ex : Int))), .ref (Q 85), .ref (Q 86), .ref (Q 87)])) :: (ri, .inr (4, [.ref ra, .ref rb, .int (fd), .ref lv, .ref ce, .ref en, .ref re, .ref cx, .int (hfl), .ref px, .ref (P 11), .ref fx, .ref lo, .ref hi])) :: ((fp G Q P PA T ++ X) ++ pl st1) : va_W), c1, s1)) (cAt D G (va_A ((cx, .inr (0, [.ref rx, .int (iZ ((us : Int))), .ref (P 10), .ref (Q 77), .ref (Q 78), .ref (Q 79), .ref (Q 80), .ref (Q 81), .ref (Q 82), .ref (Q 83)])) :: (rx, .inl (G 5, 10, .inr (.inr (.inr (.inr (fun i => some (P i))))))) :: (px, .inr (1, [.ref (Q 84), .int (e0), .ref (Q 85), .ref (Q 86), .ref (Q 87)])) :: (ri, .inr (4, [.ref ra, .ref rb, .int (fd), .ref lv, .ref ce, .ref en, .ref re, .ref cx, .int (hfl), .ref px, .ref (P 11), .ref fx, .ref lo, .ref hi])) :: ((fp G Q P PA T ++ X) ++ pl st) : va_W) sz) sz hs) (va_A ((cx, .inr (0, [.ref rx, .int (iZ ((us : Int))), .ref (P 10), .ref (Q 77), .ref (Q 78), .ref (Q 79), .ref (Q 80), .ref (Q 81), .ref (Q 82), .ref (Q 83)])) :: (rx, .inl (G 5, 10, .inr (.inr (.inr (.inr (fun i => some (P i))))))) :: (px, .inr (1, [.ref (Q 84), .int (e0), .ref (Q 85), .ref (Q 86), .ref (Q 87)])) :: (ri, .inr (4, [.ref ra, .ref rb, .int (fd), .ref lv, .ref ce, .ref en, .ref re, .ref cx, .int (hfl), .ref px, .ref (P 11), .ref fx, .ref lo, .ref hi])) :: ((fp G Q P PA T ++ X) ++ pl st) : va_W) sz)) ([.ref ri, .long (lZ (lw)), .long (lZ (hw)), .int (iZ ((ex : Int)))] : List Value).toArray s 4312 1605632 (va_A ((cx, .inr (0, [.ref rx, .int (iZ ((us : Int))), .ref (P 10), .ref (Q 77), .ref (Q 78), .ref (Q 79), .ref (Q 80), .ref (Q 81), .ref (Q 82), .ref (Q 83)])) :: (rx, .inl (G 5, 10, .inr (.inr (.inr (.inr (fun i => some (P i))))))) :: (px, .inr (1, [.ref (Q 84), .int (e0), .ref (Q 85), .ref (Q 86), .ref (Q 87)])) :: (ri, .inr (4, [.ref ra, .ref rb, .int (fd), .ref lv, .ref ce, .ref en, .ref re, .ref cx, .int (hfl), .ref px, .ref (P 11), .ref fx, .ref lo, .ref hi])) :: ((fp G Q P PA T ++ X) ++ pl st) : va_W) sz)) ((cx, .inr (0, [.ref rx, .int (iZ ((us : Int))), .ref (P 10), .ref (Q 77), .ref (Q 78), .ref (Q 79), .ref (Q 80), .ref (Q 81), .ref (Q 82), .ref (Q 83)])) :: (rx, .inl (G 5, 10, .inr (.inr (.inr (.inr (fun i => some (P i))))))) :: (px, .inr (1, [.ref (Q 84), .int (iZ ((ex : Int))), .ref (Q 85), .ref (Q 86), .ref (Q 87)])) :: (ri, .inr (4, [.ref ra, .ref rb, .int (fd), .ref lv, .ref ce, .ref en, .ref re, .ref cx, .int (hfl), .ref px, .ref (P 11), .ref fx, .ref lo, .ref hi])) :: ((fp G Q P PA T ++ X) ++ pl sti) : va_W) 21 [(7, .int (iZ (64 - (n : Int)))), (6, .int (iZ (sh))), (1, .long (lZ (lo9))), (3, .long (lZ (hi9))), (5, .int (iZ ((ex : Int)))), (0, .ref ri)] [] := by
      intro d
      induction d with
      | zero =>
        intro n lo9 hi9 Zi sti nni ci si hd hn hres hlh hqi hZi hGi
        exact absurd hd (by omega)
      | succ d ih2 =>
        intro n lo9 hi9 Zi sti nni ci si hd hn hres hlh hqi hZi hGi
        refine w_iload C dX4_narrow_21 0 rfl ?_
        refine w_bipush C dX4_narrow_23 (by decide) ?_
        refine w_icmp_ge C 85 dX4_narrow_25 (by decide) ⟨⟨by omega, by omega⟩, by omega, by omega⟩ (fun c25 => ?_) (fun c25 => ?_)
        · have hn0 : n = 0 := by omega
          refine w_lload_n C dX4_narrow_85 2 rfl ?_
          have hle := pG_le hZi hGi
          exact g_lret hsz hhs C hr hlk ⟨by omega, by omega⟩ (⟨_, _, _, _, Zi, by rw [hres]; first | (rw [hn0]; rfl) | (simp only [nrw]; rw [if_neg (by omega)]), hqi, hZi, hGi, rfl⟩) dX4_narrow_86
        · obtain ⟨k, rfl⟩ : ∃ k : Nat, n = k + 1 := ⟨n - 1, by omega⟩
          refine w_lload_n C dX4_narrow_28 3 rfl ?_
          refine w_lload_n C dX4_narrow_29 2 rfl ?_
          refine w_lsub C dX4_narrow_30 ?_
          refine w_lconst C 1 dX4_narrow_31 rfl ?_
          refine w_lif_le C 85 dX4_narrow_32 dX4_narrow_33 (by decide) ⟨⟨by omega, by omega⟩, by omega, by omega⟩ (fun c32 => ?_) (fun c32 => ?_)
          · refine w_lload_n C dX4_narrow_85 2 rfl ?_
            have hle := pG_le hZi hGi
            exact g_lret hsz hhs C hr hlk ⟨by omega, by omega⟩ (⟨_, _, _, _, Zi, by rw [hres]; first | (rw [hn0]; rfl) | (simp only [nrw]; rw [if_neg (by omega)]), hqi, hZi, hGi, rfl⟩) dX4_narrow_86
          · refine w_lload_n C dX4_narrow_36 2 rfl ?_
            refine w_lload_n C dX4_narrow_37 3 rfl ?_
            refine w_ladd C dX4_narrow_38 ?_
            refine w_iconst C dX4_narrow_39 ?_
            refine w_lshr C (1) dX4_narrow_40 ⟨by omega, by omega⟩ ⟨by omega, by omega⟩ ?_
            refine w_topl C (((lo9 + hi9) / 2)) (by rw [Int.pow_one]) ?_
            refine w_lstore C [(8, .long (lZ (((lo9 + hi9) / 2)))), (7, .int (iZ (64 - ((k + 1 : Nat) : Int)))), (6, .int (iZ (sh))), (1, .long (lZ (lo9))), (3, .long (lZ (hi9))), (5, .int (iZ ((ex : Int)))), (0, .ref ri)] dX4_narrow_41 (by decide) rfl ?_
            refine w_aload_n C dX4_narrow_43 6 rfl ?_
            refine w_lload C dX4_narrow_44 0 rfl ?_
            refine w_iload C dX4_narrow_46 5 rfl ?_
            have hle102 := pG_le hZi hGi
            refine g_calli (N := nW) [.long (lZ (((lo9 + hi9) / 2))), .int (iZ ((ex : Int)))] hA C hNs nW_ok (cc_simpleSide l D G X Q P PA T sti nni Zi ri ra rb lv ce en re cx rx px fx lo hi fd hfl us ex (iZ ((ex : Int))) ((lo9 + hi9) / 2) hZi hus hT (fun k hk i hi => by have h7 := hT k (by omega); have h6 := pB_61 (k := k) (by omega); rw [hqi _ (by omega)]; exact hc k hk i hi) ⟨by omega, by omega⟩ hex) (cwV 2 C.1.2.2.2.2 (wC_V kX4_217 nX4_simpleSide slX4_simpleSide iniX4 cdX4_simpleSide) rfl rfl rfl (by decide +kernel) ⟨Nat.le_of_ble_eq_true rfl, Nat.le_of_ble_eq_true rfl⟩) (q0 := 3) rfl rfl rfl rfl ⟨by show ci + 3234 ≤ 4312; omega, by show si + 1204224 ≤ 1605632; omega⟩ (Nat.le_of_ble_eq_true rfl) dX4_narrow_48 [.int (iZ ((ex : Int))), .long (lZ (((lo9 + hi9) / 2))), .ref ri] rfl (fun r v102 hv102 => ?_)
            obtain ⟨st102, nn102, e102, f102, Z1102, rfl, hqq102, hZ102, hH102, rfl⟩ := hv102
            have hG102 := pG_trans hGi hH102
            refine w_cs (ci + e102) (si + f102) rfl rfl ?_
            refine w_top C (ssd Z T us ex ((lo9 + hi9) / 2)) (ssd_to hus hT (fun q hq => hqi q (by omega))) ?_
            have hq102 : ∀ q : Nat, q < 84 → Z1102 q = Z q := fun q hq => (hqq102 q hq).trans (hqi q hq)
            have hsd := ssd_r Z T us ex ((lo9 + hi9) / 2)
            refine w_istore C [(10, .int (iZ (ssd Z T us ex ((lo9 + hi9) / 2)))), (8, .long (lZ (((lo9 + hi9) / 2)))), (7, .int (iZ (64 - ((k + 1 : Nat) : Int)))), (6, .int (iZ (sh))), (1, .long (lZ (lo9))), (3, .long (lZ (hi9))), (5, .int (iZ ((ex : Int)))), (0, .ref ri)] dX4_narrow_51 (by decide) rfl ?_
            refine w_iload C dX4_narrow_53 0 rfl ?_
            refine w_if_ne C 63 dX4_narrow_55 (by decide) ⟨by omega, by omega⟩ (fun c55 => ?_) (fun c55 => ?_)
            · refine w_iload C dX4_narrow_63 0 rfl ?_
              refine w_iload C dX4_narrow_65 3 rfl ?_
              refine w_icmp_ne C 76 dX4_narrow_67 (by decide) ⟨⟨by omega, by omega⟩, by omega, by omega⟩ (fun c67 => ?_) (fun c67 => ?_)
              · refine w_lload C dX4_narrow_76 1 rfl ?_
                refine w_lstore_n C [(1, .long (lZ (((lo9 + hi9) / 2)))), (10, .int (iZ (ssd Z T us ex ((lo9 + hi9) / 2)))), (8, .long (lZ (((lo9 + hi9) / 2)))), (7, .int (iZ (64 - ((k + 1 : Nat) : Int)))), (6, .int (iZ (sh))), (3, .long (lZ (hi9))), (5, .int (iZ ((ex : Int)))), (0, .ref ri)] dX4_narrow_78 rfl (by decide) rfl ?_
                refine w_iinc C (64 - (k : Int)) (by omega) [(7, .int (iZ (64 - (k : Int)))), (1, .long (lZ (((lo9 + hi9) / 2)))), (10, .int (iZ (ssd Z T us ex ((lo9 + hi9) / 2)))), (8, .long (lZ (((lo9 + hi9) / 2)))), (6, .int (iZ (sh))), (3, .long (lZ (hi9))), (5, .int (iZ ((ex : Int)))), (0, .ref ri)] dX4_narrow_79 3 rfl (by decide) rfl ?_
                refine w_goto C 21 dX4_narrow_82 (by decide) ?_
                refine w_sub [(7, .int (iZ (64 - (k : Int)))), (6, .int (iZ (sh))), (1, .long (lZ (((lo9 + hi9) / 2)))), (3, .long (lZ (hi9))), (5, .int (iZ ((ex : Int)))), (0, .ref ri)] [0, 4, 1, 5, 6, 7] rfl ?_
                refine ih2 k ((lo9 + hi9) / 2) hi9 _ _ _ _ _ (by omega) (by omega) ?_ (by omega) hq102 hZ102 hG102
                rw [hres]
                simp only [nrw]
                rw [if_pos (by omega), if_neg c55, if_neg c67]
              · refine w_lload C dX4_narrow_70 1 rfl ?_
                refine w_lstore_n C [(3, .long (lZ (((lo9 + hi9) / 2)))), (10, .int (iZ (ssd Z T us ex ((lo9 + hi9) / 2)))), (8, .long (lZ (((lo9 + hi9) / 2)))), (7, .int (iZ (64 - ((k + 1 : Nat) : Int)))), (6, .int (iZ (sh))), (1, .long (lZ (lo9))), (5, .int (iZ ((ex : Int)))), (0, .ref ri)] dX4_narrow_72 rfl (by decide) rfl ?_
                refine w_goto C 79 dX4_narrow_73 (by decide) ?_
                refine w_iinc C (64 - (k : Int)) (by omega) [(7, .int (iZ (64 - (k : Int)))), (3, .long (lZ (((lo9 + hi9) / 2)))), (10, .int (iZ (ssd Z T us ex ((lo9 + hi9) / 2)))), (8, .long (lZ (((lo9 + hi9) / 2)))), (6, .int (iZ (sh))), (1, .long (lZ (lo9))), (5, .int (iZ ((ex : Int)))), (0, .ref ri)] dX4_narrow_79 3 rfl (by decide) rfl ?_
                refine w_goto C 21 dX4_narrow_82 (by decide) ?_
                refine w_sub [(7, .int (iZ (64 - (k : Int)))), (6, .int (iZ (sh))), (1, .long (lZ (lo9))), (3, .long (lZ (((lo9 + hi9) / 2)))), (5, .int (iZ ((ex : Int)))), (0, .ref ri)] [0, 4, 5, 1, 6, 7] rfl ?_
                refine ih2 k lo9 ((lo9 + hi9) / 2) _ _ _ _ _ (by omega) (by omega) ?_ (by omega) hq102 hZ102 hG102
                rw [hres]
                simp only [nrw]
                rw [if_pos (by omega), if_neg c55, if_pos c67]
            · refine w_lload C dX4_narrow_58 1 rfl ?_
              refine w_lconst C 1 dX4_narrow_60 rfl ?_
              refine w_lsub C dX4_narrow_61 ?_
              have hle := pG_le hZ102 hG102
              exact g_lret hsz hhs C hr hlk ⟨by omega, by omega⟩ (⟨_, _, _, _, _, by rw [hres]; simp only [nrw]; rw [if_pos (by omega), if_pos c55], hq102, hZ102, hG102, rfl⟩) dX4_narrow_62
    refine w_sub [(7, .int (iZ (0))), (6, .int (iZ (sh))), (1, .long (lZ (lw))), (3, .long (lZ (hw))), (5, .int (iZ ((ex : Int)))), (0, .ref ri)] [0, 1, 3, 4, 5, 2] rfl ?_
    refine w_sub [(7, .int (iZ (64 - ((64 : Nat) : Int)))), (6, .int (iZ sh)), (1, .long (lZ lw)), (3, .long (lZ hw)), (5, .int (iZ (ex : Int))), (0, .ref ri)] [0, 1, 2, 3, 4, 5] rfl ?_
    exact lp 65 64 lw hw Z11 st1 nn1 (0 + e1) (0 + f1) (by omega) (by omega) (by unfold nrF; rw [if_neg (by rw [← hsh]; exact c11), ← hsh]) hlw hq1 hZ1 hG1
  · refine w_lload_n C dX4_narrow_14 3 rfl ?_
    refine w_lconst C 1 dX4_narrow_15 rfl ?_
    refine w_lsub C dX4_narrow_16 ?_
    have hle := pG_le hZ1 hG1
    exact g_lret hsz hhs C hr hlk ⟨by omega, by omega⟩ (⟨_, _, _, _, _, by unfold nrF; rw [if_pos (by rw [← hsh]; exact c11)], hq1, hZ1, hG1, rfl⟩) dX4_narrow_17
