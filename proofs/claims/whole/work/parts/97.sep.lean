/-- root i is alone in its cell at level t -/
def al (cs : Nat → Nat → Int) (ct t i : Nat) : Prop := (i = 0 ∨ cs t (i - 1) ≠ cs t i) ∧ (ct ≤ i + 1 ∨ cs t (i + 1) ≠ cs t i)
def lvd (cs : Nat → Nat → Int) (ct ex s i : Nat) (a : Int32) (b : Int64) : Prop := ∃ u : Nat, ex ≤ u ∧ u < s ∧ u ≤ 30 ∧ a.toInt = (u : Int) ∧ al cs ct u i ∧ (∀ t : Nat, ex ≤ t → t < u → ¬ al cs ct t i) ∧ b.toInt = cs u i
def opn (cs : Nat → Nat → Int) (ct ex s i : Nat) (a : Int32) : Prop := a.toInt = -1 ∧ ∀ t : Nat, ex ≤ t → t < s → ¬ al cs ct t i
theorem cs_down {cs : Nat → Nat → Int} {ct ex : Nat} (hha : ∀ s i : Nat, ex ≤ s → s < 30 → i < ct → cs s i = cs (s + 1) i / 2) {a b : Nat} (ha : a < ct) (hb : b < ct) {u : Nat} (hu : ex ≤ u) : ∀ k : Nat, u + k ≤ 30 → cs (u + k) a = cs (u + k) b → cs u a = cs u b
  | 0, _, h => h
  | k + 1, h30, h => cs_down hha ha hb hu k (by omega) (by
      have h1 := hha (u + k) a (by omega) (by omega) ha
      have h2 := hha (u + k) b (by omega) (by omega) hb
      have h3 : cs (u + k + 1) a = cs (u + k + 1) b := h
      rw [h1, h2, h3])
theorem lvd_mono {cs : Nat → Nat → Int} {ct ex s i : Nat} {a : Int32} {b : Int64} (h : lvd cs ct ex s i a b) : lvd cs ct ex (s + 1) i a b := by
  obtain ⟨u, h1, h2, h3⟩ := h
  exact ⟨u, h1, by omega, h3⟩
theorem al_iff {cs : Nat → Nat → Int} {ct ex s i : Nat} {gl : Nat → Int32} {gc : Nat → Int64} (hha : ∀ s i : Nat, ex ≤ s → s < 30 → i < ct → cs s i = cs (s + 1) i / 2) (hs : ex ≤ s) (h30 : s ≤ 30) (hi : i < ct) (hgi : (gc i).toInt = cs s i)
    (hP : ∀ j : Nat, j < ct → lvd cs ct ex (s + 1) j (gl j) (gc j) ∨ ((gl j).toInt = -1 ∧ (gc j).toInt = cs s j)) :
    (¬ (0 < i ∧ (gl (i - 1)).toInt = -1 ∧ (gc (i - 1)).toInt = (gc i).toInt) ∧ ¬ (i + 1 < ct ∧ (gl (i + 1)).toInt = -1 ∧ (gc (i + 1)).toInt = (gc i).toInt)) ↔ al cs ct s i := by
  have hd : ∀ u : Nat, ex ≤ u → u ≤ s → ∀ a b : Nat, a < ct → b < ct → cs s a = cs s b → cs u a = cs u b := fun u h1 h2 a b ha hb h => by
    have e : s = u + (s - u) := by omega
    rw [e] at h
    exact cs_down hha ha hb h1 (s - u) (by omega) h
  constructor
  · rintro ⟨h1, h2⟩
    refine ⟨?_, ?_⟩
    · by_cases q : i = 0
      · exact Or.inl q
      · refine Or.inr (fun he => ?_)
        rcases hP (i - 1) (by omega) with ⟨u, g1, g2, _, g3, g4, _, _⟩ | ⟨g1, g2⟩
        · rcases g4.2 with g5 | g5
          · omega
          · rw [show i - 1 + 1 = i by omega] at g5
            exact g5 (hd u g1 (by omega) _ _ (by omega) (by omega) he.symm)
        · exact h1 ⟨by omega, g1, by rw [g2, he, hgi]⟩
    · by_cases q : ct ≤ i + 1
      · exact Or.inl q
      · refine Or.inr (fun he => ?_)
        rcases hP (i + 1) (by omega) with ⟨u, g1, g2, _, g3, g4, _, _⟩ | ⟨g1, g2⟩
        · rcases g4.1 with g5 | g5
          · omega
          · rw [show i + 1 - 1 = i by omega] at g5
            exact g5 (hd u g1 (by omega) _ _ (by omega) (by omega) he.symm)
        · exact h2 ⟨by omega, g1, by rw [g2, he, hgi]⟩
  · rintro ⟨h1, h2⟩
    refine ⟨fun ⟨q1, q2, q3⟩ => ?_, fun ⟨q1, q2, q3⟩ => ?_⟩
    · rcases hP (i - 1) (by omega) with ⟨u, _, _, _, g3, _⟩ | ⟨g1, g2⟩
      · omega
      · rw [g2, hgi] at q3
        rcases h1 with h1 | h1
        · omega
        · exact h1 q3
    · rcases hP (i + 1) (by omega) with ⟨u, _, _, _, g3, _⟩ | ⟨g1, g2⟩
      · omega
      · rw [g2, hgi] at q3
        rcases h2 with h2 | h2
        · omega
        · exact h2 q3
set_option maxHeartbeats 4000000 in
set_option maxRecDepth 100000 in
/-- separate -/
theorem cc_separate (l : Launch) (D : va_G) (G : Nat → ClassId) (X : va_W) (Q P PA T : Nat → Nat) (st : Nat → va_W) (nn : Nat → Nat) (Z : Nat → Int) (ri ra rb lv ce en re cx rx px fx lo hi : Nat) (fd hfl : Int32) (us ex ct : Nat) (e0 : Int32) (gl0 : Nat → Int32) (gc0 : Nat → Int64) (cs : Nat → Nat → Int) (hZ : pAll G Q st nn Z) (hus : us ≤ 10 ∧ 1 ≤ us) (hT : ∀ k : Nat, k < 12 → T k ≤ pN k) (hc : ∀ k : Nat, k < us → ∀ i : Nat, i < T k → lb (Z (pB k + i)) 400) (hex : ex ≤ 30) (hct : ct ≤ 8) (hcl : ∀ s : Nat, ex ≤ s → s ≤ 30 → clF Z T us s ct (cs s)) (hha : ∀ s i : Nat, ex ≤ s → s < 30 → i < ct → cs s i = cs (s + 1) i / 2) (hrg : ∀ s i : Nat, ex ≤ s → s ≤ 30 → i < ct → -1152921504606846976 ≤ cs s i ∧ cs s i ≤ 1152921504606846976) (hg0 : ∀ i : Nat, i < ct → (gc0 i).toInt = cs ex i) (sz hs : Nat) : Met l yX4_separate (wC yX4_separate cX4_separate 8 (some .boolean)) ({ frames := 6, cells := 4312, slots := 1605632, locals := 166 }) (va_Pc [.ref ri, .int (iZ ((ct : Int))), .int (iZ ((ex : Int)))] (cPre nW D G ((cx, .inr (0, [.ref rx, .int (iZ ((us : Int))), .ref (P 10), .ref (Q 77), .ref (Q 78), .ref (Q 79), .ref (Q 80), .ref (Q 81), .ref (Q 82), .ref (Q 83)])) :: (rx, .inl (G 5, 10, .inr (.inr (.inr (.inr (fun i => some (P i))))))) :: (px, .inr (1, [.ref (Q 84), .int (e0), .ref (Q 85), .ref (Q 86), .ref (Q 87)])) :: (ri, .inr (4, [.ref ra, .ref rb, .int (fd), .ref lv, .ref ce, .ref en, .ref re, .ref cx, .int (hfl), .ref px, .ref (P 11), .ref fx, .ref lo, .ref hi])) :: (lv, .inl (G 0, 8, .inl gl0)) :: (ce, .inl (G 1, 8, .inr (.inl gc0))) :: ((fp G Q P PA T ++ X) ++ pl st) : va_W) sz hs)) (va_Qi (fun (r : Int32) (u : cS) => ∃ (st1 : Nat → va_W) (nn1 : Nat → Nat) (c1 s1 : Nat) (Z1 : Nat → Int) (e1 : Int32) (gl1 : Nat → Int32) (gc1 : Nat → Int64), ((r = iZ 1 ∧ ∀ i : Nat, i < ct → lvd cs ct ex 31 i (gl1 i) (gc1 i)) ∨ (r = iZ 0 ∧ ∃ i : Nat, i < ct ∧ ∀ t : Nat, ex ≤ t → t ≤ 30 → ¬ al cs ct t i)) ∧ (∀ q : Nat, q < 84 → Z1 q = Z q) ∧ pAll G Q st1 nn1 (Z1) ∧ pG (pC nn) (pS nn) nn1 c1 s1 ∧ u = (((cx, .inr (0, [.ref rx, .int (iZ ((us : Int))), .ref (P 10), .ref (Q 77), .ref (Q 78), .ref (Q 79), .ref (Q 80), .ref (Q 81), .ref (Q 82), .ref (Q 83)])) :: (rx, .inl (G 5, 10, .inr (.inr (.inr (.inr (fun i => some (P i))))))) :: (px, .inr (1, [.ref (Q 84), .int (e1), .ref (Q 85), .ref (Q 86), .ref (Q 87)])) :: (ri, .inr (4, [.ref ra, .ref rb, .int (fd), .ref lv, .ref ce, .ref en, .ref re, .ref cx, .int (hfl), .ref px, .ref (P 11), .ref fx, .ref lo, .ref hi])) :: (lv, .inl (G 0, 8, .inl gl1)) :: (ce, .inl (G 1, 8, .inr (.inl gc1))) :: ((fp G Q P PA T ++ X) ++ pl st1) : va_W), c1, s1)) (cAt D G (va_A ((cx, .inr (0, [.ref rx, .int (iZ ((us : Int))), .ref (P 10), .ref (Q 77), .ref (Q 78), .ref (Q 79), .ref (Q 80), .ref (Q 81), .ref (Q 82), .ref (Q 83)])) :: (rx, .inl (G 5, 10, .inr (.inr (.inr (.inr (fun i => some (P i))))))) :: (px, .inr (1, [.ref (Q 84), .int (e0), .ref (Q 85), .ref (Q 86), .ref (Q 87)])) :: (ri, .inr (4, [.ref ra, .ref rb, .int (fd), .ref lv, .ref ce, .ref en, .ref re, .ref cx, .int (hfl), .ref px, .ref (P 11), .ref fx, .ref lo, .ref hi])) :: (lv, .inl (G 0, 8, .inl gl0)) :: (ce, .inl (G 1, 8, .inr (.inl gc0))) :: ((fp G Q P PA T ++ X) ++ pl st) : va_W) sz) sz hs) (va_A ((cx, .inr (0, [.ref rx, .int (iZ ((us : Int))), .ref (P 10), .ref (Q 77), .ref (Q 78), .ref (Q 79), .ref (Q 80), .ref (Q 81), .ref (Q 82), .ref (Q 83)])) :: (rx, .inl (G 5, 10, .inr (.inr (.inr (.inr (fun i => some (P i))))))) :: (px, .inr (1, [.ref (Q 84), .int (e0), .ref (Q 85), .ref (Q 86), .ref (Q 87)])) :: (ri, .inr (4, [.ref ra, .ref rb, .int (fd), .ref lv, .ref ce, .ref en, .ref re, .ref cx, .int (hfl), .ref px, .ref (P 11), .ref fx, .ref lo, .ref hi])) :: (lv, .inl (G 0, 8, .inl gl0)) :: (ce, .inl (G 1, 8, .inr (.inl gc0))) :: ((fp G Q P PA T ++ X) ++ pl st) : va_W) sz)) 4312 1605632 (va_A ((cx, .inr (0, [.ref rx, .int (iZ ((us : Int))), .ref (P 10), .ref (Q 77), .ref (Q 78), .ref (Q 79), .ref (Q 80), .ref (Q 81), .ref (Q 82), .ref (Q 83)])) :: (rx, .inl (G 5, 10, .inr (.inr (.inr (.inr (fun i => some (P i))))))) :: (px, .inr (1, [.ref (Q 84), .int (e0), .ref (Q 85), .ref (Q 86), .ref (Q 87)])) :: (ri, .inr (4, [.ref ra, .ref rb, .int (fd), .ref lv, .ref ce, .ref en, .ref re, .ref cx, .int (hfl), .ref px, .ref (P 11), .ref fx, .ref lo, .ref hi])) :: (lv, .inl (G 0, 8, .inl gl0)) :: (ce, .inl (G 1, 8, .inr (.inl gc0))) :: ((fp G Q P PA T ++ X) ++ pl st) : va_W) sz) := by
  refine g_met (cc := cX4_separate) (maxL := 8) (ret := (some .boolean)) (own := RX4) (by decide) rfl rfl (Nat.le_of_ble_eq_true rfl) ?_
  intro p e s m below meth c hsz hhs hNs hA C hr hlk
  refine w_sub [(0, .ref ri), (1, .int (iZ ((ct : Int)))), (2, .int (iZ ((ex : Int))))] [0, 1, 2] rfl ?_
  have hG : pG (pC nn) (pS nn) nn 0 0 := ⟨Nat.le_of_eq (Nat.zero_add _), Nat.le_of_eq (Nat.zero_add _)⟩
  have l22 : ∀ (d : Nat) (sk : Nat) (gl : Nat → Int32) (gc : Nat → Int64) (ei : Int32) (Za : Nat → Int) (sta : Nat → va_W) (nna : Nat → Nat) (ca : Nat) (sa : Nat), 31 < sk + d → (ex ≤ sk ∧ sk ≤ 31) → (∀ j : Nat, j < ct → lvd cs ct ex sk j (gl j) (gc j) ∨ (opn cs ct ex sk j (gl j) ∧ (sk ≤ 30 → (gc j).toInt = cs sk j))) → (sk = ex ∨ ∃ j : Nat, j < ct ∧ (gl j).toInt = -1) → (∀ q : Nat, q < 84 → Za q = Z q) → pAll G Q sta nna Za → pG (pC nn) (pS nn) nna ca sa → ZW p l e ({ frames := 6, cells := 4312, slots := 1605632, locals := 166 }) s m ([.ref ri, .int (iZ ((ct : Int))), .int (iZ ((ex : Int)))] : List Value).toArray below meth c D (va_A ((cx, .inr (0, [.ref rx, .int (iZ ((us : Int))), .ref (P 10), .ref (Q 77), .ref (Q 78), .ref (Q 79), .ref (Q 80), .ref (Q 81), .ref (Q 82), .ref (Q 83)])) :: (rx, .inl (G 5, 10, .inr (.inr (.inr (.inr (fun i => some (P i))))))) :: (px, .inr (1, [.ref (Q 84), .int (e0), .ref (Q 85), .ref (Q 86), .ref (Q 87)])) :: (ri, .inr (4, [.ref ra, .ref rb, .int (fd), .ref lv, .ref ce, .ref en, .ref re, .ref cx, .int (hfl), .ref px, .ref (P 11), .ref fx, .ref lo, .ref hi])) :: (lv, .inl (G 0, 8, .inl gl0)) :: (ce, .inl (G 1, 8, .inr (.inl gc0))) :: ((fp G Q P PA T ++ X) ++ pl st) : va_W) sz) 8 ca sa (MQ below (va_Qi (fun (r : Int32) (u : cS) => ∃ (st1 : Nat → va_W) (nn1 : Nat → Nat) (c1 s1 : Nat) (Z1 : Nat → Int) (e1 : Int32) (gl1 : Nat → Int32) (gc1 : Nat → Int64), ((r = iZ 1 ∧ ∀ i : Nat, i < ct → lvd cs ct ex 31 i (gl1 i) (gc1 i)) ∨ (r = iZ 0 ∧ ∃ i : Nat, i < ct ∧ ∀ t : Nat, ex ≤ t → t ≤ 30 → ¬ al cs ct t i)) ∧ (∀ q : Nat, q < 84 → Z1 q = Z q) ∧ pAll G Q st1 nn1 (Z1) ∧ pG (pC nn) (pS nn) nn1 c1 s1 ∧ u = (((cx, .inr (0, [.ref rx, .int (iZ ((us : Int))), .ref (P 10), .ref (Q 77), .ref (Q 78), .ref (Q 79), .ref (Q 80), .ref (Q 81), .ref (Q 82), .ref (Q 83)])) :: (rx, .inl (G 5, 10, .inr (.inr (.inr (.inr (fun i => some (P i))))))) :: (px, .inr (1, [.ref (Q 84), .int (e1), .ref (Q 85), .ref (Q 86), .ref (Q 87)])) :: (ri, .inr (4, [.ref ra, .ref rb, .int (fd), .ref lv, .ref ce, .ref en, .ref re, .ref cx, .int (hfl), .ref px, .ref (P 11), .ref fx, .ref lo, .ref hi])) :: (lv, .inl (G 0, 8, .inl gl1)) :: (ce, .inl (G 1, 8, .inr (.inl gc1))) :: ((fp G Q P PA T ++ X) ++ pl st1) : va_W), c1, s1)) (cAt D G (va_A ((cx, .inr (0, [.ref rx, .int (iZ ((us : Int))), .ref (P 10), .ref (Q 77), .ref (Q 78), .ref (Q 79), .ref (Q 80), .ref (Q 81), .ref (Q 82), .ref (Q 83)])) :: (rx, .inl (G 5, 10, .inr (.inr (.inr (.inr (fun i => some (P i))))))) :: (px, .inr (1, [.ref (Q 84), .int (e0), .ref (Q 85), .ref (Q 86), .ref (Q 87)])) :: (ri, .inr (4, [.ref ra, .ref rb, .int (fd), .ref lv, .ref ce, .ref en, .ref re, .ref cx, .int (hfl), .ref px, .ref (P 11), .ref fx, .ref lo, .ref hi])) :: (lv, .inl (G 0, 8, .inl gl0)) :: (ce, .inl (G 1, 8, .inr (.inl gc0))) :: ((fp G Q P PA T ++ X) ++ pl st) : va_W) sz) sz hs) (va_A ((cx, .inr (0, [.ref rx, .int (iZ ((us : Int))), .ref (P 10), .ref (Q 77), .ref (Q 78), .ref (Q 79), .ref (Q 80), .ref (Q 81), .ref (Q 82), .ref (Q 83)])) :: (rx, .inl (G 5, 10, .inr (.inr (.inr (.inr (fun i => some (P i))))))) :: (px, .inr (1, [.ref (Q 84), .int (e0), .ref (Q 85), .ref (Q 86), .ref (Q 87)])) :: (ri, .inr (4, [.ref ra, .ref rb, .int (fd), .ref lv, .ref ce, .ref en, .ref re, .ref cx, .int (hfl), .ref px, .ref (P 11), .ref fx, .ref lo, .ref hi])) :: (lv, .inl (G 0, 8, .inl gl0)) :: (ce, .inl (G 1, 8, .inr (.inl gc0))) :: ((fp G Q P PA T ++ X) ++ pl st) : va_W) sz)) ([.ref ri, .int (iZ ((ct : Int))), .int (iZ ((ex : Int)))] : List Value).toArray s 4312 1605632 (va_A ((cx, .inr (0, [.ref rx, .int (iZ ((us : Int))), .ref (P 10), .ref (Q 77), .ref (Q 78), .ref (Q 79), .ref (Q 80), .ref (Q 81), .ref (Q 82), .ref (Q 83)])) :: (rx, .inl (G 5, 10, .inr (.inr (.inr (.inr (fun i => some (P i))))))) :: (px, .inr (1, [.ref (Q 84), .int (e0), .ref (Q 85), .ref (Q 86), .ref (Q 87)])) :: (ri, .inr (4, [.ref ra, .ref rb, .int (fd), .ref lv, .ref ce, .ref en, .ref re, .ref cx, .int (hfl), .ref px, .ref (P 11), .ref fx, .ref lo, .ref hi])) :: (lv, .inl (G 0, 8, .inl gl0)) :: (ce, .inl (G 1, 8, .inr (.inl gc0))) :: ((fp G Q P PA T ++ X) ++ pl st) : va_W) sz)) ((cx, .inr (0, [.ref rx, .int (iZ ((us : Int))), .ref (P 10), .ref (Q 77), .ref (Q 78), .ref (Q 79), .ref (Q 80), .ref (Q 81), .ref (Q 82), .ref (Q 83)])) :: (rx, .inl (G 5, 10, .inr (.inr (.inr (.inr (fun i => some (P i))))))) :: (px, .inr (1, [.ref (Q 84), .int (ei), .ref (Q 85), .ref (Q 86), .ref (Q 87)])) :: (ri, .inr (4, [.ref ra, .ref rb, .int (fd), .ref lv, .ref ce, .ref en, .ref re, .ref cx, .int (hfl), .ref px, .ref (P 11), .ref fx, .ref lo, .ref hi])) :: (lv, .inl (G 0, 8, .inl gl)) :: (ce, .inl (G 1, 8, .inr (.inl gc))) :: ((fp G Q P PA T ++ X) ++ pl sta) : va_W) 22 [(3, .int (iZ ((sk : Int)))), (0, .ref ri), (1, .int (iZ ((ct : Int)))), (2, .int (iZ ((ex : Int))))] [] := by
    intro d
    induction d with
    | zero =>
      intro sk gl gc ei Za sta nna ca sa hd hsk3 hP1 hx1 hqa hZa hGa
      exact absurd hd (by omega)
    | succ d ih =>
      intro sk gl gc ei Za sta nna ca sa hd hsk3 hP1 hx1 hqa hZa hGa
      refine w_iload_n C dX4_separate_22 0 rfl ?_
      refine w_bipush C dX4_separate_23 (by decide) ?_
      refine w_icmp_gt C 179 dX4_separate_25 (by decide) ⟨⟨by omega, by omega⟩, by omega, by omega⟩ (fun c25 => ?_) (fun c25 => ?_)
      · refine w_iconst C dX4_separate_179 ?_
        have hle := pG_le hZa hGa
        refine g_zret hsz hhs C hr (by decide) hlk ⟨by omega, by omega⟩ (⟨_, _, _, _, Za, ei, gl, gc, Or.inr ⟨rfl, ?_⟩, hqa, hZa, hGa, rfl⟩) dX4_separate_180
        rcases hx1 with h | ⟨j, h1, h2⟩
        · omega
        · refine ⟨j, h1, fun t g1 g2 => ?_⟩
          rcases hP1 j h1 with ⟨u, _, _, _, g4, _⟩ | g
          · omega
          · exact g.1.2 t g1 (by omega)
      · have hsk : ex ≤ sk ∧ sk ≤ 30 := by omega
        refine w_iconst C dX4_separate_28 ?_
        refine w_istore C [(4, .int (iZ (0))), (3, .int (iZ ((sk : Int)))), (0, .ref ri), (1, .int (iZ ((ct : Int)))), (2, .int (iZ ((ex : Int))))] dX4_separate_29 (by decide) rfl ?_
        refine w_iconst C dX4_separate_31 ?_
        refine w_istore C [(5, .int (iZ (0))), (4, .int (iZ (0))), (3, .int (iZ ((sk : Int)))), (0, .ref ri), (1, .int (iZ ((ct : Int)))), (2, .int (iZ ((ex : Int))))] dX4_separate_32 (by decide) rfl ?_
        have l34 : ∀ (d : Nat) (i : Nat) (sh : Nat) (gl : Nat → Int32), ct < i + d → i ≤ ct → sh ≤ i → (∀ j : Nat, j < ct → lvd cs ct ex (sk + 1) j (gl j) (gc j) ∨ (opn cs ct ex (if j < i then sk + 1 else sk) j (gl j) ∧ (gc j).toInt = cs sk j)) → (sh = 0 → ∀ j : Nat, j < i → (gl j).toInt ≠ -1) → (0 < sh → ∃ j : Nat, j < i ∧ (gl j).toInt = -1) → ZW p l e ({ frames := 6, cells := 4312, slots := 1605632, locals := 166 }) s m ([.ref ri, .int (iZ ((ct : Int))), .int (iZ ((ex : Int)))] : List Value).toArray below meth c D (va_A ((cx, .inr (0, [.ref rx, .int (iZ ((us : Int))), .ref (P 10), .ref (Q 77), .ref (Q 78), .ref (Q 79), .ref (Q 80), .ref (Q 81), .ref (Q 82), .ref (Q 83)])) :: (rx, .inl (G 5, 10, .inr (.inr (.inr (.inr (fun i => some (P i))))))) :: (px, .inr (1, [.ref (Q 84), .int (e0), .ref (Q 85), .ref (Q 86), .ref (Q 87)])) :: (ri, .inr (4, [.ref ra, .ref rb, .int (fd), .ref lv, .ref ce, .ref en, .ref re, .ref cx, .int (hfl), .ref px, .ref (P 11), .ref fx, .ref lo, .ref hi])) :: (lv, .inl (G 0, 8, .inl gl0)) :: (ce, .inl (G 1, 8, .inr (.inl gc0))) :: ((fp G Q P PA T ++ X) ++ pl st) : va_W) sz) 8 ca sa (MQ below (va_Qi (fun (r : Int32) (u : cS) => ∃ (st1 : Nat → va_W) (nn1 : Nat → Nat) (c1 s1 : Nat) (Z1 : Nat → Int) (e1 : Int32) (gl1 : Nat → Int32) (gc1 : Nat → Int64), ((r = iZ 1 ∧ ∀ i : Nat, i < ct → lvd cs ct ex 31 i (gl1 i) (gc1 i)) ∨ (r = iZ 0 ∧ ∃ i : Nat, i < ct ∧ ∀ t : Nat, ex ≤ t → t ≤ 30 → ¬ al cs ct t i)) ∧ (∀ q : Nat, q < 84 → Z1 q = Z q) ∧ pAll G Q st1 nn1 (Z1) ∧ pG (pC nn) (pS nn) nn1 c1 s1 ∧ u = (((cx, .inr (0, [.ref rx, .int (iZ ((us : Int))), .ref (P 10), .ref (Q 77), .ref (Q 78), .ref (Q 79), .ref (Q 80), .ref (Q 81), .ref (Q 82), .ref (Q 83)])) :: (rx, .inl (G 5, 10, .inr (.inr (.inr (.inr (fun i => some (P i))))))) :: (px, .inr (1, [.ref (Q 84), .int (e1), .ref (Q 85), .ref (Q 86), .ref (Q 87)])) :: (ri, .inr (4, [.ref ra, .ref rb, .int (fd), .ref lv, .ref ce, .ref en, .ref re, .ref cx, .int (hfl), .ref px, .ref (P 11), .ref fx, .ref lo, .ref hi])) :: (lv, .inl (G 0, 8, .inl gl1)) :: (ce, .inl (G 1, 8, .inr (.inl gc1))) :: ((fp G Q P PA T ++ X) ++ pl st1) : va_W), c1, s1)) (cAt D G (va_A ((cx, .inr (0, [.ref rx, .int (iZ ((us : Int))), .ref (P 10), .ref (Q 77), .ref (Q 78), .ref (Q 79), .ref (Q 80), .ref (Q 81), .ref (Q 82), .ref (Q 83)])) :: (rx, .inl (G 5, 10, .inr (.inr (.inr (.inr (fun i => some (P i))))))) :: (px, .inr (1, [.ref (Q 84), .int (e0), .ref (Q 85), .ref (Q 86), .ref (Q 87)])) :: (ri, .inr (4, [.ref ra, .ref rb, .int (fd), .ref lv, .ref ce, .ref en, .ref re, .ref cx, .int (hfl), .ref px, .ref (P 11), .ref fx, .ref lo, .ref hi])) :: (lv, .inl (G 0, 8, .inl gl0)) :: (ce, .inl (G 1, 8, .inr (.inl gc0))) :: ((fp G Q P PA T ++ X) ++ pl st) : va_W) sz) sz hs) (va_A ((cx, .inr (0, [.ref rx, .int (iZ ((us : Int))), .ref (P 10), .ref (Q 77), .ref (Q 78), .ref (Q 79), .ref (Q 80), .ref (Q 81), .ref (Q 82), .ref (Q 83)])) :: (rx, .inl (G 5, 10, .inr (.inr (.inr (.inr (fun i => some (P i))))))) :: (px, .inr (1, [.ref (Q 84), .int (e0), .ref (Q 85), .ref (Q 86), .ref (Q 87)])) :: (ri, .inr (4, [.ref ra, .ref rb, .int (fd), .ref lv, .ref ce, .ref en, .ref re, .ref cx, .int (hfl), .ref px, .ref (P 11), .ref fx, .ref lo, .ref hi])) :: (lv, .inl (G 0, 8, .inl gl0)) :: (ce, .inl (G 1, 8, .inr (.inl gc0))) :: ((fp G Q P PA T ++ X) ++ pl st) : va_W) sz)) ([.ref ri, .int (iZ ((ct : Int))), .int (iZ ((ex : Int)))] : List Value).toArray s 4312 1605632 (va_A ((cx, .inr (0, [.ref rx, .int (iZ ((us : Int))), .ref (P 10), .ref (Q 77), .ref (Q 78), .ref (Q 79), .ref (Q 80), .ref (Q 81), .ref (Q 82), .ref (Q 83)])) :: (rx, .inl (G 5, 10, .inr (.inr (.inr (.inr (fun i => some (P i))))))) :: (px, .inr (1, [.ref (Q 84), .int (e0), .ref (Q 85), .ref (Q 86), .ref (Q 87)])) :: (ri, .inr (4, [.ref ra, .ref rb, .int (fd), .ref lv, .ref ce, .ref en, .ref re, .ref cx, .int (hfl), .ref px, .ref (P 11), .ref fx, .ref lo, .ref hi])) :: (lv, .inl (G 0, 8, .inl gl0)) :: (ce, .inl (G 1, 8, .inr (.inl gc0))) :: ((fp G Q P PA T ++ X) ++ pl st) : va_W) sz)) ((cx, .inr (0, [.ref rx, .int (iZ ((us : Int))), .ref (P 10), .ref (Q 77), .ref (Q 78), .ref (Q 79), .ref (Q 80), .ref (Q 81), .ref (Q 82), .ref (Q 83)])) :: (rx, .inl (G 5, 10, .inr (.inr (.inr (.inr (fun i => some (P i))))))) :: (px, .inr (1, [.ref (Q 84), .int (ei), .ref (Q 85), .ref (Q 86), .ref (Q 87)])) :: (ri, .inr (4, [.ref ra, .ref rb, .int (fd), .ref lv, .ref ce, .ref en, .ref re, .ref cx, .int (hfl), .ref px, .ref (P 11), .ref fx, .ref lo, .ref hi])) :: (lv, .inl (G 0, 8, .inl gl)) :: (ce, .inl (G 1, 8, .inr (.inl gc))) :: ((fp G Q P PA T ++ X) ++ pl sta) : va_W) 34 [(5, .int (iZ ((i : Int)))), (4, .int (iZ ((sh : Int)))), (3, .int (iZ ((sk : Int)))), (0, .ref ri), (1, .int (iZ ((ct : Int)))), (2, .int (iZ ((ex : Int))))] [] := by
          intro d
          induction d with
          | zero =>
            intro i sh gl hd hi9 hsh hP2 hs0 hs1
            exact absurd hd (by omega)
          | succ d ih2 =>
            intro i sh gl hd hi9 hsh hP2 hs0 hs1
            refine w_iload C dX4_separate_34 0 rfl ?_
            refine w_iload_n C dX4_separate_36 4 rfl ?_
            refine w_icmp_ge C 89 dX4_separate_37 (by decide) ⟨⟨by omega, by omega⟩, by omega, by omega⟩ (fun c37 => ?_) (fun c37 => ?_)
            · refine w_iload C dX4_separate_89 1 rfl ?_
              refine w_if_ne C 96 dX4_separate_91 (by decide) ⟨by omega, by omega⟩ (fun c91 => ?_) (fun c91 => ?_)
              · refine w_iconst C dX4_separate_96 ?_
                refine w_istore C [(5, .int (iZ (0))), (4, .int (iZ ((sh : Int)))), (3, .int (iZ ((sk : Int)))), (0, .ref ri), (1, .int (iZ ((ct : Int)))), (2, .int (iZ ((ex : Int))))] dX4_separate_97 (by decide) rfl ?_
                have l99 : ∀ (d : Nat) (i : Nat) (gc : Nat → Int64) (ei : Int32) (Zb : Nat → Int) (stb : Nat → va_W) (nnb : Nat → Nat) (cb : Nat) (sb : Nat), ct < i + d → i ≤ ct → (∀ j : Nat, j < ct → lvd cs ct ex (sk + 1) j (gl j) (gc j) ∨ (opn cs ct ex (sk + 1) j (gl j) ∧ (gc j).toInt = if j < i then cs (sk + 1) j else cs sk j)) → (∀ q : Nat, q < 84 → Zb q = Z q) → pAll G Q stb nnb Zb → pG (pC nn) (pS nn) nnb cb sb → ZW p l e ({ frames := 6, cells := 4312, slots := 1605632, locals := 166 }) s m ([.ref ri, .int (iZ ((ct : Int))), .int (iZ ((ex : Int)))] : List Value).toArray below meth c D (va_A ((cx, .inr (0, [.ref rx, .int (iZ ((us : Int))), .ref (P 10), .ref (Q 77), .ref (Q 78), .ref (Q 79), .ref (Q 80), .ref (Q 81), .ref (Q 82), .ref (Q 83)])) :: (rx, .inl (G 5, 10, .inr (.inr (.inr (.inr (fun i => some (P i))))))) :: (px, .inr (1, [.ref (Q 84), .int (e0), .ref (Q 85), .ref (Q 86), .ref (Q 87)])) :: (ri, .inr (4, [.ref ra, .ref rb, .int (fd), .ref lv, .ref ce, .ref en, .ref re, .ref cx, .int (hfl), .ref px, .ref (P 11), .ref fx, .ref lo, .ref hi])) :: (lv, .inl (G 0, 8, .inl gl0)) :: (ce, .inl (G 1, 8, .inr (.inl gc0))) :: ((fp G Q P PA T ++ X) ++ pl st) : va_W) sz) 8 cb sb (MQ below (va_Qi (fun (r : Int32) (u : cS) => ∃ (st1 : Nat → va_W) (nn1 : Nat → Nat) (c1 s1 : Nat) (Z1 : Nat → Int) (e1 : Int32) (gl1 : Nat → Int32) (gc1 : Nat → Int64), ((r = iZ 1 ∧ ∀ i : Nat, i < ct → lvd cs ct ex 31 i (gl1 i) (gc1 i)) ∨ (r = iZ 0 ∧ ∃ i : Nat, i < ct ∧ ∀ t : Nat, ex ≤ t → t ≤ 30 → ¬ al cs ct t i)) ∧ (∀ q : Nat, q < 84 → Z1 q = Z q) ∧ pAll G Q st1 nn1 (Z1) ∧ pG (pC nn) (pS nn) nn1 c1 s1 ∧ u = (((cx, .inr (0, [.ref rx, .int (iZ ((us : Int))), .ref (P 10), .ref (Q 77), .ref (Q 78), .ref (Q 79), .ref (Q 80), .ref (Q 81), .ref (Q 82), .ref (Q 83)])) :: (rx, .inl (G 5, 10, .inr (.inr (.inr (.inr (fun i => some (P i))))))) :: (px, .inr (1, [.ref (Q 84), .int (e1), .ref (Q 85), .ref (Q 86), .ref (Q 87)])) :: (ri, .inr (4, [.ref ra, .ref rb, .int (fd), .ref lv, .ref ce, .ref en, .ref re, .ref cx, .int (hfl), .ref px, .ref (P 11), .ref fx, .ref lo, .ref hi])) :: (lv, .inl (G 0, 8, .inl gl1)) :: (ce, .inl (G 1, 8, .inr (.inl gc1))) :: ((fp G Q P PA T ++ X) ++ pl st1) : va_W), c1, s1)) (cAt D G (va_A ((cx, .inr (0, [.ref rx, .int (iZ ((us : Int))), .ref (P 10), .ref (Q 77), .ref (Q 78), .ref (Q 79), .ref (Q 80), .ref (Q 81), .ref (Q 82), .ref (Q 83)])) :: (rx, .inl (G 5, 10, .inr (.inr (.inr (.inr (fun i => some (P i))))))) :: (px, .inr (1, [.ref (Q 84), .int (e0), .ref (Q 85), .ref (Q 86), .ref (Q 87)])) :: (ri, .inr (4, [.ref ra, .ref rb, .int (fd), .ref lv, .ref ce, .ref en, .ref re, .ref cx, .int (hfl), .ref px, .ref (P 11), .ref fx, .ref lo, .ref hi])) :: (lv, .inl (G 0, 8, .inl gl0)) :: (ce, .inl (G 1, 8, .inr (.inl gc0))) :: ((fp G Q P PA T ++ X) ++ pl st) : va_W) sz) sz hs) (va_A ((cx, .inr (0, [.ref rx, .int (iZ ((us : Int))), .ref (P 10), .ref (Q 77), .ref (Q 78), .ref (Q 79), .ref (Q 80), .ref (Q 81), .ref (Q 82), .ref (Q 83)])) :: (rx, .inl (G 5, 10, .inr (.inr (.inr (.inr (fun i => some (P i))))))) :: (px, .inr (1, [.ref (Q 84), .int (e0), .ref (Q 85), .ref (Q 86), .ref (Q 87)])) :: (ri, .inr (4, [.ref ra, .ref rb, .int (fd), .ref lv, .ref ce, .ref en, .ref re, .ref cx, .int (hfl), .ref px, .ref (P 11), .ref fx, .ref lo, .ref hi])) :: (lv, .inl (G 0, 8, .inl gl0)) :: (ce, .inl (G 1, 8, .inr (.inl gc0))) :: ((fp G Q P PA T ++ X) ++ pl st) : va_W) sz)) ([.ref ri, .int (iZ ((ct : Int))), .int (iZ ((ex : Int)))] : List Value).toArray s 4312 1605632 (va_A ((cx, .inr (0, [.ref rx, .int (iZ ((us : Int))), .ref (P 10), .ref (Q 77), .ref (Q 78), .ref (Q 79), .ref (Q 80), .ref (Q 81), .ref (Q 82), .ref (Q 83)])) :: (rx, .inl (G 5, 10, .inr (.inr (.inr (.inr (fun i => some (P i))))))) :: (px, .inr (1, [.ref (Q 84), .int (e0), .ref (Q 85), .ref (Q 86), .ref (Q 87)])) :: (ri, .inr (4, [.ref ra, .ref rb, .int (fd), .ref lv, .ref ce, .ref en, .ref re, .ref cx, .int (hfl), .ref px, .ref (P 11), .ref fx, .ref lo, .ref hi])) :: (lv, .inl (G 0, 8, .inl gl0)) :: (ce, .inl (G 1, 8, .inr (.inl gc0))) :: ((fp G Q P PA T ++ X) ++ pl st) : va_W) sz)) ((cx, .inr (0, [.ref rx, .int (iZ ((us : Int))), .ref (P 10), .ref (Q 77), .ref (Q 78), .ref (Q 79), .ref (Q 80), .ref (Q 81), .ref (Q 82), .ref (Q 83)])) :: (rx, .inl (G 5, 10, .inr (.inr (.inr (.inr (fun i => some (P i))))))) :: (px, .inr (1, [.ref (Q 84), .int (ei), .ref (Q 85), .ref (Q 86), .ref (Q 87)])) :: (ri, .inr (4, [.ref ra, .ref rb, .int (fd), .ref lv, .ref ce, .ref en, .ref re, .ref cx, .int (hfl), .ref px, .ref (P 11), .ref fx, .ref lo, .ref hi])) :: (lv, .inl (G 0, 8, .inl gl)) :: (ce, .inl (G 1, 8, .inr (.inl gc))) :: ((fp G Q P PA T ++ X) ++ pl stb) : va_W) 99 [(5, .int (iZ ((i : Int)))), (4, .int (iZ ((sh : Int)))), (3, .int (iZ ((sk : Int)))), (0, .ref ri), (1, .int (iZ ((ct : Int)))), (2, .int (iZ ((ex : Int))))] [] := by
                  intro d
                  induction d with
                  | zero =>
                    intro i gc ei Zb stb nnb cb sb hd hi8 hP3 hqb hZb hGb
                    exact absurd hd (by omega)
                  | succ d ih2 =>
                    intro i gc ei Zb stb nnb cb sb hd hi8 hP3 hqb hZb hGb
                    refine w_iload C dX4_separate_99 0 rfl ?_
                    refine w_iload_n C dX4_separate_101 4 rfl ?_
                    refine w_icmp_ge C 173 dX4_separate_102 (by decide) ⟨⟨by omega, by omega⟩, by omega, by omega⟩ (fun c102 => ?_) (fun c102 => ?_)
                    · refine w_iinc C (((sk + 1 : Nat) : Int)) (by omega) [(3, .int (iZ (((sk + 1 : Nat) : Int)))), (5, .int (iZ ((i : Int)))), (4, .int (iZ ((sh : Int)))), (0, .ref ri), (1, .int (iZ ((ct : Int)))), (2, .int (iZ ((ex : Int))))] dX4_separate_173 2 rfl (by decide) rfl ?_
                      refine w_goto C 22 dX4_separate_176 (by decide) ?_
                      refine w_sub [(3, .int (iZ (((sk + 1 : Nat) : Int)))), (0, .ref ri), (1, .int (iZ ((ct : Int)))), (2, .int (iZ ((ex : Int))))] [0, 3, 4, 5] rfl ?_
                      exact ih (sk + 1) gl gc _ Zb stb nnb cb sb (by omega) ⟨by omega, by omega⟩ (fun j hj => by
                        rcases hP3 j hj with g | g
                        · exact Or.inl g
                        · refine Or.inr ⟨g.1, fun h => ?_⟩
                          rw [g.2]; exact if_pos (by omega)) (Or.inr (by obtain ⟨j, h1, h2⟩ := hs1 (by omega); exact ⟨j, by omega, h2⟩)) hqb hZb hGb
                    · refine w_iload_n C dX4_separate_105 2 rfl ?_
                      refine w_bipush C dX4_separate_106 (by decide) ?_
                      refine w_icmp_ge C 173 dX4_separate_108 (by decide) ⟨⟨by omega, by omega⟩, by omega, by omega⟩ (fun c108 => ?_) (fun c108 => ?_)
                      · refine w_iinc C (((sk + 1 : Nat) : Int)) (by omega) [(3, .int (iZ (((sk + 1 : Nat) : Int)))), (5, .int (iZ ((i : Int)))), (4, .int (iZ ((sh : Int)))), (0, .ref ri), (1, .int (iZ ((ct : Int)))), (2, .int (iZ ((ex : Int))))] dX4_separate_173 2 rfl (by decide) rfl ?_
                        refine w_goto C 22 dX4_separate_176 (by decide) ?_
                        refine w_sub [(3, .int (iZ (((sk + 1 : Nat) : Int)))), (0, .ref ri), (1, .int (iZ ((ct : Int)))), (2, .int (iZ ((ex : Int))))] [0, 3, 4, 5] rfl ?_
                        exact ih (sk + 1) gl gc _ Zb stb nnb cb sb (by omega) ⟨by omega, by omega⟩ (fun j hj => by
                          rcases hP3 j hj with g | g
                          · exact Or.inl g
                          · refine Or.inr ⟨g.1, fun h => ?_⟩
                            rw [g.2]; exact if_pos (by omega)) (Or.inr (by obtain ⟨j, h1, h2⟩ := hs1 (by omega); exact ⟨j, by omega, h2⟩)) hqb hZb hGb
                      · refine w_aload_n C dX4_separate_111 3 rfl ?_
                        refine w_get (ci := 4) (ref := "RootIsolator") (T := TX4) (Cn := RX4) (N := 14) C (fun w h => wC_in (inX4 w h)) 3 rfl rfl 3 (by decide) (wC_in fX4_20) rfl rfl dX4_separate_112 ?_
                        refine w_iload C dX4_separate_115 0 rfl ?_
                        refine w_iald C 4 0 rfl rfl (i) ((gl (i)).toInt) ⟨by omega, by omega, by omega⟩ ((iZ_self _).symm) dX4_separate_117 ?_
                        refine w_iconst C dX4_separate_118 ?_
                        refine w_icmp_ne C 167 dX4_separate_119 (by decide) ⟨i32r _, by omega, by omega⟩ (fun c119 => ?_) (fun c119 => ?_)
                        · refine w_iinc C (((i + 1 : Nat) : Int)) (by omega) [(5, .int (iZ (((i + 1 : Nat) : Int)))), (4, .int (iZ ((sh : Int)))), (3, .int (iZ ((sk : Int)))), (0, .ref ri), (1, .int (iZ ((ct : Int)))), (2, .int (iZ ((ex : Int))))] dX4_separate_167 0 rfl (by decide) rfl ?_
                          refine w_goto C 99 dX4_separate_170 (by decide) ?_
                          refine ih2 (i + 1) gc _ _ _ _ _ _ (by omega) (by omega) ?_ hqb hZb hGb
                          intro j hj
                          rcases hP3 j hj with g | g
                          · exact Or.inl g
                          · refine Or.inr ⟨g.1, ?_⟩
                            rw [g.2]
                            by_cases q : j = i
                            · exact absurd g.1.1 (by rw [q]; omega)
                            · exact if_same (by omega)
                        · have hop : opn cs ct ex (sk + 1) i (gl i) ∧ (gc i).toInt = cs sk i := by
                            rcases hP3 i (by omega) with ⟨u, _, _, _, g4, _⟩ | g
                            · omega
                            · rw [if_neg (by omega)] at g; exact g
                          have hri := hrg sk i hsk.1 hsk.2 (by omega)
                          refine w_ldc2 C (2) dX4_separate_122 (wC_in kclX4_198) ?_
                          refine w_aload_n C dX4_separate_125 3 rfl ?_
                          refine w_get (ci := 4) (ref := "RootIsolator") (T := TX4) (Cn := RX4) (N := 14) C (fun w h => wC_in (inX4 w h)) 3 rfl rfl 4 (by decide) (wC_in fX4_23) rfl rfl dX4_separate_126 ?_
                          refine w_iload C dX4_separate_129 0 rfl ?_
                          refine w_lald C 5 1 rfl rfl (i) (cs sk i) ⟨by omega, by omega, by omega⟩ (by rw [← hop.2]; exact (lZ_self _).symm) dX4_separate_131 ?_
                          refine w_lmul C dX4_separate_132 ?_
                          refine w_lconst C 1 dX4_separate_133 rfl ?_
                          refine w_ladd C dX4_separate_134 ?_
                          refine w_lstore C [(6, .long (lZ ((2 * (cs sk i)) + 1))), (5, .int (iZ ((i : Int)))), (4, .int (iZ ((sh : Int)))), (3, .int (iZ ((sk : Int)))), (0, .ref ri), (1, .int (iZ ((ct : Int)))), (2, .int (iZ ((ex : Int))))] dX4_separate_135 (by decide) rfl ?_
                          refine w_aload_n C dX4_separate_137 4 rfl ?_
                          refine w_get (ci := 4) (ref := "RootIsolator") (T := TX4) (Cn := RX4) (N := 14) C (fun w h => wC_in (inX4 w h)) 3 rfl rfl 4 (by decide) (wC_in fX4_23) rfl rfl dX4_separate_138 ?_
                          refine w_iload C dX4_separate_141 1 rfl ?_
                          refine w_aload_n C dX4_separate_143 4 rfl ?_
                          refine w_lload C dX4_separate_144 0 rfl ?_
                          refine w_iload_n C dX4_separate_146 3 rfl ?_
                          refine w_iconst C dX4_separate_147 ?_
                          refine w_iadd C dX4_separate_148 ?_
                          refine w_top C (((sk + 1 : Nat) : Int)) (by omega) ?_
                          have hle201 := pG_le hZb hGb
                          refine w_perm ((cx, .inr (0, [.ref rx, .int (iZ ((us : Int))), .ref (P 10), .ref (Q 77), .ref (Q 78), .ref (Q 79), .ref (Q 80), .ref (Q 81), .ref (Q 82), .ref (Q 83)])) :: (rx, .inl (G 5, 10, .inr (.inr (.inr (.inr (fun i => some (P i))))))) :: (px, .inr (1, [.ref (Q 84), .int (ei), .ref (Q 85), .ref (Q 86), .ref (Q 87)])) :: (ri, .inr (4, [.ref ra, .ref rb, .int (fd), .ref lv, .ref ce, .ref en, .ref re, .ref cx, .int (hfl), .ref px, .ref (P 11), .ref fx, .ref lo, .ref hi])) :: ((fp G Q P PA T ++ ((lv, .inl (G 0, 8, .inl gl)) :: (ce, .inl (G 1, 8, .inr (.inl gc))) :: X : va_W)) ++ pl stb) : va_W) (xp_perm ((cx, .inr (0, [.ref rx, .int (iZ ((us : Int))), .ref (P 10), .ref (Q 77), .ref (Q 78), .ref (Q 79), .ref (Q 80), .ref (Q 81), .ref (Q 82), .ref (Q 83)])) :: (rx, .inl (G 5, 10, .inr (.inr (.inr (.inr (fun i => some (P i))))))) :: (px, .inr (1, [.ref (Q 84), .int (ei), .ref (Q 85), .ref (Q 86), .ref (Q 87)])) :: (ri, .inr (4, [.ref ra, .ref rb, .int (fd), .ref lv, .ref ce, .ref en, .ref re, .ref cx, .int (hfl), .ref px, .ref (P 11), .ref fx, .ref lo, .ref hi])) :: [] : va_W) ((lv, .inl (G 0, 8, .inl gl)) :: (ce, .inl (G 1, 8, .inr (.inl gc))) :: [] : va_W) (fp G Q P PA T) X (pl stb)) ?_
                          refine g_calli (N := nW) [.long (lZ ((2 * (cs sk i)) + 1)), .int (iZ (((sk + 1 : Nat) : Int)))] hA C hNs nW_ok (cc_rootsUpTo l D G ((lv, .inl (G 0, 8, .inl gl)) :: (ce, .inl (G 1, 8, .inr (.inl gc))) :: X : va_W) Q P PA T stb nnb Zb ri ra rb lv ce en re cx rx px fx lo hi fd hfl us (sk + 1) (ei) (2 * cs sk i + 1) hZb hus hT (fun k hk i hi => by have h7 := hT k (by omega); have h6 := pB_61 (k := k) (by omega); rw [hqb _ (by omega)]; exact hc k hk i hi) ⟨by omega, by omega⟩ (by omega)) (cwV 2 C.1.2.2.2.2 (wC_V kX4_101 nX4_rootsUpTo slX4_rootsUpTo iniX4 cdX4_rootsUpTo) rfl rfl rfl (by decide +kernel) ⟨Nat.le_of_ble_eq_true rfl, Nat.le_of_ble_eq_true rfl⟩) (q0 := 3) rfl rfl rfl rfl ⟨by show cb + 3234 ≤ 4312; omega, by show sb + 1204224 ≤ 1605632; omega⟩ (Nat.le_of_ble_eq_true rfl) dX4_separate_149 [.int (iZ (((sk + 1 : Nat) : Int))), .long (lZ ((2 * (cs sk i)) + 1)), .ref ri, .int (iZ ((i : Int))), .ref ce] rfl (fun r v201 hv201 => ?_)
                          obtain ⟨st201, nn201, e201, f201, Z1201, od201, rfl, hoD201, hqq201, hZ201, hH201, rfl⟩ := hv201
                          have hG201 := pG_trans hGb hH201
                          refine w_cs (cb + e201) (sb + f201) rfl rfl ?_
                          refine w_perm ((cx, .inr (0, [.ref rx, .int (iZ ((us : Int))), .ref (P 10), .ref (Q 77), .ref (Q 78), .ref (Q 79), .ref (Q 80), .ref (Q 81), .ref (Q 82), .ref (Q 83)])) :: (rx, .inl (G 5, 10, .inr (.inr (.inr (.inr (fun i => some (P i))))))) :: (px, .inr (1, [.ref (Q 84), .int (iZ ((((sk + 1) : Nat) : Int))), .ref (Q 85), .ref (Q 86), .ref (Q 87)])) :: (ri, .inr (4, [.ref ra, .ref rb, .int (fd), .ref lv, .ref ce, .ref en, .ref re, .ref cx, .int (hfl), .ref px, .ref (P 11), .ref fx, .ref lo, .ref hi])) :: (lv, .inl (G 0, 8, .inl gl)) :: (ce, .inl (G 1, 8, .inr (.inl gc))) :: ((fp G Q P PA T ++ X) ++ pl st201) : va_W) (xp_perm ((cx, .inr (0, [.ref rx, .int (iZ ((us : Int))), .ref (P 10), .ref (Q 77), .ref (Q 78), .ref (Q 79), .ref (Q 80), .ref (Q 81), .ref (Q 82), .ref (Q 83)])) :: (rx, .inl (G 5, 10, .inr (.inr (.inr (.inr (fun i => some (P i))))))) :: (px, .inr (1, [.ref (Q 84), .int (iZ ((((sk + 1) : Nat) : Int))), .ref (Q 85), .ref (Q 86), .ref (Q 87)])) :: (ri, .inr (4, [.ref ra, .ref rb, .int (fd), .ref lv, .ref ce, .ref en, .ref re, .ref cx, .int (hfl), .ref px, .ref (P 11), .ref fx, .ref lo, .ref hi])) :: [] : va_W) ((lv, .inl (G 0, 8, .inl gl)) :: (ce, .inl (G 1, 8, .inr (.inl gc))) :: [] : va_W) (fp G Q P PA T) X (pl st201)).symm ?_
                          obtain ⟨vu, hvu⟩ : ∃ x : Int, x = ((vc (lS (qu Zb 84 (2 * cs sk i + 1)) T 1) us : Nat) : Int) - ((vc (fun k => yV (qu Zb 84 (2 * cs sk i + 1)) T (sk + 1) od201 (0 + k)) (us - 0) : Nat) : Int) := ⟨_, rfl⟩
                          rw [← hvu]
                          have huvu : upR Z T us (2 * cs sk i + 1) (sk + 1) vu := ⟨Zb, od201, hqb, hoD201, hvu⟩
                          have hag201 : ∀ q : Nat, q < 84 → Z1201 q = Z q := fun q hq => (hqq201 q hq).trans (hqb q hq)
                          have hcv := (hcl (sk + 1) (by omega) (by omega) (2 * cs sk i + 1) vu (by omega) (by omega) huvu)
                          have hci := hcv.2.2 i (by omega)
                          have hhi := hha sk i hsk.1 (by omega) (by omega)
                          refine w_iload C dX4_separate_152 1 rfl ?_
                          refine w_icmp_le C 164 dX4_separate_154 (by decide) ⟨⟨by omega, by omega⟩, by omega, by omega⟩ (fun c154 => ?_) (fun c154 => ?_)
                          · refine w_lload C dX4_separate_164 0 rfl ?_
                            refine w_last C ((cx, .inr (0, [.ref rx, .int (iZ ((us : Int))), .ref (P 10), .ref (Q 77), .ref (Q 78), .ref (Q 79), .ref (Q 80), .ref (Q 81), .ref (Q 82), .ref (Q 83)])) :: (rx, .inl (G 5, 10, .inr (.inr (.inr (.inr (fun i => some (P i))))))) :: (px, .inr (1, [.ref (Q 84), .int (iZ ((((sk + 1) : Nat) : Int))), .ref (Q 85), .ref (Q 86), .ref (Q 87)])) :: (ri, .inr (4, [.ref ra, .ref rb, .int (fd), .ref lv, .ref ce, .ref en, .ref re, .ref cx, .int (hfl), .ref px, .ref (P 11), .ref fx, .ref lo, .ref hi])) :: (lv, .inl (G 0, 8, .inl gl)) :: (ce, .inl (G 1, 8, .inr (.inl (vp_updL gc (i) (lZ ((2 * (cs sk i)) + 1)))))) :: ((fp G Q P PA T ++ X) ++ pl st201) : va_W) 5 1 rfl rfl (i) ⟨by omega, by omega, by omega⟩ rfl dX4_separate_166 ?_
                            refine w_iinc C (((i + 1 : Nat) : Int)) (by omega) [(5, .int (iZ (((i + 1 : Nat) : Int)))), (6, .long (lZ ((2 * (cs sk i)) + 1))), (4, .int (iZ ((sh : Int)))), (3, .int (iZ ((sk : Int)))), (0, .ref ri), (1, .int (iZ ((ct : Int)))), (2, .int (iZ ((ex : Int))))] dX4_separate_167 1 rfl (by decide) rfl ?_
                            refine w_goto C 99 dX4_separate_170 (by decide) ?_
                            refine w_sub [(5, .int (iZ (((i + 1 : Nat) : Int)))), (4, .int (iZ ((sh : Int)))), (3, .int (iZ ((sk : Int)))), (0, .ref ri), (1, .int (iZ ((ct : Int)))), (2, .int (iZ ((ex : Int))))] [0, 2, 3, 4, 5, 6] rfl ?_
                            refine ih2 (i + 1) (vp_updL gc (i) (lZ ((2 * (cs sk i)) + 1))) _ _ _ _ _ _ (by omega) (by omega) ?_ hag201 hZ201 hG201
                            intro j hj
                            by_cases q : j = i
                            · rw [q, updL_eq, if_pos (by omega), lZ_toInt (by omega) (by omega)]
                              rw [q] at hj
                              exact Or.inr ⟨hop.1, by omega⟩
                            · rw [updL_ne q]
                              rcases hP3 j hj with g | g
                              · exact Or.inl g
                              · refine Or.inr ⟨g.1, ?_⟩
                                rw [g.2]
                                exact if_same (by omega)
                          · refine w_lload C dX4_separate_157 0 rfl ?_
                            refine w_lconst C 1 dX4_separate_159 rfl ?_
                            refine w_lsub C dX4_separate_160 ?_
                            refine w_goto C 166 dX4_separate_161 (by decide) ?_
                            refine w_last C ((cx, .inr (0, [.ref rx, .int (iZ ((us : Int))), .ref (P 10), .ref (Q 77), .ref (Q 78), .ref (Q 79), .ref (Q 80), .ref (Q 81), .ref (Q 82), .ref (Q 83)])) :: (rx, .inl (G 5, 10, .inr (.inr (.inr (.inr (fun i => some (P i))))))) :: (px, .inr (1, [.ref (Q 84), .int (iZ ((((sk + 1) : Nat) : Int))), .ref (Q 85), .ref (Q 86), .ref (Q 87)])) :: (ri, .inr (4, [.ref ra, .ref rb, .int (fd), .ref lv, .ref ce, .ref en, .ref re, .ref cx, .int (hfl), .ref px, .ref (P 11), .ref fx, .ref lo, .ref hi])) :: (lv, .inl (G 0, 8, .inl gl)) :: (ce, .inl (G 1, 8, .inr (.inl (vp_updL gc (i) (lZ (((2 * (cs sk i)) + 1) - 1)))))) :: ((fp G Q P PA T ++ X) ++ pl st201) : va_W) 5 1 rfl rfl (i) ⟨by omega, by omega, by omega⟩ rfl dX4_separate_166 ?_
                            refine w_iinc C (((i + 1 : Nat) : Int)) (by omega) [(5, .int (iZ (((i + 1 : Nat) : Int)))), (6, .long (lZ ((2 * (cs sk i)) + 1))), (4, .int (iZ ((sh : Int)))), (3, .int (iZ ((sk : Int)))), (0, .ref ri), (1, .int (iZ ((ct : Int)))), (2, .int (iZ ((ex : Int))))] dX4_separate_167 1 rfl (by decide) rfl ?_
                            refine w_goto C 99 dX4_separate_170 (by decide) ?_
                            refine w_sub [(5, .int (iZ (((i + 1 : Nat) : Int)))), (4, .int (iZ ((sh : Int)))), (3, .int (iZ ((sk : Int)))), (0, .ref ri), (1, .int (iZ ((ct : Int)))), (2, .int (iZ ((ex : Int))))] [0, 2, 3, 4, 5, 6] rfl ?_
                            refine ih2 (i + 1) (vp_updL gc (i) (lZ (((2 * (cs sk i)) + 1) - 1))) _ _ _ _ _ _ (by omega) (by omega) ?_ hag201 hZ201 hG201
                            intro j hj
                            by_cases q : j = i
                            · rw [q, updL_eq, if_pos (by omega), lZ_toInt (by omega) (by omega)]
                              rw [q] at hj
                              exact Or.inr ⟨hop.1, by omega⟩
                            · rw [updL_ne q]
                              rcases hP3 j hj with g | g
                              · exact Or.inl g
                              · refine Or.inr ⟨g.1, ?_⟩
                                rw [g.2]
                                exact if_same (by omega)
                exact l99 (ct + 1) 0 gc ei Za sta nna ca sa (by omega) (by omega) (fun j hj => by
                  rcases hP2 j hj with g | g
                  · exact Or.inl g
                  · rw [if_pos (by omega)] at g
                    exact Or.inr ⟨g.1, by rw [g.2, if_neg (by omega)]⟩) hqa hZa hGa
              · refine w_iconst C dX4_separate_94 ?_
                have hle := pG_le hZa hGa
                refine g_zret hsz hhs C hr (by decide) hlk ⟨by omega, by omega⟩ (⟨_, _, _, _, Za, ei, gl, gc, Or.inl ⟨rfl, fun j hj => ?_⟩, hqa, hZa, hGa, rfl⟩) dX4_separate_95
                rcases hP2 j hj with ⟨u, g1, g2, g3, g4⟩ | g
                · exact ⟨u, g1, by omega, g3, g4⟩
                · exact absurd g.1.1 (hs0 (by omega) j (by omega))
            · refine w_aload_n C dX4_separate_40 3 rfl ?_
              refine w_get (ci := 4) (ref := "RootIsolator") (T := TX4) (Cn := RX4) (N := 14) C (fun w h => wC_in (inX4 w h)) 3 rfl rfl 3 (by decide) (wC_in fX4_20) rfl rfl dX4_separate_41 ?_
              refine w_iload C dX4_separate_44 0 rfl ?_
              refine w_iald C 4 0 rfl rfl (i) ((gl (i)).toInt) ⟨by omega, by omega, by omega⟩ ((iZ_self _).symm) dX4_separate_46 ?_
              refine w_iconst C dX4_separate_47 ?_
              refine w_icmp_ne C 69 dX4_separate_48 (by decide) ⟨i32r _, by omega, by omega⟩ (fun c48 => ?_) (fun c48 => ?_)
              · refine w_aload_n C dX4_separate_69 3 rfl ?_
                refine w_get (ci := 4) (ref := "RootIsolator") (T := TX4) (Cn := RX4) (N := 14) C (fun w h => wC_in (inX4 w h)) 3 rfl rfl 3 (by decide) (wC_in fX4_20) rfl rfl dX4_separate_70 ?_
                refine w_iload C dX4_separate_73 0 rfl ?_
                refine w_iald C 4 0 rfl rfl (i) ((gl (i)).toInt) ⟨by omega, by omega, by omega⟩ ((iZ_self _).symm) dX4_separate_75 ?_
                refine w_iconst C dX4_separate_76 ?_
                refine w_icmp_ne C 83 dX4_separate_77 (by decide) ⟨i32r _, by omega, by omega⟩ (fun c77 => ?_) (fun c77 => ?_)
                · refine w_iinc C (((i + 1 : Nat) : Int)) (by omega) [(5, .int (iZ (((i + 1 : Nat) : Int)))), (4, .int (iZ ((sh : Int)))), (3, .int (iZ ((sk : Int)))), (0, .ref ri), (1, .int (iZ ((ct : Int)))), (2, .int (iZ ((ex : Int))))] dX4_separate_83 0 rfl (by decide) rfl ?_
                  refine w_goto C 34 dX4_separate_86 (by decide) ?_
                  refine ih2 (i + 1) sh gl (by omega) (by omega) (by omega) ?_ ?_ ?_
                  · intro j hj
                    rcases hP2 j hj with g | g
                    · exact Or.inl g
                    · refine Or.inr ⟨?_, g.2⟩
                      rw [show (if j < i + 1 then sk + 1 else sk) = (if j < i then sk + 1 else sk) by
                        by_cases q : j = i
                        · exact absurd g.1.1 (by rw [q]; omega)
                        · split <;> split <;> omega]
                      exact g.1
                  · intro h j hj
                    by_cases q : j = i
                    · rw [q]; omega
                    · exact hs0 h j (by omega)
                  · intro h
                    obtain ⟨j, h1, h2⟩ := hs1 h
                    exact ⟨j, by omega, h2⟩
                · exact absurd c77 (by omega)
              · have hop : opn cs ct ex sk i (gl i) ∧ (gc i).toInt = cs sk i := by
                  rcases hP2 i (by omega) with ⟨u, _, _, _, g4, _⟩ | g
                  · omega
                  · rw [if_neg (by omega)] at g; exact g
                have hal := al_iff (gl := gl) hha hsk.1 hsk.2 (by omega) hop.2 (fun j hj => (hP2 j hj).imp id (fun g => ⟨g.1.1, g.2⟩))
                refine w_aload_n C dX4_separate_51 3 rfl ?_
                refine w_iload C dX4_separate_52 0 rfl ?_
                refine w_iload_n C dX4_separate_54 4 rfl ?_
                refine w_perm ((ri, .inr (4, [.ref ra, .ref rb, .int (fd), .ref lv, .ref ce, .ref en, .ref re, .ref cx, .int (hfl), .ref px, .ref (P 11), .ref fx, .ref lo, .ref hi])) :: (lv, .inl (G 0, 8, .inl gl)) :: (ce, .inl (G 1, 8, .inr (.inl gc))) :: (cx, .inr (0, [.ref rx, .int (iZ ((us : Int))), .ref (P 10), .ref (Q 77), .ref (Q 78), .ref (Q 79), .ref (Q 80), .ref (Q 81), .ref (Q 82), .ref (Q 83)])) :: (rx, .inl (G 5, 10, .inr (.inr (.inr (.inr (fun i => some (P i))))))) :: (px, .inr (1, [.ref (Q 84), .int (ei), .ref (Q 85), .ref (Q 86), .ref (Q 87)])) :: ((fp G Q P PA T ++ X) ++ pl sta) : va_W) (((List.perm_middle (l₁ := ((cx, .inr (0, [.ref rx, .int (iZ ((us : Int))), .ref (P 10), .ref (Q 77), .ref (Q 78), .ref (Q 79), .ref (Q 80), .ref (Q 81), .ref (Q 82), .ref (Q 83)])) :: (rx, .inl (G 5, 10, .inr (.inr (.inr (.inr (fun i => some (P i))))))) :: (px, .inr (1, [.ref (Q 84), .int (ei), .ref (Q 85), .ref (Q 86), .ref (Q 87)])) :: [] : va_W)) (l₂ := ((lv, .inl (G 0, 8, .inl gl)) :: (ce, .inl (G 1, 8, .inr (.inl gc))) :: ((fp G Q P PA T ++ X) ++ pl sta) : va_W))).trans (List.Perm.cons _ (((List.perm_middle (l₁ := ((cx, .inr (0, [.ref rx, .int (iZ ((us : Int))), .ref (P 10), .ref (Q 77), .ref (Q 78), .ref (Q 79), .ref (Q 80), .ref (Q 81), .ref (Q 82), .ref (Q 83)])) :: (rx, .inl (G 5, 10, .inr (.inr (.inr (.inr (fun i => some (P i))))))) :: (px, .inr (1, [.ref (Q 84), .int (ei), .ref (Q 85), .ref (Q 86), .ref (Q 87)])) :: [] : va_W)) (l₂ := ((ce, .inl (G 1, 8, .inr (.inl gc))) :: ((fp G Q P PA T ++ X) ++ pl sta) : va_W))).trans (List.Perm.cons _ (((List.perm_middle (l₁ := ((cx, .inr (0, [.ref rx, .int (iZ ((us : Int))), .ref (P 10), .ref (Q 77), .ref (Q 78), .ref (Q 79), .ref (Q 80), .ref (Q 81), .ref (Q 82), .ref (Q 83)])) :: (rx, .inl (G 5, 10, .inr (.inr (.inr (.inr (fun i => some (P i))))))) :: (px, .inr (1, [.ref (Q 84), .int (ei), .ref (Q 85), .ref (Q 86), .ref (Q 87)])) :: [] : va_W)) (l₂ := (((fp G Q P PA T ++ X) ++ pl sta) : va_W))).trans (List.Perm.cons _ (List.Perm.refl _)))))))))) ?_
                refine g_calli [.int (iZ ((i : Int))), .int (iZ ((ct : Int)))] hA C trivial nT_ok (cw_isAlone l D G ((cx, .inr (0, [.ref rx, .int (iZ ((us : Int))), .ref (P 10), .ref (Q 77), .ref (Q 78), .ref (Q 79), .ref (Q 80), .ref (Q 81), .ref (Q 82), .ref (Q 83)])) :: (rx, .inl (G 5, 10, .inr (.inr (.inr (.inr (fun i => some (P i))))))) :: (px, .inr (1, [.ref (Q 84), .int (ei), .ref (Q 85), .ref (Q 86), .ref (Q 87)])) :: ((fp G Q P PA T ++ X) ++ pl sta) : va_W) ri ra rb lv ce en re cx px (P 11) fx lo hi fd hfl i ct gl gc ⟨by omega, hct⟩) (cwV 2 C.1.2.2.2.2 (wC_V kX4_227 nX4_isAlone slX4_isAlone iniX4 cdX4_isAlone) rfl rfl rfl (by decide +kernel) ⟨Nat.le_of_ble_eq_true rfl, Nat.le_of_ble_eq_true rfl⟩) (q0 := 0) rfl rfl rfl rfl ⟨by have hle9 := pG_le hZa hGa; show ca + 0 ≤ 4312; omega, by have hle9 := pG_le hZa hGa; show sa + 0 ≤ 1605632; omega⟩ (Nat.le_of_ble_eq_true rfl) dX4_separate_55 [.int (iZ ((ct : Int))), .int (iZ ((i : Int))), .ref ri] rfl (fun r v302 hv302 => ?_)
                obtain ⟨rfl, rfl⟩ := hv302
                refine w_cs ca sa rfl rfl ?_
                refine w_perm ((cx, .inr (0, [.ref rx, .int (iZ ((us : Int))), .ref (P 10), .ref (Q 77), .ref (Q 78), .ref (Q 79), .ref (Q 80), .ref (Q 81), .ref (Q 82), .ref (Q 83)])) :: (rx, .inl (G 5, 10, .inr (.inr (.inr (.inr (fun i => some (P i))))))) :: (px, .inr (1, [.ref (Q 84), .int (ei), .ref (Q 85), .ref (Q 86), .ref (Q 87)])) :: (ri, .inr (4, [.ref ra, .ref rb, .int (fd), .ref lv, .ref ce, .ref en, .ref re, .ref cx, .int (hfl), .ref px, .ref (P 11), .ref fx, .ref lo, .ref hi])) :: (lv, .inl (G 0, 8, .inl gl)) :: (ce, .inl (G 1, 8, .inr (.inl gc))) :: ((fp G Q P PA T ++ X) ++ pl sta) : va_W) (((List.perm_middle (l₁ := ((cx, .inr (0, [.ref rx, .int (iZ ((us : Int))), .ref (P 10), .ref (Q 77), .ref (Q 78), .ref (Q 79), .ref (Q 80), .ref (Q 81), .ref (Q 82), .ref (Q 83)])) :: (rx, .inl (G 5, 10, .inr (.inr (.inr (.inr (fun i => some (P i))))))) :: (px, .inr (1, [.ref (Q 84), .int (ei), .ref (Q 85), .ref (Q 86), .ref (Q 87)])) :: [] : va_W)) (l₂ := ((lv, .inl (G 0, 8, .inl gl)) :: (ce, .inl (G 1, 8, .inr (.inl gc))) :: ((fp G Q P PA T ++ X) ++ pl sta) : va_W))).trans (List.Perm.cons _ (((List.perm_middle (l₁ := ((cx, .inr (0, [.ref rx, .int (iZ ((us : Int))), .ref (P 10), .ref (Q 77), .ref (Q 78), .ref (Q 79), .ref (Q 80), .ref (Q 81), .ref (Q 82), .ref (Q 83)])) :: (rx, .inl (G 5, 10, .inr (.inr (.inr (.inr (fun i => some (P i))))))) :: (px, .inr (1, [.ref (Q 84), .int (ei), .ref (Q 85), .ref (Q 86), .ref (Q 87)])) :: [] : va_W)) (l₂ := ((ce, .inl (G 1, 8, .inr (.inl gc))) :: ((fp G Q P PA T ++ X) ++ pl sta) : va_W))).trans (List.Perm.cons _ (((List.perm_middle (l₁ := ((cx, .inr (0, [.ref rx, .int (iZ ((us : Int))), .ref (P 10), .ref (Q 77), .ref (Q 78), .ref (Q 79), .ref (Q 80), .ref (Q 81), .ref (Q 82), .ref (Q 83)])) :: (rx, .inl (G 5, 10, .inr (.inr (.inr (.inr (fun i => some (P i))))))) :: (px, .inr (1, [.ref (Q 84), .int (ei), .ref (Q 85), .ref (Q 86), .ref (Q 87)])) :: [] : va_W)) (l₂ := (((fp G Q P PA T ++ X) ++ pl sta) : va_W))).trans (List.Perm.cons _ (List.Perm.refl _)))))))))).symm ?_
                refine w_if_eq C 69 dX4_separate_58 (by decide) ⟨by split <;> omega, by split <;> omega⟩ (fun c58 => ?_) (fun c58 => ?_)
                · have hno : ¬ (¬ (0 < i ∧ (gl (i - 1)).toInt = -1 ∧ (gc (i - 1)).toInt = (gc i).toInt) ∧ ¬ (i + 1 < ct ∧ (gl (i + 1)).toInt = -1 ∧ (gc (i + 1)).toInt = (gc i).toInt)) := fun q => absurd c58 (by rw [if_pos q]; decide)
                  refine w_aload_n C dX4_separate_69 3 rfl ?_
                  refine w_get (ci := 4) (ref := "RootIsolator") (T := TX4) (Cn := RX4) (N := 14) C (fun w h => wC_in (inX4 w h)) 3 rfl rfl 3 (by decide) (wC_in fX4_20) rfl rfl dX4_separate_70 ?_
                  refine w_iload C dX4_separate_73 0 rfl ?_
                  refine w_iald C 4 0 rfl rfl (i) ((gl (i)).toInt) ⟨by omega, by omega, by omega⟩ ((iZ_self _).symm) dX4_separate_75 ?_
                  refine w_iconst C dX4_separate_76 ?_
                  have hop1 := hop.1.1
                  refine w_icmp_ne C 83 dX4_separate_77 (by decide) ⟨i32r _, by omega, by omega⟩ (fun c77 => ?_) (fun c77 => ?_)
                  · exact absurd c77 (by omega)
                  · refine w_iinc C (((sh + 1 : Nat) : Int)) (by omega) [(4, .int (iZ (((sh + 1 : Nat) : Int)))), (5, .int (iZ ((i : Int)))), (3, .int (iZ ((sk : Int)))), (0, .ref ri), (1, .int (iZ ((ct : Int)))), (2, .int (iZ ((ex : Int))))] dX4_separate_80 1 rfl (by decide) rfl ?_
                    refine w_iinc C (((i + 1 : Nat) : Int)) (by omega) [(5, .int (iZ (((i + 1 : Nat) : Int)))), (4, .int (iZ (((sh + 1 : Nat) : Int)))), (3, .int (iZ ((sk : Int)))), (0, .ref ri), (1, .int (iZ ((ct : Int)))), (2, .int (iZ ((ex : Int))))] dX4_separate_83 1 rfl (by decide) rfl ?_
                    refine w_goto C 34 dX4_separate_86 (by decide) ?_
                    refine ih2 (i + 1) (sh + 1) gl (by omega) (by omega) (by omega) ?_ ?_ ?_
                    · intro j hj
                      rcases hP2 j hj with g | g
                      · exact Or.inl g
                      · refine Or.inr ⟨?_, g.2⟩
                        by_cases q : j = i
                        · rw [q, if_pos (by omega)]
                          refine ⟨hop.1.1, fun t g1 g2 => ?_⟩
                          by_cases q2 : t = sk
                          · rw [q2]; exact fun h => hno (hal.2 h)
                          · exact hop.1.2 t g1 (by omega)
                        · rw [show (if j < i + 1 then sk + 1 else sk) = (if j < i then sk + 1 else sk) by split <;> split <;> omega]
                          exact g.1
                    · intro h; omega
                    · intro h
                      exact ⟨i, by omega, hop.1.1⟩
                · have hyes : (¬ (0 < i ∧ (gl (i - 1)).toInt = -1 ∧ (gc (i - 1)).toInt = (gc i).toInt) ∧ ¬ (i + 1 < ct ∧ (gl (i + 1)).toInt = -1 ∧ (gc (i + 1)).toInt = (gc i).toInt)) := Classical.byContradiction fun q => c58 (if_neg q)
                  refine w_aload_n C dX4_separate_61 3 rfl ?_
                  refine w_get (ci := 4) (ref := "RootIsolator") (T := TX4) (Cn := RX4) (N := 14) C (fun w h => wC_in (inX4 w h)) 3 rfl rfl 3 (by decide) (wC_in fX4_20) rfl rfl dX4_separate_62 ?_
                  refine w_iload C dX4_separate_65 0 rfl ?_
                  refine w_iload_n C dX4_separate_67 2 rfl ?_
                  refine w_iast C ((cx, .inr (0, [.ref rx, .int (iZ ((us : Int))), .ref (P 10), .ref (Q 77), .ref (Q 78), .ref (Q 79), .ref (Q 80), .ref (Q 81), .ref (Q 82), .ref (Q 83)])) :: (rx, .inl (G 5, 10, .inr (.inr (.inr (.inr (fun i => some (P i))))))) :: (px, .inr (1, [.ref (Q 84), .int (ei), .ref (Q 85), .ref (Q 86), .ref (Q 87)])) :: (ri, .inr (4, [.ref ra, .ref rb, .int (fd), .ref lv, .ref ce, .ref en, .ref re, .ref cx, .int (hfl), .ref px, .ref (P 11), .ref fx, .ref lo, .ref hi])) :: (lv, .inl (G 0, 8, .inl (upd gl (i) (iZ ((sk : Int)))))) :: (ce, .inl (G 1, 8, .inr (.inl gc))) :: ((fp G Q P PA T ++ X) ++ pl sta) : va_W) 4 0 rfl rfl (i) ⟨by omega, by omega, by omega⟩ rfl dX4_separate_68 ?_
                  refine w_aload_n C dX4_separate_69 3 rfl ?_
                  refine w_get (ci := 4) (ref := "RootIsolator") (T := TX4) (Cn := RX4) (N := 14) C (fun w h => wC_in (inX4 w h)) 3 rfl rfl 3 (by decide) (wC_in fX4_20) rfl rfl dX4_separate_70 ?_
                  refine w_iload C dX4_separate_73 0 rfl ?_
                  refine w_iald C 4 0 rfl rfl (i) ((sk : Int)) ⟨by omega, by omega, by omega⟩ (by rw [upd_eq]) dX4_separate_75 ?_
                  refine w_iconst C dX4_separate_76 ?_
                  refine w_icmp_ne C 83 dX4_separate_77 (by decide) ⟨⟨by omega, by omega⟩, by omega, by omega⟩ (fun c77 => ?_) (fun c77 => ?_)
                  · refine w_iinc C (((i + 1 : Nat) : Int)) (by omega) [(5, .int (iZ (((i + 1 : Nat) : Int)))), (4, .int (iZ ((sh : Int)))), (3, .int (iZ ((sk : Int)))), (0, .ref ri), (1, .int (iZ ((ct : Int)))), (2, .int (iZ ((ex : Int))))] dX4_separate_83 0 rfl (by decide) rfl ?_
                    refine w_goto C 34 dX4_separate_86 (by decide) ?_
                    refine ih2 (i + 1) sh (upd gl (i) (iZ ((sk : Int)))) (by omega) (by omega) (by omega) ?_ ?_ ?_
                    · intro j hj
                      by_cases q : j = i
                      · rw [q, upd_eq]
                        exact Or.inl ⟨sk, hsk.1, by omega, hsk.2, iZ_toInt (by omega) (by omega), hal.1 hyes, fun t g1 g2 => hop.1.2 t g1 g2, by rw [hop.2]⟩
                      · rw [upd_ne q]
                        rcases hP2 j hj with g | g
                        · exact Or.inl g
                        · refine Or.inr ⟨?_, g.2⟩
                          rw [show (if j < i + 1 then sk + 1 else sk) = (if j < i then sk + 1 else sk) by split <;> split <;> omega]
                          exact g.1
                    · intro h j hj
                      by_cases q : j = i
                      · rw [q, upd_eq, iZ_toInt (by omega) (by omega)]; omega
                      · rw [upd_ne q]; exact hs0 h j (by omega)
                    · intro h
                      obtain ⟨j, h1, h2⟩ := hs1 h
                      exact ⟨j, by omega, by rw [upd_ne (by omega)]; exact h2⟩
                  · exact absurd c77 (by omega)
        refine w_sub [(5, .int (iZ (((0 : Nat) : Int)))), (4, .int (iZ (((0 : Nat) : Int)))), (3, .int (iZ ((sk : Int)))), (0, .ref ri), (1, .int (iZ ((ct : Int)))), (2, .int (iZ ((ex : Int))))] [0, 1, 2, 3, 4, 5] rfl ?_
        exact l34 (ct + 1) 0 0 gl (by omega) (by omega) (by omega) (fun j hj => by
          rcases hP1 j hj with g | g
          · exact Or.inl (lvd_mono g)
          · rw [if_neg (by omega)]; exact Or.inr ⟨g.1, g.2 (by omega)⟩) (fun _ j hj => absurd hj (by omega)) (fun h => absurd h (by omega))
  have l2 : ∀ (d : Nat) (i : Nat) (gl : Nat → Int32), ct < i + d → i ≤ ct → (∀ j : Nat, j < i → gl j = iZ (-1)) → ZW p l e ({ frames := 6, cells := 4312, slots := 1605632, locals := 166 }) s m ([.ref ri, .int (iZ ((ct : Int))), .int (iZ ((ex : Int)))] : List Value).toArray below meth c D (va_A ((cx, .inr (0, [.ref rx, .int (iZ ((us : Int))), .ref (P 10), .ref (Q 77), .ref (Q 78), .ref (Q 79), .ref (Q 80), .ref (Q 81), .ref (Q 82), .ref (Q 83)])) :: (rx, .inl (G 5, 10, .inr (.inr (.inr (.inr (fun i => some (P i))))))) :: (px, .inr (1, [.ref (Q 84), .int (e0), .ref (Q 85), .ref (Q 86), .ref (Q 87)])) :: (ri, .inr (4, [.ref ra, .ref rb, .int (fd), .ref lv, .ref ce, .ref en, .ref re, .ref cx, .int (hfl), .ref px, .ref (P 11), .ref fx, .ref lo, .ref hi])) :: (lv, .inl (G 0, 8, .inl gl0)) :: (ce, .inl (G 1, 8, .inr (.inl gc0))) :: ((fp G Q P PA T ++ X) ++ pl st) : va_W) sz) 8 0 0 (MQ below (va_Qi (fun (r : Int32) (u : cS) => ∃ (st1 : Nat → va_W) (nn1 : Nat → Nat) (c1 s1 : Nat) (Z1 : Nat → Int) (e1 : Int32) (gl1 : Nat → Int32) (gc1 : Nat → Int64), ((r = iZ 1 ∧ ∀ i : Nat, i < ct → lvd cs ct ex 31 i (gl1 i) (gc1 i)) ∨ (r = iZ 0 ∧ ∃ i : Nat, i < ct ∧ ∀ t : Nat, ex ≤ t → t ≤ 30 → ¬ al cs ct t i)) ∧ (∀ q : Nat, q < 84 → Z1 q = Z q) ∧ pAll G Q st1 nn1 (Z1) ∧ pG (pC nn) (pS nn) nn1 c1 s1 ∧ u = (((cx, .inr (0, [.ref rx, .int (iZ ((us : Int))), .ref (P 10), .ref (Q 77), .ref (Q 78), .ref (Q 79), .ref (Q 80), .ref (Q 81), .ref (Q 82), .ref (Q 83)])) :: (rx, .inl (G 5, 10, .inr (.inr (.inr (.inr (fun i => some (P i))))))) :: (px, .inr (1, [.ref (Q 84), .int (e1), .ref (Q 85), .ref (Q 86), .ref (Q 87)])) :: (ri, .inr (4, [.ref ra, .ref rb, .int (fd), .ref lv, .ref ce, .ref en, .ref re, .ref cx, .int (hfl), .ref px, .ref (P 11), .ref fx, .ref lo, .ref hi])) :: (lv, .inl (G 0, 8, .inl gl1)) :: (ce, .inl (G 1, 8, .inr (.inl gc1))) :: ((fp G Q P PA T ++ X) ++ pl st1) : va_W), c1, s1)) (cAt D G (va_A ((cx, .inr (0, [.ref rx, .int (iZ ((us : Int))), .ref (P 10), .ref (Q 77), .ref (Q 78), .ref (Q 79), .ref (Q 80), .ref (Q 81), .ref (Q 82), .ref (Q 83)])) :: (rx, .inl (G 5, 10, .inr (.inr (.inr (.inr (fun i => some (P i))))))) :: (px, .inr (1, [.ref (Q 84), .int (e0), .ref (Q 85), .ref (Q 86), .ref (Q 87)])) :: (ri, .inr (4, [.ref ra, .ref rb, .int (fd), .ref lv, .ref ce, .ref en, .ref re, .ref cx, .int (hfl), .ref px, .ref (P 11), .ref fx, .ref lo, .ref hi])) :: (lv, .inl (G 0, 8, .inl gl0)) :: (ce, .inl (G 1, 8, .inr (.inl gc0))) :: ((fp G Q P PA T ++ X) ++ pl st) : va_W) sz) sz hs) (va_A ((cx, .inr (0, [.ref rx, .int (iZ ((us : Int))), .ref (P 10), .ref (Q 77), .ref (Q 78), .ref (Q 79), .ref (Q 80), .ref (Q 81), .ref (Q 82), .ref (Q 83)])) :: (rx, .inl (G 5, 10, .inr (.inr (.inr (.inr (fun i => some (P i))))))) :: (px, .inr (1, [.ref (Q 84), .int (e0), .ref (Q 85), .ref (Q 86), .ref (Q 87)])) :: (ri, .inr (4, [.ref ra, .ref rb, .int (fd), .ref lv, .ref ce, .ref en, .ref re, .ref cx, .int (hfl), .ref px, .ref (P 11), .ref fx, .ref lo, .ref hi])) :: (lv, .inl (G 0, 8, .inl gl0)) :: (ce, .inl (G 1, 8, .inr (.inl gc0))) :: ((fp G Q P PA T ++ X) ++ pl st) : va_W) sz)) ([.ref ri, .int (iZ ((ct : Int))), .int (iZ ((ex : Int)))] : List Value).toArray s 4312 1605632 (va_A ((cx, .inr (0, [.ref rx, .int (iZ ((us : Int))), .ref (P 10), .ref (Q 77), .ref (Q 78), .ref (Q 79), .ref (Q 80), .ref (Q 81), .ref (Q 82), .ref (Q 83)])) :: (rx, .inl (G 5, 10, .inr (.inr (.inr (.inr (fun i => some (P i))))))) :: (px, .inr (1, [.ref (Q 84), .int (e0), .ref (Q 85), .ref (Q 86), .ref (Q 87)])) :: (ri, .inr (4, [.ref ra, .ref rb, .int (fd), .ref lv, .ref ce, .ref en, .ref re, .ref cx, .int (hfl), .ref px, .ref (P 11), .ref fx, .ref lo, .ref hi])) :: (lv, .inl (G 0, 8, .inl gl0)) :: (ce, .inl (G 1, 8, .inr (.inl gc0))) :: ((fp G Q P PA T ++ X) ++ pl st) : va_W) sz)) ((cx, .inr (0, [.ref rx, .int (iZ ((us : Int))), .ref (P 10), .ref (Q 77), .ref (Q 78), .ref (Q 79), .ref (Q 80), .ref (Q 81), .ref (Q 82), .ref (Q 83)])) :: (rx, .inl (G 5, 10, .inr (.inr (.inr (.inr (fun i => some (P i))))))) :: (px, .inr (1, [.ref (Q 84), .int (e0), .ref (Q 85), .ref (Q 86), .ref (Q 87)])) :: (ri, .inr (4, [.ref ra, .ref rb, .int (fd), .ref lv, .ref ce, .ref en, .ref re, .ref cx, .int (hfl), .ref px, .ref (P 11), .ref fx, .ref lo, .ref hi])) :: (lv, .inl (G 0, 8, .inl gl)) :: (ce, .inl (G 1, 8, .inr (.inl gc0))) :: ((fp G Q P PA T ++ X) ++ pl st) : va_W) 2 [(3, .int (iZ ((i : Int)))), (0, .ref ri), (1, .int (iZ ((ct : Int)))), (2, .int (iZ ((ex : Int))))] [] := by
    intro d
    induction d with
    | zero =>
      intro i gl hd hi9 hfi
      exact absurd hd (by omega)
    | succ d ih =>
      intro i gl hd hi9 hfi
      refine w_iload_n C dX4_separate_2 0 rfl ?_
      refine w_iload_n C dX4_separate_3 2 rfl ?_
      refine w_icmp_ge C 20 dX4_separate_4 (by decide) ⟨⟨by omega, by omega⟩, by omega, by omega⟩ (fun c4 => ?_) (fun c4 => ?_)
      · refine w_iload_n C dX4_separate_20 3 rfl ?_
        refine w_istore_n C [(3, .int (iZ ((ex : Int)))), (0, .ref ri), (1, .int (iZ ((ct : Int)))), (2, .int (iZ ((ex : Int))))] dX4_separate_21 rfl (by decide) rfl ?_
        exact l22 (31 + 1) ex gl gc0 e0 Z st nn 0 0 (by omega) (by omega) (fun j hj => Or.inr ⟨⟨by rw [hfi j (by omega)]; rfl, fun t g1 g2 => absurd g1 (by omega)⟩, fun _ => hg0 j hj⟩) (Or.inl rfl) (fun _ _ => rfl) hZ hG
      · refine w_aload_n C dX4_separate_7 1 rfl ?_
        refine w_get (ci := 4) (ref := "RootIsolator") (T := TX4) (Cn := RX4) (N := 14) C (fun w h => wC_in (inX4 w h)) 3 rfl rfl 3 (by decide) (wC_in fX4_20) rfl rfl dX4_separate_8 ?_
        refine w_iload_n C dX4_separate_11 0 rfl ?_
        refine w_iconst C dX4_separate_12 ?_
        refine w_iast C ((cx, .inr (0, [.ref rx, .int (iZ ((us : Int))), .ref (P 10), .ref (Q 77), .ref (Q 78), .ref (Q 79), .ref (Q 80), .ref (Q 81), .ref (Q 82), .ref (Q 83)])) :: (rx, .inl (G 5, 10, .inr (.inr (.inr (.inr (fun i => some (P i))))))) :: (px, .inr (1, [.ref (Q 84), .int (e0), .ref (Q 85), .ref (Q 86), .ref (Q 87)])) :: (ri, .inr (4, [.ref ra, .ref rb, .int (fd), .ref lv, .ref ce, .ref en, .ref re, .ref cx, .int (hfl), .ref px, .ref (P 11), .ref fx, .ref lo, .ref hi])) :: (lv, .inl (G 0, 8, .inl (upd gl (i) (iZ ((-1)))))) :: (ce, .inl (G 1, 8, .inr (.inl gc0))) :: ((fp G Q P PA T ++ X) ++ pl st) : va_W) 4 0 rfl rfl (i) ⟨by omega, by omega, by omega⟩ rfl dX4_separate_13 ?_
        refine w_iinc C (((i + 1 : Nat) : Int)) (by omega) [(3, .int (iZ (((i + 1 : Nat) : Int)))), (0, .ref ri), (1, .int (iZ ((ct : Int)))), (2, .int (iZ ((ex : Int))))] dX4_separate_14 0 rfl (by decide) rfl ?_
        refine w_goto C 2 dX4_separate_17 (by decide) ?_
        refine ih (i + 1) _ (by omega) (by omega) (fun j hj => ?_)
        by_cases q : j = i
        · rw [q, upd_eq]
        · rw [upd_ne q]; exact hfi j (by omega)
  refine w_iconst C dX4_separate_0 ?_
  refine w_istore_n C [(3, .int (iZ (0))), (0, .ref ri), (1, .int (iZ ((ct : Int)))), (2, .int (iZ ((ex : Int))))] dX4_separate_1 rfl (by decide) rfl ?_
  exact l2 (ct + 1) 0 gl0 (by omega) (by omega) (fun j hj => absurd hj (by omega))
