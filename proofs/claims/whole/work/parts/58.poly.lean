theorem pG_trans {P0 P1 c0 s0 c1 s1 : Nat} {nn nn1 : Nat → Nat} (h : pG P0 P1 nn c0 s0) (h1 : pG (pC nn) (pS nn) nn1 c1 s1) : pG P0 P1 nn1 (c0 + c1) (s0 + s1) := by
  obtain ⟨a1, a2⟩ := h
  obtain ⟨b1, b2⟩ := h1
  exact ⟨by omega, by omega⟩
/-- a stretch of the pool set -/
def sP (Z : Nat → Int) (bs n : Nat) (c : Nat → Int) : Nat → Int := fun q => if bs ≤ q ∧ q < bs + n then c (q - bs) else Z q
theorem sP_0 (Z : Nat → Int) (bs : Nat) (c : Nat → Int) : sP Z bs 0 c = Z := by
  funext q
  unfold sP
  rw [if_neg (by omega)]
theorem sP_step (Z : Nat → Int) (bs n : Nat) (c : Nat → Int) {v : Int} (h : v = c n) : qu (sP Z bs n c) (bs + n) v = sP Z bs (n + 1) c := by
  funext q
  unfold sP
  by_cases h1 : q = bs + n
  · rw [h1, qu_same, if_pos (by omega), h]
    congr 1; omega
  · rw [qu_other _ _ h1]
    by_cases h2 : bs ≤ q ∧ q < bs + n
    · rw [if_pos h2, if_pos (by omega)]
    · rw [if_neg h2, if_neg (by omega)]
theorem sP_in (Z : Nat → Int) {bs n i : Nat} (c : Nat → Int) (h : i < n) : sP Z bs n c (bs + i) = c i := by
  unfold sP
  rw [if_pos (by omega)]
  congr 1; omega
theorem sP_out (Z : Nat → Int) {bs n q : Nat} (c : Nat → Int) (h : q < bs ∨ bs + n ≤ q) : sP Z bs n c q = Z q := by
  unfold sP
  rw [if_neg (by omega)]
theorem sP_sP (Z : Nat → Int) (bs n : Nat) (c c' : Nat → Int) : sP (sP Z bs n c) bs n c' = sP Z bs n c' := by
  funext q
  unfold sP
  by_cases h : bs ≤ q ∧ q < bs + n
  · rw [if_pos h, if_pos h]
  · rw [if_neg h, if_neg h, if_neg h]
theorem sP_congr (Z : Nat → Int) (bs n : Nat) {c c' : Nat → Int} (h : ∀ i : Nat, i < n → c i = c' i) : sP Z bs n c = sP Z bs n c' := by
  funext q
  unfold sP
  by_cases h1 : bs ≤ q ∧ q < bs + n
  · rw [if_pos h1, if_pos h1, h _ (by omega)]
  · rw [if_neg h1, if_neg h1]
/-- the degree is N - 1 -/
def tpN (c : Nat → Int) (n N : Nat) : Prop := N ≤ n ∧ (∀ i : Nat, N ≤ i → i < n → c i = 0) ∧ ∀ i : Nat, N = i + 1 → c i ≠ 0
theorem if_lt_same {g : Int} {i k j : Nat} (h : j < i ↔ j < k) : (if j < i then g else 0) = (if j < k then g else 0) := by
  by_cases q : j < i
  · rw [if_pos q, if_pos (h.1 q)]
  · rw [if_neg q, if_neg (fun h2 => q (h.2 h2))]
theorem sP_put (Z : Nat → Int) {bs n i : Nat} {c c' : Nat → Int} {v : Int} (hi : i < n) (hv : v = c' i) (h : ∀ j : Nat, j < n → j ≠ i → c' j = c j) : qu (sP Z bs n c) (bs + i) v = sP Z bs n c' := by
  funext q
  unfold sP
  by_cases h1 : q = bs + i
  · rw [h1, qu_same, if_pos (by omega), hv]
    congr 1; omega
  · rw [qu_other _ _ h1]
    by_cases h2 : bs ≤ q ∧ q < bs + n
    · rw [if_pos h2, if_pos h2, h _ (by omega) (by omega)]
    · rw [if_neg h2, if_neg h2]
theorem sP_qu (Z : Nat → Int) {bs n fi : Nat} (c : Nat → Int) (a b : Int) (h : fi < bs ∨ bs + n ≤ fi) : qu (sP (qu Z fi a) bs n c) fi b = sP (qu Z fi b) bs n c := by
  funext q
  unfold sP
  by_cases h1 : q = fi
  · rw [h1, qu_same, if_neg (by omega), qu_same]
  · rw [qu_other _ _ h1, qu_other _ _ h1, qu_other _ _ h1]
theorem tpN_uniq {c : Nat → Int} {n N N' : Nat} (h : tpN c n N) (h' : tpN c n N') : N = N' := by
  obtain ⟨a1, a2, a3⟩ := h
  obtain ⟨b1, b2, b3⟩ := h'
  rcases Nat.lt_or_ge N N' with q | q
  · exact absurd (a2 (N' - 1) (by omega) (by omega)) (b3 (N' - 1) (by omega))
  · rcases Nat.lt_or_ge N' N with q2 | q2
    · exact absurd (b2 (N - 1) (by omega) (by omega)) (a3 (N - 1) (by omega))
    · omega
theorem tpN_ext {c c' : Nat → Int} {n N : Nat} (h : tpN c n N) (he : ∀ j : Nat, j < n → c j = c' j) : tpN c' n N := ⟨h.1, fun i h1 h2 => by rw [← he i h2]; exact h.2.1 i h1 h2, fun i hi => by rw [← he i (by have := h.1; omega)]; exact h.2.2 i hi⟩
set_option maxHeartbeats 4000000 in
set_option maxRecDepth 100000 in
/-- clear -/
theorem cp_clear (l : Launch) (D : va_G) (G : Nat → ClassId) (X : va_W) (Q : Nat → Nat) (st : Nat → va_W) (nn : Nat → Nat) (Z : Nat → Int) (pa pp n bs : Nat) (t0 : Int32) (hZ : pAll G Q st nn Z) (hn : 1 ≤ n ∧ n ≤ 16) (hb : bs + n ≤ 97) (sz hs : Nat) : Met l yX2_clear (wC yX2_clear cX2_clear 2 none) ({ frames := 1, cells := 1078, slots := 401408, locals := 25 }) (va_Pc [.ref pa] (cPre nW D G ((pa, .inr (2, [.ref pp, .int (t0)])) :: (pp, .inl (G 4, n, .inr (.inr (.inr (.inr (fun i => some (Q (bs + i)))))))) :: (X ++ pl st) : va_W) sz hs)) (va_Qv (fun (u : cS) => ∃ (st1 : Nat → va_W) (nn1 : Nat → Nat) (c1 s1 : Nat), pAll G Q st1 nn1 (sP Z bs n (fun _ => 0)) ∧ pG (pC nn) (pS nn) nn1 c1 s1 ∧ u = (((pa, .inr (2, [.ref pp, .int (iZ (-1))])) :: (pp, .inl (G 4, n, .inr (.inr (.inr (.inr (fun i => some (Q (bs + i)))))))) :: (X ++ pl st1) : va_W), c1, s1)) (cAt D G (va_A ((pa, .inr (2, [.ref pp, .int (t0)])) :: (pp, .inl (G 4, n, .inr (.inr (.inr (.inr (fun i => some (Q (bs + i)))))))) :: (X ++ pl st) : va_W) sz) sz hs) (va_A ((pa, .inr (2, [.ref pp, .int (t0)])) :: (pp, .inl (G 4, n, .inr (.inr (.inr (.inr (fun i => some (Q (bs + i)))))))) :: (X ++ pl st) : va_W) sz)) 1078 401408 (va_A ((pa, .inr (2, [.ref pp, .int (t0)])) :: (pp, .inl (G 4, n, .inr (.inr (.inr (.inr (fun i => some (Q (bs + i)))))))) :: (X ++ pl st) : va_W) sz) := by
  refine g_met (cc := cX2_clear) (maxL := 2) (ret := none) (own := RX2) (by decide) rfl rfl (Nat.le_of_ble_eq_true rfl) ?_
  intro p e s m below meth c hsz hhs hNs hA C hr hlk
  refine w_sub [(0, .ref pa)] [0] rfl ?_
  have hG : pG (pC nn) (pS nn) nn 0 0 := ⟨Nat.le_of_eq (Nat.zero_add _), Nat.le_of_eq (Nat.zero_add _)⟩
  have lp : ∀ (d : Nat) (i : Nat) (sti : Nat → va_W) (nni : Nat → Nat) (ci : Nat) (si : Nat), n < i + d → i ≤ n → pAll G Q sti nni (sP Z bs i (fun _ => 0)) → pG (pC nn) (pS nn) nni ci si → ZW p l e ({ frames := 1, cells := 1078, slots := 401408, locals := 25 }) s m ([.ref pa] : List Value).toArray below meth c D (va_A ((pa, .inr (2, [.ref pp, .int (t0)])) :: (pp, .inl (G 4, n, .inr (.inr (.inr (.inr (fun i => some (Q (bs + i)))))))) :: (X ++ pl st) : va_W) sz) 2 ci si (MQ below (va_Qv (fun (u : cS) => ∃ (st1 : Nat → va_W) (nn1 : Nat → Nat) (c1 s1 : Nat), pAll G Q st1 nn1 (sP Z bs n (fun _ => 0)) ∧ pG (pC nn) (pS nn) nn1 c1 s1 ∧ u = (((pa, .inr (2, [.ref pp, .int (iZ (-1))])) :: (pp, .inl (G 4, n, .inr (.inr (.inr (.inr (fun i => some (Q (bs + i)))))))) :: (X ++ pl st1) : va_W), c1, s1)) (cAt D G (va_A ((pa, .inr (2, [.ref pp, .int (t0)])) :: (pp, .inl (G 4, n, .inr (.inr (.inr (.inr (fun i => some (Q (bs + i)))))))) :: (X ++ pl st) : va_W) sz) sz hs) (va_A ((pa, .inr (2, [.ref pp, .int (t0)])) :: (pp, .inl (G 4, n, .inr (.inr (.inr (.inr (fun i => some (Q (bs + i)))))))) :: (X ++ pl st) : va_W) sz)) ([.ref pa] : List Value).toArray s 1078 401408 (va_A ((pa, .inr (2, [.ref pp, .int (t0)])) :: (pp, .inl (G 4, n, .inr (.inr (.inr (.inr (fun i => some (Q (bs + i)))))))) :: (X ++ pl st) : va_W) sz)) ((pa, .inr (2, [.ref pp, .int (t0)])) :: (pp, .inl (G 4, n, .inr (.inr (.inr (.inr (fun i => some (Q (bs + i)))))))) :: (X ++ pl sti) : va_W) 2 [(1, .int (iZ ((i : Int)))), (0, .ref pa)] [] := by
    intro d
    induction d with
    | zero =>
      intro i sti nni ci si hd hi hZi hGi
      exact absurd hd (by omega)
    | succ d ih =>
      intro i sti nni ci si hd hi hZi hGi
      refine w_iload_n C dX2_clear_2 0 rfl ?_
      refine w_aload_n C dX2_clear_3 1 rfl ?_
      refine w_get (ci := 2) (ref := "RootIsolator$Poly") (T := TX2) (Cn := RX2) (N := 2) C (fun w h => wC_in (inX2 w h)) 0 rfl rfl 0 (by decide) (wC_in fX2_15) rfl rfl dX2_clear_4 ?_
      refine w_alen C 1 4 rfl rfl dX2_clear_7 ?_
      refine w_icmp_ge C 27 dX2_clear_8 (by decide) ⟨⟨by omega, by omega⟩, by omega, by omega⟩ (fun c8 => ?_) (fun c8 => ?_)
      · have hin : i = n := by omega
        rw [hin] at hZi
        refine w_aload_n C dX2_clear_27 1 rfl ?_
        refine w_iconst C dX2_clear_28 ?_
        refine w_put (ci := 2) (ref := "RootIsolator$Poly") (T := TX2) (Cn := RX2) (N := 2) (ty := .int) C ((pa, .inr (2, [.ref pp, .int (iZ ((-1)))])) :: (pp, .inl (G 4, n, .inr (.inr (.inr (.inr (fun i => some (Q (bs + i)))))))) :: (X ++ pl sti) : va_W) (fun w h => wC_in (inX2 w h)) tyX2 tyX2_ok nmX2 0 rfl rfl 1 (by decide) (wC_in fX2_7) rfl rfl (by decide +kernel) rfl rfl (Nat.le_of_ble_eq_true rfl) rfl dX2_clear_29 ?_
        have hle := pG_le hZi hGi
        exact g_vret hsz hhs C hr hlk ⟨by omega, by omega⟩ (⟨_, _, _, _, hZi, hGi, rfl⟩) dX2_clear_32
      · refine w_aload_n C dX2_clear_11 1 rfl ?_
        refine w_get (ci := 2) (ref := "RootIsolator$Poly") (T := TX2) (Cn := RX2) (N := 2) C (fun w h => wC_in (inX2 w h)) 0 rfl rfl 0 (by decide) (wC_in fX2_15) rfl rfl dX2_clear_12 ?_
        refine w_iload_n C dX2_clear_15 0 rfl ?_
        refine w_aald (n := n) (f := (fun i => some (Q (bs + i)))) C 1 4 rfl rfl rfl (i) ⟨by omega, by omega, by omega⟩ (rfl) dX2_clear_16 ?_
        refine w_lconst C 0 dX2_clear_17 rfl ?_
        refine p_put hA C ((pa, .inr (2, [.ref pp, .int (t0)])) :: (pp, .inl (G 4, n, .inr (.inr (.inr (.inr (fun i => some (Q (bs + i)))))))) :: X : va_W) hZi hGi (bs + i) (by omega) 0 (by omega) (cwV 1 C.1.2.2.2.2 (wC_V kX2_23 nX3_put slX3_put iniX3 cdX3_put) rfl rfl rfl (by decide +kernel) ⟨Nat.le_of_ble_eq_true rfl, Nat.le_of_ble_eq_true rfl⟩) ⟨Nat.le_of_ble_eq_true rfl, Nat.le_of_ble_eq_true rfl⟩ (Nat.le_of_ble_eq_true rfl) dX2_clear_18 (fun st1 nn1 c1 s1 hZ1 hG1 => ?_)
        rw [show (qu (sP Z bs i (fun _ => 0)) (bs + i) 0) = (sP Z bs (i + 1) (fun _ => 0)) from sP_step _ _ _ _ rfl] at hZ1
        refine w_iinc C (((i + 1 : Nat) : Int)) (by omega) [(1, .int (iZ (((i + 1 : Nat) : Int)))), (0, .ref pa)] dX2_clear_21 0 rfl (by decide) rfl ?_
        refine w_goto C 2 dX2_clear_24 (by decide) ?_
        exact ih (i + 1) _ _ _ _ (by omega) (by omega) hZ1 hG1
  refine w_iconst C dX2_clear_0 ?_
  refine w_istore_n C [(1, .int (iZ (0))), (0, .ref pa)] dX2_clear_1 rfl (by decide) rfl ?_
  exact lp (n + 1) 0 st nn 0 0 (by omega) (by omega) (by rw [sP_0]; exact hZ) hG
set_option maxHeartbeats 4000000 in
set_option maxRecDepth 100000 in
/-- findTop -/
theorem cp_findTop (l : Launch) (D : va_G) (G : Nat → ClassId) (X : va_W) (Q : Nat → Nat) (st : Nat → va_W) (nn : Nat → Nat) (Z : Nat → Int) (pa pp n bs : Nat) (t0 : Int32) (hZ : pAll G Q st nn Z) (hn : 1 ≤ n ∧ n ≤ 16) (hb : bs + n ≤ 97) (sz hs : Nat) : Met l yX2_findTop (wC yX2_findTop cX2_findTop 1 none) ({ frames := 0, cells := 0, slots := 0, locals := 0 }) (va_Pc [.ref pa] (cPre nW D G ((pa, .inr (2, [.ref pp, .int (t0)])) :: (pp, .inl (G 4, n, .inr (.inr (.inr (.inr (fun i => some (Q (bs + i)))))))) :: (X ++ pl st) : va_W) sz hs)) (va_Qv (fun (u : cS) => ∃ (st1 : Nat → va_W) (nn1 : Nat → Nat) (c1 s1 : Nat) (N : Nat), tpN (fun i => Z (bs + i)) n N ∧ pAll G Q st1 nn1 (Z) ∧ pG (pC nn) (pS nn) nn1 c1 s1 ∧ u = (((pa, .inr (2, [.ref pp, .int (iZ ((N : Int) - 1))])) :: (pp, .inl (G 4, n, .inr (.inr (.inr (.inr (fun i => some (Q (bs + i)))))))) :: (X ++ pl st1) : va_W), c1, s1)) (cAt D G (va_A ((pa, .inr (2, [.ref pp, .int (t0)])) :: (pp, .inl (G 4, n, .inr (.inr (.inr (.inr (fun i => some (Q (bs + i)))))))) :: (X ++ pl st) : va_W) sz) sz hs) (va_A ((pa, .inr (2, [.ref pp, .int (t0)])) :: (pp, .inl (G 4, n, .inr (.inr (.inr (.inr (fun i => some (Q (bs + i)))))))) :: (X ++ pl st) : va_W) sz)) 0 0 (va_A ((pa, .inr (2, [.ref pp, .int (t0)])) :: (pp, .inl (G 4, n, .inr (.inr (.inr (.inr (fun i => some (Q (bs + i)))))))) :: (X ++ pl st) : va_W) sz) := by
  refine g_met (cc := cX2_findTop) (maxL := 1) (ret := none) (own := RX2) (by decide) rfl rfl (Nat.le_of_ble_eq_true rfl) ?_
  intro p e s m below meth c hsz hhs hNs hA C hr hlk
  refine w_sub [(0, .ref pa)] [0] rfl ?_
  have hG : pG (pC nn) (pS nn) nn 0 0 := ⟨Nat.le_of_eq (Nat.zero_add _), Nat.le_of_eq (Nat.zero_add _)⟩
  have lp : ∀ (d : Nat) (i : Nat), i < d → i ≤ n → (∀ j : Nat, i ≤ j → j < n → Z (bs + j) = 0) → ZW p l e ({ frames := 0, cells := 0, slots := 0, locals := 0 }) s m ([.ref pa] : List Value).toArray below meth c D (va_A ((pa, .inr (2, [.ref pp, .int (t0)])) :: (pp, .inl (G 4, n, .inr (.inr (.inr (.inr (fun i => some (Q (bs + i)))))))) :: (X ++ pl st) : va_W) sz) 1 0 0 (MQ below (va_Qv (fun (u : cS) => ∃ (st1 : Nat → va_W) (nn1 : Nat → Nat) (c1 s1 : Nat) (N : Nat), tpN (fun i => Z (bs + i)) n N ∧ pAll G Q st1 nn1 (Z) ∧ pG (pC nn) (pS nn) nn1 c1 s1 ∧ u = (((pa, .inr (2, [.ref pp, .int (iZ ((N : Int) - 1))])) :: (pp, .inl (G 4, n, .inr (.inr (.inr (.inr (fun i => some (Q (bs + i)))))))) :: (X ++ pl st1) : va_W), c1, s1)) (cAt D G (va_A ((pa, .inr (2, [.ref pp, .int (t0)])) :: (pp, .inl (G 4, n, .inr (.inr (.inr (.inr (fun i => some (Q (bs + i)))))))) :: (X ++ pl st) : va_W) sz) sz hs) (va_A ((pa, .inr (2, [.ref pp, .int (t0)])) :: (pp, .inl (G 4, n, .inr (.inr (.inr (.inr (fun i => some (Q (bs + i)))))))) :: (X ++ pl st) : va_W) sz)) ([.ref pa] : List Value).toArray s 0 0 (va_A ((pa, .inr (2, [.ref pp, .int (t0)])) :: (pp, .inl (G 4, n, .inr (.inr (.inr (.inr (fun i => some (Q (bs + i)))))))) :: (X ++ pl st) : va_W) sz)) ((pa, .inr (2, [.ref pp, .int (iZ ((i : Int) - 1))])) :: (pp, .inl (G 4, n, .inr (.inr (.inr (.inr (fun i => some (Q (bs + i)))))))) :: (X ++ pl st) : va_W) 11 [(0, .ref pa)] [] := by
    intro d
    induction d with
    | zero =>
      intro i hd hi hz0
      exact absurd hd (by omega)
    | succ d ih =>
      intro i hd hi hz0
      refine w_aload_n C dX2_findTop_11 0 rfl ?_
      refine w_get (ci := 2) (ref := "RootIsolator$Poly") (T := TX2) (Cn := RX2) (N := 2) C (fun w h => wC_in (inX2 w h)) 0 rfl rfl 1 (by decide) (wC_in fX2_7) rfl rfl dX2_findTop_12 ?_
      refine w_if_lt C 46 dX2_findTop_15 (by decide) ⟨by omega, by omega⟩ (fun c15 => ?_) (fun c15 => ?_)
      · have hi0 : i = 0 := by omega
        have htp : tpN (fun i => Z (bs + i)) n i := ⟨hi, hz0, fun j hj => absurd hj (by omega)⟩
        have hle := pG_le hZ hG
        exact g_vret hsz hhs C hr hlk ⟨by omega, by omega⟩ (⟨_, _, _, _, i, htp, hZ, hG, rfl⟩) dX2_findTop_46
      · refine w_aload_n C dX2_findTop_18 0 rfl ?_
        refine w_get (ci := 2) (ref := "RootIsolator$Poly") (T := TX2) (Cn := RX2) (N := 2) C (fun w h => wC_in (inX2 w h)) 0 rfl rfl 0 (by decide) (wC_in fX2_15) rfl rfl dX2_findTop_19 ?_
        refine w_aload_n C dX2_findTop_22 0 rfl ?_
        refine w_get (ci := 2) (ref := "RootIsolator$Poly") (T := TX2) (Cn := RX2) (N := 2) C (fun w h => wC_in (inX2 w h)) 0 rfl rfl 1 (by decide) (wC_in fX2_7) rfl rfl dX2_findTop_23 ?_
        refine w_aald (n := n) (f := (fun i => some (Q (bs + i)))) C 1 4 rfl rfl rfl (i - 1) ⟨by omega, by omega, by omega⟩ (rfl) dX2_findTop_26 ?_
        refine p_side C ((pa, .inr (2, [.ref pp, .int (iZ ((i : Int) - 1))])) :: (pp, .inl (G 4, n, .inr (.inr (.inr (.inr (fun i => some (Q (bs + i)))))))) :: X : va_W) (fun w h => wC_in (inX3 w h)) hZ (bs + (i - 1)) (by omega) hNs.1 dX2_findTop_27 ?_
        refine w_if_ne C 46 dX2_findTop_30 (by decide) ⟨by have := sgn_r (Z (bs + (i - 1))); omega, by have := sgn_r (Z (bs + (i - 1))); omega⟩ (fun c30 => ?_) (fun c30 => ?_)
        · have htp : tpN (fun i => Z (bs + i)) n i := ⟨hi, hz0, fun j hj h0 => c30 (by rw [show i - 1 = j by omega]; exact (congrArg Int.sign h0))⟩
          have hle := pG_le hZ hG
          exact g_vret hsz hhs C hr hlk ⟨by omega, by omega⟩ (⟨_, _, _, _, i, htp, hZ, hG, rfl⟩) dX2_findTop_46
        · refine w_aload_n C dX2_findTop_33 0 rfl ?_
          refine w_dup C dX2_findTop_34 rfl ?_
          refine w_get (ci := 2) (ref := "RootIsolator$Poly") (T := TX2) (Cn := RX2) (N := 2) C (fun w h => wC_in (inX2 w h)) 0 rfl rfl 1 (by decide) (wC_in fX2_7) rfl rfl dX2_findTop_35 ?_
          refine w_iconst C dX2_findTop_38 ?_
          refine w_isub C dX2_findTop_39 ?_
          refine w_top C (((i - 1 : Nat) : Int) - 1) (by omega) ?_
          refine w_put (ci := 2) (ref := "RootIsolator$Poly") (T := TX2) (Cn := RX2) (N := 2) (ty := .int) C ((pa, .inr (2, [.ref pp, .int (iZ (((i - 1 : Nat) : Int) - 1))])) :: (pp, .inl (G 4, n, .inr (.inr (.inr (.inr (fun i => some (Q (bs + i)))))))) :: (X ++ pl st) : va_W) (fun w h => wC_in (inX2 w h)) tyX2 tyX2_ok nmX2 0 rfl rfl 1 (by decide) (wC_in fX2_7) rfl rfl (by decide +kernel) rfl rfl (Nat.le_of_ble_eq_true rfl) rfl dX2_findTop_40 ?_
          refine w_goto C 11 dX2_findTop_43 (by decide) ?_
          exact ih (i - 1) (by omega) (by omega) (fun j h1 h2 => by
            rcases Nat.lt_or_ge j i with q | q
            · have : j = i - 1 := by omega
              subst this; exact sgn_zero c30
            · exact hz0 j q h2)
  refine w_aload_n C dX2_findTop_0 0 rfl ?_
  refine w_aload_n C dX2_findTop_1 0 rfl ?_
  refine w_get (ci := 2) (ref := "RootIsolator$Poly") (T := TX2) (Cn := RX2) (N := 2) C (fun w h => wC_in (inX2 w h)) 0 rfl rfl 0 (by decide) (wC_in fX2_15) rfl rfl dX2_findTop_2 ?_
  refine w_alen C 1 4 rfl rfl dX2_findTop_5 ?_
  refine w_iconst C dX2_findTop_6 ?_
  refine w_isub C dX2_findTop_7 ?_
  refine w_top C (((n : Nat) : Int) - 1) (rfl) ?_
  refine w_put (ci := 2) (ref := "RootIsolator$Poly") (T := TX2) (Cn := RX2) (N := 2) (ty := .int) C ((pa, .inr (2, [.ref pp, .int (iZ (((n : Nat) : Int) - 1))])) :: (pp, .inl (G 4, n, .inr (.inr (.inr (.inr (fun i => some (Q (bs + i)))))))) :: (X ++ pl st) : va_W) (fun w h => wC_in (inX2 w h)) tyX2 tyX2_ok nmX2 0 rfl rfl 1 (by decide) (wC_in fX2_7) rfl rfl (by decide +kernel) rfl rfl (Nat.le_of_ble_eq_true rfl) rfl dX2_findTop_8 ?_
  exact lp (n + 1) n (by omega) (Nat.le_refl _) (fun j h1 h2 => absurd h1 (by omega))
set_option maxHeartbeats 4000000 in
set_option maxRecDepth 100000 in
/-- load -/
theorem cp_load (l : Launch) (D : va_G) (G : Nat → ClassId) (X : va_W) (Q : Nat → Nat) (st : Nat → va_W) (nn : Nat → Nat) (Z : Nat → Int) (pa pp n bs : Nat) (t0 : Int32) (ra : Nat) (g : Nat → Int32) (hZ : pAll G Q st nn Z) (hn : 1 ≤ n ∧ n ≤ 16) (hb : bs + n ≤ 97) (sz hs : Nat) : Met l yX2_load (wC yX2_load cX2_load 3 none) ({ frames := 2, cells := 2156, slots := 802816, locals := 46 }) (va_Pc [.ref pa, .ref ra] (cPre nW D G ((pa, .inr (2, [.ref pp, .int (t0)])) :: (pp, .inl (G 4, n, .inr (.inr (.inr (.inr (fun i => some (Q (bs + i)))))))) :: (ra, .inl (G 0, 9, .inl g)) :: (X ++ pl st) : va_W) sz hs)) (va_Qv (fun (u : cS) => ∃ (st1 : Nat → va_W) (nn1 : Nat → Nat) (c1 s1 : Nat) (N : Nat), tpN (fun j => if j < 9 then (g j).toInt else 0) n N ∧ pAll G Q st1 nn1 (sP Z bs n (fun j => if j < 9 then (g j).toInt else 0)) ∧ pG (pC nn) (pS nn) nn1 c1 s1 ∧ u = (((pa, .inr (2, [.ref pp, .int (iZ ((N : Int) - 1))])) :: (pp, .inl (G 4, n, .inr (.inr (.inr (.inr (fun i => some (Q (bs + i)))))))) :: (ra, .inl (G 0, 9, .inl g)) :: (X ++ pl st1) : va_W), c1, s1)) (cAt D G (va_A ((pa, .inr (2, [.ref pp, .int (t0)])) :: (pp, .inl (G 4, n, .inr (.inr (.inr (.inr (fun i => some (Q (bs + i)))))))) :: (ra, .inl (G 0, 9, .inl g)) :: (X ++ pl st) : va_W) sz) sz hs) (va_A ((pa, .inr (2, [.ref pp, .int (t0)])) :: (pp, .inl (G 4, n, .inr (.inr (.inr (.inr (fun i => some (Q (bs + i)))))))) :: (ra, .inl (G 0, 9, .inl g)) :: (X ++ pl st) : va_W) sz)) 2156 802816 (va_A ((pa, .inr (2, [.ref pp, .int (t0)])) :: (pp, .inl (G 4, n, .inr (.inr (.inr (.inr (fun i => some (Q (bs + i)))))))) :: (ra, .inl (G 0, 9, .inl g)) :: (X ++ pl st) : va_W) sz) := by
  refine g_met (cc := cX2_load) (maxL := 3) (ret := none) (own := RX2) (by decide) rfl rfl (Nat.le_of_ble_eq_true rfl) ?_
  intro p e s m below meth c hsz hhs hNs hA C hr hlk
  refine w_sub [(0, .ref pa), (1, .ref ra)] [0, 1] rfl ?_
  have hG : pG (pC nn) (pS nn) nn 0 0 := ⟨Nat.le_of_eq (Nat.zero_add _), Nat.le_of_eq (Nat.zero_add _)⟩
  have lp : ∀ (d : Nat) (i : Nat) (sti : Nat → va_W) (nni : Nat → Nat) (ci : Nat) (si : Nat), n < i + d → i ≤ n ∧ i ≤ 9 → pAll G Q sti nni (sP Z bs n (fun j => if j < i then (g j).toInt else 0)) → pG (pC nn) (pS nn) nni ci si → ZW p l e ({ frames := 2, cells := 2156, slots := 802816, locals := 46 }) s m ([.ref pa, .ref ra] : List Value).toArray below meth c D (va_A ((pa, .inr (2, [.ref pp, .int (t0)])) :: (pp, .inl (G 4, n, .inr (.inr (.inr (.inr (fun i => some (Q (bs + i)))))))) :: (ra, .inl (G 0, 9, .inl g)) :: (X ++ pl st) : va_W) sz) 3 ci si (MQ below (va_Qv (fun (u : cS) => ∃ (st1 : Nat → va_W) (nn1 : Nat → Nat) (c1 s1 : Nat) (N : Nat), tpN (fun j => if j < 9 then (g j).toInt else 0) n N ∧ pAll G Q st1 nn1 (sP Z bs n (fun j => if j < 9 then (g j).toInt else 0)) ∧ pG (pC nn) (pS nn) nn1 c1 s1 ∧ u = (((pa, .inr (2, [.ref pp, .int (iZ ((N : Int) - 1))])) :: (pp, .inl (G 4, n, .inr (.inr (.inr (.inr (fun i => some (Q (bs + i)))))))) :: (ra, .inl (G 0, 9, .inl g)) :: (X ++ pl st1) : va_W), c1, s1)) (cAt D G (va_A ((pa, .inr (2, [.ref pp, .int (t0)])) :: (pp, .inl (G 4, n, .inr (.inr (.inr (.inr (fun i => some (Q (bs + i)))))))) :: (ra, .inl (G 0, 9, .inl g)) :: (X ++ pl st) : va_W) sz) sz hs) (va_A ((pa, .inr (2, [.ref pp, .int (t0)])) :: (pp, .inl (G 4, n, .inr (.inr (.inr (.inr (fun i => some (Q (bs + i)))))))) :: (ra, .inl (G 0, 9, .inl g)) :: (X ++ pl st) : va_W) sz)) ([.ref pa, .ref ra] : List Value).toArray s 2156 802816 (va_A ((pa, .inr (2, [.ref pp, .int (t0)])) :: (pp, .inl (G 4, n, .inr (.inr (.inr (.inr (fun i => some (Q (bs + i)))))))) :: (ra, .inl (G 0, 9, .inl g)) :: (X ++ pl st) : va_W) sz)) ((pa, .inr (2, [.ref pp, .int (iZ (-1))])) :: (pp, .inl (G 4, n, .inr (.inr (.inr (.inr (fun i => some (Q (bs + i)))))))) :: (ra, .inl (G 0, 9, .inl g)) :: (X ++ pl sti) : va_W) 6 [(2, .int (iZ ((i : Int)))), (0, .ref pa), (1, .ref ra)] [] := by
    intro d
    induction d with
    | zero =>
      intro i sti nni ci si hd hi hZi hGi
      exact absurd hd (by omega)
    | succ d ih =>
      intro i sti nni ci si hd hi hZi hGi
      refine w_iload_n C dX2_load_6 0 rfl ?_
      refine w_aload_n C dX2_load_7 2 rfl ?_
      refine w_alen C 2 0 rfl rfl dX2_load_8 ?_
      refine w_icmp_ge C 40 dX2_load_9 (by decide) ⟨⟨by omega, by omega⟩, by omega, by omega⟩ (fun c9 => ?_) (fun c9 => ?_)
      · rw [show (sP Z bs n (fun j => if j < i then (g j).toInt else 0)) = sP Z bs n (fun j => if j < 9 then (g j).toInt else 0) from sP_congr _ _ _ (fun j hj => if_lt_same (by omega))] at hZi
        refine w_aload_n C dX2_load_40 1 rfl ?_
        have hle1 := pG_le hZi hGi
        refine g_callv (N := nW) [] hA C hNs nW_ok (cp_findTop l D G ((ra, .inl (G 0, 9, .inl g)) :: X : va_W) Q sti nni (sP Z bs n (fun j => if j < 9 then (g j).toInt else 0)) pa pp n bs (iZ (-1)) hZi hn hb) (cwV 0 C.1.2.2.2.2 (wC_V kX2_27 nX2_findTop slX2_findTop iniX2 cdX2_findTop) rfl rfl rfl (by decide +kernel) ⟨Nat.le_of_ble_eq_true rfl, Nat.le_of_ble_eq_true rfl⟩) (q0 := 0) rfl rfl rfl rfl ⟨by show ci + 0 ≤ 2156; omega, by show si + 0 ≤ 802816; omega⟩ (Nat.le_of_ble_eq_true rfl) dX2_load_41 [.ref pa] rfl (fun v1 hv1 => ?_)
        obtain ⟨st1, nn1, e1, f1, N1, htp1, hZ1, hH1, rfl⟩ := hv1
        have hG1 := pG_trans hGi hH1
        refine w_cs (ci + e1) (si + f1) rfl rfl ?_
        have hle := pG_le hZ1 hG1
        exact g_vret hsz hhs C hr hlk ⟨by omega, by omega⟩ (⟨_, _, _, _, N1, (tpN_ext htp1 (fun j hj => sP_in _ _ hj)), hZ1, hG1, rfl⟩) dX2_load_44
      · refine w_iload_n C dX2_load_12 0 rfl ?_
        refine w_aload_n C dX2_load_13 1 rfl ?_
        refine w_get (ci := 2) (ref := "RootIsolator$Poly") (T := TX2) (Cn := RX2) (N := 2) C (fun w h => wC_in (inX2 w h)) 0 rfl rfl 0 (by decide) (wC_in fX2_15) rfl rfl dX2_load_14 ?_
        refine w_alen C 1 4 rfl rfl dX2_load_17 ?_
        refine w_icmp_ge C 40 dX2_load_18 (by decide) ⟨⟨by omega, by omega⟩, by omega, by omega⟩ (fun c18 => ?_) (fun c18 => ?_)
        · rw [show (sP Z bs n (fun j => if j < i then (g j).toInt else 0)) = sP Z bs n (fun j => if j < 9 then (g j).toInt else 0) from sP_congr _ _ _ (fun j hj => if_lt_same (by omega))] at hZi
          refine w_aload_n C dX2_load_40 1 rfl ?_
          have hle2 := pG_le hZi hGi
          refine g_callv (N := nW) [] hA C hNs nW_ok (cp_findTop l D G ((ra, .inl (G 0, 9, .inl g)) :: X : va_W) Q sti nni (sP Z bs n (fun j => if j < 9 then (g j).toInt else 0)) pa pp n bs (iZ (-1)) hZi hn hb) (cwV 0 C.1.2.2.2.2 (wC_V kX2_27 nX2_findTop slX2_findTop iniX2 cdX2_findTop) rfl rfl rfl (by decide +kernel) ⟨Nat.le_of_ble_eq_true rfl, Nat.le_of_ble_eq_true rfl⟩) (q0 := 0) rfl rfl rfl rfl ⟨by show ci + 0 ≤ 2156; omega, by show si + 0 ≤ 802816; omega⟩ (Nat.le_of_ble_eq_true rfl) dX2_load_41 [.ref pa] rfl (fun v2 hv2 => ?_)
          obtain ⟨st2, nn2, e2, f2, N2, htp2, hZ2, hH2, rfl⟩ := hv2
          have hG2 := pG_trans hGi hH2
          refine w_cs (ci + e2) (si + f2) rfl rfl ?_
          have hle := pG_le hZ2 hG2
          exact g_vret hsz hhs C hr hlk ⟨by omega, by omega⟩ (⟨_, _, _, _, N2, (tpN_ext htp2 (fun j hj => sP_in _ _ hj)), hZ2, hG2, rfl⟩) dX2_load_44
        · refine w_aload_n C dX2_load_21 1 rfl ?_
          refine w_get (ci := 2) (ref := "RootIsolator$Poly") (T := TX2) (Cn := RX2) (N := 2) C (fun w h => wC_in (inX2 w h)) 0 rfl rfl 0 (by decide) (wC_in fX2_15) rfl rfl dX2_load_22 ?_
          refine w_iload_n C dX2_load_25 0 rfl ?_
          refine w_aald (n := n) (f := (fun i => some (Q (bs + i)))) C 1 4 rfl rfl rfl (i) ⟨by omega, by omega, by omega⟩ (rfl) dX2_load_26 ?_
          refine w_aload_n C dX2_load_27 2 rfl ?_
          refine w_iload_n C dX2_load_28 0 rfl ?_
          refine w_iald C 2 0 rfl rfl (i) ((g (i)).toInt) ⟨by omega, by omega, by omega⟩ ((iZ_self _).symm) dX2_load_29 ?_
          refine w_i2l C dX2_load_30 (i32r _) ?_
          refine p_put hA C ((pa, .inr (2, [.ref pp, .int (iZ (-1))])) :: (pp, .inl (G 4, n, .inr (.inr (.inr (.inr (fun i => some (Q (bs + i)))))))) :: (ra, .inl (G 0, 9, .inl g)) :: X : va_W) hZi hGi (bs + i) (by omega) (g i).toInt (by have := i32r (g i); omega) (cwV 1 C.1.2.2.2.2 (wC_V kX2_23 nX3_put slX3_put iniX3 cdX3_put) rfl rfl rfl (by decide +kernel) ⟨Nat.le_of_ble_eq_true rfl, Nat.le_of_ble_eq_true rfl⟩) ⟨Nat.le_of_ble_eq_true rfl, Nat.le_of_ble_eq_true rfl⟩ (Nat.le_of_ble_eq_true rfl) dX2_load_31 (fun st3 nn3 c3 s3 hZ3 hG3 => ?_)
          rw [show (qu (sP Z bs n (fun j => if j < i then (g j).toInt else 0)) (bs + i) (g i).toInt) = (sP Z bs n (fun j => if j < i + 1 then (g j).toInt else 0)) from sP_put Z (by omega) (by rw [if_pos (by omega)]) (fun j h1 h2 => if_lt_same (by omega))] at hZ3
          refine w_iinc C (((i + 1 : Nat) : Int)) (by omega) [(2, .int (iZ (((i + 1 : Nat) : Int)))), (0, .ref pa), (1, .ref ra)] dX2_load_34 0 rfl (by decide) rfl ?_
          refine w_goto C 6 dX2_load_37 (by decide) ?_
          exact ih (i + 1) _ _ _ _ (by omega) (by omega) hZ3 hG3
  refine w_aload_n C dX2_load_0 0 rfl ?_
  have hle4 := pG_le hZ hG
  refine g_callv (N := nW) [] hA C hNs nW_ok (cp_clear l D G ((ra, .inl (G 0, 9, .inl g)) :: X : va_W) Q st nn Z pa pp n bs t0 hZ hn hb) (cwV 0 C.1.2.2.2.2 (wC_V kX2_20 nX2_clear slX2_clear iniX2 cdX2_clear) rfl rfl rfl (by decide +kernel) ⟨Nat.le_of_ble_eq_true rfl, Nat.le_of_ble_eq_true rfl⟩) (q0 := 0) rfl rfl rfl rfl ⟨by show 0 + 1078 ≤ 2156; omega, by show 0 + 401408 ≤ 802816; omega⟩ (Nat.le_of_ble_eq_true rfl) dX2_load_1 [.ref pa] rfl (fun v4 hv4 => ?_)
  obtain ⟨st4, nn4, e4, f4, hZ4, hH4, rfl⟩ := hv4
  have hG4 := pG_trans hG hH4
  refine w_cs (0 + e4) (0 + f4) rfl rfl ?_
  refine w_iconst C dX2_load_4 ?_
  refine w_istore_n C [(2, .int (iZ (0))), (0, .ref pa), (1, .ref ra)] dX2_load_5 rfl (by decide) rfl ?_
  exact lp (n + 1) 0 st4 nn4 (0 + e4) (0 + f4) (by omega) (by omega) (by rw [sP_congr (c := fun j => if j < 0 then (g j).toInt else 0) (c' := fun _ => 0) _ _ _ (fun j hj => if_neg (by omega))]; exact hZ4) hG4
