/-- one row set -/
def qu {α : Type} (P : Nat → α) (i : Nat) (x : α) : Nat → α := fun j => if j = i then x else P j

theorem qu_same {α : Type} (P : Nat → α) (i : Nat) (x : α) : qu P i x i = x := if_pos rfl
theorem qu_other {α : Type} (P : Nat → α) {i j : Nat} (x : α) (h : j ≠ i) : qu P i x j = P j := if_neg h

section POOL
variable {p : Program} {l : Launch} {e : Env} {R : Room} {s : State} {m : MethodId} {args : Array Value} {below : List Frame} {meth : Method} {c : Code} {D : va_G} {A : Nat → Prop} {nL cells slots : Nat} {Qp : State → Prop}
variable {cc : ByteArray} {Ts : List Cond} {own : String} {ws : va_W} {pc : Nat} {lv : List (Nat × Value)} {rest : List Value} {G : Nat → ClassId} {tys : List (ClassId × FieldType)}
/-- the words of nest mates -/
def nW (U : State) : Prop := va_Nw (.fieldLinkNest RX2 37 RX3 "side" "I" RX4) U ∧ va_Nw (.fieldLinkNest RX0 123 RX3 "side" "I" RX4) U ∧ va_Nw (.fieldLinkNest RX4 178 RX3 "side" "I" RX4) U ∧ va_Nw (.fieldLinkNest RX1 42 RX2 "parts" "[LRootIsolator$Whole;" RX4) U ∧ va_Nw (.fieldLinkNest RX0 82 RX2 "parts" "[LRootIsolator$Whole;" RX4) U ∧ va_Nw (.fieldLinkNest RX1 33 RX2 "top" "I" RX4) U ∧ va_Nw (.fieldLinkNest RX0 57 RX2 "top" "I" RX4) U ∧ va_Nw (.methodLinkNest RX2 19 ⟨RX3, "<init>", "()V"⟩ RX4) U ∧ va_Nw (.methodLinkNest RX0 30 ⟨RX3, "<init>", "()V"⟩ RX4) U ∧ va_Nw (.methodLinkNest RX4 45 ⟨RX1, "<init>", "()V"⟩ RX4) U ∧ va_Nw (.methodLinkNest RX1 9 ⟨RX3, "<init>", "()V"⟩ RX4) U ∧ va_Nw (.methodLinkNest RX0 71 yX4_topPower RX4) U
theorem nW_ok : NOK nW := fun s U hW h => ⟨va_Nw.warmF hW h.1, va_Nw.warmF hW h.2.1, va_Nw.warmF hW h.2.2.1, va_Nw.warmF hW h.2.2.2.1, va_Nw.warmF hW h.2.2.2.2.1, va_Nw.warmF hW h.2.2.2.2.2.1, va_Nw.warmF hW h.2.2.2.2.2.2.1, va_Nw.warmM hW h.2.2.2.2.2.2.2.1, va_Nw.warmM hW h.2.2.2.2.2.2.2.2.1, va_Nw.warmM hW h.2.2.2.2.2.2.2.2.2.1, va_Nw.warmM hW h.2.2.2.2.2.2.2.2.2.2.1, va_Nw.warmM hW h.2.2.2.2.2.2.2.2.2.2.2⟩
theorem w_getN (C : ZC p s m args c cc nL Ts own D tys) {ref Cn host : String} {T : u_T} {N ci index ad : Nat} (hin : ∀ w ∈ u_ws Cn T N, w ∈ Ts) (q0 : Nat) {fs : List Value} (he : ws[q0]? = some (ad, .inr (ci, fs))) (hc : vwCl[ci]? = some (Cn, T, N)) (k : Nat) (hk : k < N) (hlink : va_Nw (.fieldLinkNest own index ref (T k).2.1 (T k).2.2.1 host) s) (hsame : (T k).1 = ref) {v : Value} (hv : fs[k]? = some v) (hdg : decode cc pc = .ok (.getfield index, 3)) (kk : ZW p l e R s m args below meth c D A nL cells slots Qp ws (pc + 3) lv (v :: rest)) : ZW p l e R s m args below meth c D A nL cells slots Qp ws pc lv (.ref ad :: rest) := fun H locs ls hP hD hS hl => va_getN C.1.1 C.1.2.1 C.1.2.2.2.2 hin C.1.2.2.2.1 C.2 hP q0 he hc k hk (va_Nw.use rfl hlink) (fun _ h9 => hsame ▸ h9) hv hdg (kk H locs ls hP hD hS hl)
/-- a number of the pool: the object and its row -/
def w2 (G : Nat → ClassId) (a b n k : Nat) (z : Int) (f : Nat → Int32) : va_W := [(a, .inr (3, [.ref b, .int (iZ (k : Int)), .int (iZ z.sign)])), (b, .inl (G 0, n, .inl f))]
/-- all 97 numbers have their values -/
def pAll (G : Nat → ClassId) (Q : Nat → Nat) (st : Nat → va_W) (nn : Nat → Nat) (Z : Nat → Int) : Prop := ∀ w : Nat, w < 97 → ∃ (b k : Nat) (f : Nat → Int32), st w = w2 G (Q w) b (nn w) k (Z w) f ∧ wN (nn w) f k (Z w) ∧ 4 ≤ nn w ∧ nn w ≤ 2048
def pl (st : Nat → va_W) : va_W := (List.range 97).flatMap st
/-- all but one, all but two -/
def pR (w : Nat) (st : Nat → va_W) : va_W := ((List.range 97).erase w).flatMap st
def pR2 (w v : Nat) (st : Nat → va_W) : va_W := (((List.range 97).erase w).erase v).flatMap st
theorem pl_1 {w : Nat} (hw : w < 97) (st : Nat → va_W) (Y : va_W) : (Y ++ pl st).Perm (st w ++ (pR w st ++ Y)) := by
  have h1 : (pl st).Perm (st w ++ pR w st) := (List.perm_cons_erase (List.mem_range.2 hw)).flatMap_right st
  exact ((List.perm_append_comm).trans (List.Perm.append_right Y h1)).trans (by rw [List.append_assoc])
theorem pl_2 {w v : Nat} (hw : w < 97) (hv : v < 97) (hn : v ≠ w) (st : Nat → va_W) (Y : va_W) : (Y ++ pl st).Perm (st w ++ (st v ++ (pR2 w v st ++ Y))) := by
  refine (pl_1 hw st Y).trans (List.Perm.append_left (st w) ?_)
  have hm : v ∈ (List.range 97).erase w := ((List.nodup_range).mem_erase_iff).2 ⟨hn, List.mem_range.2 hv⟩
  have h1 : (pR w st).Perm (st v ++ pR2 w v st) := (List.perm_cons_erase hm).flatMap_right st
  exact (List.Perm.append_right Y h1).trans (by rw [List.append_assoc])
theorem flat_same {L : List Nat} {st st' : Nat → va_W} (h : ∀ i ∈ L, st i = st' i) : L.flatMap st = L.flatMap st' := by
  induction L with
  | nil => rfl
  | cons a L ih =>
    rw [List.flatMap_cons, List.flatMap_cons, h a List.mem_cons_self, ih (fun i hi => h i (List.mem_cons_of_mem a hi))]
theorem pR_set (w : Nat) (st : Nat → va_W) (x : va_W) : pR w st = pR w (qu st w x) := flat_same (fun i hi => by
  have h := ((List.nodup_range).mem_erase_iff.1 hi).1
  exact (qu_other st x h).symm)
theorem pR2_set (w v : Nat) (st : Nat → va_W) (x : va_W) : pR2 w v st = pR2 w v (qu st w x) := flat_same (fun i hi => by
  have h := ((List.nodup_range).erase w).mem_erase_iff.1 hi
  have h2 := ((List.nodup_range).mem_erase_iff.1 h.2).1
  exact (qu_other st x h2).symm)
theorem pl_1' {w : Nat} (hw : w < 97) (st : Nat → va_W) (x Y : va_W) : (x ++ (pR w st ++ Y)).Perm (Y ++ pl (qu st w x)) := by
  have h := pl_1 hw (qu st w x) Y
  rw [qu_same, ← pR_set] at h
  exact h.symm
theorem pl_2' {w v : Nat} (hw : w < 97) (hv : v < 97) (hn : v ≠ w) (st : Nat → va_W) (x Y : va_W) : (x ++ (st v ++ (pR2 w v st ++ Y))).Perm (Y ++ pl (qu st w x)) := by
  have h := pl_2 hw hv hn (qu st w x) Y
  rw [qu_same, qu_other _ _ hn, ← pR2_set] at h
  exact h.symm
def nS : Nat → (Nat → Nat) → Nat
  | 0, _ => 0
  | k + 1, F => nS k F + F k
theorem nS_le {k B : Nat} {F : Nat → Nat} (h : ∀ i : Nat, i < k → F i ≤ B) : nS k F ≤ k * B := by
  induction k with
  | zero => exact Nat.zero_le _
  | succ k ih =>
    have h1 := ih (fun i hi => h i (by omega))
    have h2 := h k (by omega)
    rw [Nat.succ_mul]
    show nS k F + F k ≤ _
    omega
theorem nS_congr {k : Nat} {F H : Nat → Nat} (h : ∀ i : Nat, i < k → F i = H i) : nS k F = nS k H := by
  induction k with
  | zero => rfl
  | succ k ih =>
    show nS k F + F k = nS k H + H k
    rw [ih (fun i hi => h i (by omega)), h k (by omega)]
theorem nS_set {k w n1 : Nat} (F : Nat → Nat) (nn : Nat → Nat) (hw : w < k) : nS k (fun i => F (qu nn w n1 i)) + F (nn w) = nS k (fun i => F (nn i)) + F n1 := by
  induction k with
  | zero => exact absurd hw (by omega)
  | succ k ih =>
    show nS k (fun i => F (qu nn w n1 i)) + F (qu nn w n1 k) + F (nn w) = nS k (fun i => F (nn i)) + F (nn k) + F n1
    by_cases h : w = k
    · subst h
      rw [qu_same, nS_congr (fun i hi => by rw [qu_other nn n1 (show i ≠ w by omega)])]; omega
    · have h1 := ih (by omega)
      rw [qu_other nn n1 (show k ≠ w by omega)]; omega
/-- what the rows may have cost so far -/
def pC (nn : Nat → Nat) : Nat := nS 97 (fun i => gc (nn i))
def pS (nn : Nat → Nat) : Nat := nS 97 (fun i => 2 * nn i)
def pG (P0 P1 : Nat) (nn : Nat → Nat) (c s : Nat) : Prop := c + P0 ≤ pC nn ∧ s + P1 ≤ pS nn
theorem pAll_le {Q : Nat → Nat} {st : Nat → va_W} {nn : Nat → Nat} {Z : Nat → Int} (h : pAll G Q st nn Z) : pC nn ≤ 1067 ∧ pS nn ≤ 397312 := by
  refine ⟨nS_le (k := 97) (B := 11) (fun i hi => ?_), nS_le (k := 97) (B := 4096) (fun i hi => ?_)⟩
  · obtain ⟨_, _, _, _, _, _, h8⟩ := h i hi
    exact gc_le h8
  · obtain ⟨_, _, _, _, _, _, h8⟩ := h i hi
    omega
theorem pG_le {P0 P1 c0 s0 : Nat} {Q : Nat → Nat} {st : Nat → va_W} {nn : Nat → Nat} {Z : Nat → Int} (h : pAll G Q st nn Z) (hg : pG P0 P1 nn c0 s0) : c0 ≤ 1067 ∧ s0 ≤ 397312 := by
  have h1 := pAll_le h
  obtain ⟨h2, h3⟩ := hg
  omega
theorem pG_set {P0 P1 c0 s0 w n1 dc ds : Nat} {nn : Nat → Nat} (hw : w < 97) (hg : pG P0 P1 nn c0 s0) (h1 : dc + gc (nn w) ≤ gc n1) (h2 : ds + 2 * nn w ≤ 2 * n1) : pG P0 P1 (qu nn w n1) (c0 + dc) (s0 + ds) := by
  obtain ⟨a1, a2⟩ := hg
  have e1 := nS_set (n1 := n1) gc nn hw
  have e2 := nS_set (n1 := n1) (fun n => 2 * n) nn hw
  unfold pC at a1
  unfold pS at a2
  refine ⟨?_, ?_⟩
  · show c0 + dc + P0 ≤ nS 97 (fun i => gc (qu nn w n1 i))
    omega
  · show s0 + ds + P1 ≤ nS 97 (fun i => 2 * qu nn w n1 i)
    omega
theorem pAll_set {Q : Nat → Nat} {st : Nat → va_W} {nn : Nat → Nat} {Z : Nat → Int} (h : pAll G Q st nn Z) {w b n1 k : Nat} {f : Nat → Int32} {z : Int} (h1 : wN n1 f k z) (h2 : 4 ≤ n1) (h3 : n1 ≤ 2048) : pAll G Q (qu st w (w2 G (Q w) b n1 k z f)) (qu nn w n1) (qu Z w z) := fun i hi => by
  by_cases q : i = w
  · subst q
    rw [qu_same, qu_same, qu_same]
    exact ⟨b, k, f, rfl, h1, h2, h3⟩
  · rw [qu_other _ _ q, qu_other _ _ q, qu_other _ _ q]
    exact h i hi
/-- at most N limbs -/
def lb (z : Int) (N : Nat) : Prop := (z.natAbs : Int) < 2 ^ (30 * N)
theorem lb_1 {z : Int} : lb z 1 ↔ z.natAbs < 1073741824 := by
  show (z.natAbs : Int) < 1073741824 ↔ _
  omega
theorem wN_one {n k : Nat} {f : Nat → Int32} {z : Int} (h : wN n f k z) : k ≤ 1 ↔ lb z 1 := ⟨fun h1 => by
    have h2 := wN_lt h
    have h3 := pow30_le h1
    show (z.natAbs : Int) < 2 ^ (30 * 1)
    omega, fun h1 => wN_size h h1⟩
theorem wN_neg {n k : Nat} {f : Nat → Int32} {z : Int} (h : wN n f k z) : wN n f k (-z) := ⟨h.1, h.2.1, h.2.2.1, by rw [Int.natAbs_neg]; exact h.2.2.2⟩
theorem wN_abs {n k : Nat} {f : Nat → Int32} {z : Int} (h : wN n f k z) : wN n f k (z.natAbs : Int) := ⟨h.1, h.2.1, h.2.2.1, by rw [Int.natAbs_natCast]; exact h.2.2.2⟩
theorem qu_id {α : Type} (Z : Nat → α) (w : Nat) : qu Z w (Z w) = Z := by
  funext i
  by_cases q : i = w
  · rw [q, qu_same]
  · rw [qu_other _ _ q]
theorem pAll_same {Q : Nat → Nat} {st : Nat → va_W} {nn : Nat → Nat} {Z : Nat → Int} {w : Nat} (h : pAll G Q st nn (qu Z w (Z w))) : pAll G Q st nn Z := by
  rw [qu_id] at h
  exact h
theorem p_put (hA : ∀ q, s.heap.size ≤ q → A q) (C : ZC p s m args c cc nL Ts own D (cty G)) {index : Nat} (Y : va_W) {Q : Nat → Nat} {st : Nat → va_W} {nn : Nat → Nat} {Z : Nat → Int} {P0 P1 : Nat} (hZ : pAll G Q st nn Z) (hG : pG P0 P1 nn cells slots) (w : Nat) (hw : w < 97) (v : Int) (hv : -9223372036854775808 ≤ v ∧ v < 9223372036854775808) (cw : CallW R s args own RX3 index yX3_put cX3_put 6 none (wC yX3_put cX3_put 6 none) { frames := 0, cells := 0, slots := 0, locals := 0 } 0 0 1) (hRr : 1078 ≤ R.cells ∧ 401408 ≤ R.slots) (hW : (rest.map fun v => v.category).sum ≤ 8) (hdg : decode cc pc = .ok (.invokevirtual index, 3)) (kk : ∀ (st1 : Nat → va_W) (nn1 : Nat → Nat) (c1 s1 : Nat), pAll G Q st1 nn1 (qu Z w v) → pG P0 P1 nn1 c1 s1 → ZW p l e R s m args below meth c D A nL c1 s1 Qp (Y ++ pl st1) (pc + 3) lv (rest)) : ZW p l e R s m args below meth c D A nL cells slots Qp (Y ++ pl st) pc lv (.long (lZ v) :: .ref (Q w) :: rest) := by
  have hle := pG_le hZ hG
  obtain ⟨b, k, f, e1, h1, h4, h8⟩ := hZ w hw
  refine w_perm (st w ++ (pR w st ++ Y)) (pl_1 hw st Y) ?_
  rw [e1]
  refine g_callv (N := nT) [.long (lZ v)] hA C trivial nT_ok (cw_put l D G (pR w st ++ Y) (Q w) b (nn w) f (iZ (k : Int)) (iZ (Z w).sign) v h4 h8 hv) cw (q0 := 0) rfl rfl rfl rfl ⟨by show _ + 0 ≤ _; omega, by show _ + 0 ≤ _; omega⟩ hW hdg _ rfl (fun u hu => ?_)
  obtain ⟨k1, f1, q1, rfl⟩ := hu
  refine w_perm (Y ++ pl (qu st w (w2 G (Q w) b (nn w) k1 v f1))) (pl_1' hw st (w2 G (Q w) b (nn w) k1 v f1) Y) ?_
  exact kk _ _ _ _ (pAll_set hZ q1 h4 h8) (pG_set (dc := 0) (ds := 0) hw hG (by omega) (by omega))
theorem p_copy (hA : ∀ q, s.heap.size ≤ q → A q) (C : ZC p s m args c cc nL Ts own D (cty G)) {index : Nat} (Y : va_W) {Q : Nat → Nat} {st : Nat → va_W} {nn : Nat → Nat} {Z : Nat → Int} {P0 P1 : Nat} (hZ : pAll G Q st nn Z) (hG : pG P0 P1 nn cells slots) (w v : Nat) (hw : w < 97) (hv : v < 97) (hne : v ≠ w) (hb : lb (Z v) 1024) (cw : CallW R s args own RX3 index yX3_copy cX3_copy 2 none (wC yX3_copy cX3_copy 2 none) { frames := 2, cells := 11, slots := 4096, locals := 62 } 11 4096 1) (hRr : 1078 ≤ R.cells ∧ 401408 ≤ R.slots) (hW : (rest.map fun v => v.category).sum ≤ 8) (hdg : decode cc pc = .ok (.invokevirtual index, 3)) (kk : ∀ (st1 : Nat → va_W) (nn1 : Nat → Nat) (c1 s1 : Nat), pAll G Q st1 nn1 (qu Z w (Z v)) → pG P0 P1 nn1 c1 s1 → ZW p l e R s m args below meth c D A nL c1 s1 Qp (Y ++ pl st1) (pc + 3) lv (rest)) : ZW p l e R s m args below meth c D A nL cells slots Qp (Y ++ pl st) pc lv (.ref (Q v) :: .ref (Q w) :: rest) := by
  have hle := pG_le hZ hG
  obtain ⟨b, k, f, e1, h1, h4, h8⟩ := hZ w hw
  obtain ⟨b2, k2, f2, e2, g1, g4, g8⟩ := hZ v hv
  have hk := wN_size g1 hb
  refine w_perm (st w ++ (st v ++ (pR2 w v st ++ Y))) (pl_2 hw hv hne st Y) ?_
  rw [e1, e2]
  refine g_callv (N := nT) [.ref (Q v)] hA C trivial nT_ok (cw_copy l D G (pR2 w v st ++ Y) (Q w) b (nn w) (Q v) b2 (nn v) k2 f f2 (iZ (k : Int)) (iZ (Z w).sign) (Z v) (by omega) h8 g1 hk g8) cw (q0 := 0) rfl rfl rfl rfl ⟨by show _ + 11 ≤ _; omega, by show _ + 4096 ≤ _; omega⟩ hW hdg _ rfl (fun u hu => ?_)
  obtain ⟨b1, n1, f1, dc, ds, r1, r2, q1, r4, r5, rfl⟩ := hu
  have hperm := pl_2' hw hv hne st (w2 G (Q w) b1 n1 k2 (Z v) f1) Y
  rw [e2] at hperm
  refine w_perm _ hperm ?_
  exact kk _ _ _ _ (pAll_set hZ q1 (by omega) (by omega)) (pG_set hw hG r4 r5)
theorem p_negate (hA : ∀ q, s.heap.size ≤ q → A q) (C : ZC p s m args c cc nL Ts own D (cty G)) {index : Nat} (Y : va_W) {Q : Nat → Nat} {st : Nat → va_W} {nn : Nat → Nat} {Z : Nat → Int} {P0 P1 : Nat} (hZ : pAll G Q st nn Z) (hG : pG P0 P1 nn cells slots) (w : Nat) (hw : w < 97)  (cw : CallW R s args own RX3 index yX3_negate cX3_negate 1 none (wC yX3_negate cX3_negate 1 none) { frames := 0, cells := 0, slots := 0, locals := 0 } 0 0 0) (hRr : 1078 ≤ R.cells ∧ 401408 ≤ R.slots) (hW : (rest.map fun v => v.category).sum ≤ 8) (hdg : decode cc pc = .ok (.invokevirtual index, 3)) (kk : ∀ (st1 : Nat → va_W) (nn1 : Nat → Nat) (c1 s1 : Nat), pAll G Q st1 nn1 (qu Z w (-(Z w))) → pG P0 P1 nn1 c1 s1 → ZW p l e R s m args below meth c D A nL c1 s1 Qp (Y ++ pl st1) (pc + 3) lv (rest)) : ZW p l e R s m args below meth c D A nL cells slots Qp (Y ++ pl st) pc lv (.ref (Q w) :: rest) := by
  have hle := pG_le hZ hG
  obtain ⟨b, k, f, e1, h1, h4, h8⟩ := hZ w hw
  refine w_perm (st w ++ (pR w st ++ Y)) (pl_1 hw st Y) ?_
  rw [e1]
  refine g_callv (N := nT) [] hA C trivial nT_ok (cw_negate l D G (pR w st ++ Y) (Q w) b (nn w) f (iZ (k : Int)) (Z w).sign) cw (q0 := 0) rfl rfl rfl rfl ⟨by show _ + 0 ≤ _; omega, by show _ + 0 ≤ _; omega⟩ hW hdg _ rfl (fun u hu => ?_)
  obtain rfl := hu
  rw [← Int.sign_neg]
  refine w_perm (Y ++ pl (qu st w (w2 G (Q w) b (nn w) k (-(Z w)) f))) (pl_1' hw st (w2 G (Q w) b (nn w) k (-(Z w)) f) Y) ?_
  exact kk _ _ _ _ (pAll_set hZ (wN_neg h1) h4 h8) (pG_set (dc := 0) (ds := 0) hw hG (by omega) (by omega))
theorem p_dropSign (hA : ∀ q, s.heap.size ≤ q → A q) (C : ZC p s m args c cc nL Ts own D (cty G)) {index : Nat} (Y : va_W) {Q : Nat → Nat} {st : Nat → va_W} {nn : Nat → Nat} {Z : Nat → Int} {P0 P1 : Nat} (hZ : pAll G Q st nn Z) (hG : pG P0 P1 nn cells slots) (w : Nat) (hw : w < 97)  (cw : CallW R s args own RX3 index yX3_dropSign cX3_dropSign 1 none (wC yX3_dropSign cX3_dropSign 1 none) { frames := 0, cells := 0, slots := 0, locals := 0 } 0 0 0) (hRr : 1078 ≤ R.cells ∧ 401408 ≤ R.slots) (hW : (rest.map fun v => v.category).sum ≤ 8) (hdg : decode cc pc = .ok (.invokevirtual index, 3)) (kk : ∀ (st1 : Nat → va_W) (nn1 : Nat → Nat) (c1 s1 : Nat), pAll G Q st1 nn1 (qu Z w ((Z w).natAbs : Int)) → pG P0 P1 nn1 c1 s1 → ZW p l e R s m args below meth c D A nL c1 s1 Qp (Y ++ pl st1) (pc + 3) lv (rest)) : ZW p l e R s m args below meth c D A nL cells slots Qp (Y ++ pl st) pc lv (.ref (Q w) :: rest) := by
  have hle := pG_le hZ hG
  obtain ⟨b, k, f, e1, h1, h4, h8⟩ := hZ w hw
  refine w_perm (st w ++ (pR w st ++ Y)) (pl_1 hw st Y) ?_
  rw [e1]
  refine g_callv (N := nT) [] hA C trivial nT_ok (cw_dropSign l D G (pR w st ++ Y) (Q w) b (nn w) f (iZ (k : Int)) (Z w)) cw (q0 := 0) rfl rfl rfl rfl ⟨by show _ + 0 ≤ _; omega, by show _ + 0 ≤ _; omega⟩ hW hdg _ rfl (fun u hu => ?_)
  obtain rfl := hu
  refine w_perm (Y ++ pl (qu st w (w2 G (Q w) b (nn w) k ((Z w).natAbs : Int) f))) (pl_1' hw st (w2 G (Q w) b (nn w) k ((Z w).natAbs : Int) f) Y) ?_
  exact kk _ _ _ _ (pAll_set hZ (wN_abs h1) h4 h8) (pG_set (dc := 0) (ds := 0) hw hG (by omega) (by omega))
theorem p_isShort (hA : ∀ q, s.heap.size ≤ q → A q) (C : ZC p s m args c cc nL Ts own D (cty G)) {index : Nat} (Y : va_W) {Q : Nat → Nat} {st : Nat → va_W} {nn : Nat → Nat} {Z : Nat → Int} {P0 P1 : Nat} (hZ : pAll G Q st nn Z) (hG : pG P0 P1 nn cells slots) (w : Nat) (hw : w < 97)  (cw : CallW R s args own RX3 index yX3_isShort cX3_isShort 1 (some .boolean) (wC yX3_isShort cX3_isShort 1 (some .boolean)) { frames := 0, cells := 0, slots := 0, locals := 0 } 0 0 0) (hRr : 1078 ≤ R.cells ∧ 401408 ≤ R.slots) (hW : (rest.map fun v => v.category).sum ≤ 8) (hdg : decode cc pc = .ok (.invokevirtual index, 3)) (kk : ∀ (st1 : Nat → va_W) (nn1 : Nat → Nat) (c1 s1 : Nat), pAll G Q st1 nn1 (Z) → pG P0 P1 nn1 c1 s1 → ZW p l e R s m args below meth c D A nL c1 s1 Qp (Y ++ pl st1) (pc + 3) lv (.int (if (Z w).natAbs < 1073741824 then iZ 1 else iZ 0) :: rest)) : ZW p l e R s m args below meth c D A nL cells slots Qp (Y ++ pl st) pc lv (.ref (Q w) :: rest) := by
  have hle := pG_le hZ hG
  obtain ⟨b, k, f, e1, h1, h4, h8⟩ := hZ w hw
  refine w_perm (st w ++ (pR w st ++ Y)) (pl_1 hw st Y) ?_
  rw [e1]
  refine g_calli (N := nT) [] hA C trivial nT_ok (cw_isShort l D G (pR w st ++ Y) (Q w) b (nn w) k f (Z w) h1.1 h8) cw (q0 := 0) rfl rfl rfl rfl ⟨by show _ + 0 ≤ _; omega, by show _ + 0 ≤ _; omega⟩ hW hdg _ rfl (fun r u hu => ?_)
  obtain ⟨rfl, rfl⟩ := hu
  refine w_perm (Y ++ pl (qu st w (w2 G (Q w) b (nn w) k (Z w) f))) (pl_1' hw st (w2 G (Q w) b (nn w) k (Z w) f) Y) ?_
  have hx := kk (qu st w (w2 G (Q w) b (nn w) k (Z w) f)) _ _ _ (pAll_same (pAll_set hZ h1 h4 h8)) (pG_set (dc := 0) (ds := 0) hw hG (Nat.le_of_eq (Nat.zero_add _)) (Nat.le_of_eq (Nat.zero_add _)))
  have hi : (if (Z w).natAbs < 1073741824 then iZ 1 else iZ 0) = (if k ≤ 1 then iZ 1 else iZ 0) := by
    by_cases q : k ≤ 1
    · rw [if_pos q, if_pos (lb_1.1 ((wN_one h1).1 q))]
    · rw [if_neg q, if_neg (fun h => q ((wN_one h1).2 (lb_1.2 h)))]
  rw [hi] at hx
  exact hx
theorem p_lowPart (hA : ∀ q, s.heap.size ≤ q → A q) (C : ZC p s m args c cc nL Ts own D (cty G)) {index : Nat} (Y : va_W) {Q : Nat → Nat} {st : Nat → va_W} {nn : Nat → Nat} {Z : Nat → Int} {P0 P1 : Nat} (hZ : pAll G Q st nn Z) (hG : pG P0 P1 nn cells slots) (w : Nat) (hw : w < 97) (hb : lb (Z w) 1) (cw : CallW R s args own RX3 index yX3_lowPart cX3_lowPart 1 (some .int) (wC yX3_lowPart cX3_lowPart 1 (some .int)) { frames := 0, cells := 0, slots := 0, locals := 0 } 0 0 0) (hRr : 1078 ≤ R.cells ∧ 401408 ≤ R.slots) (hW : (rest.map fun v => v.category).sum ≤ 8) (hdg : decode cc pc = .ok (.invokevirtual index, 3)) (kk : ∀ (st1 : Nat → va_W) (nn1 : Nat → Nat) (c1 s1 : Nat), pAll G Q st1 nn1 (Z) → pG P0 P1 nn1 c1 s1 → ZW p l e R s m args below meth c D A nL c1 s1 Qp (Y ++ pl st1) (pc + 3) lv (.int (iZ (Z w)) :: rest)) : ZW p l e R s m args below meth c D A nL cells slots Qp (Y ++ pl st) pc lv (.ref (Q w) :: rest) := by
  have hle := pG_le hZ hG
  obtain ⟨b, k, f, e1, h1, h4, h8⟩ := hZ w hw
  refine w_perm (st w ++ (pR w st ++ Y)) (pl_1 hw st Y) ?_
  rw [e1]
  refine g_calli (N := nT) [] hA C trivial nT_ok (cw_lowPart l D G (pR w st ++ Y) (Q w) b (nn w) k f (Z w) (by omega) h8 h1 ((wN_one h1).2 hb)) cw (q0 := 0) rfl rfl rfl rfl ⟨by show _ + 0 ≤ _; omega, by show _ + 0 ≤ _; omega⟩ hW hdg _ rfl (fun r u hu => ?_)
  obtain ⟨rfl, rfl⟩ := hu
  refine w_perm (Y ++ pl (qu st w (w2 G (Q w) b (nn w) k (Z w) f))) (pl_1' hw st (w2 G (Q w) b (nn w) k (Z w) f) Y) ?_
  exact kk (qu st w (w2 G (Q w) b (nn w) k (Z w) f)) _ _ _ (pAll_same (pAll_set hZ h1 h4 h8)) (pG_set (dc := 0) (ds := 0) hw hG (Nat.le_of_eq (Nat.zero_add _)) (Nat.le_of_eq (Nat.zero_add _)))
theorem p_add (hA : ∀ q, s.heap.size ≤ q → A q) (C : ZC p s m args c cc nL Ts own D (cty G)) {index : Nat} (Y : va_W) {Q : Nat → Nat} {st : Nat → va_W} {nn : Nat → Nat} {Z : Nat → Int} {P0 P1 : Nat} (hZ : pAll G Q st nn Z) (hG : pG P0 P1 nn cells slots) (w v : Nat) (hw : w < 97) (hv : v < 97) (hne : v ≠ w) (as y1 : Int) (has : (as = 1 ∧ y1 = Z v) ∨ (as = -1 ∧ y1 = -(Z v))) (hb : lb (Z w) 1023 ∧ lb (Z v) 1023) (cw : CallW R s args own RX3 index yX3_add cX3_add 5 none (wC yX3_add cX3_add 5 none) { frames := 2, cells := 11, slots := 4096, locals := 62 } 11 4096 2) (hRr : 1078 ≤ R.cells ∧ 401408 ≤ R.slots) (hW : (rest.map fun v => v.category).sum ≤ 8) (hdg : decode cc pc = .ok (.invokevirtual index, 3)) (kk : ∀ (st1 : Nat → va_W) (nn1 : Nat → Nat) (c1 s1 : Nat), pAll G Q st1 nn1 (qu Z w (Z w + y1)) → pG P0 P1 nn1 c1 s1 → ZW p l e R s m args below meth c D A nL c1 s1 Qp (Y ++ pl st1) (pc + 3) lv (rest)) : ZW p l e R s m args below meth c D A nL cells slots Qp (Y ++ pl st) pc lv (.int (iZ as) :: .ref (Q v) :: .ref (Q w) :: rest) := by
  have hle := pG_le hZ hG
  obtain ⟨b, k, f, e1, h1, h4, h8⟩ := hZ w hw
  obtain ⟨b2, k2, f2, e2, g1, g4, g8⟩ := hZ v hv
  refine w_perm (st w ++ (st v ++ (pR2 w v st ++ Y))) (pl_2 hw hv hne st Y) ?_
  rw [e1, e2]
  refine g_callv (N := nT) [.ref (Q v), .int (iZ as)] hA C trivial nT_ok (cw_add l D G (pR2 w v st ++ Y) (Q w) b (nn w) k (Q v) b2 (nn v) k2 f f2 (Z w) (Z v) y1 as (by omega) h8 g8 h1 g1 has ⟨wN_size h1 hb.1, wN_size g1 hb.2⟩) cw (q0 := 0) rfl rfl rfl rfl ⟨by show _ + 11 ≤ _; omega, by show _ + 4096 ≤ _; omega⟩ hW hdg _ rfl (fun u hu => ?_)
  obtain ⟨b1, n1, k1, f1, dc, ds, r1, r2, q1, r4, r5, rfl⟩ := hu
  have hperm := pl_2' hw hv hne st (w2 G (Q w) b1 n1 k1 (Z w + y1) f1) Y
  rw [e2] at hperm
  refine w_perm _ hperm ?_
  exact kk _ _ _ _ (pAll_set hZ q1 (by omega) (by omega)) (pG_set hw hG r4 r5)
theorem p_multiply (hA : ∀ q, s.heap.size ≤ q → A q) (C : ZC p s m args c cc nL Ts own D (cty G)) {index : Nat} (Y : va_W) {Q : Nat → Nat} {st : Nat → va_W} {nn : Nat → Nat} {Z : Nat → Int} {P0 P1 : Nat} (hZ : pAll G Q st nn Z) (hG : pG P0 P1 nn cells slots) (w v : Nat) (hw : w < 97) (hv : v < 97) (hne : v ≠ w) (N1 N2 : Nat) (hN : N1 + N2 ≤ 1024) (hb : lb (Z w) N1 ∧ lb (Z v) N2) (cw : CallW R s args own RX3 index yX3_multiply cX3_multiply 11 none (wC yX3_multiply cX3_multiply 11 none) { frames := 2, cells := 11, slots := 4096, locals := 62 } 11 4096 1) (hRr : 1078 ≤ R.cells ∧ 401408 ≤ R.slots) (hW : (rest.map fun v => v.category).sum ≤ 8) (hdg : decode cc pc = .ok (.invokevirtual index, 3)) (kk : ∀ (st1 : Nat → va_W) (nn1 : Nat → Nat) (c1 s1 : Nat), pAll G Q st1 nn1 (qu Z w (Z w * Z v)) → pG P0 P1 nn1 c1 s1 → ZW p l e R s m args below meth c D A nL c1 s1 Qp (Y ++ pl st1) (pc + 3) lv (rest)) : ZW p l e R s m args below meth c D A nL cells slots Qp (Y ++ pl st) pc lv (.ref (Q v) :: .ref (Q w) :: rest) := by
  have hle := pG_le hZ hG
  obtain ⟨b, k, f, e1, h1, h4, h8⟩ := hZ w hw
  obtain ⟨b2, k2, f2, e2, g1, g4, g8⟩ := hZ v hv
  have hk1 := wN_size h1 hb.1
  have hk2 := wN_size g1 hb.2
  refine w_perm (st w ++ (st v ++ (pR2 w v st ++ Y))) (pl_2 hw hv hne st Y) ?_
  rw [e1, e2]
  refine g_callv (N := nT) [.ref (Q v)] hA C trivial nT_ok (cw_multiply l D G (pR2 w v st ++ Y) (Q w) b (nn w) k (Q v) b2 (nn v) k2 f f2 (Z w) (Z v) (by omega) h8 g8 h1 g1 (by omega)) cw (q0 := 0) rfl rfl rfl rfl ⟨by show _ + 11 ≤ _; omega, by show _ + 4096 ≤ _; omega⟩ hW hdg _ rfl (fun u hu => ?_)
  obtain ⟨b1, n1, k1, f1, dc, ds, r1, r2, q1, r4, r5, rfl⟩ := hu
  have hperm := pl_2' hw hv hne st (w2 G (Q w) b1 n1 k1 (Z w * Z v) f1) Y
  rw [e2] at hperm
  refine w_perm _ hperm ?_
  exact kk _ _ _ _ (pAll_set hZ q1 (by omega) (by omega)) (pG_set hw hG r4 r5)
theorem p_shiftUp (hA : ∀ q, s.heap.size ≤ q → A q) (C : ZC p s m args c cc nL Ts own D (cty G)) {index : Nat} (Y : va_W) {Q : Nat → Nat} {st : Nat → va_W} {nn : Nat → Nat} {Z : Nat → Int} {P0 P1 : Nat} (hZ : pAll G Q st nn Z) (hG : pG P0 P1 nn cells slots) (w : Nat) (hw : w < 97) (bits N1 : Nat) (hN : N1 + bits / 30 + 1 ≤ 1024) (hb : lb (Z w) N1) (cw : CallW R s args own RX3 index yX3_shiftUp cX3_shiftUp 9 none (wC yX3_shiftUp cX3_shiftUp 9 none) { frames := 2, cells := 11, slots := 4096, locals := 62 } 11 4096 1) (hRr : 1078 ≤ R.cells ∧ 401408 ≤ R.slots) (hW : (rest.map fun v => v.category).sum ≤ 8) (hdg : decode cc pc = .ok (.invokevirtual index, 3)) (kk : ∀ (st1 : Nat → va_W) (nn1 : Nat → Nat) (c1 s1 : Nat), pAll G Q st1 nn1 (qu Z w (Z w * 2 ^ bits)) → pG P0 P1 nn1 c1 s1 → ZW p l e R s m args below meth c D A nL c1 s1 Qp (Y ++ pl st1) (pc + 3) lv (rest)) : ZW p l e R s m args below meth c D A nL cells slots Qp (Y ++ pl st) pc lv (.int (iZ (bits : Int)) :: .ref (Q w) :: rest) := by
  have hle := pG_le hZ hG
  obtain ⟨b, k, f, e1, h1, h4, h8⟩ := hZ w hw
  have hk1 := wN_size h1 hb
  refine w_perm (st w ++ (pR w st ++ Y)) (pl_1 hw st Y) ?_
  rw [e1]
  refine g_callv (N := nT) [.int (iZ (bits : Int))] hA C trivial nT_ok (cw_shiftUp l D G (pR w st ++ Y) (Q w) b (nn w) k bits f (Z w) (by omega) h8 h1 (by omega)) cw (q0 := 0) rfl rfl rfl rfl ⟨by show _ + 11 ≤ _; omega, by show _ + 4096 ≤ _; omega⟩ hW hdg _ rfl (fun u hu => ?_)
  obtain ⟨b1, n1, k1, f1, dc, ds, r1, r2, q1, r4, r5, rfl⟩ := hu
  refine w_perm (Y ++ pl (qu st w (w2 G (Q w) b1 n1 k1 (Z w * 2 ^ bits) f1))) (pl_1' hw st (w2 G (Q w) b1 n1 k1 (Z w * 2 ^ bits) f1) Y) ?_
  exact kk _ _ _ _ (pAll_set hZ q1 (by omega) (by omega)) (pG_set hw hG r4 r5)
theorem p_shiftDown (hA : ∀ q, s.heap.size ≤ q → A q) (C : ZC p s m args c cc nL Ts own D (cty G)) {index : Nat} (Y : va_W) {Q : Nat → Nat} {st : Nat → va_W} {nn : Nat → Nat} {Z : Nat → Int} {P0 P1 : Nat} (hZ : pAll G Q st nn Z) (hG : pG P0 P1 nn cells slots) (w : Nat) (hw : w < 97) (bits : Nat) (hb : bits ≤ 100000) (cw : CallW R s args own RX3 index yX3_shiftDown cX3_shiftDown 8 none (wC yX3_shiftDown cX3_shiftDown 8 none) { frames := 1, cells := 0, slots := 0, locals := 21 } 0 0 1) (hRr : 1078 ≤ R.cells ∧ 401408 ≤ R.slots) (hW : (rest.map fun v => v.category).sum ≤ 8) (hdg : decode cc pc = .ok (.invokevirtual index, 3)) (kk : ∀ (st1 : Nat → va_W) (nn1 : Nat → Nat) (c1 s1 : Nat), pAll G Q st1 nn1 (qu Z w ((Z w).sign * (((Z w).natAbs : Int) / 2 ^ bits))) → pG P0 P1 nn1 c1 s1 → ZW p l e R s m args below meth c D A nL c1 s1 Qp (Y ++ pl st1) (pc + 3) lv (rest)) : ZW p l e R s m args below meth c D A nL cells slots Qp (Y ++ pl st) pc lv (.int (iZ (bits : Int)) :: .ref (Q w) :: rest) := by
  have hle := pG_le hZ hG
  obtain ⟨b, k, f, e1, h1, h4, h8⟩ := hZ w hw
  refine w_perm (st w ++ (pR w st ++ Y)) (pl_1 hw st Y) ?_
  rw [e1]
  refine g_callv (N := nT) [.int (iZ (bits : Int))] hA C trivial nT_ok (cw_shiftDown l D G (pR w st ++ Y) (Q w) b (nn w) k bits f (Z w) (by omega) h8 h1 hb) cw (q0 := 0) rfl rfl rfl rfl ⟨by show _ + 0 ≤ _; omega, by show _ + 0 ≤ _; omega⟩ hW hdg _ rfl (fun u hu => ?_)
  obtain ⟨k1, f1, q1, rfl⟩ := hu
  refine w_perm (Y ++ pl (qu st w (w2 G (Q w) b (nn w) k1 ((Z w).sign * (((Z w).natAbs : Int) / 2 ^ bits)) f1))) (pl_1' hw st (w2 G (Q w) b (nn w) k1 ((Z w).sign * (((Z w).natAbs : Int) / 2 ^ bits)) f1) Y) ?_
  exact kk _ _ _ _ (pAll_set hZ q1 h4 h8) (pG_set (dc := 0) (ds := 0) hw hG (by omega) (by omega))
theorem p_makeOdd (hA : ∀ q, s.heap.size ≤ q → A q) (C : ZC p s m args c cc nL Ts own D (cty G)) {index : Nat} (Y : va_W) {Q : Nat → Nat} {st : Nat → va_W} {nn : Nat → Nat} {Z : Nat → Int} {P0 P1 : Nat} (hZ : pAll G Q st nn Z) (hG : pG P0 P1 nn cells slots) (w : Nat) (hw : w < 97)  (cw : CallW R s args own RX3 index yX3_makeOdd cX3_makeOdd 2 (some .int) (wC yX3_makeOdd cX3_makeOdd 2 (some .int)) { frames := 2, cells := 0, slots := 0, locals := 48 } 0 0 0) (hRr : 1078 ≤ R.cells ∧ 401408 ≤ R.slots) (hW : (rest.map fun v => v.category).sum ≤ 8) (hdg : decode cc pc = .ok (.invokevirtual index, 3)) (kk : ∀ (st1 : Nat → va_W) (nn1 : Nat → Nat) (c1 s1 : Nat) (bt : Nat) (y : Int) (_ : bt ≤ 61440) (_ : Z w = y * 2 ^ bt) (_ : Z w ≠ 0 → y % 2 = 1), pAll G Q st1 nn1 (qu Z w y) → pG P0 P1 nn1 c1 s1 → ZW p l e R s m args below meth c D A nL c1 s1 Qp (Y ++ pl st1) (pc + 3) lv (.int (iZ (bt : Int)) :: rest)) : ZW p l e R s m args below meth c D A nL cells slots Qp (Y ++ pl st) pc lv (.ref (Q w) :: rest) := by
  have hle := pG_le hZ hG
  obtain ⟨b, k, f, e1, h1, h4, h8⟩ := hZ w hw
  refine w_perm (st w ++ (pR w st ++ Y)) (pl_1 hw st Y) ?_
  rw [e1]
  refine g_calli (N := nT) [] hA C trivial nT_ok (cw_makeOdd l D G (pR w st ++ Y) (Q w) b (nn w) k f (Z w) (by omega) h8 h1) cw (q0 := 0) rfl rfl rfl rfl ⟨by show _ + 0 ≤ _; omega, by show _ + 0 ≤ _; omega⟩ hW hdg _ rfl (fun r u hu => ?_)
  obtain ⟨bt, k1, f1, y, rfl, r1, r2, r3, q1, rfl⟩ := hu
  refine w_perm (Y ++ pl (qu st w (w2 G (Q w) b (nn w) k1 y f1))) (pl_1' hw st (w2 G (Q w) b (nn w) k1 y f1) Y) ?_
  have hkn := h1.1
  exact kk _ _ _ _ bt y (by omega) r2 r3 (pAll_set hZ q1 h4 h8) (pG_set (dc := 0) (ds := 0) hw hG (by omega) (by omega))
theorem p_divideByOdd (hA : ∀ q, s.heap.size ≤ q → A q) (C : ZC p s m args c cc nL Ts own D (cty G)) {index : Nat} (Y : va_W) {Q : Nat → Nat} {st : Nat → va_W} {nn : Nat → Nat} {Z : Nat → Int} {P0 P1 : Nat} (hZ : pAll G Q st nn Z) (hG : pG P0 P1 nn cells slots) (w v : Nat) (hw : w < 97) (hv : v < 97) (hne : v ≠ w) (q : Int) (ho : Z v % 2 = 1) (hq : Z w = q * Z v) (cw : CallW R s args own RX3 index yX3_divideByOdd cX3_divideByOdd 11 none (wC yX3_divideByOdd cX3_divideByOdd 11 none) { frames := 1, cells := 0, slots := 0, locals := 22 } 0 0 1) (hRr : 1078 ≤ R.cells ∧ 401408 ≤ R.slots) (hW : (rest.map fun v => v.category).sum ≤ 8) (hdg : decode cc pc = .ok (.invokevirtual index, 3)) (kk : ∀ (st1 : Nat → va_W) (nn1 : Nat → Nat) (c1 s1 : Nat), pAll G Q st1 nn1 (qu Z w q) → pG P0 P1 nn1 c1 s1 → ZW p l e R s m args below meth c D A nL c1 s1 Qp (Y ++ pl st1) (pc + 3) lv (rest)) : ZW p l e R s m args below meth c D A nL cells slots Qp (Y ++ pl st) pc lv (.ref (Q v) :: .ref (Q w) :: rest) := by
  have hle := pG_le hZ hG
  obtain ⟨b, k, f, e1, h1, h4, h8⟩ := hZ w hw
  obtain ⟨b2, k2, f2, e2, g1, g4, g8⟩ := hZ v hv
  refine w_perm (st w ++ (st v ++ (pR2 w v st ++ Y))) (pl_2 hw hv hne st Y) ?_
  rw [e1, e2]
  refine g_callv (N := nT) [.ref (Q v)] hA C trivial nT_ok (cw_divideByOdd l D G (pR2 w v st ++ Y) (Q w) b (nn w) k (Q v) b2 (nn v) k2 f f2 (Z w) (Z v) q (by omega) h8 g8 h1 g1 ho hq) cw (q0 := 0) rfl rfl rfl rfl ⟨by show _ + 0 ≤ _; omega, by show _ + 0 ≤ _; omega⟩ hW hdg _ rfl (fun u hu => ?_)
  obtain ⟨k1, f1, q1, rfl⟩ := hu
  have hperm := pl_2' hw hv hne st (w2 G (Q w) b (nn w) k1 q f1) Y
  rw [e2] at hperm
  refine w_perm _ hperm ?_
  exact kk _ _ _ _ (pAll_set hZ q1 h4 h8) (pG_set (dc := 0) (ds := 0) hw hG (by omega) (by omega))
/-- the side of a number of the pool is read -/
theorem p_side (C : ZC p s m args c cc nL Ts own D (cty G)) {index : Nat} (Y : va_W) {Q : Nat → Nat} {st : Nat → va_W} {nn : Nat → Nat} {Z : Nat → Int} (hin : ∀ w ∈ u_ws RX3 TX3 3, w ∈ Ts) (hZ : pAll G Q st nn Z) (w : Nat) (hw : w < 97) (hlink : va_Nw (.fieldLinkNest own index RX3 "side" "I" RX4) s) (hdg : decode cc pc = .ok (.getfield index, 3)) (kk : ZW p l e R s m args below meth c D A nL cells slots Qp (Y ++ pl st) (pc + 3) lv (.int (iZ (Z w).sign) :: rest)) : ZW p l e R s m args below meth c D A nL cells slots Qp (Y ++ pl st) pc lv (.ref (Q w) :: rest) := by
  obtain ⟨b, k, f, e1, h1, h4, h8⟩ := hZ w hw
  refine w_perm (st w ++ (pR w st ++ Y)) (pl_1 hw st Y) ?_
  rw [e1]
  refine w_getN (ci := 3) (ref := RX3) (T := TX3) (Cn := RX3) (N := 3) C hin 0 rfl rfl 2 (by decide) hlink rfl rfl hdg ?_
  rw [← e1]
  exact w_perm (Y ++ pl st) (pl_1 hw st Y).symm kk
end POOL
