/-- the class's cells: all that the object holds -/
def cW (G : Nat → ClassId) (ri ra rb lv ce en re cx rx px fx lo hi us : Nat) (Q P PA T : Nat → Nat) (st : Nat → va_W) (e0 : Int32) (g g2 : Nat → Int32) (fd hv : Int) (gl : Nat → Int32) (gc : Nat → Int64) (ge gr : Nat → Int32) (h fl fh : Nat → Int64) (M : va_W) : va_W :=
  (cx, .inr (0, [.ref rx, .int (iZ ((us : Nat) : Int)), .ref (P 10), .ref (Q 77), .ref (Q 78), .ref (Q 79), .ref (Q 80), .ref (Q 81), .ref (Q 82), .ref (Q 83)])) :: (rx, .inl (G 5, 10, .inr (.inr (.inr (.inr (fun i => some (P i))))))) :: (px, .inr (1, [.ref (Q 84), .int (e0), .ref (Q 85), .ref (Q 86), .ref (Q 87)])) :: (ra, .inl (G 0, 9, .inl g)) :: (rb, .inl (G 0, 9, .inl g2)) :: (ri, .inr (4, [.ref ra, .ref rb, .int (iZ fd), .ref lv, .ref ce, .ref en, .ref re, .ref cx, .int (iZ hv), .ref px, .ref (P 11), .ref fx, .ref lo, .ref hi])) :: (lv, .inl (G 0, 8, .inl gl)) :: (ce, .inl (G 1, 8, .inr (.inl gc))) :: (en, .inl (G 0, 8, .inl ge)) :: (re, .inl (G 0, 8, .inl gr)) :: (fx, .inl (G 1, 9, .inr (.inl h))) :: (lo, .inl (G 1, 8, .inr (.inl fl))) :: (hi, .inl (G 1, 8, .inr (.inl fh))) :: ((fp G Q P PA T ++ M) ++ pl st)
/-- the class's object at ri stands for: the two polynomials, how many roots are isolated (or -1), their levels, cells, ends, repeats -/
def isC (G : Nat → ClassId) (ri : Nat) (g g2 : Nat → Int32) (fd : Int) (gl : Nat → Int32) (gc : Nat → Int64) (ge gr : Nat → Int32) (cells slots : Nat) (Wf : va_W → va_W) : Prop :=
  ∃ (ra rb lv ce en re cx rx px fx lo hi us : Nat) (Q P PA T : Nat → Nat) (st : Nat → va_W) (nn : Nat → Nat) (Z : Nat → Int) (e0 : Int32) (hv : Int) (h fl fh : Nat → Int64), pAll G Q st nn Z ∧ (∀ j : Nat, j < 12 → T j ≤ pN j) ∧ hI Z T us g g2 hv ∧ (cells ≤ 1000 + pC nn ∧ slots ≤ 100000 + pS nn) ∧ Wf = cW G ri ra rb lv ce en re cx rx px fx lo hi us Q P PA T st e0 g g2 fd hv gl gc ge gr h fl fh
/-- what is known of that state -/
def aF (g : Nat → Int32) (fd : Int) (gl : Nat → Int32) (gc : Nat → Int64) (ge gr : Nat → Int32) : Prop :=
  ∃ (N : Nat) (Q Q1 : Rat → Rat) (W : Rat → Int) (G0 : Nat → Int) (m ct : Nat) (cs : Nat → Nat → Int) (mu : Nat → Nat) (ex : Nat), tpN (gp g) 9 N ∧ 1 ≤ N ∧ isoW g N Q Q1 W G0 m ct cs ∧ fd = (ct : Int) ∧ ct ≤ 8 ∧ ex ≤ 30 ∧ (∀ i s : Nat, i < ct → s ≤ 30 → al cs ct s i → mlt (gp g) N (dy (cs s i) s) (dy (cs s i + 1) s) (mu i)) ∧ ∀ i : Nat, i < ct → lvd cs ct ex 31 i (gl i) (gc i) ∧ ge i = iZ (if tyl (gp g) N 0 ((gc i).toInt + 1) (gl i).toInt.toNat N = 0 then 1 else 0) ∧ (gr i).toInt = (mu i : Int)
def aI (g g2 : Nat → Int32) (fd : Int) (gl : Nat → Int32) (gc : Nat → Int64) (ge gr : Nat → Int32) : Prop :=
  (∀ i : Nat, i < 9 → ((g i).toInt.natAbs : Int) ≤ 1000000000) ∧ (∀ i : Nat, i < 9 → ((g2 i).toInt.natAbs : Int) ≤ 1000000000) ∧ (fd = -1 ∨ aF g fd gl gc ge gr)
theorem aI_fd {g g2 : Nat → Int32} {fd : Int} {gl : Nat → Int32} {gc : Nat → Int64} {ge gr : Nat → Int32} (h : aI g g2 fd gl gc ge gr) : -1 ≤ fd ∧ fd ≤ 8 := by
  rcases h.2.2 with e | ⟨N, Q, Q1, W, G0, m, ct, cs, mu, ex, h1, h2, h3, e, h5, h6⟩
  · omega
  · omega
/-- the reference's object at mq stands for the same -/
def isM (G : Nat → ClassId) (mq : Nat) (g g2 : Nat → Int32) (fd : Int) (gl : Nat → Int32) (gc : Nat → Int64) (Wm : va_W) : Prop :=
  ∃ (Q : Nat → Nat) (fL fS fN fD : Nat → Int32) (Z : Nat → Int) (a0 a1 : Int32) (a2 : Nat → Int32) (a3 : Nat → Int64) (a4 : Nat → Int32), Q 0 = mq ∧ mAll fL fS fN Z ∧ Wm = mU Q G (fL, fS, fN, fD, a0, a1, a2, a3, a4, g, g2) ∧ ((fd = -1 ∧ a0 = iZ 0 ∧ a1 = iZ 0) ∨ (0 ≤ fd ∧ fd ≤ 8 ∧ a0 = iZ 1 ∧ a1 = iZ fd ∧ ∀ i : Nat, (i : Int) < fd → a2 i = gl i ∧ a3 i = gc i))
theorem pmA (A F M S : va_W) : (A ++ ((F ++ M) ++ S)).Perm ((F ++ (A ++ M)) ++ S) := by
  rw [← List.append_assoc A (F ++ M) S, ← List.append_assoc A F M, ← List.append_assoc F A M]
  exact List.Perm.append_right S (List.Perm.append_right M List.perm_append_comm)
theorem pCS {G : Nat → ClassId} {Q : Nat → Nat} {st : Nat → va_W} {nn : Nat → Nat} {Z : Nat → Int} (h : pAll G Q st nn Z) : pC nn ≤ 1067 ∧ pS nn ≤ 397312 := by
  have := pG_le (P0 := 0) (P1 := 0) (c0 := pC nn) (s0 := pS nn) h ⟨by omega, by omega⟩
  exact this
section LAWC
variable {p : Program} {l : Launch} {e : Env} {R : Room} {s : State} {m : MethodId} {args : Array Value} {below : List Frame} {meth : Method} {c : Code} {D : va_G} {A : Nat → Prop} {nL cells slots : Nat} {Qp : State → Prop} {ws : va_W} {pc : Nat} {lv : List (Nat × Value)} {rest : List Value}
theorem w_wide (c' n' : Nat) (h1 : cells ≤ c') (h2 : slots ≤ n') (kk : ZW p l e R s m args below meth c D A nL c' n' Qp ws pc lv rest) : ZW p l e R s m args below meth c D A nL cells slots Qp ws pc lv rest := fun H locs ls hP hD hS hl T hT X => kk H locs ls hP hD hS hl T hT (st_tight X (by have := (st_hs X).1; omega) (by have := (st_hs X).2; omega))
end LAWC
