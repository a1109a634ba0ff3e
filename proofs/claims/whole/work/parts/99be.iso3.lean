/-- the roots of a given polynomial: how many, and their cells -/
def isoW (g : Nat → Int32) (N : Nat) (Q Q1 : Rat → Rat) (W : Rat → Int) (G : Nat → Int) (m ct : Nat) (cs : Nat → Nat → Int) : Prop := sq (gp g) N Q Q1 W G m ∧ ct + 1 ≤ N ∧ (∀ x : Rat, (1073741824 : Rat) ≤ x → W x = (ct : Int)) ∧ (∀ x : Rat, x ≤ -(1073741824 : Rat) → W x = 0) ∧ ∀ s i : Nat, i < ct → (-((mxA g (N - 1) / ((g (N - 1)).toInt.natAbs : Int) + 2) * 2 ^ s) ≤ cs s i ∧ cs s i < (mxA g (N - 1) / ((g (N - 1)).toInt.natAbs : Int) + 2) * 2 ^ s) ∧ W (dy (cs s i) s) ≤ (i : Int) ∧ (i : Int) < W (dy (cs s i + 1) s)
theorem gp_in {g : Nat → Int32} {i : Nat} (h : i < 9) : gp g i = (g i).toInt := if_pos h
theorem isoW_ex {g : Nat → Int32} {N : Nat} (hN : tpN (gp g) 9 N) (hN1 : 1 ≤ N) (hg : ∀ i : Nat, i < 9 → ((g i).toInt.natAbs : Int) ≤ 1000000000) : ∃ (Q Q1 : Rat → Rat) (W : Rat → Int) (G : Nat → Int) (m ct : Nat) (cs : Nat → Nat → Int), isoW g N Q Q1 W G m ct cs := by
  have hN9 := hN.1
  have hl := tp_lead hN hN1
  have hld : gp g (N - 1) ≠ 0 := by rw [gp_in (by omega)]; exact hl
  obtain ⟨Q, Q1, W, G, m, hq, hW⟩ := sq_ex hN1 hld
  obtain ⟨L, hL⟩ : ∃ L : Int, L = ((g (N - 1)).toInt.natAbs : Int) := ⟨_, rfl⟩
  obtain ⟨M, hM⟩ : ∃ M : Int, M = mxA g (N - 1) := ⟨_, rfl⟩
  have hL0 : 0 < L := by omega
  have hM0 := (mxA_r hg (N - 1) (by omega)).1
  have hM1 := (mxA_r hg (N - 1) (by omega)).2
  rw [← hM] at hM0 hM1
  obtain ⟨b, hb⟩ : ∃ b : Int, b = M / L + 2 := ⟨_, rfl⟩
  have hdv : 0 ≤ M / L := Int.ediv_nonneg hM0 (by omega)
  have hdv2 : M / L ≤ M := Int.ediv_le_self _ hM0
  have hMi : ∀ i : Nat, i + 1 < N → ((gp g i).natAbs : Int) ≤ M := fun i hi => by
    rw [gp_in (by omega), hM]; exact mxA_ge g (N - 1) i (by omega)
  have hLi : L ≤ ((gp g (N - 1)).natAbs : Int) := by rw [gp_in (by omega), hL]; omega
  obtain ⟨o1, o2⟩ := cnt_out hq hN1 hM0 hMi hLi hL0 (b := b) (by rw [hb]; exact cauchy_bd hM0 hL0)
  obtain ⟨_, ⟨X0, x1, x2⟩, _⟩ := hq.1
  have hbr : (2 : Rat) ≤ (b : Rat) := by
    have : ((2 : Int) : Rat) ≤ (b : Rat) := Rat.intCast_le_intCast.2 (by omega)
    exact this
  have hbu : (b : Rat) ≤ (1073741824 : Rat) := by
    have : (b : Rat) ≤ ((1073741824 : Int) : Rat) := Rat.intCast_le_intCast.2 (by omega)
    exact this
  have hz : ∀ x : Rat, x ≤ -(b : Rat) → W x = 0 := fun x hx => by
    obtain ⟨X, h1, h2⟩ : ∃ X : Rat, X0 ≤ X ∧ -X ≤ x := by
      by_cases c : X0 ≤ -x
      · exact ⟨-x, c, by grind⟩
      · exact ⟨X0, by grind, by grind⟩
    rw [o2 (-X) x h2 hx]
    exact x2 X h1
  have hm : ∀ x y : Rat, x ≤ y → W x ≤ W y := fun x y h => cnt_mono hq.1 h
  have hb0 := hz (-(b : Rat)) (by grind)
  have hpos : 0 ≤ W (b : Rat) := by rw [← hb0]; exact hm _ _ (by grind)
  obtain ⟨ct, hct⟩ : ∃ ct : Nat, W (b : Rat) = (ct : Int) := ⟨(W (b : Rat)).toNat, by omega⟩
  obtain ⟨cs, hcs⟩ := cells_ex hm (show 0 ≤ b by omega) hb0 hct
  refine ⟨Q, Q1, W, G, m, ct, cs, hq, by have := hW (b : Rat); omega, fun x hx => ?_, fun x hx => hz x (by grind), fun s i hi => ?_⟩
  · rw [o1 (b : Rat) x (by grind) (by grind)]; exact hct
  · have := hcs s i hi
    rw [hb, hM, hL] at this
    exact this
/-- the class counts with it -/
theorem isoW_cls {g : Nat → Int32} {N : Nat} {Q Q1 : Rat → Rat} {W : Rat → Int} {G : Nat → Int} {m ct : Nat} {cs : Nat → Nat → Int} (h : isoW g N Q Q1 W G m ct cs) (hN : tpN (gp g) 9 N) {Z : Nat → Int} {T : Nat → Nat} {us : Nat} (hc : chR Z T us g) :
    (∀ (n : Int) (ex : Nat) (v : Int), upR Z T us n ex v → v = W (dy n ex)) ∧ ((vc (lS Z T 1) us : Nat) : Int) - ((vc (lS Z T 0) us : Nat) : Int) = (ct : Int) ∧ ∃ (Q' Q1' : Rat → Rat) (k : Rat), k ≠ 0 ∧ (∀ x : Rat, Q' x = k * Q x) ∧ sq (gp g) (T 0) Q' Q1' W (zr Z T (us - 1)) (T (us - 1)) := by
  obtain ⟨Q', Q1', W', s1, s2, X0, x1, s3⟩ := sq_cls hc.1 hc.2.1 hc.2.2
  have hT := T_eq hc hN
  obtain ⟨e1, _, ⟨k, k0, k1⟩, _⟩ := sq_uniq h.1 (by rw [← hT]; exact s1) (u := 1) (v := 1) (by decide) (by decide) (fun i _ => rfl)
  have eW : W' = W := funext e1
  rw [eW] at s1 s2 s3
  refine ⟨s2, ?_, Q', Q1', k, k0, k1, s1⟩
  obtain ⟨X, h1, h2⟩ : ∃ X : Rat, X0 ≤ X ∧ (1073741824 : Rat) ≤ X := by
    by_cases c : X0 ≤ 1073741824
    · exact ⟨1073741824, c, by grind⟩
    · exact ⟨X0, by grind, by grind⟩
  rw [← s3 X h1]
  exact h.2.2.1 X h2
/-- the reference counts with it -/
theorem isoW_ref {F : Nat → Int} {N : Nat} {Q Q1 : Rat → Rat} {W : Rat → Int} {G : Nat → Int} {m : Nat} (h : sq F N Q Q1 W G m) (hN : 1 ≤ N ∧ N ≤ 10) (hF : F (N - 1) ≠ 0) {f : Nat → Int} {Nf : Nat} {G' : Nat → Int} {NG d : Nat} (hf : freeR F N f Nf G' NG) {n len : Int} (hl : 0 < len) (ht : 1 < Nf → TV Nf d (mvd f Nf n len)) : UV Nf d (mvd f Nf n len) = W (dy (n + len) 30) - W (dy n 30) := by
  obtain ⟨⟨f1, f2⟩, ⟨k, k0, k1⟩, _⟩ := sq_free h hN hF hf
  have hd := sq_dense h hN.1 hF
  by_cases c : 1 < Nf
  · exact UVW h.1 hd c k0 k1 hl (ht c)
  · -- a constant has no root
    have e : Nf = 1 := by omega
    subst e
    unfold UV
    rw [if_neg (by omega), if_pos (by omega)]
    have hc : ∀ x : Rat, Q x ≠ 0 := fun x g => by
      have := k1 x
      rw [g] at this
      have h2 : rv f 1 x = (f 0 : Rat) := by show 0 + (f 0 : Rat) * x ^ 0 = _; grind
      rw [h2] at this
      have h3 := ne_cast f2
      rw [Nat.sub_self] at h3
      exact h3 (by rw [this]; grind)
    have hval : ∀ x y : Rat, Q x = Q y := fun x y => by
      have h1 := k1 x
      have h2 := k1 y
      have e1 : ∀ x : Rat, rv f 1 x = (f 0 : Rat) := fun x => by show 0 + (f 0 : Rat) * x ^ 0 = _; grind
      rw [e1] at h1 h2
      have : k * (Q x - Q y) = 0 := by grind
      rcases Rat.mul_eq_zero.1 this with u | u
      · exact absurd u k0
      · grind
    have hab := dy_lt (s := 30) (show n < n + len by omega)
    have := cnt_once h.1 hab (rsg_nz (hc (dy n 30))) rfl (fun z w g1 g2 g3 g4 => absurd (by rw [hval z (dy n 30)]) g4)
    rw [hval (dy (n + len) 30) (dy n 30), if_pos rfl] at this
    omega
