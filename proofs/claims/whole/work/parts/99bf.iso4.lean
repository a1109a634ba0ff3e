section
variable {g : Nat → Int32} {N : Nat} {Q Q1 : Rat → Rat} {W : Rat → Int} {G : Nat → Int} {m ct : Nat} {cs : Nat → Nat → Int}
theorem isoW_mono (h : isoW g N Q Q1 W G m ct cs) (x y : Rat) (hxy : x ≤ y) : W x ≤ W y := cnt_mono h.1.1 hxy
theorem isoW_r (h : isoW g N Q Q1 W G m ct cs) (x : Rat) : 0 ≤ W x ∧ W x ≤ (ct : Int) := by
  constructor
  · by_cases c : x ≤ -1073741824
    · rw [h.2.2.2.1 x c]; omega
    · rw [← h.2.2.2.1 (-1073741824) (by grind)]; exact isoW_mono h _ _ (by grind)
  · by_cases c : 1073741824 ≤ x
    · rw [h.2.2.1 x c]; omega
    · rw [← h.2.2.1 1073741824 (by grind)]; exact isoW_mono h _ _ (by grind)
theorem isoW_iff (h : isoW g N Q Q1 W G m ct cs) {s i : Nat} (hi : i < ct) (x : Int) : ((i : Int) < W (dy x s) ↔ cs s i < x) := by
  have h1 := (h.2.2.2.2 s i hi).2
  constructor
  · intro hv
    rcases Int.lt_or_le (cs s i) x with c | c
    · exact c
    · have := isoW_mono h _ _ (dy_le (s := s) c); omega
  · intro hc
    have := isoW_mono h _ _ (dy_le (s := s) (show cs s i + 1 ≤ x by omega)); omega
theorem isoW_cell (h : isoW g N Q Q1 W G m ct cs) {s i : Nat} (hi : i < ct) {n : Int} (h1 : W (dy n s) ≤ (i : Int)) (h2 : (i : Int) < W (dy (n + 1) s)) : cs s i = n := by
  have h3 := (isoW_iff h hi (n + 1)).1 h2
  rcases Int.lt_or_le (cs s i) n with c | c
  · have := (isoW_iff h hi n).2 c; omega
  · omega
theorem isoW_half (h : isoW g N Q Q1 W G m ct cs) {s i : Nat} (hi : i < ct) : cs s i = cs (s + 1) i / 2 := by
  have h1 := (h.2.2.2.2 (s + 1) i hi).2
  have e : ∀ n : Int, dy (n * 2) (s + 1) = dy n s := fun n => dy_up n s 1
  refine isoW_cell h hi ?_ ?_
  · rw [← e]
    have := isoW_mono h _ _ (dy_le (s := s + 1) (show cs (s + 1) i / 2 * 2 ≤ cs (s + 1) i by omega)); omega
  · rw [← e]
    have := isoW_mono h _ _ (dy_le (s := s + 1) (show cs (s + 1) i + 1 ≤ (cs (s + 1) i / 2 + 1) * 2 by omega)); omega
theorem isoW_sort (h : isoW g N Q Q1 W G m ct cs) {s i j : Nat} (hij : i ≤ j) (hj : j < ct) : cs s i ≤ cs s j := by
  have h1 := (h.2.2.2.2 s i (by omega)).2
  have h2 := (h.2.2.2.2 s j hj).2
  rcases Int.lt_or_le (cs s j) (cs s i) with c | c
  · have := isoW_mono h _ _ (dy_le (s := s) (show cs s j + 1 ≤ cs s i by omega)); omega
  · exact c
theorem isoW_only (h : isoW g N Q Q1 W G m ct cs) {s i : Nat} (hi : i < ct) {a b : Int} (hoth : ∀ j : Nat, j < ct → j ≠ i → cs s j < a ∨ b ≤ cs s j) {x : Int} (hax : a ≤ x) (hxb : x ≤ b) (hib : cs s i < b) : W (dy b s) - W (dy x s) = if cs s i < x then 0 else 1 := by
  have hb := isoW_r h (dy b s)
  have hx := isoW_r h (dy x s)
  have hm := isoW_mono h _ _ (dy_le (s := s) hxb)
  -- whatever is counted between is root i
  have key : ∀ j : Nat, W (dy x s) ≤ (j : Int) → (j : Int) < W (dy b s) → j = i ∧ x ≤ cs s i := fun j h1 h2 => by
    have hj : j < ct := by omega
    have h3 := (isoW_iff h hj b).1 h2
    have h4 : ¬ cs s j < x := fun q => by have := (isoW_iff h hj x).2 q; omega
    by_cases c : j = i
    · exact ⟨c, by rw [← c]; omega⟩
    · rcases hoth j hj c with q | q <;> omega
  by_cases c : cs s i < x
  · rw [if_pos c]
    rcases Int.lt_or_le (W (dy x s)) (W (dy b s)) with q | q
    · have := key (W (dy x s)).toNat (by omega) (by omega); omega
    · omega
  · rw [if_neg c]
    have h5 := (isoW_iff h hi b).2 hib
    have h6 : ¬ ((i : Int) < W (dy x s)) := fun q => c ((isoW_iff h hi x).1 q)
    have h7 : (W (dy b s)) = (i : Int) + 1 := by
      rcases Int.lt_or_le ((i : Int) + 1) (W (dy b s)) with q | q
      · have := (key (i + 1) (by omega) (by omega)).1; omega
      · omega
    have h8 : W (dy x s) = (i : Int) := by
      rcases Int.lt_or_le (W (dy x s)) (i : Int) with q | q
      · have := (key (W (dy x s)).toNat (by omega) (by omega)).1; omega
      · omega
    omega
theorem isoW_clF (h : isoW g N Q Q1 W G m ct cs) (hN : tpN (gp g) 9 N) {Z : Nat → Int} {T : Nat → Nat} {us s : Nat} (hc : chR Z T us g) : clF Z T us s ct (cs s) := fun x v _ _ hv => by
  have e := (isoW_cls h hN hc).1 x s v hv
  rw [e]
  have := isoW_r h (dy x s)
  exact ⟨this.1, this.2, fun i hi => isoW_iff h hi x⟩
theorem isoW_ssF (h : isoW g N Q Q1 W G m ct cs) (hN : tpN (gp g) 9 N) (hN1 : 1 ≤ N) {Z : Nat → Int} {T : Nat → Nat} {us s : Nat} (hc : chR Z T us g) {i : Nat} (hi : i < ct) {a b : Int} (ha : a ≤ cs s i) (hb : cs s i < b) (hoth : ∀ j : Nat, j < ct → j ≠ i → cs s j < a ∨ b ≤ cs s j) : ssF (ssd Z T us s) a b (cs s i) := by
  obtain ⟨_, _, Q', Q1', k, k0, k1, hq⟩ := isoW_cls h hN hc
  have hld : gp g (T 0 - 1) ≠ 0 := by rw [T_eq hc hN, gp_in (by have := hN.1; omega)]; exact tp_lead hN hN1
  have hd := sq_dense hq hc.1.2.2.2.2.2.2.1 hld
  intro x hx1 hx2
  rw [ssd_Q hc hq, ssd_Q hc hq]
  have zero : ∀ y : Int, rsg (Q' (dy y s)) = 0 → Q' (dy y s) = 0 := fun y q => by
    rcases rsg_cases (Q' (dy y s)) with ⟨_, e⟩ | ⟨e, _⟩ | ⟨_, e⟩
    · rw [e] at q; exact absurd q (by decide)
    · exact e
    · rw [e] at q; exact absurd q (by decide)
  refine ⟨fun q => ?_, fun q1 q2 => ?_⟩
  · have hz := zero x q
    have hj := cnt_jump hq.1 hd (dy_lt (s := s) (show x - 1 < x by omega)) hz
    have h1 := isoW_r h (dy (x - 1) s)
    have h2 := isoW_r h (dy x s)
    obtain ⟨j, hj9⟩ : ∃ j : Nat, (j : Int) = W (dy x s) - 1 := ⟨(W (dy x s) - 1).toNat, by omega⟩
    have hjc : j < ct := by omega
    have e := isoW_cell h (s := s) hjc (n := x - 1) (by omega) (by rw [show x - 1 + 1 = x by omega]; omega)
    by_cases c : j = i
    · rw [← c]; omega
    · rcases hoth j hjc c with u | u <;> omega
  · have h1 : Q' (dy x s) ≠ 0 := fun e => q1 (by rw [e]; exact rsg_zero)
    have h2 : Q' (dy b s) ≠ 0 := fun e => q2 (by rw [e]; exact rsg_zero)
    have h3 := cnt_par hq.1 hd (dy_le (s := s) hx2) h1 h2
    have h4 := isoW_only h hi hoth (show a ≤ x by omega) hx2 hb
    by_cases c : cs s i < x
    · rw [if_pos c] at h4
      rw [h4, if_pos (by decide)] at h3
      exact ⟨fun _ => c, fun _ => h3.symm⟩
    · rw [if_neg c] at h4
      rw [h4, if_neg (by decide)] at h3
      refine ⟨fun e => ?_, fun e => absurd e c⟩
      rcases rsg_nz h1 with u | u <;> omega
end
