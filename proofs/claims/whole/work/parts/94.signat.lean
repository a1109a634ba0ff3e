/-- the changes of sign from the second row on, at a point -/
def chg (Z : Nat → Int) (T : Nat → Nat) (us : Nat) (nv : Int) (ex : Nat) (v : Int) : Prop := ∃ (Za : Nat → Int) (Ta : Nat → Nat) (od : Nat), (∀ q : Nat, q < 84 → Za q = Z q) ∧ (∀ j : Nat, j ≠ 11 → Ta j = T j) ∧ oD (qu Za 84 nv) Ta ex (us - 1) od ∧ v = ((vc (fun k => yV (qu Za 84 nv) Ta ex od (1 + k)) (us - 1) : Nat) : Int)
/-- the side of a polynomial at a point -/
def sdv (g : Nat → Int32) (nv : Int) (ex : Nat) (v : Int) : Prop := ∃ N : Nat, tpN (gp g) 9 N ∧ v = (tyl (gp g) N 0 nv ex N).sign
theorem hT_set {T : Nat → Nat} {N : Nat} (hT : ∀ j : Nat, j < 12 → T j ≤ pN j) (h : N ≤ 9) : ∀ j : Nat, j < 12 → qu T 11 N j ≤ pN j := fun j hj => by
  by_cases q : j = 11
  · rw [q, qu_same]; exact h
  · rw [qu_other _ _ q]; exact hT j hj
theorem chn_to2 {Z Z' : Nat → Int} {T T' : Nat → Nat} {us : Nat} (h : chn Z T us) (he : ∀ q : Nat, q < 61 → Z' q = Z q) (ht : ∀ j : Nat, j ≠ 11 → T' j = T j) (h11 : T' 11 ≤ 9) : chn Z' T' us ∧ ∀ j : Nat, j < 10 → zr Z' T' j = zr Z T j := by
  obtain ⟨a1, a2, a3, a4, a5, a6, a7, a8, a9, a10⟩ := h
  have hz : ∀ j : Nat, j < 10 → zr Z' T' j = zr Z T j := fun j hj => zr_congr (ht j (by omega)) (fun s hs => he _ (by have h7 := a1 j (by omega); have h6 := pB_61 (k := j) hj; omega))
  have h0 := ht 0 (by omega)
  have h1 := ht 1 (by omega)
  refine ⟨⟨fun j hj => ?_, fun i g1 g2 => lnk_congr (fun j hj => ⟨ht j (by omega), hz j (by omega)⟩) (a2 i g1 g2), fun i g1 s hs => ?_, a4, by rw [h1]; exact a5, fun g1 => ?_, by rw [h0]; exact a7, by rw [h0, h1]; exact a8, by rw [hz 0 (by omega), h0]; exact a9, fun g1 => by rw [hz 1 (by omega), h1]; exact a10 (by omega)⟩, hz⟩
  · by_cases q : j = 11
    · rw [q]; exact h11
    · rw [ht j q]; exact a1 j hj
  · rw [ht i (by omega)] at hs
    rw [he _ (by have h7 := a1 i (by omega); have h6 := pB_61 (k := i) (by omega); omega)]; exact a3 i g1 s hs
  · rw [h1] at g1
    refine ⟨(a6 g1).1, ?_⟩
    have h2 := (a6 g1).2
    unfold fnl at *
    rw [hz (us - 1) (by omega), hz (us - 2) (by omega), ht (us - 1) (by omega), ht (us - 2) (by omega)]
    exact h2
theorem hI_to {Z Z' : Nat → Int} {T T' : Nat → Nat} {us : Nat} {g g2 : Nat → Int32} {hv : Int} (h : hI Z T us g g2 hv) (he : ∀ q : Nat, q < 61 → Z' q = Z q) (ht : ∀ j : Nat, j ≠ 11 → T' j = T j) (h11 : T' 11 ≤ 9) : hI Z' T' us g g2 hv := by
  obtain ⟨h0, h1, h2, h3⟩ := h
  refine ⟨h0, fun q => ?_, fun q => ?_, fun q => ?_⟩
  · obtain ⟨k1, k2⟩ := chn_to2 (h1 q).1 he ht h11
    exact ⟨k1, by rw [k2 0 (by omega)]; exact (h1 q).2.1, by rw [k2 1 (by omega)]; exact (h1 q).2.2⟩
  · obtain ⟨k1, k2⟩ := chn_to2 (h2 q).1 he ht h11
    exact ⟨k1, by rw [k2 0 (by omega)]; exact (h2 q).2.1, by rw [k2 1 (by omega)]; exact (h2 q).2.2⟩
  · obtain ⟨k1, k2⟩ := chn_to2 (h3 q).1 he ht h11
    exact ⟨k1, by rw [k2 0 (by omega)]; exact (h3 q).2.1, by rw [k2 1 (by omega)]; exact (h3 q).2.2⟩
