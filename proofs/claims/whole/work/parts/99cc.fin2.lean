/-- what the search counts at any of its polynomials -/
theorem UV_node {Q : Rat → Rat} {W : Rat → Int} (h : cnt Q W) (hd : ∀ x y : Rat, x < y → ∃ z : Rat, x < z ∧ z < y ∧ Q z ≠ 0) {N : Nat} (hN : 1 < N) {c : Nat → Int} {a w k : Rat} (hk : k ≠ 0) (hw : 0 < w) (hc : ∀ t : Rat, rv c N t = k * Q (a + t * w)) {d : Nat} (ht : TV N d c) : UV N d c = W (a + w) - W a := by
  have hc' : ∀ t : Rat, rv c N t = k * Q (a + t * (a + w - a)) := fun t => by rw [hc, show a + w - a = w by grind]
  have h1 := CVW h hd (by omega) d c a (a + w) k (by grind) hk hc' ht
  unfold UV
  rw [if_neg (show ¬ N ≤ 1 by omega), h1]
  have h2 := hc 1
  rw [← psum_rv, show a + 1 * w = a + w by grind] at h2
  by_cases c1 : Q (a + w) = 0
  · rw [if_pos c1, if_pos]
    · omega
    · refine ⟨hN, ?_⟩
      rw [c1] at h2
      have h3 : ((psum c N : Int) : Rat) = ((0 : Int) : Rat) := by rw [h2]; have : ((0 : Int) : Rat) = 0 := rfl; rw [this]; grind
      exact Rat.intCast_inj.1 h3
  · rw [if_neg c1, if_neg]
    · omega
    · intro g
      rw [g.2] at h2
      have : ((0 : Int) : Rat) = 0 := rfl
      rw [this] at h2
      rcases Rat.mul_eq_zero.1 h2.symm with u | u
      · exact hk u
      · exact c1 u
/-- a polynomial of the search, as the reference holds it: of the part of A without repeated factors -/
def ndQ (f : Nat → Int) (N : Nat) (Q : Rat → Rat) (D : Nat) (c : Nat → Int) (a w : Rat) : Prop := 0 < w ∧ (∃ k : Rat, k ≠ 0 ∧ ∀ t : Rat, rv c N t = k * Q (a + t * w)) ∧ (1 < N → nd (cut f N) N D c a w)
theorem ndQ_left {f c : Nat → Int} {N D : Nat} {Q : Rat → Rat} {a w : Rat} (hN : 1 ≤ N ∧ N ≤ 9) (h : ndQ f N Q D c a w) : ndQ f N Q (D + 1) (hlv c N) a (w / 2) := by
  obtain ⟨w0, ⟨k, k0, k1⟩, h2⟩ := h
  have p := p2pos (N - 1)
  refine ⟨by grind, ⟨(2 : Rat) ^ (N - 1) * k, fun g => ?_, fun t => ?_⟩, fun h1 => nd_left hN (h2 h1)⟩
  · rcases Rat.mul_eq_zero.1 g with u | u
    · grind
    · exact k0 u
  · rw [hlv_rv c hN.1, k1, show a + t / 2 * w = a + t * (w / 2) by grind]; grind
theorem ndQ_right {f c : Nat → Int} {N D : Nat} {Q : Rat → Rat} {a w : Rat} (hN : 1 ≤ N ∧ N ≤ 9) (h : ndQ f N Q D c a w) : ndQ f N Q (D + 1) (sh1 (hlv c N) N) (a + w / 2) (w / 2) := by
  obtain ⟨w0, ⟨k, k0, k1⟩, _⟩ := ndQ_left hN h
  refine ⟨w0, ⟨k, k0, fun t => ?_⟩, fun h1 => nd_right hN (h.2.2 h1)⟩
  rw [sh1_rv _ hN.1, k1, show a + (t + 1) * (w / 2) = a + w / 2 + t * (w / 2) by grind]
theorem ndQ_UV {f c : Nat → Int} {N D : Nat} {Q : Rat → Rat} {W : Rat → Int} (h : cnt Q W) (hd : ∀ x y : Rat, x < y → ∃ z : Rat, x < z ∧ z < y ∧ Q z ≠ 0) {a w : Rat} (hN : 1 ≤ N) (hn : ndQ f N Q D c a w) {d : Nat} (ht : 1 < N → TV N d c) : UV N d c = W (a + w) - W a := by
  obtain ⟨w0, ⟨k, k0, k1⟩, _⟩ := hn
  by_cases c1 : 1 < N
  · exact UV_node h hd c1 k0 w0 k1 (ht c1)
  · have e : N = 1 := by omega
    subst e
    unfold UV
    rw [if_neg (by omega), if_pos (by omega)]
    have hv : ∀ x : Rat, Q x = (c 0 : Rat) / k := fun x => by
      have h1 := k1 ((x - a) / w)
      have e1 : rv c 1 ((x - a) / w) = (c 0 : Rat) := by show 0 + (c 0 : Rat) * ((x - a) / w) ^ 0 = _; grind
      rw [e1, show a + (x - a) / w * w = x by grind] at h1
      rw [h1]; grind
    obtain ⟨z, _, _, hz⟩ := hd 0 1 (by grind)
    have hnz : Q a ≠ 0 := by rw [hv a, ← hv z]; exact hz
    have := cnt_once h (show a < a + w by grind) (rsg_nz hnz) rfl (fun x y g1 g2 g3 g4 => absurd (by rw [hv x, hv a]) g4)
    rw [hv (a + w), hv a, if_pos rfl] at this
    rw [hv a] at *
    omega
section
variable {g : Nat → Int32} {N : Nat} {Q Q1 : Rat → Rat} {W : Rat → Int} {G : Nat → Int} {m ct : Nat} {cs : Nat → Nat → Int}
/-- a root is alone in its cell just when the cell counts one -/
theorem al_iff1 (h : isoW g N Q Q1 W G m ct cs) {s i : Nat} (hi : i < ct) : al cs ct s i ↔ W (dy (cs s i + 1) s) - W (dy (cs s i) s) = 1 := by
  constructor
  · exact fun ha => al_one h hi ha
  · intro h1
    have h2 := (h.2.2.2.2 s i hi).2
    refine ⟨?_, ?_⟩
    · by_cases c : i = 0
      · exact Or.inl c
      · refine Or.inr (fun e => ?_)
        have h3 := (h.2.2.2.2 s (i - 1) (by omega)).2
        rw [e] at h3
        omega
    · by_cases c : ct ≤ i + 1
      · exact Or.inl c
      · refine Or.inr (fun e => ?_)
        have h3 := (h.2.2.2.2 s (i + 1) (by omega)).2
        rw [e] at h3
        omega
/-- where the search stands: at depth dp, place pl -/
def nodA (dp : Nat) (pl : Int) : Rat := -(2 : Rat) ^ 30 + (pl : Rat) * ((2 : Rat) ^ 31 / (2 : Rat) ^ dp)
theorem nodA_left (dp : Nat) (pl : Int) : nodA (dp + 1) (2 * pl) = nodA dp pl := by
  have := p2pos dp
  unfold nodA
  rw [Rat.intCast_mul, rat_pow_add]
  have e : ((2 : Int) : Rat) = 2 := rfl
  rw [e]; grind
theorem nodA_mid (dp : Nat) (pl : Int) : nodA (dp + 1) (2 * pl + 1) = nodA dp pl + (2 : Rat) ^ 31 / (2 : Rat) ^ dp / 2 := by
  have := p2pos dp
  unfold nodA
  rw [Rat.intCast_add, Rat.intCast_mul, rat_pow_add]
  have e : ((2 : Int) : Rat) = 2 := rfl
  have e1 : ((1 : Int) : Rat) = 1 := rfl
  rw [e, e1]; grind
theorem nodA_cell (s : Nat) (pl : Int) : nodA (s + 31) pl = dy (pl - 2 ^ (s + 30)) s ∧ nodA (s + 31) pl + (2 : Rat) ^ 31 / (2 : Rat) ^ (s + 31) = dy (pl - 2 ^ (s + 30) + 1) s := by
  have p1 := p2pos s
  have p2 := p2pos 31
  have e30 : (2 : Rat) ^ (s + 30) = (2 : Rat) ^ s * (2 : Rat) ^ 30 := rat_pow_add 2 s 30
  have e31 : (2 : Rat) ^ (s + 31) = (2 : Rat) ^ s * (2 : Rat) ^ 31 := rat_pow_add 2 s 31
  have o1 : ((1 : Int) : Rat) = 1 := rfl
  unfold nodA dy
  rw [Rat.intCast_add, Rat.intCast_sub, cast_pow2, e31, e30, o1]
  generalize (2 : Rat) ^ s = A at *
  generalize (2 : Rat) ^ 31 = B at *
  constructor <;> grind
/-- what the reference's search finds -/
theorem IR_ok (h : isoW g N Q Q1 W G m ct cs) (hd : ∀ x y : Rat, x < y → ∃ z : Rat, x < z ∧ z < y ∧ Q z ≠ 0) {f : Nat → Int} {Nf ex : Nat} (hN : 1 ≤ Nf ∧ Nf ≤ 9) : ∀ (k : Nat) (c : Nat → Int) (dp : Nat) (pl : Int) (res : Option (List (Int × Int))) (i0 i1 : Nat), ndQ f Nf Q dp c (nodA dp pl) ((2 : Rat) ^ 31 / (2 : Rat) ^ dp) → W (nodA dp pl) = (i0 : Int) → W (nodA dp pl + (2 : Rat) ^ 31 / (2 : Rat) ^ dp) = (i1 : Int) → dp ≤ 61 → (∀ i t : Nat, i0 ≤ i → i < i1 → ex ≤ t → t + 31 < dp → ¬ al cs ct t i) → IRl Nf ex k c dp pl res →
      (res = none ∧ ∃ i : Nat, i0 ≤ i ∧ i < i1 ∧ ∀ t : Nat, ex ≤ t → t ≤ 30 → ¬ al cs ct t i) ∨ ∃ r : List (Int × Int), res = some r ∧ r.length + i0 = i1 ∧ ∀ j : Nat, j < r.length → ∃ u : Nat, ex ≤ u ∧ u ≤ 30 ∧ al cs ct u (i0 + j) ∧ (∀ t : Nat, ex ≤ t → t < u → ¬ al cs ct t (i0 + j)) ∧ r[j]? = some ((u : Int), cs u (i0 + j))
  | 0, c, dp, pl, res, i0, i1, _, _, _, _, _, hI => absurd hI (fun g => g)
  | k + 1, c, dp, pl, res, i0, i1, hn, hi0, hi1, hdp, hal, hI => by
    obtain ⟨d, d1, d2, d3⟩ := hI
    have hU := ndQ_UV h.1.1 hd hN.1 hn d2
    rw [hi0, hi1] at hU
    have hw : (0 : Rat) < (2 : Rat) ^ 31 / (2 : Rat) ^ dp := hn.1
    have hmo := isoW_mono h (nodA dp pl) (nodA dp pl + (2 : Rat) ^ 31 / (2 : Rat) ^ dp) (by grind)
    rw [hi0, hi1] at hmo
    have hc1 := isoW_r h (nodA dp pl + (2 : Rat) ^ 31 / (2 : Rat) ^ dp)
    rw [hi1] at hc1
    rw [hU] at d3
    -- at levels from 0 on the place is a cell
    have hcell : 31 ≤ dp → ∀ i : Nat, i0 ≤ i → i < i1 → cs (dp - 31) i = pl - 2 ^ (dp - 1) ∧ (al cs ct (dp - 31) i ↔ (i1 : Int) - (i0 : Int) = 1) := fun h31 i g1 g2 => by
      obtain ⟨s, rfl⟩ : ∃ s : Nat, dp = s + 31 := ⟨dp - 31, by omega⟩
      obtain ⟨e1, e2⟩ := nodA_cell s pl
      rw [e1] at hi0
      rw [e2] at hi1
      rw [show s + 31 - 31 = s by omega, show s + 31 - 1 = s + 30 by omega]
      have e3 := isoW_cell h (s := s) (i := i) (by omega) (n := pl - 2 ^ (s + 30)) (by omega) (by omega)
      refine ⟨e3, ?_⟩
      rw [al_iff1 h (by omega), e3, hi0, hi1]
    rcases d3 with ⟨u1, u2⟩ | ⟨u1, u2⟩ | ⟨u1, u2, u3, u4⟩ | ⟨u1, u2, u3, u4⟩
    · right
      exact ⟨[], u2, by show 0 + i0 = i1; omega, fun j hj => absurd hj (by show ¬ j < 0; omega)⟩
    · right
      obtain ⟨v1, v2⟩ := u1
      obtain ⟨e1, e2⟩ := hcell (by omega) i0 (Nat.le_refl _) (by omega)
      refine ⟨_, u2, by show 1 + i0 = i1; omega, fun j hj => ?_⟩
      have hj0 : j = 0 := by have : j < 1 := hj; omega
      subst hj0
      rw [Nat.add_zero]
      refine ⟨dp - 31, by omega, by omega, e2.2 v1, fun t t1 t2 => hal i0 t (Nat.le_refl _) (by omega) t1 (by omega), ?_⟩
      rw [e1]
      show some (((dp : Int) - 31, pl - 2 ^ (dp - 1)) : Int × Int) = some ((((dp - 31 : Nat) : Int)), pl - 2 ^ (dp - 1))
      rw [show ((dp - 31 : Nat) : Int) = (dp : Int) - 31 by omega]
    · left
      refine ⟨u4, i0, Nat.le_refl _, by omega, fun t t1 t2 => ?_⟩
      by_cases c1 : t + 31 < dp
      · exact hal i0 t (Nat.le_refl _) (by omega) t1 c1
      · obtain ⟨_, e2⟩ := hcell (by omega) i0 (Nat.le_refl _) (by omega)
        have et : t = dp - 31 := by omega
        rw [et]
        exact fun q => u2 ⟨e2.1 q, by omega⟩
    · -- both halves
      have hal2 : ∀ i t : Nat, i0 ≤ i → i < i1 → ex ≤ t → t + 31 < dp + 1 → ¬ al cs ct t i := fun i t g1 g2 g3 g4 => by
        by_cases c1 : t + 31 < dp
        · exact hal i t g1 g2 g3 c1
        · obtain ⟨_, e2⟩ := hcell (by omega) i g1 g2
          have et : t = dp - 31 := by omega
          rw [et]
          exact fun q => u2 ⟨e2.1 q, by omega⟩
      have hw2 : (2 : Rat) ^ 31 / (2 : Rat) ^ (dp + 1) = (2 : Rat) ^ 31 / (2 : Rat) ^ dp / 2 := by
        have := p2pos dp
        rw [rat_pow_add]; grind
      have nl := ndQ_left hN hn
      have nr := ndQ_right hN hn
      rw [← hw2, ← nodA_left dp pl] at nl
      rw [← hw2, hw2, ← nodA_mid dp pl, ← hw2] at nr
      have hmid := isoW_r h (nodA (dp + 1) (2 * pl + 1))
      obtain ⟨im, him⟩ : ∃ im : Nat, W (nodA (dp + 1) (2 * pl + 1)) = (im : Int) := ⟨(W (nodA (dp + 1) (2 * pl + 1))).toNat, by omega⟩
      have hmm := nodA_mid dp pl
      have m1 := isoW_mono h (nodA dp pl) (nodA (dp + 1) (2 * pl + 1)) (by grind)
      have m2 := isoW_mono h (nodA (dp + 1) (2 * pl + 1)) (nodA dp pl + (2 : Rat) ^ 31 / (2 : Rat) ^ dp) (by grind)
      rw [hi0, him] at m1
      rw [hi1, him] at m2
      have el : nodA (dp + 1) (2 * pl) + (2 : Rat) ^ 31 / (2 : Rat) ^ (dp + 1) = nodA (dp + 1) (2 * pl + 1) := by rw [nodA_left, hw2, hmm]
      have er : nodA (dp + 1) (2 * pl + 1) + (2 : Rat) ^ 31 / (2 : Rat) ^ (dp + 1) = nodA dp pl + (2 : Rat) ^ 31 / (2 : Rat) ^ dp := by rw [hw2, hmm]; grind
      have IL := fun res => IR_ok h hd hN k (hlv c Nf) (dp + 1) (2 * pl) res i0 im nl (by rw [nodA_left]; exact hi0) (by rw [el]; exact him) (by omega) (fun i t g1 g2 => hal2 i t g1 (by omega))
      have IRr := fun res => IR_ok h hd hN k (sh1 (hlv c Nf) Nf) (dp + 1) (2 * pl + 1) res im i1 nr him (by rw [er]; exact hi1) (by omega) (fun i t g1 g2 => hal2 i t (by omega) g2)
      rcases u4 with ⟨v1, v2⟩ | ⟨r1, v1, v2⟩
      · rcases IL none v1 with ⟨_, i, g1, g2, g3⟩ | ⟨r, g1, _⟩
        · exact Or.inl ⟨v2, i, g1, by omega, g3⟩
        · exact absurd g1 (by simp)
      · rcases IL (some r1) v1 with ⟨g1, _⟩ | ⟨r, g1, g2, g3⟩
        · exact absurd g1 (by simp)
        · obtain rfl : r1 = r := by simpa using g1
          rcases v2 with ⟨w1, w2⟩ | ⟨r2, w1, w2⟩
          · rcases IRr none w1 with ⟨_, i, q1, q2, q3⟩ | ⟨r, q1, _⟩
            · exact Or.inl ⟨w2, i, by omega, q2, q3⟩
            · exact absurd q1 (by simp)
          · rcases IRr (some r2) w1 with ⟨q1, _⟩ | ⟨r', q1, q2, q3⟩
            · exact absurd q1 (by simp)
            · obtain rfl : r2 = r' := by simpa using q1
              right
              refine ⟨r1 ++ r2, w2, by rw [List.length_append]; omega, fun j hj => ?_⟩
              rw [List.length_append] at hj
              rcases Nat.lt_or_ge j r1.length with q | q
              · obtain ⟨u, a1, a2, a3, a4, a5⟩ := g3 j q
                exact ⟨u, a1, a2, a3, a4, by rw [List.getElem?_append_left q]; exact a5⟩
              · obtain ⟨u, a1, a2, a3, a4, a5⟩ := q3 (j - r1.length) (by omega)
                rw [show im + (j - r1.length) = i0 + j by omega] at a3 a4 a5
                exact ⟨u, a1, a2, a3, a4, by rw [List.getElem?_append_right q]; exact a5⟩
/-- and that it ends -/
theorem IK_ok (h : isoW g N Q Q1 W G m ct cs) (hd : ∀ x y : Rat, x < y → ∃ z : Rat, x < z ∧ z < y ∧ Q z ≠ 0) {f : Nat → Int} {Nf ex : Nat} (hN : 1 ≤ Nf ∧ Nf ≤ 9) (hct : ct ≤ 8) (hg : 1 < Nf → good (cut f Nf) Nf) (hc1 : Nf = 1 → ∀ c : Nat → Int, ∀ D : Nat, ∀ a w : Rat, ndQ f Nf Q D c a w → D ≤ 61 → okB c Nf) : ∀ (k : Nat) (c : Nat → Int) (dp : Nat) (a w : Rat) (b : Nat), ndQ f Nf Q dp c a w → W (a + w) - W a ≤ (b : Int) → dp + k = 62 → 1 ≤ k → IKl Nf ex k c dp b
  | 0, c, dp, a, w, b, _, _, _, hk => absurd hk (by omega)
  | k + 1, c, dp, a, w, b, hn, hb, hdk, _ => by
    have hTV : 1 < Nf → TV Nf 1800 c := fun h1 => nd_TV (hg h1) 1800 dp c a w (hn.2.2 h1) (by omega) (by omega)
    have hU := ndQ_UV h.1.1 hd hN.1 hn (d := 1800) hTV
    have r1 := isoW_r h a
    have r2 := isoW_r h (a + w)
    refine ⟨?_, 1800, by decide, hTV, by rw [hU]; omega, fun g1 => by have := g1.1; rw [hU] at this; omega, fun g1 g2 g3 => ?_⟩
    · by_cases c1 : 1 < Nf
      · exact nd_ok (hg c1) (hn.2.2 c1) (by omega)
      · exact hc1 (by omega) c dp a w hn (by omega)
    · have nl := ndQ_left hN hn
      have nr := ndQ_right hN hn
      have m1 := isoW_mono h a (a + w / 2) (by have := hn.1; grind)
      have m2 := isoW_mono h (a + w / 2) (a + w) (by have := hn.1; grind)
      have e : a + w / 2 + w / 2 = a + w := by grind
      refine ⟨(W (a + w / 2) - W a).toNat, (W (a + w) - W (a + w / 2)).toNat, by omega, IK_ok h hd hN hct hg hc1 k _ (dp + 1) a (w / 2) _ nl (by omega) (by omega) (by omega), IK_ok h hd hN hct hg hc1 k _ (dp + 1) (a + w / 2) (w / 2) _ nr (by rw [e]; omega) (by omega) (by omega), tw_ok c hN.1⟩
end
