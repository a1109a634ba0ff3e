theorem top_tp {g : Nat → Int32} {N : Nat} : topN g N ↔ tpN (gp g) 9 N := by
  constructor
  · rintro ⟨h1, h2, h3⟩
    refine ⟨h1, fun i a b => by rw [gp_in b]; exact h2 i a b, fun i hi => by rw [gp_in (by omega)]; exact h3 i hi⟩
  · rintro ⟨h1, h2, h3⟩
    refine ⟨h1, fun i a b => by have := h2 i a b; rw [gp_in b] at this; exact this, fun i hi => by have := h3 i hi; rw [gp_in (by omega)] at this; exact this⟩
theorem gz_gp {g : Nat → Int32} {i : Nat} (h : i < 9) : gz g i = gp g i := (gp_in h).symm
theorem hrn_tyl (c : Nat → Int) (N : Nat) (n : Int) (ex : Nat) : ∀ m : Nat, hrn c N n ex m = tyl c N 0 n ex m
  | 0 => rfl
  | m + 1 => by
    show hrn c N n ex m * n + 1 * (c (N - 1 - m) * 2 ^ (ex * m)) = tyl c N 0 n ex m * n + c (N - 1 - m) * 1 * 2 ^ (ex * m)
    rw [hrn_tyl c N n ex m, Int.one_mul, Int.mul_one]
theorem tyl_same {c e : Nat → Int} {N od ex : Nat} {nu : Int} (h : ∀ i : Nat, i < N → c i = e i) : tyl c N od nu ex N = tyl e N od nu ex N := tyl_congr' h N (Nat.le_refl _)
theorem sq_congr {F F' : Nat → Int} {N : Nat} {Q Q1 : Rat → Rat} {W : Rat → Int} {G : Nat → Int} {m : Nat} (h : sq F N Q Q1 W G m) (e : ∀ i : Nat, i < N → F' i = F i) : sq F' N Q Q1 W G m := by
  obtain ⟨a1, a2, a3, a4, a5, ⟨a6, a7⟩, a8⟩ := h
  have e1 : ∀ x : Rat, rv F' N x = rv F N x := fun x => rv_congr x e
  have e2 : ∀ x : Rat, rv (der F') (N - 1) x = rv (der F) (N - 1) x := fun x => rv_congr x (fun i hi => by unfold der; rw [e (i + 1) (by omega)])
  exact ⟨a1, a2, fun x => by rw [e1]; exact a3 x, fun x => by rw [e2]; exact a4 x, a5, ⟨dv_same e1 a6, dv_same e2 a7⟩, fun g l g1 g2 => a8 g l (dv_same (fun x => (e1 x).symm) g1) (dv_same (fun x => (e2 x).symm) g2)⟩
theorem clamp_r {n most : Int} (h : 0 ≤ most) : -most ≤ clampZ n most ∧ clampZ n most ≤ most := by
  unfold clampZ
  split
  · omega
  · split <;> omega
section
variable {g : Nat → Int32} {N : Nat} {Q Q1 : Rat → Rat} {W : Rat → Int} {G : Nat → Int} {m ct : Nat} {cs : Nat → Nat → Int}
theorem fine_dy (n : Int) {e : Nat} (he : e ≤ 30) : dy (n * 2 ^ (30 - e)) 30 = dy n e := by
  have := dy_up n e (30 - e)
  rw [show e + (30 - e) = 30 by omega] at this
  exact this
theorem cl_30 (e : Nat) : dy (2 ^ (30 + e)) e = (1073741824 : Rat) := by
  have h := dy_mulp 1073741824 e
  have e1 : (1073741824 : Int) * 2 ^ e = 2 ^ (30 + e) := by rw [Int.pow_add]; rfl
  rw [e1] at h
  rw [h]; rfl
/-- far points count as the nearest of the reference's -/
theorem clampW (h : isoW g N Q Q1 W G m ct cs) (n : Int) {e : Nat} (he : e ≤ 30) : W (dy (clampZ n (2 ^ (30 + e)) * 2 ^ (30 - e)) 30) = W (dy n e) := by
  rw [fine_dy _ he]
  have c := cl_30 e
  have c2 : dy (-2 ^ (30 + e)) e = -(1073741824 : Rat) := by
    have : dy (-2 ^ (30 + e)) e = - dy (2 ^ (30 + e)) e := by
      have p := p2pos e
      unfold dy
      rw [Rat.intCast_neg]; grind
    rw [this, c]
  unfold clampZ
  split
  · rename_i q
    have h1 := dy_le (s := e) (show (2 : Int) ^ (30 + e) ≤ n by omega)
    rw [c] at h1 ⊢
    rw [h.2.2.1 _ h1, h.2.2.1 _ (by grind)]
  · split
    · rename_i q
      have h1 := dy_le (s := e) (show n ≤ -(2 : Int) ^ (30 + e) by omega)
      rw [c2] at h1 ⊢
      rw [h.2.2.2.1 _ h1, h.2.2.2.1 _ (by grind)]
    · rfl
theorem fine_range (n : Int) {e : Nat} (he : e ≤ 30) : -1152921504606846976 ≤ clampZ n (2 ^ (30 + e)) * 2 ^ (30 - e) ∧ clampZ n (2 ^ (30 + e)) * 2 ^ (30 - e) ≤ 1152921504606846976 := by
  have hp : (0 : Int) < 2 ^ (30 - e) := Int.pow_pos (by decide)
  have hq : (0 : Int) ≤ 2 ^ (30 + e) := Int.le_of_lt (Int.pow_pos (by decide))
  obtain ⟨h1, h2⟩ := clamp_r (n := n) hq
  have e60 : (2 : Int) ^ (30 + e) * 2 ^ (30 - e) = 1152921504606846976 := by
    rw [← Int.pow_add, show 30 + e + (30 - e) = 60 by omega]; rfl
  have h3 := Int.mul_le_mul_of_nonneg_right h2 (Int.le_of_lt hp)
  have h4 := Int.mul_le_mul_of_nonneg_right h1 (Int.le_of_lt hp)
  rw [Int.neg_mul] at h4
  omega
theorem clamp_mono {a b most : Int} (hm : 0 ≤ most) (h : a ≤ b) : clampZ a most ≤ clampZ b most := by
  unfold clampZ
  split <;> split <;> (try split) <;> (try split) <;> omega
/-- which fraction is below is seen alike -/
theorem fine_le {n k : Int} {e f : Nat} (he : e ≤ 30) (hf : f ≤ 30) (h : ¬ (n * 2 ^ f < k * 2 ^ e)) : clampZ k (2 ^ (30 + f)) * 2 ^ (30 - f) ≤ clampZ n (2 ^ (30 + e)) * 2 ^ (30 - e) := by
  -- both in units of 2 to the power -30
  have key : ∀ (z : Int) (s : Nat), s ≤ 30 → clampZ z (2 ^ (30 + s)) * 2 ^ (30 - s) = clampZ (z * 2 ^ (30 - s)) 1152921504606846976 := fun z s hs => by
    have hp : (0 : Int) < 2 ^ (30 - s) := Int.pow_pos (by decide)
    have e60 : (2 : Int) ^ (30 + s) * 2 ^ (30 - s) = 1152921504606846976 := by
      rw [← Int.pow_add, show 30 + s + (30 - s) = 60 by omega]; rfl
    have i1 : (2 : Int) ^ (30 + s) < z ↔ 1152921504606846976 < z * 2 ^ (30 - s) := by
      rw [← e60]; exact (Int.mul_lt_mul_right hp).symm
    have i2 : z < -(2 : Int) ^ (30 + s) ↔ z * 2 ^ (30 - s) < -1152921504606846976 := by
      rw [← e60, ← Int.neg_mul]; exact (Int.mul_lt_mul_right hp).symm
    unfold clampZ
    by_cases c1 : (2 : Int) ^ (30 + s) < z
    · rw [if_pos c1, if_pos (i1.1 c1), e60]
    · rw [if_neg c1, if_neg (fun q => c1 (i1.2 q))]
      by_cases c2 : z < -(2 : Int) ^ (30 + s)
      · rw [if_pos c2, if_pos (i2.1 c2), Int.neg_mul, e60]
      · rw [if_neg c2, if_neg (fun q => c2 (i2.2 q))]
  rw [key k f hf, key n e he]
  refine clamp_mono (by decide) ?_
  have hp : (0 : Int) < 2 ^ (e + f) := Int.pow_pos (by decide)
  have a1 : k * 2 ^ (30 - f) * 2 ^ (e + f) = k * 2 ^ e * 2 ^ 30 := by
    rw [Int.mul_assoc, Int.mul_assoc, ← Int.pow_add, ← Int.pow_add, show 30 - f + (e + f) = e + 30 by omega]
  have a2 : n * 2 ^ (30 - e) * 2 ^ (e + f) = n * 2 ^ f * 2 ^ 30 := by
    rw [Int.mul_assoc, Int.mul_assoc, ← Int.pow_add, ← Int.pow_add, show 30 - e + (e + f) = f + 30 by omega]
  have a3 : k * 2 ^ e * 2 ^ 30 ≤ n * 2 ^ f * 2 ^ 30 := Int.mul_le_mul_of_nonneg_right (by omega) (by decide)
  rw [← a1, ← a2] at a3
  exact Int.le_of_mul_le_mul_right a3 hp
/-- between: both answer alike -/
theorem eq_between (h : isoW g N Q Q1 W G m ct cs) (hN : tpN (gp g) 9 N) (hN1 : 1 ≤ N) {n k : Int} {e f : Nat} (he : e ≤ 30) (hf : f ≤ 30) {Z : Nat → Int} {T : Nat → Nat} {us : Nat} (hc : chR Z T us g) {v1 v2 : Int} (h2 : upR Z T us k f v2) (h1 : upR Z T us n e v1) (hlt : n * 2 ^ f < k * 2 ^ e) :
    (clampZ k (2 ^ (30 + f)) * 2 ^ (30 - f) ≤ clampZ n (2 ^ (30 + e)) * 2 ^ (30 - e) → v2 - v1 = 0) ∧ ∀ v : Int, clampZ n (2 ^ (30 + e)) * 2 ^ (30 - e) < clampZ k (2 ^ (30 + f)) * 2 ^ (30 - f) → cntR (gz g) N (clampZ n (2 ^ (30 + e)) * 2 ^ (30 - e)) (clampZ k (2 ^ (30 + f)) * 2 ^ (30 - f) - clampZ n (2 ^ (30 + e)) * 2 ^ (30 - e)) v → v = v2 - v1 := by
  have hN9 := hN.1
  have e1 := (isoW_cls h hN hc).1 n e v1 h1
  have e2 := (isoW_cls h hN hc).1 k f v2 h2
  have c1 := clampW h n he
  have c2 := clampW h k hf
  refine ⟨fun hle => ?_, fun v hl hv => ?_⟩
  · have t1 := isoW_mono h _ _ (dy_le (s := 30) hle)
    rw [c1, c2] at t1
    have t2 : dy n e ≤ dy k f := by
      have p := p2pos e
      have q := p2pos f
      have a1 := dy_mul n e
      have a2 := dy_mul k f
      have a3 : ((n * 2 ^ f : Int) : Rat) ≤ ((k * 2 ^ e : Int) : Rat) := Rat.intCast_le_intCast.2 (by omega)
      rw [Rat.intCast_mul, Rat.intCast_mul, cast_pow2, cast_pow2, ← a1, ← a2] at a3
      exact Rat.le_of_mul_le_mul_left (c := (2 : Rat) ^ e * (2 : Rat) ^ f) (by grind) (Rat.mul_pos p q)
    have t3 := isoW_mono h _ _ t2
    omega
  · obtain ⟨f0, Nf, G0, NG, d, w1, w2, w3, w4, w5⟩ := hv
    have hs := sq_congr h.1 (F' := gz g) (fun i hi => gz_gp (by omega))
    have hld : gz g (N - 1) ≠ 0 := tp_lead hN hN1
    have := isoW_ref hs ⟨hN1, by omega⟩ hld w1 (by omega) w4
    rw [w5, this, Int.add_comm, Int.sub_add_cancel, c1, c2, e1, e2]
theorem eq_between0 {n k : Int} {e f : Nat} (he : e ≤ 30) (hf : f ≤ 30) (hlt : ¬ (n * 2 ^ f < k * 2 ^ e)) : ¬ (clampZ n (2 ^ (30 + e)) * 2 ^ (30 - e) < clampZ k (2 ^ (30 + f)) * 2 ^ (30 - f)) := by
  have := fine_le he hf hlt
  omega
/-- roots: both answer alike -/
theorem eq_roots (h : isoW g N Q Q1 W G m ct cs) (hN : tpN (gp g) 9 N) (hN1 : 1 ≤ N) {v : Int} (hv : cntR (gz g) N (clampZ (-9223372036854775808) (2 ^ (30 + 0)) * 2 ^ (30 - 0)) (clampZ 9223372036854775807 (2 ^ (30 + 0)) * 2 ^ (30 - 0) - clampZ (-9223372036854775808) (2 ^ (30 + 0)) * 2 ^ (30 - 0)) v) : v = (ct : Int) := by
  have hN9 := hN.1
  obtain ⟨f0, Nf, G0, NG, d, w1, w2, w3, w4, w5⟩ := hv
  have hs := sq_congr h.1 (F' := gz g) (fun i hi => gz_gp (by omega))
  have hld : gz g (N - 1) ≠ 0 := tp_lead hN hN1
  have hc : clampZ (-9223372036854775808) (2 ^ (30 + 0)) * 2 ^ (30 - 0) = -1152921504606846976 := by decide
  have hc2 : clampZ 9223372036854775807 (2 ^ (30 + 0)) * 2 ^ (30 - 0) = 1152921504606846976 := by decide
  have := isoW_ref hs ⟨hN1, by omega⟩ hld w1 (by rw [hc, hc2]; decide) w4
  rw [w5, this, Int.add_comm, Int.sub_add_cancel, clampW h _ (by omega), clampW h _ (by omega), dy_zero, dy_zero]
  have r1 : ((9223372036854775807 : Int) : Rat) ≥ 1073741824 := by
    have : ((1073741824 : Int) : Rat) ≤ ((9223372036854775807 : Int) : Rat) := Rat.intCast_le_intCast.2 (by decide)
    exact this
  have r2 : ((-9223372036854775808 : Int) : Rat) ≤ -1073741824 := by
    have : ((-9223372036854775808 : Int) : Rat) ≤ ((-1073741824 : Int) : Rat) := Rat.intCast_le_intCast.2 (by decide)
    exact this
  rw [h.2.2.1 _ r1, h.2.2.2.1 _ r2]; omega
end
/-- the given polynomials may be looked at -/
theorem okF_gz {g : Nat → Int32} {N : Nat} (hN : tpN (gp g) 9 N) (hN1 : 1 ≤ N) (hg : ∀ i : Nat, i < 9 → ((g i).toInt.natAbs : Int) ≤ 1000000000) : okF (gz g) N := okF_given ⟨hN1, tp_lead hN hN1⟩ hN.1 (fun i hi => hg i (by have := hN.1; omega))
