section
variable {g : Nat → Int32} {N : Nat} {Q Q1 : Rat → Rat} {W : Rat → Int} {G : Nat → Int} {m ct : Nat} {cs : Nat → Nat → Int}
theorem nodA_0 : nodA 0 0 = -(1073741824 : Rat) ∧ nodA 0 0 + (2 : Rat) ^ 31 / (2 : Rat) ^ 0 = (1073741824 : Rat) := by
  have e30 : (2 : Rat) ^ 30 = 1073741824 := by rw [← cast_pow2]; rfl
  have e31 : (2 : Rat) ^ 31 = 2147483648 := by rw [← cast_pow2]; rfl
  have e0 : (2 : Rat) ^ 0 = 1 := by grind
  have z : ((0 : Int) : Rat) = 0 := rfl
  unfold nodA
  rw [e30, e31, e0, z]
  constructor <;> grind
theorem root_nd (h : isoW g N Q Q1 W G m ct cs) (hN : tpN (gp g) 9 N) (hN1 : 1 ≤ N) (hg : ∀ i : Nat, i < 9 → ((g i).toInt.natAbs : Int) ≤ 1000000000) {f : Nat → Int} {Nf : Nat} {G0 : Nat → Int} {NG : Nat} (hf : freeR (gz g) N f Nf G0 NG) : ndQ f Nf Q 0 (mvd f Nf (-1152921504606846976) 2305843009213693952) (nodA 0 0) ((2 : Rat) ^ 31 / (2 : Rat) ^ 0) := by
  have hN9 := hN.1
  have hs := sq_congr h.1 (F' := gz g) (fun i hi => gz_gp (by omega))
  have hld : gz g (N - 1) ≠ 0 := tp_lead hN hN1
  obtain ⟨⟨f1, f2⟩, ⟨k, k0, k1⟩, _⟩ := sq_free hs ⟨hN1, by omega⟩ hld hf
  obtain ⟨a1, a2⟩ := nodA_0
  have e31 : (2 : Rat) ^ 31 = 2147483648 := by rw [← cast_pow2]; rfl
  have e0 : (2 : Rat) ^ 0 = 1 := by grind
  have p30 := p2pos 30
  refine ⟨by rw [e31, e0]; grind, ⟨((2 : Rat) ^ 30) ^ (Nf - 1) * k, fun q => ?_, fun t => ?_⟩, fun h3 => ?_⟩
  · have := rat_pow_pos p30 (Nf - 1)
    rcases Rat.mul_eq_zero.1 q with u | u
    · grind
    · exact k0 u
  · rw [mvd_rv f f1, k1, a1]
    have e : (((-1152921504606846976 : Int) : Rat) + t * ((2305843009213693952 : Int) : Rat)) / (2 : Rat) ^ 30 = -(1073741824 : Rat) + t * ((2 : Rat) ^ 31 / (2 : Rat) ^ 0) := by
      have e30 : (2 : Rat) ^ 30 = 1073741824 := by rw [← cast_pow2]; rfl
      have c1 : ((-1152921504606846976 : Int) : Rat) = -(1152921504606846976 : Rat) := rfl
      have c2 : ((2305843009213693952 : Int) : Rat) = (2305843009213693952 : Rat) := rfl
      rw [e30, e31, e0, c1, c2]; grind
    rw [e]; grind
  · have := (free_TV (okF_gz hN hN1 hg) hf (n := -1152921504606846976) (len := 2305843009213693952) (by decide) (by decide) (by decide) h3).1
    have d1 : dy (-1152921504606846976) 30 = -(1073741824 : Rat) := by
      have := dy_mulp (-1073741824) 30
      exact this
    have d2 : dy (-1152921504606846976 + 2305843009213693952) 30 = (1073741824 : Rat) := by
      have := dy_mulp 1073741824 30
      exact this
    rw [d1, d2] at this
    rw [a1]
    have e : (1073741824 : Rat) - -1073741824 = (2 : Rat) ^ 31 / (2 : Rat) ^ 0 := by rw [e31, e0]; grind
    rw [← e]
    exact this
/-- isolate: what the reference needs -/
theorem iso_IK (h : isoW g N Q Q1 W G m ct cs) (hN : tpN (gp g) 9 N) (hN1 : 1 ≤ N) (hg : ∀ i : Nat, i < 9 → ((g i).toInt.natAbs : Int) ≤ 1000000000) {f : Nat → Int} {Nf ex : Nat} {G0 : Nat → Int} {NG : Nat} (hf : freeR (gz g) N f Nf G0 NG) : IKl Nf ex 62 (mvd f Nf (-1152921504606846976) 2305843009213693952) 0 8 := by
  have hN9 := hN.1
  have hok := okF_gz hN hN1 hg
  obtain ⟨okf, _, hgd⟩ := free_all hok hf
  have hs := sq_congr h.1 (F' := gz g) (fun i hi => gz_gp (by omega))
  have hld : gz g (N - 1) ≠ 0 := tp_lead hN hN1
  have hd := sq_dense hs hN1 hld
  have hn := root_nd h hN hN1 hg hf
  obtain ⟨a1, a2⟩ := nodA_0
  have hct := h.2.1
  by_cases c : 1 < Nf
  · exact IK_ok h hd ⟨okf.1.1, okf.1.2.1⟩ (by omega) (fun h1 => hgd (by omega)) (fun e => absurd e (by omega)) 62 _ 0 _ _ 8 hn (by
      rw [a2, a1, h.2.2.1 _ (by grind), h.2.2.2.1 _ (by grind)]; omega) rfl (by decide)
  · -- a constant
    have e : Nf = 1 := by have := okf.1.1; omega
    subst e
    have hU := ndQ_UV h.1.1 hd (by omega) hn (d := 0) (fun q => absurd q (by decide))
    have hz : UV 1 0 (mvd f 1 (-1152921504606846976) 2305843009213693952) = 0 := by
      unfold UV
      rw [if_neg (by omega), if_pos (by omega)]; rfl
    refine ⟨⟨2 ^ 84, by decide, fun i hi => ?_, ?_⟩, 0, by decide, fun q => absurd q (by decide), by rw [hz]; decide, fun q => by have := q.1; rw [hz] at this; exact absurd this (by decide), fun q => by rw [hz] at q; exact absurd q (by decide)⟩
    · have e0 : i = 0 := by omega
      subst e0
      have e1 : mvd f 1 (-1152921504606846976) 2305843009213693952 0 = f 0 := by
        show f 0 * 2 ^ (30 * (1 - 1 - 0)) * 2305843009213693952 ^ 0 = f 0
        simp
      rw [e1]
      exact okf.2.1 0 (by omega)
    · have e1 : (16 : Int) ^ 9 = 2 ^ 36 := by decide
      rw [e1, ← Int.pow_add]
      have h4 : (2 : Nat) ^ (36 + 84) < 2 ^ (31 * 638) := Nat.pow_lt_pow_right (by decide) (by decide)
      have h5 := Int.ofNat_lt.2 h4
      rw [nat_pow_cast, nat_pow_cast] at h5
      exact h5
/-- isolate: what the reference finds -/
theorem iso_IR (h : isoW g N Q Q1 W G m ct cs) (hN : tpN (gp g) 9 N) (hN1 : 1 ≤ N) (hg : ∀ i : Nat, i < 9 → ((g i).toInt.natAbs : Int) ≤ 1000000000) {f : Nat → Int} {Nf ex : Nat} {G0 : Nat → Int} {NG : Nat} (hf : freeR (gz g) N f Nf G0 NG) {res : Option (List (Int × Int))} (hI : IRl Nf ex 62 (mvd f Nf (-1152921504606846976) 2305843009213693952) 0 0 res) :
    (res = none ∧ ∃ i : Nat, i < ct ∧ ∀ t : Nat, ex ≤ t → t ≤ 30 → ¬ al cs ct t i) ∨ ∃ r : List (Int × Int), res = some r ∧ r.length = ct ∧ ∀ j : Nat, j < ct → ∃ u : Nat, ex ≤ u ∧ u ≤ 30 ∧ al cs ct u j ∧ (∀ t : Nat, ex ≤ t → t < u → ¬ al cs ct t j) ∧ r[j]? = some ((u : Int), cs u j) := by
  have hN9 := hN.1
  have hok := okF_gz hN hN1 hg
  obtain ⟨okf, _, _⟩ := free_all hok hf
  have hs := sq_congr h.1 (F' := gz g) (fun i hi => gz_gp (by omega))
  have hld : gz g (N - 1) ≠ 0 := tp_lead hN hN1
  have hd := sq_dense hs hN1 hld
  have hn := root_nd h hN hN1 hg hf
  obtain ⟨a1, a2⟩ := nodA_0
  rcases IR_ok h hd ⟨okf.1.1, okf.1.2.1⟩ 62 _ 0 0 res 0 ct hn (by rw [a1, h.2.2.2.1 _ (by grind)]; rfl) (by rw [a2, h.2.2.1 _ (by grind)]) (by decide) (fun i t _ _ _ q => absurd q (by omega)) hI with ⟨q1, i, _, q2, q3⟩ | ⟨r, q1, q2, q3⟩
  · exact Or.inl ⟨q1, i, q2, q3⟩
  · refine Or.inr ⟨r, q1, by omega, fun j hj => ?_⟩
    obtain ⟨u, b1, b2, b3, b4, b5⟩ := q3 j (by omega)
    rw [Nat.zero_add] at b3 b4 b5
    exact ⟨u, b1, b2, b3, b4, b5⟩
/-- the level is one -/
theorem lev_uniq {ex u v i : Nat} (h1 : ex ≤ u ∧ al cs ct u i ∧ ∀ t : Nat, ex ≤ t → t < u → ¬ al cs ct t i) (h2 : ex ≤ v ∧ al cs ct v i ∧ ∀ t : Nat, ex ≤ t → t < v → ¬ al cs ct t i) : u = v := by
  rcases Nat.lt_trichotomy u v with c | c | c
  · exact absurd h1.2.1 (h2.2.2 u h1.1 c)
  · exact c
  · exact absurd h2.2.1 (h1.2.2 v h2.1 c)
/-- how often a root counts, in both programs -/
theorem eq_mult (h : isoW g N Q Q1 W G m ct cs) (hN : tpN (gp g) 9 N) (hN1 : 1 ≤ N) {i s : Nat} (hi : i < ct) (hs30 : s ≤ 30) (ha : al cs ct s i) {mu : Nat} (hm : mlt (gp g) N (dy (cs s i) s) (dy (cs s i + 1) s) mu) {k v : Nat} (hv : mulR (cs s i * 2 ^ (30 - s)) (2 ^ (30 - s)) k (gz g) N v) : v = mu := by
  have hN9 := hN.1
  have hld : gp g (N - 1) ≠ 0 := by rw [gp_in (by omega)]; exact tp_lead hN hN1
  have e1 : dy (cs s i * 2 ^ (30 - s)) 30 = dy (cs s i) s := fine_dy _ hs30
  have e2 : dy (cs s i * 2 ^ (30 - s) + 2 ^ (30 - s)) 30 = dy (cs s i + 1) s := by
    rw [show cs s i * 2 ^ (30 - s) + 2 ^ (30 - s) = (cs s i + 1) * 2 ^ (30 - s) by rw [Int.add_mul, Int.one_mul]]
    exact fine_dy _ hs30
  have hW : isR (gp g) N 0 W := ⟨gp g, N, Q, Q1, G, m, ⟨rfl, ppn_refl _ _⟩, h.1⟩
  have h1 := al_one h hi ha
  have hp : (0 : Int) < 2 ^ (30 - s) := Int.pow_pos (by decide)
  have := mulR_mlt (F0 := gp g) (N0 := N) ⟨hN1, by omega⟩ hld hp hW (by rw [e1, e2]; exact h1) (r := 0) (a := gz g) (Na := N) ⟨rfl, 1, 1, by decide, by decide, fun i hi => by rw [gz_gp (by omega)]⟩ (fun q hq => absurd hq (by omega)) hv
  rw [e1, e2, Nat.zero_add] at this
  exact mlt_uniq hN1 hld this hm
end
