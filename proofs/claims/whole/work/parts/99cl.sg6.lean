theorem rv_one_at (k : Nat) (z : Int) (x : Rat) : ∀ n : Nat, rv (fun s => if s = k then z else 0) n x = if k < n then (z : Rat) * x ^ k else 0
  | 0 => by rw [if_neg (by omega)]; rfl
  | n + 1 => by
    show rv (fun s => if s = k then z else 0) n x + ((if n = k then z else 0 : Int) : Rat) * x ^ n = _
    rw [rv_one_at k z x n]
    have o : ((0 : Int) : Rat) = 0 := rfl
    by_cases c : n = k
    · rw [if_pos c, if_neg (by omega), if_pos (by omega), c]; grind
    · rw [if_neg c, o]
      by_cases d : k < n
      · rw [if_pos d, if_pos (by omega)]; grind
      · rw [if_neg d, if_neg (by omega)]; grind
/-- the first row is the product, sign turned -/
theorem cvS_step (g g2 : Nat → Int32) (x : Rat) {n : Nat} (hn : n < 72) : rv (cvS g g2 (n + 1)) 16 x = rv (cvS g g2 n) 16 x + (cvt g g2 n : Rat) * x ^ (n / 9 + n % 9) := by
  show rv (fun s => cvS g g2 n s + (if s = n / 9 + n % 9 then cvt g g2 n else 0)) 16 x = _
  rw [rv_add, rv_one_at, if_pos (by omega)]
theorem cvS_part (g g2 : Nat → Int32) (x : Rat) {i : Nat} (hi : i < 8) : ∀ j : Nat, j ≤ 9 → rv (cvS g g2 (9 * i + j)) 16 x = rv (cvS g g2 (9 * i)) 16 x - ((der (gp g) i : Int) : Rat) * x ^ i * rv (gp g2) j x
  | 0, _ => by show rv (cvS g g2 (9 * i)) 16 x = _ - _ * 0; grind
  | j + 1, hj => by
    have h := cvS_part g g2 x hi j (by omega)
    have h2 := cvS_step g g2 x (n := 9 * i + j) (by omega)
    rw [show 9 * i + (j + 1) = 9 * i + j + 1 by omega, h2, h]
    have e1 : (9 * i + j) / 9 = i := by omega
    have e2 : (9 * i + j) % 9 = j := by omega
    have e3 : cvt g g2 (9 * i + j) = -(der (gp g) i * gp g2 j) := by
      unfold cvt der
      rw [e1, e2, gp_in (by omega), gp_in (by omega), Int.mul_comm (((i + 1 : Nat) : Int))]
    rw [e1, e2, e3, Rat.intCast_neg, Rat.intCast_mul]
    show _ = _ - _ * (rv (gp g2) j x + (gp g2 j : Rat) * x ^ j)
    rw [show x ^ (i + j) = x ^ i * x ^ j from rat_pow_add x i j]
    grind
theorem cvS_all (g g2 : Nat → Int32) (x : Rat) : ∀ i : Nat, i ≤ 8 → rv (cvS g g2 (9 * i)) 16 x = -(rv (der (gp g)) i x * rv (gp g2) 9 x)
  | 0, _ => by
    have : rv (cvS g g2 (9 * 0)) 16 x = 0 := rv_zero x 16
    rw [this]
    show (0 : Rat) = -(0 * _)
    grind
  | i + 1, hi => by
    have h := cvS_all g g2 x i (by omega)
    have h2 := cvS_part g g2 x (i := i) (by omega) 9 (by omega)
    rw [show 9 * (i + 1) = 9 * i + 9 by omega, h2, h]
    show _ = -((rv (der (gp g)) i x + (der (gp g) i : Rat) * x ^ i) * _)
    grind
theorem tp_out {g : Nat → Int32} {N : Nat} (tN : tpN (gp g) 9 N) : ∀ i : Nat, N ≤ i → gp g i = 0 := fun i hi => by
  by_cases c : i < 9
  · exact tN.2.1 i hi c
  · exact gp_out g i (by omega)
theorem cvS_rv {g g2 : Nat → Int32} {N1 N2 : Nat} (t1 : tpN (gp g) 9 N1) (t2 : tpN (gp g2) 9 N2) (x : Rat) : rv (cvS g g2 72) 16 x = -(rv (der (gp g)) (N1 - 1) x * rv (gp g2) N2 x) := by
  have h := cvS_all g g2 x 8 (Nat.le_refl _)
  rw [show 9 * 8 = 72 by omega] at h
  have h1 := t1.1
  have h2 := t2.1
  have e1 : rv (der (gp g)) 8 x = rv (der (gp g)) (N1 - 1) x := rv_le (fun i hi => by
    unfold der
    rw [tp_out t1 (i + 1) (by omega)]; omega) (by omega) x
  have e2 : rv (gp g2) 9 x = rv (gp g2) N2 x := rv_le (tp_out t2) (by omega) x
  rw [h, e1, e2]
theorem rat_cancel {a b : Rat} (ha : a ≠ 0) (h : b * a = 0) : b = 0 := by
  rcases Rat.mul_eq_zero.1 h with u | u
  · exact u
  · exact absurd u ha
/-- what the class's call does, as the sign of B at the root -/
theorem cls_sga {g g2 : Nat → Int32} {N1 N2 : Nat} {QA Q1A QB Q1B Cf TA TB : Rat → Rat} {WA WB WC : Rat → Int} {GA GB : Nat → Int} {mA mB : Nat} (t1 : tpN (gp g) 9 N1) (t2 : tpN (gp g2) 9 N2) (n1 : 1 ≤ N1) (n2 : 1 ≤ N2)
    (hA : sq (gp g) N1 QA Q1A WA GA mA) (hB : sq (gp g2) N2 QB Q1B WB GB mB) (hT : two QA QB Cf TA TB) (hC : cnt Cf WC) {Z : Nat → Int} {T : Nat → Nat} {us : Nat} (hc : chn Z T us) (z0 : zr Z T 0 = cvS g g2 72) (z1 : zr Z T 1 = gp g) {n : Int} {ex : Nat} {c1 c2 va r : Int}
    (k1 : chg Z T us n ex c1) (k2 : chg Z T us (n + 1) ex c2) (k3 : sdv g n ex va) (k4 : (va ≠ 0 ∧ r = c1 - c2) ∨ (va = 0 ∧ ∃ vb : Int, sdv g2 n ex vb ∧ ((0 ≤ vb ∧ r = c1 - c2) ∨ (vb < 0 ∧ r = c1 + 1 - c2)))) (hq : rv (gp g) N1 (dy (n + 1) ex) ≠ 0) (h1 : WA (dy (n + 1) ex) - WA (dy n ex) = 1) : sga (fun x => rv (gp g2) N2 x) WA WC (dy n ex) (dy (n + 1) ex) r := by
  have lA : gp g (N1 - 1) ≠ 0 := t1.2.2 (N1 - 1) (by omega)
  have lB : gp g2 (N2 - 1) ≠ 0 := t2.2.2 (N2 - 1) (by omega)
  have hT1 : 1 ≤ T 1 := by
    rcases Nat.eq_zero_or_pos (T 1) with q | q
    · exfalso
      have := lA
      rw [← z1, zr_out (by omega)] at this; exact this rfl
    · exact q
  have hus := (hc.2.2.2.2.2.1 hT1).1
  obtain ⟨d1, d2, d3⟩ := chn_dec hc
  have hTr := hc.1
  obtain ⟨Qa, R, V, nQa, nR, e1, e0, eV, cV⟩ := tarski hc hus
  -- the rows are the two polynomials
  have row1 : ∀ x : Rat, rowv Z T 1 x = rv (gp g) N1 x := fun x => by
    unfold rowv
    rw [z1]
    rcases Nat.le_total (T 1) N1 with c | c
    · exact (rv_le (fun i hi => by rw [← z1]; exact zr_zero Z T 1 i hi) c x).symm
    · exact rv_le (tp_out t1) c x
  have row0 : ∀ x : Rat, rowv Z T 0 x = -(rv (der (gp g)) (N1 - 1) x * rv (gp g2) N2 x) := fun x => by
    rw [← cvS_rv t1 t2, ← z0]
    have h16 : T 0 ≤ 16 := hTr 0 (by omega)
    exact (rv_le (zr_zero Z T 0) h16 x).symm
  obtain ⟨L, hL⟩ : ∃ L : Nat → Int, L = zr Z T (us - 1) := ⟨_, rfl⟩
  obtain ⟨l, hl⟩ : ∃ l : Nat, l = T (us - 1) := ⟨_, rfl⟩
  have eL : ∀ x : Rat, rowv Z T (us - 1) x = rv L l x := fun x => by unfold rowv; rw [hL, hl]
  have lL : 1 ≤ l ∧ L (l - 1) ≠ 0 := by rw [hL, hl]; exact ⟨d2, d3 _ (by omega)⟩
  have f1 : ∀ x : Rat, rv (gp g) N1 x = Qa x * rv L l x := fun x => by rw [← row1, e1, eL]
  have f0 : ∀ x : Rat, rv (der (gp g)) (N1 - 1) x * rv (gp g2) N2 x = R x * rv L l x := fun x => by
    have := e0 x
    rw [row0, eL] at this
    grind
  obtain ⟨cd1, cd2⟩ := cls_dv hc
  have dL1 : pdv L l (gp g) N1 := by
    have := cd1 1 (by omega)
    rw [← hL, ← hl] at this
    exact dv_same (fun x => (row1 x).symm) this
  -- what A and its derivative share divides the last row
  have dGL : pdv GA mA L l := by
    have h := cd2 GA mA (by
      obtain ⟨a, q, j, ha, he⟩ := hA.2.2.2.2.2.1.2
      obtain ⟨r, hr⟩ := rv_prod q (gp g2) N2 j
      refine ⟨-a, r, j + N2, by omega, fun x => ?_⟩
      show ((-a : Int) : Rat) * rowv Z T 0 x = _
      rw [row0, hr, Rat.intCast_neg]
      have := he x
      have e9 : -(a : Rat) * -(rv (der (gp g)) (N1 - 1) x * rv (gp g2) N2 x) = (a : Rat) * rv (der (gp g)) (N1 - 1) x * rv (gp g2) N2 x := by grind
      rw [e9, this]; grind) (dv_same (fun x => row1 x) hA.2.2.2.2.2.1.1)
    rw [← hL, ← hl] at h
    exact h
  obtain ⟨a, qK, j, ha, hK⟩ := dGL
  have ha' := ne_cast ha
  obtain ⟨K, hKd⟩ : ∃ K : Rat → Rat, K = fun x => 1 / (a : Rat) * rv qK j x := ⟨_, rfl⟩
  have pK : pol K := by rw [hKd]; exact pol_mul (pol_const _) (pol_rv _ _)
  have eK : ∀ x : Rat, rv L l x = K x * rv GA mA x := fun x => by
    have := hK x
    rw [hKd]
    show rv L l x = 1 / (a : Rat) * rv qK j x * rv GA mA x
    have e9 : (a : Rat) * (rv L l x - 1 / (a : Rat) * rv qK j x * rv GA mA x) = 0 := by grind
    rcases Rat.mul_eq_zero.1 e9 with u | u
    · exact absurd u ha'
    · grind
  obtain ⟨cc, qq, ll, _, hQap⟩ := quot_poly lL nQa f1 dL1
  have pQa := pol_of hQap
  have dG := dense hA.2.2.2.2.1.1 hA.2.2.2.2.1.2
  have g1 : ∀ x : Rat, QA x = Qa x * K x := agree_dense hA.1.1 (fun b hb => nice_mul (nQa b hb) (pol_nice pK b hb)) (fun x y hxy => by
    obtain ⟨z, y1, y2, y3⟩ := dG x y hxy
    refine ⟨z, y1, y2, ?_⟩
    have q1 := f1 z
    rw [hA.2.2.1, eK] at q1
    have q2 := rat_cancel y3 (b := QA z - Qa z * K z) (by grind)
    grind)
  have g2' : ∀ x : Rat, R x * K x = Q1A x * rv (gp g2) N2 x := agree_dense (fun b hb => nice_mul (nR b hb) (pol_nice pK b hb)) (fun b hb => nice_mul (hA.2.1 b hb) (rv_nice hb _ _)) (fun x y hxy => by
    obtain ⟨z, y1, y2, y3⟩ := dG x y hxy
    refine ⟨z, y1, y2, ?_⟩
    have q1 := f0 z
    rw [hA.2.2.2.1, eK] at q1
    have q2 := rat_cancel y3 (b := Q1A z * rv (gp g2) N2 z - R z * K z) (by grind)
    grind)
  obtain ⟨w, u, v, l1, l2, w0, hw⟩ := sq_bez hA n1 lA
  have g3 : ∀ x : Rat, rv (gp g2) N2 x = K x * (1 / w * (rv u l1 x * (Qa x * rv (gp g2) N2 x) + rv v l2 x * R x)) := fun x => by
    have q1 := hw x
    have q2 := g1 x
    have q3 := g2' x
    have q4 : w * rv (gp g2) N2 x = K x * (rv u l1 x * (Qa x * rv (gp g2) N2 x) + rv v l2 x * R x) := by
      have : w * rv (gp g2) N2 x = (rv u l1 x * QA x + rv v l2 x * Q1A x) * rv (gp g2) N2 x := by rw [← q1]
      rw [this, q2]
      have : rv v l2 x * (Q1A x * rv (gp g2) N2 x) = rv v l2 x * (R x * K x) := by rw [q3]
      grind
    have q5 := rat_cancel w0 (b := rv (gp g2) N2 x - K x * (1 / w * (rv u l1 x * (Qa x * rv (gp g2) N2 x) + rv v l2 x * R x))) (by grind)
    grind
  have cell := fun (b : Rat) (hb : 0 ≤ b) (e0 : Rat) (he0 : 0 < e0) => cell_V hA n1 lA hB hT pQa pK (S := fun x => 1 / w * (rv u l1 x * (Qa x * rv (gp g2) N2 x) + rv v l2 x * R x)) (fun b hb => nice_mul (nice_const b _) (nice_add (nice_mul (rv_nice hb u l1) (nice_mul (nQa b hb) (rv_nice hb _ _))) (nice_mul (rv_nice hb v l2) (nR b hb)))) nR g1 g2' g3 (Gl := fun x => rv L l x) (fun b hb => rv_nice hb L l) f1 f0 cV b hb he0
  obtain ⟨U, hU⟩ : ∃ U : Rat → Int, U = fun x => V x + (if QA x = 0 ∧ rv (gp g2) N2 x < 0 then 1 else 0) := ⟨_, rfl⟩
  have hs := sga_V hA n1 lA hB n2 lB hT hC cell (U := U) (fun x hx => by rw [hU]; show V x + _ = V x; rw [if_neg hx]; omega) (fun x h1 h2 => by rw [hU]; show V x + _ = V x + 1; rw [if_pos ⟨h1, h2⟩]) (dy_lt (show n < n + 1 by omega)) h1
  have er : r = U (dy n ex) - U (dy (n + 1) ex) := by
    have v1 := eV _ _ _ k1
    have v2 := eV _ _ _ k2
    have q0 : ¬ QA (dy (n + 1) ex) = 0 := fun h => hq ((sq_root hA n1 lA _).2 h)
    have u2 : U (dy (n + 1) ex) = V (dy (n + 1) ex) := by rw [hU]; show V _ + _ = V _; rw [if_neg (fun h => q0 h.1)]; omega
    have sv : ∀ (g : Nat → Int32) (N : Nat) (y : Int), tpN (gp g) 9 N → 1 ≤ N → sdv g n ex y → y = rsg (rv (gp g) N (dy n ex)) := fun g N y tN nN hy => by
      obtain ⟨N', t', hy⟩ := hy
      have eN : N' = N := tpN_uniq t' tN
      rw [hy, eN]
      exact tyl_sign0 (gp g) N n ex
    have sva := sv g N1 va t1 n1 k3
    rcases k4 with ⟨y1, y2⟩ | ⟨y1, vb, y2, y3⟩
    · have qn : ¬ QA (dy n ex) = 0 := fun h => y1 (by rw [sva, (sq_root hA n1 lA _).2 h, rsg_zero])
      have u1 : U (dy n ex) = V (dy n ex) := by rw [hU]; show V _ + _ = V _; rw [if_neg (fun h => qn h.1)]; omega
      omega
    · have svb := sv g2 N2 vb t2 n2 y2
      have qn : QA (dy n ex) = 0 := (sq_root hA n1 lA _).1 (by
        rcases rsg_cases (rv (gp g) N1 (dy n ex)) with ⟨_, w⟩ | ⟨w, _⟩ | ⟨_, w⟩
        · omega
        · exact w
        · omega)
      rcases y3 with ⟨y4, y5⟩ | ⟨y4, y5⟩
      · have u1 : U (dy n ex) = V (dy n ex) := by
          rw [hU]; show V _ + _ = V _
          rw [if_neg (fun h => by rw [rsg_neg h.2] at svb; omega)]; omega
        omega
      · have u1 : U (dy n ex) = V (dy n ex) + 1 := by
          rw [hU]; show V _ + _ = V _ + 1
          rw [if_pos ⟨qn, by
            rcases rsg_cases (rv (gp g2) N2 (dy n ex)) with ⟨_, w⟩ | ⟨_, w⟩ | ⟨w, _⟩
            · omega
            · omega
            · exact w⟩]
        omega
  rw [er]
  exact hs
