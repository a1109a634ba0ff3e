section
variable {g g2 : Nat → Int32} {N1 N2 : Nat} {Q Q1 : Rat → Rat} {W : Rat → Int} {G : Nat → Int} {m ct : Nat} {cs : Nat → Nat → Int}
/-- the cells lie within the line that is looked at -/
theorem cs_range (h : isoW g N1 Q Q1 W G m ct cs) {i s : Nat} (hi : i < ct) (hs : s ≤ 30) : -1152921504606846976 ≤ cs s i * 2 ^ (30 - s) ∧ cs s i * 2 ^ (30 - s) + 2 ^ (30 - s) ≤ 1152921504606846976 := by
  have hc := (h.2.2.2.2 s i hi).2
  have h1 := h.2.2.1
  have h2 := h.2.2.2.1
  have hp : (0 : Int) < 2 ^ (30 - s) := Int.pow_pos (by decide)
  have e60 : (2 : Int) ^ (30 + s) * 2 ^ (30 - s) = 1152921504606846976 := by
    rw [← Int.pow_add, show 30 + s + (30 - s) = 60 by omega]; decide
  have lo : -(2 : Int) ^ (30 + s) ≤ cs s i := by
    refine Classical.byContradiction fun c => ?_
    have t := dy_le (s := s) (show cs s i + 1 ≤ -(2 : Int) ^ (30 + s) by omega)
    have e : dy (-(2 : Int) ^ (30 + s)) s = -(1073741824 : Rat) := by
      have := cl_30 s
      unfold dy at *
      rw [Rat.intCast_neg]
      grind
    rw [e] at t
    have := h2 _ t
    omega
  have hi2 : cs s i + 1 ≤ (2 : Int) ^ (30 + s) := by
    refine Classical.byContradiction fun c => ?_
    have t := dy_le (s := s) (show (2 : Int) ^ (30 + s) ≤ cs s i by omega)
    rw [cl_30 s] at t
    have := h1 _ t
    omega
  have t1 := Int.mul_le_mul_of_nonneg_right lo (Int.le_of_lt hp)
  have t2 := Int.mul_le_mul_of_nonneg_right hi2 (Int.le_of_lt hp)
  rw [Int.neg_mul, e60] at t1
  rw [Int.add_mul, Int.one_mul, e60] at t2
  exact ⟨t1, t2⟩
theorem cell_dy {c : Int} {s : Nat} (hs : s ≤ 30) : dy (c * 2 ^ (30 - s)) 30 = dy c s ∧ dy (c * 2 ^ (30 - s) + 2 ^ (30 - s)) 30 = dy (c + 1) s := by
  refine ⟨fine_dy _ hs, ?_⟩
  rw [show c * 2 ^ (30 - s) + 2 ^ (30 - s) = (c + 1) * 2 ^ (30 - s) by rw [Int.add_mul, Int.one_mul]]
  exact fine_dy _ hs
theorem nd_cell {f : Nat → Int} {N : Nat} (hN : 1 ≤ N ∧ N ≤ 9) (h : isoW g N1 Q Q1 W G m ct cs) {i s : Nat} (hi : i < ct) (hs : s ≤ 30) : nd (cut f N) N 0 (mvd f N (cs s i * 2 ^ (30 - s)) (2 ^ (30 - s))) (dy (cs s i) s) (dy (cs s i + 1) s - dy (cs s i) s) := by
  have hp : (0 : Int) < 2 ^ (30 - s) := Int.pow_pos (by decide)
  obtain ⟨r1, r2⟩ := cs_range h hi hs
  have hn := nd_mvd (f := f) (N := N) hN hp r1 r2
  rw [(cell_dy hs).1, (cell_dy hs).2] at hn
  obtain ⟨k, k0, k1, k2, r⟩ := hn
  exact ⟨k, k0, k1, fun t => by rw [cut_rv]; exact k2 t, r⟩
/-- what the reference finds of the two polynomials -/
theorem ref_parts (t1 : tpN (gp g) 9 N1) (n1 : 1 ≤ N1) (hg : ∀ i : Nat, i < 9 → ((g i).toInt.natAbs : Int) ≤ 1000000000) (t2 : tpN (gp g2) 9 N2) (n2 : 1 ≤ N2) (hg2 : ∀ i : Nat, i < 9 → ((g2 i).toInt.natAbs : Int) ≤ 1000000000) (hA : sq (gp g) N1 Q Q1 W G m)
    {QB Q1B : Rat → Rat} {WB : Rat → Int} {GB : Nat → Int} {mB : Nat} (hB : sq (gp g2) N2 QB Q1B WB GB mB)
    {fA : Nat → Int} {NA : Nat} {GA : Nat → Int} {NGA : Nat} {fB : Nat → Int} {NB : Nat} {GB' : Nat → Int} {NGB : Nat} (frA : freeR (gz g) N1 fA NA GA NGA) (frB : freeR (gz g2) N2 fB NB GB' NGB) {C : Nat → Int} {NC : Nat} (hF : ∃ a1 b1 : Nat → Int, primR fA NA a1 ∧ primR fB NB b1 ∧ FC 9 a1 NA b1 NB C NC) :
    (okF fA NA ∧ okF fB NB ∧ okF C NC ∧ (2 ≤ NA → good (cut fA NA) NA) ∧ (2 ≤ NB → good (cut fB NB) NB) ∧ (2 ≤ NC → good (cut C NC) NC)) ∧ (∃ kA : Rat, kA ≠ 0 ∧ ∀ x : Rat, rv fA NA x = kA * Q x) ∧ (∃ kB : Rat, kB ≠ 0 ∧ ∀ x : Rat, rv fB NB x = kB * QB x) ∧
    ∃ (QC Q1C TA TB : Rat → Rat) (WC : Rat → Int) (GC : Nat → Int) (k : Rat), two Q QB QC TA TB ∧ sq C NC QC Q1C WC GC 1 ∧ k ≠ 0 ∧ ∀ x : Rat, rv C NC x = k * QC x := by
  have h9 := t1.1
  have h92 := t2.1
  have okA := okF_gz t1 n1 hg
  have okB' := okF_gz t2 n2 hg2
  obtain ⟨oA, _, gA⟩ := free_all okA frA
  obtain ⟨oB, _, gB⟩ := free_all okB' frB
  have hA' := sq_congr hA (F' := gz g) (fun i hi => gz_gp (by omega))
  have hB' := sq_congr hB (F' := gz g2) (fun i hi => gz_gp (by omega))
  have lA : gz g (N1 - 1) ≠ 0 := tp_lead t1 n1
  have lB : gz g2 (N2 - 1) ≠ 0 := tp_lead t2 n2
  obtain ⟨fa1, ⟨kA, kA0, hkA⟩, _⟩ := sq_free hA' ⟨n1, by omega⟩ lA frA
  obtain ⟨fb1, ⟨kB, kB0, hkB⟩, _⟩ := sq_free hB' ⟨n2, by omega⟩ lB frB
  obtain ⟨a1, b1, p1, p2, hF⟩ := hF
  have l1 : ldn fA NA := fun i hi => by rw [show i = NA - 1 by omega]; exact fa1.2
  have l2 : ldn fB NB := fun i hi => by rw [show i = NB - 1 by omega]; exact fb1.2
  have hC := FC_lead hF (by omega) (prim_ldn2 p1 l1) (prim_ldn2 p2 l2)
  obtain ⟨⟨d1, d2⟩, d3⟩ := FC_dv hF oB.1.2.1 (prim_ldn2 p2 l2)
  have hCp := FC_prim hF (prim_one p1 fa1.1 fa1.2) (fun _ => prim_one p2 fb1.1 fb1.2)
  have e1 := (dv_prim (g := C) (m := NC) p1 l1).2 d1
  have e2 := (dv_prim (g := C) (m := NC) p2 l2).2 d2
  have e3 : ∀ (q : Nat → Int) (l : Nat), pdv q l fA NA → pdv q l fB NB → pdv q l C NC := fun q l x1 x2 => d3 q l ((dv_prim p1 l1).1 x1) ((dv_prim p2 l2).1 x2)
  obtain ⟨QC, Q1C, TA, TB, WC, GC, k, hT, hq, k0, hk, U, V, pU, pV, bz⟩ := ref_two hA n1 (t1.2.2 (N1 - 1) (by omega)) hB fa1 fb1 hC kA0 hkA kB0 hkB ⟨e1, e2⟩ e3
  have oC := okF_sub oA hCp hC e1
  refine ⟨⟨oA, oB, oC, gA, gB, fun hNC => ?_⟩, ⟨kA, kA0, hkA⟩, ⟨kB, kB0, hkB⟩, QC, Q1C, TA, TB, WC, GC, k, hT, hq, k0, hk⟩
  refine ⟨hNC, oC.1.2.1, ?_, cut_out C NC, (okF_bd oC).2, fun e9 t => ?_, U, V, pU, pV, fun x => ?_⟩
  · unfold cut; rw [if_pos (by omega)]; exact hC.2
  · unfold cut
    split
    · exact oC.2.2.1 e9 t (by assumption)
    · decide
  · have ed : rv (der (cut C NC)) (NC - 1) x = rv (der C) (NC - 1) x := rv_congr x (fun i hi => by unfold der cut; rw [if_pos (by omega)])
    rw [cut_rv, ed]; exact bz x
theorem W_bd {F : Nat → Int} {N : Nat} (hN : 1 ≤ N) (hF : F (N - 1) ≠ 0) : ∃ (Q Q1 : Rat → Rat) (W : Rat → Int) (G : Nat → Int) (m : Nat), sq F N Q Q1 W G m ∧ ∀ x y : Rat, W y - W x ≤ (N : Int) := by
  obtain ⟨Q, Q1, W, G', m, hq, hW⟩ := sq_ex hN hF
  refine ⟨Q, Q1, W, G', m, hq, fun x y => ?_⟩
  obtain ⟨_, ⟨X0, x1, x2⟩, _⟩ := hq.1
  have h0 : 0 ≤ W x := by
    obtain ⟨b, b0, b1⟩ := ab_self (x := x)
    have t1 := x2 (X0 + b) (by grind)
    have t2 := cnt_mono hq.1 (show -(X0 + b) ≤ x by unfold ab at b1; grind)
    omega
  have h1 := hW y
  omega
theorem W_bd2 {F : Nat → Int} {N : Nat} {Q Q1 : Rat → Rat} {W : Rat → Int} {G : Nat → Int} {m : Nat} (hN : 1 ≤ N) (hF : F (N - 1) ≠ 0) (h : sq F N Q Q1 W G m) (x y : Rat) : W y - W x ≤ (N : Int) := by
  obtain ⟨Q', Q1', W', G', m', hq, hW⟩ := W_bd hN hF
  have := sq_uniq h hq (u := 1) (v := 1) (by decide) (by decide) (fun _ _ => rfl)
  have e := this.1
  have h1 := hW x y
  have h2 := e x
  have h3 := e y
  omega
/-- signAt: what the reference needs -/
theorem sign_OK (h : isoW g N1 Q Q1 W G m ct cs) (t1 : tpN (gp g) 9 N1) (n1 : 1 ≤ N1) (hg : ∀ i : Nat, i < 9 → ((g i).toInt.natAbs : Int) ≤ 1000000000) (t2 : tpN (gp g2) 9 N2) (hg2 : ∀ i : Nat, i < 9 → ((g2 i).toInt.natAbs : Int) ≤ 1000000000) {i s : Nat} (hi : i < ct) (hs : s ≤ 30) (ha : al cs ct s i) :
    (∀ a1 b1 : Nat → Int, primR (gz g) N1 a1 → primR (der (gz g)) (N1 - 1) b1 → FZ 9 a1 N1 b1 (N1 - 1)) ∧ (∀ a1 b1 : Nat → Int, primR (gz g2) N2 a1 → primR (der (gz g2)) (N2 - 1) b1 → FZ 9 a1 N2 b1 (N2 - 1)) ∧ ∀ (fA : Nat → Int) (NA : Nat) (GA : Nat → Int) (NGA : Nat) (fB : Nat → Int) (NB : Nat) (GB : Nat → Int) (NGB : Nat), freeR (gz g) N1 fA NA GA NGA → freeR (gz g2) N2 fB NB GB NGB → okP fA NA ∧ okP fB NB ∧ (∀ a1 b1 : Nat → Int, primR fA NA a1 → primR fB NB b1 → FZ 9 a1 NA b1 NB) ∧ ∀ (C : Nat → Int) (NC : Nat), (∃ a1 b1 : Nat → Int, primR fA NA a1 ∧ primR fB NB b1 ∧ FC 9 a1 NA b1 NB C NC) → ∃ h : Nat, h < 4000 ∧ (1 < NC → TV NC h (mvd C NC (cs s i * 2 ^ (30 - s)) (2 ^ (30 - s)))) ∧ UV NC h (mvd C NC (cs s i * 2 ^ (30 - s)) (2 ^ (30 - s))) < 100 ∧ (UV NC h (mvd C NC (cs s i * 2 ^ (30 - s)) (2 ^ (30 - s))) ≤ 0 → SG NA NB N2 1981 (mvd fA NA (cs s i * 2 ^ (30 - s)) (2 ^ (30 - s))) (mvd fB NB (cs s i * 2 ^ (30 - s)) (2 ^ (30 - s))) (mvd (gz g2) N2 (cs s i * 2 ^ (30 - s)) (2 ^ (30 - s)))) := by
  refine ⟨okF_FZ (okF_gz t1 n1 hg), ?_, fun fA NA GA NGA fB NB GB NGB frA frB => ?_⟩
  · by_cases c : N2 = 0
    · subst c
      exact fun a1 b1 _ _ => ⟨fun i hi => absurd hi (by omega), fun i hi => absurd hi (by omega), fun r Nr h => absurd h (by omega)⟩
    · exact okF_FZ (okF_gz t2 (by omega) hg2)
  · by_cases c : N2 = 0
    · exfalso
      subst c
      obtain ⟨a1, b1, q, y, j, k, p1, p2, hF, _, hj, _⟩ := frB
      rcases hF with ⟨_, e, _⟩ | ⟨e, _⟩
      · omega
      · omega
    · have n2 : 1 ≤ N2 := by omega
      have h92 := t2.1
      have lA : gp g (N1 - 1) ≠ 0 := t1.2.2 (N1 - 1) (by omega)
      have lB : gp g2 (N2 - 1) ≠ 0 := t2.2.2 (N2 - 1) (by omega)
      obtain ⟨QB, Q1B, WB, GB2, mB, hB, hWB⟩ := W_bd (F := gp g2) n2 lB
      obtain ⟨oA0, _, _⟩ := free_all (okF_gz t1 n1 hg) frA
      obtain ⟨oB0, _, _⟩ := free_all (okF_gz t2 n2 hg2) frB
      have okp : ∀ {f : Nat → Int} {n : Nat}, okF f n → okP f n := fun hf i hi => ok_pow (B := 84) (by omega) (hf.2.1 i hi)
      refine ⟨okp oA0, okp oB0, okF_pair oA0 oB0, fun C NC hF => ?_⟩
      obtain ⟨⟨oA, oB, oC, gA, gB, gC⟩, ⟨kA, kA0, hkA⟩, ⟨kB, kB0, hkB⟩, QC, Q1C, TA, TB, WC, GC, k, hT, hq, k0, hk⟩ := ref_parts t1 n1 hg t2 n2 hg2 h.1 hB frA frB hF
      have ndC := nd_cell (f := C) ⟨oC.1.1, oC.1.2.1⟩ h hi hs
      have tvC : 1 < NC → TV NC 2000 (mvd C NC (cs s i * 2 ^ (30 - s)) (2 ^ (30 - s))) := fun h1 => nd_TV (gC h1) 2000 0 _ _ _ ndC (by omega) (by omega)
      have ew : dy (cs s i) s + (dy (cs s i + 1) s - dy (cs s i) s) = dy (cs s i + 1) s := by grind
      have uC := ndQ_UV hq.1 (sq_dense hq oC.1.1 oC.1.2.2) oC.1.1 (ndQ_of ndC k0 hk) tvC
      rw [ew] at uC
      have bC := W_bd2 oC.1.1 oC.1.2.2 hq (dy (cs s i) s) (dy (cs s i + 1) s)
      have c9 := oC.1.2.1
      refine ⟨2000, by omega, tvC, by rw [uC]; omega, fun hu => ?_⟩
      rw [uC] at hu
      have h1 := al_one h hi ha
      have mC := cnt_mono hq.1 (show dy (cs s i) s ≤ dy (cs s i + 1) s from dy_le (by omega))
      have bQ : bd (cut (gp g2) N2) N2 := by
        have := okF_bd (okF_gz t2 n2 hg2)
        refine ⟨this.1, fun t => ?_⟩
        have e : cut (gp g2) N2 t = cut (gz g2) N2 t := by
          unfold cut
          split
          · exact (gz_gp (by omega)).symm
          · rfl
        rw [e]; exact this.2 t
      have ndQ' : nd (cut (gp g2) N2) N2 0 (mvd (gz g2) N2 (cs s i * 2 ^ (30 - s)) (2 ^ (30 - s))) (dy (cs s i) s) (dy (cs s i + 1) s - dy (cs s i) s) := by
        obtain ⟨k, k0, k1, k2, r⟩ := nd_cell (f := gz g2) ⟨n2, h92⟩ h hi hs
        refine ⟨k, k0, k1, fun t => ?_, r⟩
        rw [k2, cut_rv, cut_rv, rv_congr (c := gz g2) (e := gp g2) _ (fun i hi => gz_gp (by omega))]
      refine SG_ok h.1 n1 lA hB n2 lB hT hq.1 oA oB gA gB bQ (fun x y => by have := hWB x y; omega) kA0 hkA kB0 hkB 1981 0 _ _ _ (dy (cs s i) s) (dy (cs s i + 1) s - dy (cs s i) s) (nd_cell ⟨oA.1.1, oA.1.2.1⟩ h hi hs) (nd_cell ⟨oB.1.1, oB.1.2.1⟩ h hi hs) ndQ' (by rw [ew]; exact h1) (by rw [ew]; omega) (by omega) (by omega)
/-- signAt: both answer alike -/
theorem eq_signAt (h : isoW g N1 Q Q1 W G m ct cs) (t1 : tpN (gp g) 9 N1) (n1 : 1 ≤ N1) (hg : ∀ i : Nat, i < 9 → ((g i).toInt.natAbs : Int) ≤ 1000000000) (t2 : tpN (gp g2) 9 N2) (hg2 : ∀ i : Nat, i < 9 → ((g2 i).toInt.natAbs : Int) ≤ 1000000000) {i s : Nat} (hi : i < ct) (hs : s ≤ 30) (ha : al cs ct s i)
    {fl r : Int} (hfl : fl = 1 ↔ rv (gp g) N1 (dy (cs s i + 1) s) = 0) (hc : ((fl = 1 ∨ N2 ≤ 1) ∧ ∃ v : Int, sdv g2 (cs s i + 1) s v ∧ r = v) ∨ (fl ≠ 1 ∧ 2 ≤ N2 ∧ ∃ (Z : Nat → Int) (T : Nat → Nat) (us : Nat), chn Z T us ∧ zr Z T 0 = cvS g g2 72 ∧ zr Z T 1 = gp g ∧ ∃ c1 c2 va : Int, chg Z T us (cs s i) s c1 ∧ chg Z T us (cs s i + 1) s c2 ∧ sdv g (cs s i) s va ∧ ((va ≠ 0 ∧ r = c1 - c2) ∨ (va = 0 ∧ ∃ vb : Int, sdv g2 (cs s i) s vb ∧ ((0 ≤ vb ∧ r = c1 - c2) ∨ (vb < 0 ∧ r = c1 + 1 - c2))))))
    {kf : Nat} {q : Int} (hr : (N2 = 0 ∧ q = 0) ∨ (N2 ≠ 0 ∧ ∃ v : Int, (∃ (fA : Nat → Int) (NA : Nat) (GA : Nat → Int) (NGA : Nat) (fB : Nat → Int) (NB : Nat) (GB : Nat → Int) (NGB : Nat) (C : Nat → Int) (NC h : Nat), freeR (gz g) N1 fA NA GA NGA ∧ freeR (gz g2) N2 fB NB GB NGB ∧ ldn fA NA ∧ ldn fB NB ∧ ldn C NC ∧ (∃ a1 b1 : Nat → Int, primR fA NA a1 ∧ primR fB NB b1 ∧ FC 9 a1 NA b1 NB C NC) ∧ h < 4000 ∧ (1 < NC → TV NC h (mvd C NC (cs s i * 2 ^ (30 - s)) (2 ^ (30 - s)))) ∧ ((0 < UV NC h (mvd C NC (cs s i * 2 ^ (30 - s)) (2 ^ (30 - s))) ∧ v = 0) ∨ (UV NC h (mvd C NC (cs s i * 2 ^ (30 - s)) (2 ^ (30 - s))) ≤ 0 ∧ SR NA NB N2 kf (mvd fA NA (cs s i * 2 ^ (30 - s)) (2 ^ (30 - s))) (mvd fB NB (cs s i * 2 ^ (30 - s)) (2 ^ (30 - s))) (mvd (gz g2) N2 (cs s i * 2 ^ (30 - s)) (2 ^ (30 - s))) v))) ∧ q = v)) : r = q := by
  have h92 := t2.1
  have lA : gp g (N1 - 1) ≠ 0 := t1.2.2 (N1 - 1) (by omega)
  have sv : ∀ y : Int, sdv g2 (cs s i + 1) s y → y = rsg (rv (gp g2) N2 (dy (cs s i + 1) s)) := fun y hy => by
    obtain ⟨N', t', hy⟩ := hy
    have eN : N' = N2 := tpN_uniq t' t2
    rw [hy, eN]
    exact tyl_sign0 (gp g2) N2 _ _
  rcases hr with ⟨z0, hq0⟩ | ⟨z0, v, ⟨fA, NA, GA, NGA, fB, NB, GB, NGB, C, NC, hh, frA, frB, _, _, _, hF, _, tvC, hcase⟩, hqv⟩
  · subst z0
    rcases hc with ⟨_, v, hv, hrv⟩ | ⟨_, c, _⟩
    · have := sv v hv
      rw [show rv (gp g2) 0 (dy (cs s i + 1) s) = 0 from rfl, rsg_zero] at this
      omega
    · omega
  · have n2 : 1 ≤ N2 := by omega
    have lB : gp g2 (N2 - 1) ≠ 0 := t2.2.2 (N2 - 1) (by omega)
    obtain ⟨QB, Q1B, WB, GB2, mB, hB, hWB⟩ := W_bd (F := gp g2) n2 lB
    obtain ⟨⟨oA, oB, oC, gA, gB, gC⟩, ⟨kA, kA0, hkA⟩, ⟨kB, kB0, hkB⟩, QC, Q1C, TA, TB, WC, GC, k, hT, hq, k0, hk⟩ := ref_parts t1 n1 hg t2 n2 hg2 h.1 hB frA frB hF
    have ndC := nd_cell (f := C) ⟨oC.1.1, oC.1.2.1⟩ h hi hs
    have ew : dy (cs s i) s + (dy (cs s i + 1) s - dy (cs s i) s) = dy (cs s i + 1) s := by grind
    have uC := ndQ_UV hq.1 (sq_dense hq oC.1.1 oC.1.2.2) oC.1.1 (ndQ_of ndC k0 hk) tvC
    rw [ew] at uC
    have h1 := al_one h hi ha
    have hlt : dy (cs s i) s < dy (cs s i + 1) s := dy_lt (by omega)
    have mC := cnt_mono hq.1 (Rat.le_of_lt hlt)
    have ndQ' : nd (cut (gp g2) N2) N2 0 (mvd (gz g2) N2 (cs s i * 2 ^ (30 - s)) (2 ^ (30 - s))) (dy (cs s i) s) (dy (cs s i + 1) s - dy (cs s i) s) := by
      obtain ⟨k, k0, k1, k2, r⟩ := nd_cell (f := gz g2) ⟨n2, h92⟩ h hi hs
      refine ⟨k, k0, k1, fun t => ?_, r⟩
      rw [k2, cut_rv, cut_rv, rv_congr (c := gz g2) (e := gp g2) _ (fun i hi => gz_gp (by omega))]
    -- the reference
    have sref : sga (fun x => rv (gp g2) N2 x) W WC (dy (cs s i) s) (dy (cs s i + 1) s) v := by
      rcases hcase with ⟨x1, x2⟩ | ⟨x1, x2⟩
      · rw [uC] at x1
        exact ⟨_, _, Rat.le_refl, hlt, Rat.le_refl, rfl, rfl, Or.inr ⟨x2, by omega⟩⟩
      · rw [uC] at x1
        have := SR_ok h.1 n1 lA hB n2 lB hT hq.1 ⟨oA.1.1, oA.1.2.1⟩ ⟨oB.1.1, oB.1.2.1⟩ h92 kA0 hkA kB0 hkB kf 0 _ _ _ (dy (cs s i) s) (dy (cs s i + 1) s - dy (cs s i) s) v (nd_cell ⟨oA.1.1, oA.1.2.1⟩ h hi hs) (nd_cell ⟨oB.1.1, oB.1.2.1⟩ h hi hs) ndQ' (by rw [ew]; exact h1) (by rw [ew]; omega) x2
        rw [ew] at this
        exact this
    -- the class
    have scls : sga (fun x => rv (gp g2) N2 x) W WC (dy (cs s i) s) (dy (cs s i + 1) s) r := by
      rcases hc with ⟨hx, v', hv', hrv⟩ | ⟨hfn, _, Z, T, us, hch, z0', z1, c1, c2, va, k1, k2, k3, k4⟩
      · have er : r = rsg (rv (gp g2) N2 (dy (cs s i + 1) s)) := by rw [hrv]; exact sv v' hv'
        by_cases cN : N2 = 1
        · -- a constant
          subst cN
          have eB : ∀ x : Rat, rv (gp g2) 1 x = (gp g2 0 : Rat) := fun x => by show 0 + (gp g2 0 : Rat) * x ^ 0 = _; grind
          have nz : (gp g2 0 : Rat) ≠ 0 := ne_cast lB
          refine ⟨_, _, Rat.le_refl, hlt, Rat.le_refl, rfl, rfl, Or.inl ⟨by rw [er, eB]; exact rsg_nz nz, 1 / 2, by grind, fun z _ _ => ⟨by rw [er]; simp only [eB], fun g => ?_⟩⟩⟩
          simp only [eB] at g
          unfold ab at g
          rcases Int.lt_or_le (gp g2 0) 0 with u | u
          · have : ((gp g2 0 : Int) : Rat) ≤ ((-1 : Int) : Rat) := Rat.intCast_le_intCast.2 (by omega)
            have o : ((-1 : Int) : Rat) = -1 := rfl
            grind
          · have h0 : gp g2 0 ≠ 0 := lB
            have : ((1 : Int) : Rat) ≤ ((gp g2 0 : Int) : Rat) := Rat.intCast_le_intCast.2 (by omega)
            have o : ((1 : Int) : Rat) = 1 := rfl
            grind
        · have hA0 : rv (gp g) N1 (dy (cs s i + 1) s) = 0 := by
            rcases hx with hx | hx
            · exact hfl.1 hx
            · omega
          have qA0 := (sq_root h.1 n1 lA _).1 hA0
          by_cases cB : rv (gp g2) N2 (dy (cs s i + 1) s) = 0
          · have qB0 := (sq_root hB n2 lB _).1 cB
            obtain ⟨_, eA, eB, U, V, _, _, bz⟩ := hT
            have qC0 : QC (dy (cs s i + 1) s) = 0 := by
              have b := bz (dy (cs s i + 1) s)
              have a1 := eA (dy (cs s i + 1) s)
              have a2 := eB (dy (cs s i + 1) s)
              rw [qA0] at a1
              rw [qB0] at a2
              have : QC (dy (cs s i + 1) s) * 1 = QC (dy (cs s i + 1) s) * (U (dy (cs s i + 1) s) * TA (dy (cs s i + 1) s) + V (dy (cs s i + 1) s) * TB (dy (cs s i + 1) s)) := by rw [← b]
              grind
            have := cnt_jump hq.1 (sq_dense hq oC.1.1 oC.1.2.2) hlt qC0
            refine ⟨_, _, Rat.le_refl, hlt, Rat.le_refl, rfl, rfl, Or.inr ⟨by rw [er, cB, rsg_zero], this⟩⟩
          · -- B keeps its sign near the end
            obtain ⟨b, hb, bp, bq⟩ := both_B (dy (cs s i) s) (dy (cs s i + 1) s)
            obtain ⟨y, y0, hy⟩ : ∃ y : Rat, 0 < y ∧ (rv (gp g2) N2 (dy (cs s i + 1) s) = y ∨ rv (gp g2) N2 (dy (cs s i + 1) s) = -y) := by
              by_cases c : 0 < rv (gp g2) N2 (dy (cs s i + 1) s)
              · exact ⟨_, c, Or.inl rfl⟩
              · exact ⟨-(rv (gp g2) N2 (dy (cs s i + 1) s)), by grind, Or.inr (by grind)⟩
            obtain ⟨d, d0, hd⟩ := nice_small (rv_nice hb (gp g2) N2) (d := y / 2) (by grind)
            obtain ⟨u, u1, u2, u3⟩ : ∃ u : Rat, dy (cs s i) s ≤ u ∧ u < dy (cs s i + 1) s ∧ dy (cs s i + 1) s - u ≤ d := by
              by_cases c : dy (cs s i + 1) s - dy (cs s i) s ≤ d
              · exact ⟨_, Rat.le_refl, hlt, c⟩
              · exact ⟨dy (cs s i + 1) s - d, by grind, by grind, by grind⟩
            have j1 := cnt_jump h.1.1 (sq_dense h.1 n1 lA) u2 qA0
            have j2 := cnt_mono h.1.1 u1
            refine ⟨u, _, u1, u2, Rat.le_refl, by omega, rfl, Or.inl ⟨by rw [er]; exact rsg_nz cB, y / 4, by grind, fun z z1 z2 => ?_⟩⟩
            have hz := hd z (dy (cs s i + 1) s) (in_B bp bq (by grind) z2) bq z2 (by grind)
            unfold ab at hz
            rw [er]
            rcases hy with hy | hy
            · have e1 : y / 2 ≤ rv (gp g2) N2 z := by rw [hy] at hz; grind
              refine ⟨by rw [rsg_pos (by grind), rsg_pos (by grind)], fun g => by unfold ab at g; grind⟩
            · have e1 : rv (gp g2) N2 z ≤ -(y / 2) := by rw [hy] at hz; grind
              refine ⟨by rw [rsg_neg (by grind), rsg_neg (by grind)], fun g => by unfold ab at g; grind⟩
      · exact cls_sga t1 t2 n1 n2 h.1 hB hT hq.1 hch z0' z1 k1 k2 k3 k4 (fun g => hfn (hfl.2 g)) h1
    rw [hqv]
    exact sga_uniq h.1 n1 lA hB hT hq.1 h1 scls sref
end
