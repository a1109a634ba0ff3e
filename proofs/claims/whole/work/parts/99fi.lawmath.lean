theorem gz_ldn9 {g : Nat → Int32} {N : Nat} (t : tpN (gp g) 9 N) : ldn (gz g) N := fun i hi => by
  have h1 := t.2.2 i hi
  rw [gp_in (by have := t.1; omega)] at h1
  exact h1
theorem FZ_gz {g g2 : Nat → Int32} {N1 N2 : Nat} (t1 : tpN (gp g) 9 N1) (t2 : tpN (gp g2) 9 N2) (hg : ∀ i : Nat, i < 9 → ((g i).toInt.natAbs : Int) ≤ 1000000000) (hg2 : ∀ i : Nat, i < 9 → ((g2 i).toInt.natAbs : Int) ≤ 1000000000) : ∀ a1 b1 : Nat → Int, primR (gz g) N1 a1 → primR (gz g2) N2 b1 → FZ 9 a1 N1 b1 N2 := fun a1 b1 p1 p2 => by
  have q1 := prim_le p1 (gz_ldn9 t1)
  have q2 := prim_le p2 (gz_ldn9 t2)
  have n1 := t1.1
  have n2 := t2.1
  exact FZ_any (B := 30) (K := 14) (prim_ldn2 p1 (gz_ldn9 t1)) (prim_ldn2 p2 (gz_ldn9 t2)) (fun i hi => by have h1 := q1 i hi; have h2 := hg i (by omega); have h3 : (gz g i).natAbs = (g i).toInt.natAbs := rfl; omega) (fun i hi => by have h1 := q2 i hi; have h2 := hg2 i (by omega); have h3 : (gz g2 i).natAbs = (g2 i).toInt.natAbs := rfl; omega) (by omega) (by decide) (by decide) (by decide) 9
theorem FC_left {a b G : Nat → Int} {Na NG h : Nat} (hF : FC (h + 1) a Na b 0 G NG) : NG = Na ∧ ∀ i : Nat, i < Na → G i = a i := by
  rcases hF with ⟨_, h1, h2⟩ | ⟨h0, _⟩
  · exact ⟨h1, h2⟩
  · exact absurd h0 (by omega)
theorem FC_right {a b G : Nat → Int} {Nb NG h : Nat} (hF : FC (h + 2) a 0 b Nb G NG) (hN : 1 ≤ Nb) : NG = Nb ∧ ∀ i : Nat, i < Nb → G i = b i := by
  rcases hF with ⟨h0, _⟩ | ⟨_, r, Nr, hs, _, hF⟩
  · exact absurd h0 (by omega)
  · obtain ⟨y, y1, y2, y3, y4⟩ := hs
    rcases y4 with ⟨_, c2, _⟩ | ⟨c1, _⟩
    · subst c2
      exact FC_left hF
    · exact absurd c1 (by omega)
theorem okF_same {a G : Nat → Int} {g : Nat → Int32} {N : Nat} (t : tpN (gp g) 9 N) (hN : 1 ≤ N) (hg : ∀ i : Nat, i < 9 → ((g i).toInt.natAbs : Int) ≤ 1000000000) (p : primR (gz g) N a) (e : ∀ i : Nat, i < N → G i = a i) : okF G N := by
  have n9 := t.1
  have hl := prim_ldn2 p (gz_ldn9 t)
  refine okF_given ⟨hN, ?_⟩ n9 (fun i hi => ?_)
  · rw [e (N - 1) (by omega)]; exact hl (N - 1) (by omega)
  · rw [e i hi]
    have h1 := prim_le p (gz_ldn9 t) i hi
    have h2 := hg i (by omega)
    have h3 : (gz g i).natAbs = (g i).toInt.natAbs := rfl
    omega
theorem cnt_zero (G : Nat → Int) (n len : Int) : cntOK G 0 n len := by
  refine ⟨fun a1 b1 _ _ => ?_, fun f Nf G1 NG hf => ?_⟩
  · exact FZ_any (B := 30) (K := 14) (fun i hi => absurd hi (by omega)) (fun i hi => absurd hi (by omega)) (fun i hi => absurd hi (by omega)) (fun i hi => absurd hi (by omega)) (by omega) (by decide) (by decide) (by decide) 9
  · obtain ⟨a1, b1, q, y, j, k, h1, h2, h3, h4, h5, h6⟩ := hf
    have h7 := (FC_left h3).1
    exact absurd h5 (by omega)
/-- what the reference's common needs -/
theorem com_G {g g2 : Nat → Int32} {N1 N2 : Nat} (t1 : tpN (gp g) 9 N1) (t2 : tpN (gp g2) 9 N2) (hg : ∀ i : Nat, i < 9 → ((g i).toInt.natAbs : Int) ≤ 1000000000) (hg2 : ∀ i : Nat, i < 9 → ((g2 i).toInt.natAbs : Int) ≤ 1000000000) (hch : 1 ≤ N1 → 1 ≤ N2 → ∃ (Z : Nat → Int) (T : Nat → Nat) (us : Nat), chP Z T us g g2 N1 N2) : ∀ (G : Nat → Int) (NG : Nat), (∃ a1 b1 : Nat → Int, primR (gz g) N1 a1 ∧ primR (gz g2) N2 b1 ∧ FC 9 a1 N1 b1 N2 G NG) → (∀ i : Nat, i < NG → ((G i).natAbs : Int) ≤ 2 ^ 1196) ∧ cntOK G NG (-1152921504606846976) 2305843009213693952 := fun G NG h => by
  obtain ⟨a1, b1, p1, p2, hF⟩ := h
  have key : okF G NG → (∀ i : Nat, i < NG → ((G i).natAbs : Int) ≤ 2 ^ 1196) ∧ cntOK G NG (-1152921504606846976) 2305843009213693952 := fun ok => ⟨fun i hi => pow_1196 (B := 84) (by decide) (ok.2.1 i hi), okF_cnt ok (by decide) (by decide) (by decide)⟩
  by_cases c2 : N2 = 0
  · subst c2
    obtain ⟨e, e2⟩ := FC_left hF
    by_cases c1 : N1 = 0
    · subst c1
      subst e
      exact ⟨fun i hi => absurd hi (by omega), cnt_zero G _ _⟩
    · subst e
      exact key (okF_same t1 (by omega) hg p1 e2)
  · by_cases c1 : N1 = 0
    · subst c1
      obtain ⟨e, e2⟩ := FC_right hF (by omega)
      subst e
      exact key (okF_same t2 (by omega) hg2 p2 e2)
    · obtain ⟨Z, T, us, hc⟩ := hch (by omega) (by omega)
      obtain ⟨k1, k2, k3, k4, k5⟩ := eq_gcd t1 t2 (by omega) (by omega) hc p1 p2 hF
      exact key (okF_sub (okF_gz t1 (by omega) hg) k2 k1 k3)
/-- the roots that two polynomials share, in both programs -/
theorem com_eq {g g2 : Nat → Int32} {N1 N2 : Nat} (t1 : tpN (gp g) 9 N1) (t2 : tpN (gp g2) 9 N2) (n1 : 1 ≤ N1) (n2 : 1 ≤ N2) (hg : ∀ i : Nat, i < 9 → ((g i).toInt.natAbs : Int) ≤ 1000000000) {Z1 Z2 : Nat → Int} {T1 T2 : Nat → Nat} {us1 us2 : Nat} {r v : Int} (hc : chP Z2 T2 us2 g g2 N1 N2) (hr : (T2 (us2 - 1) ≤ 1 ∧ r = 0) ∨ (2 ≤ T2 (us2 - 1) ∧ ∃ F : Nat → Int, slF Z2 T2 us2 F ∧ chn Z1 T1 us1 ∧ zr Z1 T1 0 = F ∧ zr Z1 T1 1 = dp F ∧ r = ((vc (lS Z1 T1 1) us1 : Nat) : Int) - ((vc (lS Z1 T1 0) us1 : Nat) : Int)))
    {G : Nat → Int} {NG : Nat} {a1 b1 : Nat → Int} (p1 : primR (gz g) N1 a1) (p2 : primR (gz g2) N2 b1) (hF : FC 9 a1 N1 b1 N2 G NG) (hv : cntR G NG (-1152921504606846976) 2305843009213693952 v) : v = r := by
  obtain ⟨k1, k2, k3, k4, k5⟩ := eq_gcd t1 t2 n1 n2 hc p1 p2 hF
  have ok : okF G NG := okF_sub (okF_gz t1 n1 hg) k2 k1 k3
  rcases hr with ⟨h1, h0⟩ | ⟨h1, F, hs, hch, z0, z1, h0⟩
  · obtain ⟨f, Nf, G1, NG1, h, hf, hl, _, hT, hV⟩ := hv
    have := (UV_small ok hf (n := -1152921504606846976) (len := 2305843009213693952) (by decide) hT).2 (by omega)
    omega
  · have hch2 := hc.1
    have hus := hch2.2.2.2.1
    have hF1 : ppn F (zr Z2 T2 (us2 - 1)) NG := by
      refine ⟨Z2 (pB (us2 - 1) + (T2 (us2 - 1) - 1)), Z2 (pB 0 + (T2 0 - 1)), ?_, ?_, fun i hi => ?_⟩
      · exact chn_lead hch2 (by omega)
      · have h5 := hch2.2.2.2.2.2.2.2.2.1
        rw [zr_in (by have := hch2.2.2.2.2.2.2.1; omega)] at h5
        exact h5
      · have h5 := hs.1 i (by omega)
        rw [zr_in (by omega)]
        grind
    have hFG : ppn F G NG := ppn_trans hF1 (ppn_symm k5)
    have hFl : F (NG - 1) ≠ 0 := ppn_lead hFG (by omega) k1.2
    have hT0 : T1 0 = NG := by
      have l1 := hch.2.2.2.2.2.2.2.2.1
      have l2 := hch.2.2.2.2.2.2.1
      rw [z0] at l1
      rcases Nat.lt_trichotomy (T1 0) NG with q | q | q
      · have h6 : zr Z1 T1 0 (NG - 1) = 0 := zr_out (by omega)
        rw [z0] at h6
        exact absurd h6 hFl
      · exact q
      · exact absurd (hs.2.1 (T1 0 - 1) (by omega)) l1
    have n9 := t1.1
    rw [h0]
    exact eq_all k1 (by have := ok.1.2.1; omega) hFG k3 ⟨n1, (okF_gz t1 n1 hg).1.2.2⟩ (fun i hi => hg i (by omega)) hch z0 z1 hT0 hv
/-- counts of roots in a part of the line -/
theorem bet_eq {g : Nat → Int32} {N : Nat} (hN : tpN (gp g) 9 N) (hg : ∀ i : Nat, i < 9 → ((g i).toInt.natAbs : Int) ≤ 1000000000) {nv mv : Int} {ex ey : Nat} (hex : ex ≤ 30) (hey : ey ≤ 30) {Z : Nat → Int} {T : Nat → Nat} {us : Nat} {r q : Int32}
    (hc : ∃ N : Nat, tpN (gp g) 9 N ∧ ((N = 0 ∧ r = iZ (-3)) ∨ (1 ≤ N ∧ ((¬ (nv * 2 ^ ey < mv * 2 ^ ex) ∧ r = iZ 0) ∨ (nv * 2 ^ ey < mv * 2 ^ ex ∧ chR Z T us g ∧ ∃ v2 v1 : Int, upR Z T us mv ey v2 ∧ upR Z T us nv ex v1 ∧ r = iZ (v2 - v1))))))
    (hm : (N = 0 ∧ q = iZ (-3)) ∨ (N ≠ 0 ∧ (clampZ mv (2 ^ (30 + ey)) * 2 ^ (30 - ey)) ≤ (clampZ nv (2 ^ (30 + ex)) * 2 ^ (30 - ex)) ∧ q = iZ 0) ∨ (N ≠ 0 ∧ (clampZ nv (2 ^ (30 + ex)) * 2 ^ (30 - ex)) < (clampZ mv (2 ^ (30 + ey)) * 2 ^ (30 - ey)) ∧ ∃ v : Int, cntR (gz g) N (clampZ nv (2 ^ (30 + ex)) * 2 ^ (30 - ex)) ((clampZ mv (2 ^ (30 + ey)) * 2 ^ (30 - ey)) - (clampZ nv (2 ^ (30 + ex)) * 2 ^ (30 - ex))) v ∧ q = iZ v)) : q = r := by
  obtain ⟨N', hN', hc⟩ := hc
  have e := tpu2 hN hN'
  subst e
  rcases hc with ⟨h0, hr⟩ | ⟨h1, hc⟩
  · rcases hm with ⟨_, hq⟩ | ⟨h, _⟩ | ⟨h, _⟩
    · rw [hq, hr]
    · exact absurd h0 h
    · exact absurd h0 h
  · rcases hc with ⟨hno, hr⟩ | ⟨hlt, hR, v2, v1, u2, u1, hr⟩
    · have h2 := eq_between0 hex hey hno
      rcases hm with ⟨h, _⟩ | ⟨_, _, hq⟩ | ⟨_, h, _⟩
      · exact absurd h (by omega)
      · rw [hq, hr]
      · exact absurd h h2
    · obtain ⟨Q, Q1, W, G, m, ct, cs, hW⟩ := isoW_ex hN h1 hg
      obtain ⟨k1, k2⟩ := eq_between hW hN h1 hex hey hR u2 u1 hlt
      rcases hm with ⟨h, _⟩ | ⟨_, h, hq⟩ | ⟨_, h, v, hv, hq⟩
      · exact absurd h (by omega)
      · rw [hq, hr, k1 h]
      · rw [hq, hr, k2 v h hv]
theorem bet_ok {g : Nat → Int32} {N : Nat} (hN : tpN (gp g) 9 N) (hg : ∀ i : Nat, i < 9 → ((g i).toInt.natAbs : Int) ≤ 1000000000) (nv mv : Int) {ex ey : Nat} (hex : ex ≤ 30) (hey : ey ≤ 30) : N ≠ 0 → (clampZ nv (2 ^ (30 + ex)) * 2 ^ (30 - ex)) < (clampZ mv (2 ^ (30 + ey)) * 2 ^ (30 - ey)) → cntOK (gz g) N (clampZ nv (2 ^ (30 + ex)) * 2 ^ (30 - ex)) ((clampZ mv (2 ^ (30 + ey)) * 2 ^ (30 - ey)) - (clampZ nv (2 ^ (30 + ex)) * 2 ^ (30 - ex))) := fun h0 hlt => by
  have r1 := fine_range nv hex
  have r2 := fine_range mv hey
  exact okF_cnt (okF_gz hN (by omega) hg) (by omega) (by omega) (by omega)
theorem rts_eq {g : Nat → Int32} {N : Nat} (hN : tpN (gp g) 9 N) (hg : ∀ i : Nat, i < 9 → ((g i).toInt.natAbs : Int) ≤ 1000000000) {Z : Nat → Int} {T : Nat → Nat} {us : Nat} {r q : Int32}
    (hc : ∃ N : Nat, tpN (gp g) 9 N ∧ ((N = 0 ∧ r = iZ (-3)) ∨ (1 ≤ N ∧ chR Z T us g ∧ r = iZ (((vc (lS Z T 1) us : Nat) : Int) - ((vc (lS Z T 0) us : Nat) : Int)))))
    (hm : (N = 0 ∧ q = iZ (-3)) ∨ (N ≠ 0 ∧ (clampZ (9223372036854775807) (2 ^ (30 + 0)) * 2 ^ (30 - 0)) ≤ (clampZ (-9223372036854775808) (2 ^ (30 + 0)) * 2 ^ (30 - 0)) ∧ q = iZ 0) ∨ (N ≠ 0 ∧ (clampZ (-9223372036854775808) (2 ^ (30 + 0)) * 2 ^ (30 - 0)) < (clampZ (9223372036854775807) (2 ^ (30 + 0)) * 2 ^ (30 - 0)) ∧ ∃ v : Int, cntR (gz g) N (clampZ (-9223372036854775808) (2 ^ (30 + 0)) * 2 ^ (30 - 0)) ((clampZ (9223372036854775807) (2 ^ (30 + 0)) * 2 ^ (30 - 0)) - (clampZ (-9223372036854775808) (2 ^ (30 + 0)) * 2 ^ (30 - 0))) v ∧ q = iZ v)) : q = r := by
  obtain ⟨N', hN', hc⟩ := hc
  have e := tpu2 hN hN'
  subst e
  rcases hc with ⟨h0, hr⟩ | ⟨h1, hR, hr⟩
  · rcases hm with ⟨_, hq⟩ | ⟨h, _⟩ | ⟨h, _⟩
    · rw [hq, hr]
    · exact absurd h0 h
    · exact absurd h0 h
  · obtain ⟨Q, Q1, W, G, m, ct, cs, hW⟩ := isoW_ex hN h1 hg
    have k1 := (isoW_cls hW hN hR).2.1
    rcases hm with ⟨h, _⟩ | ⟨_, h, hq⟩ | ⟨_, h, v, hv, hq⟩
    · exact absurd h (by omega)
    · exact absurd h (by decide)
    · rw [hq, hr, k1, eq_roots hW hN h1 hv]
theorem apL_lt : ∀ (r : List (Int × Int)) (lf : Nat → Int32) (k i : Nat), i < k → apL lf k r i = lf i
  | [], _, _, _, _ => rfl
  | q :: r, lf, k, i, h => by
    show apL (upd lf k (iZ q.1)) (k + 1) r i = lf i
    rw [apL_lt r _ (k + 1) i (by omega), upd_ne (by omega)]
theorem apL_at : ∀ (r : List (Int × Int)) (lf : Nat → Int32) (k j : Nat) (q : Int × Int), r[j]? = some q → apL lf k r (k + j) = iZ q.1
  | [], _, _, _, _, h => by simp at h
  | a :: r, lf, k, 0, q, h => by
    have e : a = q := by simpa using h
    subst e
    show apL (upd lf k (iZ a.1)) (k + 1) r k = iZ a.1
    rw [apL_lt r _ (k + 1) k (by omega), upd_eq]
  | a :: r, lf, k, j + 1, q, h => by
    have e : r[j]? = some q := by simpa using h
    show apL (upd lf k (iZ a.1)) (k + 1) r (k + (j + 1)) = iZ q.1
    rw [show k + (j + 1) = (k + 1) + j by omega]
    exact apL_at r _ (k + 1) j q e
theorem apC_lt : ∀ (r : List (Int × Int)) (cf : Nat → Int64) (k i : Nat), i < k → apC cf k r i = cf i
  | [], _, _, _, _ => rfl
  | q :: r, cf, k, i, h => by
    show apC (vp_updL cf k (lZ q.2)) (k + 1) r i = cf i
    rw [apC_lt r _ (k + 1) i (by omega), updL_ne (by omega)]
theorem apC_at : ∀ (r : List (Int × Int)) (cf : Nat → Int64) (k j : Nat) (q : Int × Int), r[j]? = some q → apC cf k r (k + j) = lZ q.2
  | [], _, _, _, _, h => by simp at h
  | a :: r, cf, k, 0, q, h => by
    have e : a = q := by simpa using h
    subst e
    show apC (vp_updL cf k (lZ a.2)) (k + 1) r k = lZ a.2
    rw [apC_lt r _ (k + 1) k (by omega), updL_eq]
  | a :: r, cf, k, j + 1, q, h => by
    have e : r[j]? = some q := by simpa using h
    show apC (vp_updL cf k (lZ a.2)) (k + 1) r (k + (j + 1)) = lZ q.2
    rw [show k + (j + 1) = (k + 1) + j by omega]
    exact apC_at r _ (k + 1) j q e
/-- what isolate finds, if A isn't zero -/
theorem iso_data (g : Nat → Int32) (hg : ∀ i : Nat, i < 9 → ((g i).toInt.natAbs : Int) ≤ 1000000000) : ∃ (ct : Nat) (cs : Nat → Nat → Int) (mu : Nat → Nat), ∀ N : Nat, tpN (gp g) 9 N → 1 ≤ N → isoH g N ct cs mu ∧ (∃ (Q Q1 : Rat → Rat) (W : Rat → Int) (G : Nat → Int) (m : Nat), isoW g N Q Q1 W G m ct cs) ∧ ∀ i s : Nat, i < ct → s ≤ 30 → al cs ct s i → mlt (gp g) N (dy (cs s i) s) (dy (cs s i + 1) s) (mu i) := by
  obtain ⟨N, hN⟩ := tp_ex g
  by_cases c : N = 0
  · exact ⟨0, fun _ _ => 0, fun _ => 0, fun N' h1 h2 => absurd (tpu2 hN h1) (by omega)⟩
  · obtain ⟨Q, Q1, W, G, m, ct, cs, hW⟩ := isoW_ex hN (by omega) hg
    obtain ⟨mu, h1, h2⟩ := isoH_ok hW hN (by omega) (hsl_ok hN (by omega) hg)
    refine ⟨ct, cs, mu, fun N' k1 k2 => ?_⟩
    have e := tpu2 hN k1
    subst e
    exact ⟨h1, ⟨Q, Q1, W, G, m, hW⟩, h2⟩
theorem tyl_zero_iff (c : Nat → Int) (N : Nat) (nu : Int) (ex : Nat) : tyl c N 0 nu ex N = 0 ↔ rv c N (dy nu ex) = 0 := by
  have h := tyl_sign0 c N nu ex
  constructor
  · intro h0
    rw [h0] at h
    rcases rsg_cases (rv c N (dy nu ex)) with ⟨_, k⟩ | ⟨k, _⟩ | ⟨_, k⟩
    · rw [k] at h; exact absurd h (by decide)
    · exact k
    · rw [k] at h; exact absurd h (by decide)
  · intro h0
    rw [h0, rsg_zero] at h
    exact Int.sign_eq_zero_iff_zero.1 h
/-- the i-th root that is isolated: its level and its cell -/
theorem aF_at {g : Nat → Int32} {fd : Int} {gl : Nat → Int32} {gc : Nat → Int64} {ge gr : Nat → Int32} (h : aF g fd gl gc ge gr) {i : Nat} (hi : (i : Int) < fd) : ∃ (N : Nat) (Q Q1 : Rat → Rat) (W : Rat → Int) (G0 : Nat → Int) (m ct : Nat) (cs : Nat → Nat → Int) (mu : Nat → Nat) (u : Nat), tpN (gp g) 9 N ∧ 2 ≤ N ∧ isoW g N Q Q1 W G0 m ct cs ∧ i < ct ∧ fd = (ct : Int) ∧ ct ≤ 8 ∧ u ≤ 30 ∧ al cs ct u i ∧ gl i = iZ (u : Int) ∧ gc i = lZ (cs u i) ∧ (gl i).toInt = (u : Int) ∧ (gc i).toInt = cs u i ∧ mlt (gp g) N (dy (cs u i) u) (dy (cs u i + 1) u) (mu i) ∧ ge i = iZ (if tyl (gp g) N 0 (cs u i + 1) u N = 0 then 1 else 0) ∧ gr i = iZ (mu i : Int) ∧ (-1152921504606846976 ≤ cs u i * 2 ^ (30 - u) ∧ cs u i * 2 ^ (30 - u) + 2 ^ (30 - u) ≤ 1152921504606846976) ∧ (-1152921504606846976 ≤ cs u i ∧ cs u i ≤ 1152921504606846976) := by
  obtain ⟨N, Q, Q1, W, G0, m, ct, cs, mu, ex, h1, h2, h3, h4, h5, h6, h7, h8⟩ := h
  have hct : i < ct := by omega
  obtain ⟨⟨u, u1, u2, u3, u4, u5, u6, u7⟩, k1, k2⟩ := h8 i hct
  have hr := cs_range h3 hct u3
  have hN := h3.2.1
  have hp : (1 : Int) ≤ 2 ^ (30 - u) := by have h0 : (0 : Int) < 2 ^ (30 - u) := Int.pow_pos (by decide); omega
  refine ⟨N, Q, Q1, W, G0, m, ct, cs, mu, u, h1, by omega, h3, hct, h4, h5, u3, u5, ?_, ?_, u4, u7, h7 i u hct u3 u5, ?_, ?_, hr, ?_⟩
  · rw [← u4, iZ_self]
  · rw [← u7, lZ_self]
  · rw [k1, u7, u4]; rfl
  · rw [← k2, iZ_self]
  · constructor
    · rcases Int.lt_or_le (cs u i) 0 with q | q
      · have h9 : cs u i * 2 ^ (30 - u) ≤ cs u i * 1 := Int.mul_le_mul_of_nonpos_left (by omega) hp
        omega
      · omega
    · rcases Int.lt_or_le (cs u i) 0 with q | q
      · omega
      · have h9 : cs u i * 1 ≤ cs u i * 2 ^ (30 - u) := Int.mul_le_mul_of_nonneg_left hp q
        omega
