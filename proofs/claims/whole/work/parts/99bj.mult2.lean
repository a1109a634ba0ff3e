theorem top_eq {Z : Nat → Int} {T : Nat → Nat} {us n : Nat} {F : Nat → Int} (h : chn Z T us) (h0 : zr Z T 0 = F) (hn : 1 ≤ n) (h1 : F (n - 1) ≠ 0) (h2 : ∀ i : Nat, n ≤ i → F i = 0) : T 0 = n := by
  have a1 := h.2.2.2.2.2.2.1
  have a2 := h.2.2.2.2.2.2.2.2.1
  rw [h0] at a2
  have b1 : T 0 - 1 < n := by
    rcases Nat.lt_or_ge (T 0 - 1) n with c | c
    · exact c
    · exact absurd (h2 _ c) a2
  rcases Nat.lt_or_ge (n - 1) (T 0) with c | c
  · omega
  · rw [← h0, zr_out c] at h1
    exact absurd rfl h1
/-- the class's rounds -/
theorem rps_rnd {F0 : Nat → Int} {N : Nat} (hN : 1 ≤ N) (hl : F0 (N - 1) ≠ 0) (ho : ∀ i : Nat, N ≤ i → F0 i = 0) : ∀ {r : Nat} {F : Nat → Int}, rpS F0 r F → ∀ {Z : Nat → Int} {T : Nat → Nat} {us : Nat}, chn Z T us → zr Z T 0 = F → zr Z T 1 = dp F → rnd F0 N r F (T 0)
  | 0, F, h, Z, T, us, hc, h0, _ => by
    have e : F = F0 := h
    subst e
    exact ⟨top_eq hc h0 hN hl ho, ppn_refl _ _⟩
  | r + 1, F, h, Z, T, us, hc, h0, _ => by
    obtain ⟨F', Z', T', us', h1, h2, h3, h4, h5, h6, h7, _⟩ := h
    have ih := rps_rnd hN hl ho h1 h2 h3 h4
    obtain ⟨Q, Q1, W, s1, _, _⟩ := sq_cls h2 h3 h4
    obtain ⟨d1, d2, d3⟩ := chn_dec h2
    have hu := h2.2.2.2.1
    have hT0 := h2.2.2.2.2.2.2.1
    have l0 := d3 0 (by omega)
    have lL := d3 (us' - 1) (by omega)
    have e0 : Z' (pB 0 + (T' 0 - 1)) = zr Z' T' 0 (T' 0 - 1) := (zr_in (by omega)).symm
    have eL : Z' (pB (us' - 1) + (T' (us' - 1) - 1)) = zr Z' T' (us' - 1) (T' (us' - 1) - 1) := (zr_in (by omega)).symm
    have hrel : ∀ i : Nat, i < T' (us' - 1) → zr Z' T' (us' - 1) (T' (us' - 1) - 1) * F i = zr Z' T' 0 (T' 0 - 1) * zr Z' T' (us' - 1) i := fun i hi => by
      have := h6 i hi
      rw [e0, eL] at this
      rw [zr_in hi, Int.mul_comm _ (F i), ← this, Int.mul_comm]
    have hpp : ppn F (zr Z' T' (us' - 1)) (T' (us' - 1)) := ⟨_, _, lL, l0, hrel⟩
    have eT : T 0 = T' (us' - 1) := top_eq hc h0 d2 (ppn_lead hpp d2 lL) h7
    rw [eT]
    exact ⟨F', T' 0, Q, Q1, W, zr Z' T' (us' - 1), ih, s1, hpp⟩
/-- the reference's rounds -/
theorem mulR_mlt {F0 : Nat → Int} {N0 : Nat} (hN : 1 ≤ N0 ∧ N0 ≤ 10) (h0 : F0 (N0 - 1) ≠ 0) {n len : Int} (hl : 0 < len) {V : Rat → Int} (hV : isR F0 N0 0 V) (hV1 : V (dy (n + len) 30) - V (dy n 30) = 1) : ∀ {k : Nat} {a : Nat → Int} {Na r v : Nat}, rnd F0 N0 r a Na → (∀ q : Nat, q < r → ∀ W : Rat → Int, isR F0 N0 q W → W (dy n 30) < W (dy (n + len) 30)) → mulR n len k a Na v → mlt F0 N0 (dy n 30) (dy (n + len) 30) (r + v)
  | 0, a, Na, r, v, _, _, h => absurd h (fun g => g)
  | k + 1, a, Na, r, v, hr, hq, h => by
    obtain ⟨f, Nf, G, NG, d, h1, h2, h3, h4, h5⟩ := h
    have la := rnd_lead hN.1 h0 hr
    have hlen := rnd_len hN.1 h0 hr
    have hab := dy_le (s := 30) (show n ≤ n + len by omega)
    obtain ⟨Q, Q1, W, G', m, hs, _⟩ := sq_ex la.1 la.2
    have hW : isR F0 N0 r W := ⟨a, Na, Q, Q1, G', m, hr, hs⟩
    have eU := isoW_ref hs ⟨la.1, by omega⟩ la.2 h1 hl h4
    have hle := isR_le hN.1 h0 hab r 0 hV (by rw [Nat.zero_add]; exact hW)
    have hmo := cnt_mono hs.1 hab
    rcases h5 with ⟨u1, u2⟩ | ⟨u1, w, u2, u3⟩
    · rw [eU] at u1
      have hz : W (dy (n + len) 30) = W (dy n 30) := by omega
      rw [u2, Nat.add_zero]
      exact ⟨fun U hU => by rw [isR_uniq hU hW, isR_uniq hU hW]; exact hz, hq⟩
    · rw [eU] at u1
      obtain ⟨_, _, e1, _, kk, e2, e3⟩ := sq_free hs ⟨la.1, by omega⟩ la.2 h1
      subst e1
      have hnext : rnd F0 N0 (r + 1) G NG := ⟨a, Na, Q, Q1, W, G', hr, hs, rat_ppn e2 e3⟩
      have := mulR_mlt hN h0 hl hV hV1 hnext (fun q q1 U hU => by
        by_cases c : q = r
        · rw [c] at hU
          rw [isR_uniq hU hW, isR_uniq hU hW]; omega
        · exact hq q (by omega) U hU) u2
      rw [u3, show r + (w + 1) = r + 1 + w by omega]
      exact this
section
variable {g : Nat → Int32} {N : Nat} {Q Q1 : Rat → Rat} {W : Rat → Int} {G : Nat → Int} {m ct : Nat} {cs : Nat → Nat → Int}
/-- a cell with one root only -/
theorem al_one (h : isoW g N Q Q1 W G m ct cs) {s i : Nat} (hi : i < ct) (ha : al cs ct s i) : W (dy (cs s i + 1) s) - W (dy (cs s i) s) = 1 := by
  have := isoW_only h (s := s) hi (a := cs s i) (b := cs s i + 1) (fun j hj hji => by
    by_cases c : j < i
    · have h1 := isoW_sort h (s := s) (show j ≤ i - 1 by omega) (show i - 1 < ct by omega)
      have h2 := isoW_sort h (s := s) (show i - 1 ≤ i by omega) hi
      rcases ha.1 with u | u <;> omega
    · have h1 := isoW_sort h (s := s) (show i + 1 ≤ j by omega) hj
      have h2 := isoW_sort h (s := s) (show i ≤ i + 1 by omega) (show i + 1 < ct by omega)
      rcases ha.2 with u | u <;> omega) (x := cs s i) (by omega) (by omega) (by omega)
  rw [if_neg (by omega)] at this
  exact this
theorem cell_in (h : isoW g N Q Q1 W G m ct cs) {s i : Nat} (hi : i < ct) : ∀ k : Nat, dy (cs s i) s ≤ dy (cs (s + k) i) (s + k) ∧ dy (cs (s + k) i + 1) (s + k) ≤ dy (cs s i + 1) s
  | 0 => ⟨Rat.le_refl, Rat.le_refl⟩
  | k + 1 => by
    obtain ⟨h1, h2⟩ := cell_in h (s := s) hi k
    have h3 := isoW_half h (s := s + k) hi
    have e : ∀ n : Int, dy (n * 2) (s + k + 1) = dy n (s + k) := fun n => dy_up n (s + k) 1
    have h4 := dy_le (s := s + k + 1) (show cs (s + k) i * 2 ≤ cs (s + k + 1) i by omega)
    have h5 := dy_le (s := s + k + 1) (show cs (s + k + 1) i + 1 ≤ (cs (s + k) i + 1) * 2 by omega)
    rw [e] at h4 h5
    exact ⟨by rw [← Nat.add_assoc]; grind, by rw [← Nat.add_assoc]; grind⟩
theorem mlt_level (h : isoW g N Q Q1 W G m ct cs) (hN : 1 ≤ N) (hl : gp g (N - 1) ≠ 0) {s i k : Nat} (hi : i < ct) (ha : al cs ct s i) (hb : al cs ct (s + k) i) {v : Nat} (hv : mlt (gp g) N (dy (cs (s + k) i) (s + k)) (dy (cs (s + k) i + 1) (s + k)) v) : mlt (gp g) N (dy (cs s i) s) (dy (cs s i + 1) s) v := by
  obtain ⟨c1, c2⟩ := cell_in h (s := s) hi k
  have hW : isR (gp g) N 0 W := ⟨gp g, N, Q, Q1, G, m, ⟨rfl, ppn_refl _ _⟩, h.1⟩
  have a1 := al_one h hi ha
  have a2 := al_one h hi hb
  have m1 := isoW_mono h _ _ c1
  have m2 := isoW_mono h _ _ c2
  exact mlt_sub hN hl c1 (dy_le (by omega)) c2 hW (by omega) (by omega) hv
/-- everything that isolate needs -/
theorem isoH_ok (h : isoW g N Q Q1 W G m ct cs) (hN : tpN (gp g) 9 N) (hN1 : 1 ≤ N) (hsl : ∀ (r : Nat) (F Z9 : Nat → Int) (T9 : Nat → Nat) (u9 : Nat), rpS (gp g) r F → chn Z9 T9 u9 → zr Z9 T9 0 = F → zr Z9 T9 1 = dp F → 2 ≤ T9 (u9 - 1) → ∃ F1 : Nat → Int, slF Z9 T9 u9 F1) : ∃ mu : Nat → Nat, isoH g N ct cs mu ∧ ∀ i s : Nat, i < ct → s ≤ 30 → al cs ct s i → mlt (gp g) N (dy (cs s i) s) (dy (cs s i + 1) s) (mu i) := by
  have hN9 := hN.1
  have hld : gp g (N - 1) ≠ 0 := by rw [gp_in (by omega)]; exact tp_lead hN hN1
  have hout : ∀ i : Nat, N ≤ i → gp g i = 0 := fun i hi => by
    by_cases c : i < 9
    · exact hN.2.1 i hi c
    · exact gp_out g i (by omega)
  -- a root's number
  have hex : ∀ i : Nat, ∃ v : Nat, (1 ≤ v ∧ v ≤ 8) ∧ ((∃ s : Nat, s ≤ 30 ∧ al cs ct s i) → i < ct → ∃ s : Nat, s ≤ 30 ∧ al cs ct s i ∧ mlt (gp g) N (dy (cs s i) s) (dy (cs s i + 1) s) v) ∧ (¬ (∃ s : Nat, s ≤ 30 ∧ al cs ct s i) → v = 1) := fun i => by
    by_cases c : (∃ s : Nat, s ≤ 30 ∧ al cs ct s i) ∧ i < ct
    · obtain ⟨⟨s, s1, s2⟩, hi⟩ := c
      obtain ⟨v, v1, v2⟩ := mlt_ex hN1 hld (dy_le (s := s) (show cs s i ≤ cs s i + 1 by omega))
      have hW : isR (gp g) N 0 W := ⟨gp g, N, Q, Q1, G, m, ⟨rfl, ppn_refl _ _⟩, h.1⟩
      have h1 := al_one h hi s2
      have hv1 : 1 ≤ v := by
        rcases Nat.eq_zero_or_pos v with q | q
        · rw [q] at v2; have := v2.1 W hW; omega
        · exact q
      exact ⟨v, ⟨hv1, by omega⟩, fun _ _ => ⟨s, s1, s2, v2⟩, fun q => absurd ⟨s, s1, s2⟩ q⟩
    · exact ⟨1, by omega, fun q1 q2 => absurd ⟨q1, q2⟩ c, fun _ => rfl⟩
  obtain ⟨mu, hmu⟩ : ∃ mu : Nat → Nat, ∀ i : Nat, (1 ≤ mu i ∧ mu i ≤ 8) ∧ ((∃ s : Nat, s ≤ 30 ∧ al cs ct s i) → i < ct → ∃ s : Nat, s ≤ 30 ∧ al cs ct s i ∧ mlt (gp g) N (dy (cs s i) s) (dy (cs s i + 1) s) (mu i)) ∧ (¬ (∃ s : Nat, s ≤ 30 ∧ al cs ct s i) → mu i = 1) := ⟨fun i => Classical.choose (hex i), fun i => Classical.choose_spec (hex i)⟩
  have hany : ∀ i s : Nat, i < ct → s ≤ 30 → al cs ct s i → mlt (gp g) N (dy (cs s i) s) (dy (cs s i + 1) s) (mu i) := fun i s hi hs ha => by
    obtain ⟨t, t1, t2, t3⟩ := (hmu i).2.1 ⟨s, hs, ha⟩ hi
    obtain ⟨w, _, hw⟩ := mlt_ex hN1 hld (dy_le (s := s) (show cs s i ≤ cs s i + 1 by omega))
    rcases Nat.le_total s t with c | c
    · obtain ⟨k, rfl⟩ : ∃ k : Nat, t = s + k := ⟨t - s, by omega⟩
      exact mlt_level h hN1 hld hi ha t2 t3
    · obtain ⟨k, rfl⟩ : ∃ k : Nat, s = t + k := ⟨s - t, by omega⟩
      have := mlt_level h hN1 hld hi t2 ha hw
      rw [mlt_uniq hN1 hld t3 this]
      exact hw
  refine ⟨mu, ⟨by have := h.2.1; omega, fun Z T us hc => (isoW_cls h hN hc).2.1, fun Z T us s hc _ => isoW_clF h hN hc, fun s i _ hi => isoW_half h hi, fun s i j _ hij hj => isoW_sort h hij hj, fun s i _ hi => (h.2.2.2.2 s i hi).1, fun Z T us s hc _ i a b hi _ _ ha hb ho => isoW_ssF h hN hN1 hc hi ha hb ho, hsl, fun r F Z9 T9 u9 hr hc h0 h1 i s v1 v0 hi hs ha hv1 hv0 => ?_, fun r F Z9 T9 u9 hr hc h0 h1 ht i hi => ?_, fun i _ => (hmu i).1⟩, hany⟩
  · obtain ⟨P, P1, V, s1, s2, _⟩ := sq_cls hc h0 h1
    have hR : isR (gp g) N (r + 1) V := ⟨F, T9 0, P, P1, _, _, rps_rnd hN1 hld hout hr hc h0 h1, s1⟩
    rw [s2 _ _ _ hv1, s2 _ _ _ hv0]
    exact mlt_iff hN1 hld (dy_le (by omega)) (hany i s hi hs ha) hR
  · by_cases c : ∃ s : Nat, s ≤ 30 ∧ al cs ct s i
    · obtain ⟨s, s1, s2⟩ := c
      have hm := hany i s hi s1 s2
      rcases Nat.lt_or_ge (r + 1) (mu i) with q | q
      · exfalso
        obtain ⟨P, P1, V, p1, p2, _⟩ := sq_cls hc h0 h1
        have hrn := rps_rnd hN1 hld hout hr hc h0 h1
        obtain ⟨_, d2, d3⟩ := chn_dec hc
        have hu := hc.2.2.2.1
        have e1 : T9 (u9 - 1) = 1 := by omega
        rw [e1] at p1
        obtain ⟨P', P1', V', G', m', p3, _⟩ := sq_ex (F := zr Z9 T9 (u9 - 1)) (N := 1) (by omega) (by have := d3 (u9 - 1) (by omega); rw [e1] at this; exact this)
        have hR : isR (gp g) N (r + 1) V' := ⟨zr Z9 T9 (u9 - 1), 1, P', P1', G', m', ⟨F, T9 0, P, P1, V, _, hrn, p1, ppn_refl _ _⟩, p3⟩
        have g1 := hm.2 (r + 1) q V' hR
        have g2 := sq_const p3 (by have := d3 (u9 - 1) (by omega); rw [e1] at this; exact this) (dy_le (s := s) (show cs s i ≤ cs s i + 1 by omega))
        omega
      · exact q
    · rw [(hmu i).2.2 c]; omega
end
