theorem far_sign {b : Nat → Int} : ∀ N : Nat, vl b N ≠ 0 → ∃ S0 : Rat, 2 ≤ S0 ∧ ∀ s : Rat, S0 ≤ s → rsg (rv b N s) = vl b N
  | 0, h => absurd rfl h
  | N + 1, h => by
    simp only [vl] at *
    by_cases c : (b N).sign = 0
    · rw [if_pos c] at h ⊢
      obtain ⟨S0, h1, h2⟩ := far_sign N h
      refine ⟨S0, h1, fun s hs => ?_⟩
      show rsg (rv b N s + (b N : Rat) * s ^ N) = _
      rw [Int.sign_eq_zero_iff_zero.1 c]
      have z : ((0 : Int) : Rat) = 0 := rfl
      rw [z, show rv b N s + 0 * s ^ N = rv b N s by grind]
      exact h2 s hs
    · rw [if_neg c]
      refine ⟨csum b N + 2, by have := csum_nn b N; grind, fun s hs => ?_⟩
      have h0 := csum_nn b N
      rw [rv_top (X := s) (fun g => c (by rw [g]; rfl)) (by grind) (Or.inl rfl), rsg_pow_pos (by grind)]
      omega
theorem first_nz {b : Nat → Int} : ∀ n : Nat, (∃ k : Nat, k < n ∧ b k ≠ 0) → ∃ k : Nat, k < n ∧ b k ≠ 0 ∧ ∀ i : Nat, i < k → b i = 0
  | 0, ⟨k, hk, _⟩ => absurd hk (by omega)
  | n + 1, ⟨k, hk, hb⟩ => by
    by_cases c : ∃ k : Nat, k < n ∧ b k ≠ 0
    · obtain ⟨j, h1, h2, h3⟩ := first_nz n c
      exact ⟨j, by omega, h2, h3⟩
    · have hz : ∀ i : Nat, i < n → b i = 0 := fun i hi => Classical.byContradiction fun q => c ⟨i, hi, q⟩
      have e : k = n := Classical.byContradiction fun q => hb (hz k (by omega))
      exact ⟨n, by omega, by rw [← e]; exact hb, hz⟩
theorem near_sign {b : Nat → Int} {N k : Nat} (hk : k < N) (hb : b k ≠ 0) (hz : ∀ i : Nat, i < k → b i = 0) : ∃ s0 : Rat, 0 < s0 ∧ s0 ≤ 1 ∧ ∀ s : Rat, 0 < s → s ≤ s0 → rsg (rv b N s) = (b k).sign := by
  obtain ⟨n, hn⟩ : ∃ n : Nat, n = N - 1 - k := ⟨_, rfl⟩
  have htop : (fun i => b (N - 1 - i)) n ≠ 0 := by show b (N - 1 - n) ≠ 0; rw [show N - 1 - n = k by omega]; exact hb
  obtain ⟨U, hU⟩ : ∃ U : Rat, U = csum (fun i => b (N - 1 - i)) n + 1 := ⟨_, rfl⟩
  have hU1 : 1 ≤ U := by have := csum_nn (fun i => b (N - 1 - i)) n; grind
  refine ⟨1 / U, div_pos' (by grind) (by grind), ?_, fun s s0 s1 => ?_⟩
  · have h1 : U * (1 / U) = 1 := by grind
    have h2 : U * (1 / U) ≤ U * 1 := by grind
    exact Rat.le_of_mul_le_mul_left h2 (by grind)
  · obtain ⟨u, hu⟩ : ∃ u : Rat, u = 1 / s := ⟨_, rfl⟩
    have us : u * s = 1 := by rw [hu]; grind
    have hu0 : 0 < u := by rw [hu]; exact div_pos' (by grind) s0
    have huU : U ≤ u := by
      have h2 := Rat.mul_le_mul_of_nonneg_left s1 (c := U * u) (Rat.mul_nonneg (by grind) (by grind))
      have e1 : U * u * s = U := by rw [show U * u * s = U * (u * s) by grind, us]; grind
      have e2 : U * u * (1 / U) = u := by grind
      rw [e1, e2] at h2
      exact h2
    have h1 := rev_rv b (N := N) (by omega) (u := u) (by grind)
    have e1 : 1 / u = s := by rw [hu]; grind
    rw [e1] at h1
    -- the reversed row ends at n
    have e2 : rv (fun i => b (N - 1 - i)) N u = rv (fun i => b (N - 1 - i)) (n + 1) u := by
      have e3 : rv (fun i => b (N - 1 - i)) N u = rv (fun i => if i ≤ n then b (N - 1 - i) else 0) N u := rv_congr u (fun i hi => by
        by_cases c : i ≤ n
        · rw [if_pos c]
        · rw [if_neg c]; exact hz _ (by omega))
      have e4 : rv (fun i => if i ≤ n then b (N - 1 - i) else 0) N u = rv (fun i => if i ≤ n then b (N - 1 - i) else 0) (n + 1) u := rv_le (fun i hi => if_neg (by omega)) (by omega) u
      rw [e3, e4]
      exact rv_congr u (fun i hi => if_pos (by omega))
    have h2 := rv_top (c := fun i => b (N - 1 - i)) (n := n) htop (X := u) (x := u) (by rw [← hU]; exact huU) (Or.inl rfl)
    rw [rsg_pow_pos hu0, Int.mul_one] at h2
    have h3 : rsg (rv b N s) = rsg (rv (fun i => b (N - 1 - i)) N u) := rsg_scale (rat_pow_pos hu0 (N - 1)) (b := 1) (by grind) (by rw [h1]; grind)
    rw [h3, e2, h2]
    show (b (N - 1 - n)).sign = _
    rw [show N - 1 - n = k by omega]
/-- the leaf of the search: what it counts there is what W counts -/
theorem leafW {Q : Rat → Rat} {W : Rat → Int} (h : cnt Q W) (hd : ∀ x y : Rat, x < y → ∃ z : Rat, x < z ∧ z < y ∧ Q z ≠ 0) {c : Nat → Int} {N : Nat} (hN : 1 ≤ N) {a b k : Rat} (hab : a < b) (hk : k ≠ 0) (hc : ∀ t : Rat, rv c N t = k * Q (a + t * (b - a))) (hv : vv c N ≤ 1) : W b - W a = ((vv c N : Nat) : Int) + (if Q b = 0 then 1 else 0) := by
  obtain ⟨B, hB⟩ : ∃ B : Nat → Int, B = shf (fun k => c (N - 1 - k)) N (N - 1) := ⟨_, rfl⟩
  have hBr : ∀ s : Rat, 0 < s → rv B N s = (s + 1) ^ (N - 1) * (k * Q (a + (1 / (s + 1)) * (b - a))) := fun s hs => by
    have h1 := sh1_rv (fun k => c (N - 1 - k)) hN s
    unfold sh1 at h1
    rw [hB, h1, rev_rv c hN (by grind), hc]
  have hsk : ∀ x : Rat, rsg (k * x) = rsg k * rsg x := fun x => sgn_mul_r
  have hks := rsg_nz hk
  -- a point of the interval, and its s
  have hpt : ∀ z : Rat, a < z → z < b → ∃ s : Rat, 0 < s ∧ (s + 1) * (z - a) = b - a ∧ rsg (rv B N s) = rsg k * rsg (Q z) := fun z z1 z2 => by
    obtain ⟨s, hs⟩ : ∃ s : Rat, s = (b - z) / (z - a) := ⟨_, rfl⟩
    have hs0 : 0 < s := by rw [hs]; exact div_pos' (by grind) (by grind)
    have e1 : (s + 1) * (z - a) = b - a := by rw [hs]; grind
    refine ⟨s, hs0, e1, ?_⟩
    have e2 : a + (1 / (s + 1)) * (b - a) = z := by
      rw [← e1]
      have : s + 1 ≠ 0 := by grind
      have : (1 / (s + 1)) * ((s + 1) * (z - a)) = z - a := by grind
      rw [this]; grind
    have e3 := hBr s hs0
    rw [e2] at e3
    rw [e3, sgn_mul_r, rsg_pow_pos (by grind), hsk]; omega
  have hsz : ∀ s : Rat, 0 < s → ∃ z : Rat, a < z ∧ z < b ∧ (s + 1) * (z - a) = b - a := fun s hs => by
    refine ⟨a + (b - a) / (s + 1), ?_, ?_, ?_⟩
    · have := div_pos' (show 0 < b - a by grind) (show 0 < s + 1 by grind); grind
    · have h1 : (s + 1) * ((b - a) / (s + 1)) = b - a := by grind
      have h2 : (s + 1) * ((b - a) / (s + 1)) < (s + 1) * (b - a) := by
        rw [h1]
        have := Rat.mul_pos hs (show 0 < b - a by grind)
        grind
      have := Rat.lt_of_mul_lt_mul_left h2 (by grind)
      grind
    · grind
  have hord : ∀ z w s t : Rat, z < w → a < z → 0 < s → 0 < t → (s + 1) * (z - a) = b - a → (t + 1) * (w - a) = b - a → t < s := fun z w s t h1 h2 h3 h4 h5 h6 => by
    refine Rat.lt_of_mul_lt_mul_left (c := z - a) ?_ (by grind)
    have : 0 < (t + 1) * (w - z) := Rat.mul_pos (by grind) (by grind)
    grind
  have hvl : vl B N ≠ 0 := fun g => by
    have hz := vl_zero N g
    obtain ⟨z, z1, z2, z3⟩ := hd a b hab
    obtain ⟨s, s1, s2, s3⟩ := hpt z z1 z2
    have e : rv B N s = rv (fun _ => 0) N s := rv_congr s (fun i hi => hz i hi)
    rw [e, rv_zero, rsg_zero] at s3
    rcases rsg_nz z3 with u | u <;> rcases hks with w | w <;> rw [u, w] at s3 <;> omega
  have hr := vl_one N hvl
  have evv : vv c N = vc B N := by rw [hB]; rfl
  obtain ⟨r, hr0⟩ : ∃ r : Int, r = rsg k * vl B N := ⟨_, rfl⟩
  have hr1 : r = 1 ∨ r = -1 := by rcases hr with u | u <;> rcases hks with w | w <;> rw [hr0, u, w] <;> omega
  have hkk : ∀ x y : Int, x = rsg k * y → y = rsg k * x := fun x y g => by rcases hks with w | w <;> rw [w] at g ⊢ <;> omega
  rw [evv] at hv ⊢
  rcases (show vc B N = 0 ∨ vc B N = 1 by omega) with v | v
  · rw [v]
    have := leaf0 h hab hr1 (fun z z1 z2 => by
      obtain ⟨s, s1, s2, s3⟩ := hpt z z1 z2
      rw [desc0 v hvl s1] at s3
      rw [hr0]; exact hkk _ _ s3)
    omega
  · rw [v]
    obtain ⟨S0, f1, f2⟩ := far_sign N hvl
    obtain ⟨p, p1, p2, ⟨k0, p3, p3'⟩, p4, p5, p6⟩ := vc_one N v
    obtain ⟨j, j1, j2, j3⟩ := first_nz (b := B) p ⟨k0, p3, fun g => by rw [g] at p3'; rcases hr with u | u <;> rw [u] at p3' <;> exact absurd p3' (by decide)⟩
    have hj : (B j).sign = - vl B N := by
      rcases p2 j j1 with g | g
      · exact absurd (Int.sign_eq_zero_iff_zero.1 g) j2
      · exact g
    obtain ⟨s0, n1, n2, n3⟩ := near_sign (N := N) (show j < N by omega) j2 j3
    obtain ⟨z1, a1, a2, a3⟩ := hsz S0 (by grind)
    obtain ⟨z2, b1, b2, b3⟩ := hsz s0 n1
    have hz12 : z1 < z2 := by
      refine Rat.lt_of_mul_lt_mul_left (a := z1) (b := z2) (c := S0 + 1) ?_ (by grind)
      have : 0 < (S0 - s0) * (z2 - a) := Rat.mul_pos (by grind) (by grind)
      grind
    have hneg : rsg k * -vl B N = -r := by rw [hr0]; rcases hks with w | w <;> rw [w] <;> omega
    have := leaf1 h a1 hz12 b2 hr1 (fun z g1 g2 => by
      obtain ⟨s, s1, s2, s3⟩ := hpt z g1 (by grind)
      have hs : S0 ≤ s := by
        rcases Rat.le_total (a := S0) (b := s) with u | u
        · exact u
        · have g3 : 0 ≤ (S0 - s) * (z - a) := Rat.mul_nonneg (by grind) (by grind)
          have g4 : 0 ≤ (S0 + 1) * (z1 - z) := Rat.mul_nonneg (by grind) (by grind)
          have g5 : (S0 - s) * (z - a) = 0 := by grind
          rcases Rat.mul_eq_zero.1 g5 with g6 | g6 <;> grind
      rw [f2 s hs] at s3
      rw [hr0]; exact hkk _ _ s3) (fun z g1 g2 => by
      obtain ⟨s, s1, s2, s3⟩ := hpt z (by grind) g2
      have hs : s ≤ s0 := by
        rcases Rat.le_total (a := s) (b := s0) with u | u
        · exact u
        · have g3 : 0 ≤ (s - s0) * (z - a) := Rat.mul_nonneg (by grind) (by grind)
          have g4 : 0 ≤ (s0 + 1) * (z - z2) := Rat.mul_nonneg (by grind) (by grind)
          have g5 : (s - s0) * (z - a) = 0 := by grind
          rcases Rat.mul_eq_zero.1 g5 with g6 | g6 <;> grind
      rw [n3 s s1 hs, hj] at s3
      rw [hkk _ _ s3]; exact hneg) (fun z w g1 g2 g3 g4 => by
      obtain ⟨s, s1, s2, s3⟩ := hpt z g1 (by grind)
      obtain ⟨t, t1, t2, t3⟩ := hpt w (by grind) g3
      have hts := hord z w s t g2 g1 s1 t1 s2 t2
      have h5 : ¬ (rsg (rv B N t) = vl B N ∨ rsg (rv B N t) = 0) := fun q => by
        have := desc1 v t1 hts q
        rw [s3] at this
        exact g4 (by rw [hr0]; exact hkk _ _ this.symm)
      have h6 : rsg (rv B N t) = - vl B N := by
        rcases rsg_three (rv B N t) with u | u | u
        · rcases hr with w | w
          · rw [u, w]
          · exact absurd (Or.inl (by rw [u, w])) h5
        · exact absurd (Or.inr u) h5
        · rcases hr with w | w
          · exact absurd (Or.inl (by rw [u, w])) h5
          · rw [u, w]; rfl
      rw [h6] at t3
      rw [hkk _ _ t3]; exact hneg)
    omega
/-- the search counts what W counts -/
theorem CVW {Q : Rat → Rat} {W : Rat → Int} (h : cnt Q W) (hd : ∀ x y : Rat, x < y → ∃ z : Rat, x < z ∧ z < y ∧ Q z ≠ 0) {N : Nat} (hN : 1 ≤ N) : ∀ (d : Nat) (c : Nat → Int) (a b k : Rat), a < b → k ≠ 0 → (∀ t : Rat, rv c N t = k * Q (a + t * (b - a))) → TV N d c → W b - W a = ((CV N d c : Nat) : Int) + (if Q b = 0 then 1 else 0)
  | 0, c, a, b, k, hab, hk, hc, ht => leafW h hd hN hab hk hc ht.2
  | d + 1, c, a, b, k, hab, hk, hc, ht => by
    simp only [CV]
    by_cases v : vv c N ≤ 1
    · rw [if_pos v]; exact leafW h hd hN hab hk hc v
    · rw [if_neg v]
      obtain ⟨t1, t2, t3, _⟩ := ht.2.resolve_left v
      obtain ⟨m, hm⟩ : ∃ m : Rat, m = (a + b) / 2 := ⟨_, rfl⟩
      have p2 := p2pos (N - 1)
      have hk2 : (2 : Rat) ^ (N - 1) * k ≠ 0 := fun g => by rcases Rat.mul_eq_zero.1 g with u | u <;> grind
      have e1 : ∀ t : Rat, rv (hlv c N) N t = (2 : Rat) ^ (N - 1) * k * Q (a + t * (m - a)) := fun t => by
        rw [hlv_rv c hN, hc, show a + t / 2 * (b - a) = a + t * (m - a) by rw [hm]; grind]; grind
      have e2 : ∀ t : Rat, rv (sh1 (hlv c N) N) N t = (2 : Rat) ^ (N - 1) * k * Q (m + t * (b - m)) := fun t => by
        rw [sh1_rv _ hN, e1, show a + (t + 1) * (m - a) = m + t * (b - m) by rw [hm]; grind]
      have i1 := CVW h hd hN d (hlv c N) a m _ (by grind) hk2 e1 t1
      have i2 := CVW h hd hN d (sh1 (hlv c N) N) m b _ (by grind) hk2 e2 t3
      have e3 : (if sh1 (hlv c N) N 0 = 0 then (1 : Nat) else 0) = (if Q m = 0 then 1 else 0) := by
        have h0 := e2 0
        have h1 : rv (sh1 (hlv c N) N) N 0 = ((sh1 (hlv c N) N 0 : Int) : Rat) := by
          obtain ⟨n, rfl⟩ : ∃ n : Nat, N = n + 1 := ⟨N - 1, by omega⟩
          rw [rv_front]; grind
        rw [h1, show m + 0 * (b - m) = m by grind] at h0
        by_cases c1 : Q m = 0
        · rw [if_pos c1, if_pos]
          rw [c1] at h0
          have h2 : ((sh1 (hlv c N) N 0 : Int) : Rat) = ((0 : Int) : Rat) := by rw [h0]; have : ((0 : Int) : Rat) = 0 := rfl; rw [this]; grind
          exact Rat.intCast_inj.1 h2
        · rw [if_neg c1, if_neg]
          intro g
          rw [g] at h0
          have : ((0 : Int) : Rat) = 0 := rfl
          rw [this] at h0
          rcases Rat.mul_eq_zero.1 h0.symm with u | u
          · exact hk2 u
          · exact c1 u
      rw [e3]
      by_cases c1 : Q m = 0
      · rw [if_pos c1] at i1 ⊢; omega
      · rw [if_neg c1] at i1 ⊢; omega
/-- the roots above n and not above n + len, in units of 2 to the power -30 -/
theorem UVW {f : Nat → Int} {N : Nat} {Q : Rat → Rat} {W : Rat → Int} (h : cnt Q W) (hd : ∀ x y : Rat, x < y → ∃ z : Rat, x < z ∧ z < y ∧ Q z ≠ 0) (hN : 1 < N) {k : Rat} (hk : k ≠ 0) (hf : ∀ x : Rat, rv f N x = k * Q x) {n len : Int} (hl : 0 < len) {d : Nat} (ht : TV N d (mvd f N n len)) : UV N d (mvd f N n len) = W (dy (n + len) 30) - W (dy n 30) := by
  have p2 := p2pos 30
  have hlr : (0 : Rat) < (len : Rat) := by
    have : ((0 : Int) : Rat) < (len : Rat) := Rat.intCast_lt_intCast.2 hl
    exact this
  have en := dy_mul n 30
  have em := dy_mul (n + len) 30
  rw [Rat.intCast_add] at em
  have hab : dy n 30 < dy (n + len) 30 := Rat.lt_of_mul_lt_mul_left (c := (2 : Rat) ^ 30) (by grind) (by grind)
  obtain ⟨k2, hk2⟩ : ∃ k2 : Rat, k2 = ((2 : Rat) ^ 30) ^ (N - 1) * k := ⟨_, rfl⟩
  have hk2n : k2 ≠ 0 := fun g => by
    rw [hk2] at g
    have := rat_pow_pos p2 (N - 1)
    rcases Rat.mul_eq_zero.1 g with u | u <;> grind
  have hc : ∀ t : Rat, rv (mvd f N n len) N t = k2 * Q (dy n 30 + t * (dy (n + len) 30 - dy n 30)) := fun t => by
    rw [mvd_rv f (by omega), hf, hk2]
    have e : ((n : Rat) + t * (len : Rat)) / (2 : Rat) ^ 30 = dy n 30 + t * (dy (n + len) 30 - dy n 30) := by
      have e1 : (n : Rat) + t * (len : Rat) = (dy n 30 + t * (dy (n + len) 30 - dy n 30)) * (2 : Rat) ^ 30 := by grind
      rw [e1]; grind
    rw [e]; grind
  have h1 := CVW h hd (by omega) d _ _ _ _ hab hk2n hc ht
  unfold UV
  rw [if_neg (show ¬ N ≤ 1 by omega), h1]
  have h2 := hc 1
  rw [← psum_rv, show dy n 30 + 1 * (dy (n + len) 30 - dy n 30) = dy (n + len) 30 by grind] at h2
  by_cases c1 : Q (dy (n + len) 30) = 0
  · rw [if_pos c1, if_pos]
    · omega
    · refine ⟨hN, ?_⟩
      rw [c1] at h2
      have h3 : ((psum (mvd f N n len) N : Int) : Rat) = ((0 : Int) : Rat) := by rw [h2]; have : ((0 : Int) : Rat) = 0 := rfl; rw [this]; grind
      exact Rat.intCast_inj.1 h3
  · rw [if_neg c1, if_neg]
    · omega
    · intro g
      rw [g.2] at h2
      have : ((0 : Int) : Rat) = 0 := rfl
      rw [this] at h2
      rcases Rat.mul_eq_zero.1 h2.symm with u | u
      · exact hk2n u
      · exact c1 u
