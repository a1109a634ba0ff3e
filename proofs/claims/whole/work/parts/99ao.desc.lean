/-- reversed coefficients -/
theorem rev_rv (c : Nat → Int) {N : Nat} (hN : 1 ≤ N) {u : Rat} (hu : u ≠ 0) : rv (fun k => c (N - 1 - k)) N u = u ^ (N - 1) * rv c N (1 / u) := by
  -- Horner's steps at 1 / u are the sums of the reversed row
  have key : ∀ n : Nat, n ≤ N → ∀ x : Rat, x * u = 1 → u ^ (N - 1) * rv (fun i => if i < N - n then 0 else c i) N x = rv (fun k => c (N - 1 - k)) n u := by
    intro n
    induction n with
    | zero =>
      intro _ x _
      have e : rv (fun i => if i < N - 0 then 0 else c i) N x = rv (fun _ => 0) N x := rv_congr x (fun i hi => if_pos (by omega))
      rw [e, rv_zero]
      show u ^ (N - 1) * 0 = 0
      grind
    | succ n ih =>
      intro hn x hx
      have h1 := ih (by omega) x hx
      have e : rv (fun i => if i < N - (n + 1) then 0 else c i) N x = rv (fun i => (if i < N - n then 0 else c i) + (if i = N - (n + 1) then c i else 0)) N x := rv_congr x (fun i hi => by
        by_cases c1 : i = N - (n + 1)
        · rw [if_neg (by omega), if_pos (by omega), if_pos c1]; omega
        · rw [if_neg c1]
          by_cases c2 : i < N - n
          · rw [if_pos c2, if_pos (by omega)]; omega
          · rw [if_neg c2, if_neg (by omega)]; omega)
      have one : ∀ j m : Nat, rv (fun i => if i = j then c i else 0) m x = if j < m then (c j : Rat) * x ^ j else 0 := by
        intro j m
        induction m with
        | zero => rw [if_neg (by omega)]; rfl
        | succ m ih2 =>
          show rv (fun i => if i = j then c i else 0) m x + ((if m = j then c m else 0 : Int) : Rat) * x ^ m = _
          rw [ih2]
          by_cases c1 : m = j
          · rw [if_pos c1, if_neg (by omega), if_pos (by omega), c1]; grind
          · rw [if_neg c1]
            have z : ((0 : Int) : Rat) = 0 := rfl
            rw [z]
            by_cases c2 : j < m
            · rw [if_pos c2, if_pos (by omega)]; grind
            · rw [if_neg c2, if_neg (by omega)]; grind
      rw [e, rv_add, one, if_pos (by omega)]
      show _ = rv (fun k => c (N - 1 - k)) n u + ((c (N - 1 - n) : Int) : Rat) * u ^ n
      rw [← h1, show N - 1 - n = N - (n + 1) by omega]
      have h3 : ∀ a b : Nat, u ^ (a + b) * x ^ a = u ^ b := by
        intro a b
        induction a with
        | zero => rw [Nat.zero_add]; grind
        | succ a ih3 =>
          rw [show a + 1 + b = a + b + 1 by omega, show u ^ (a + b + 1) = u ^ (a + b) * u by grind, show x ^ (a + 1) = x ^ a * x by grind]
          have : u ^ (a + b) * u * (x ^ a * x) = u ^ (a + b) * x ^ a * (x * u) := by grind
          rw [this, hx, ih3]; grind
      have h4 := h3 (N - (n + 1)) n
      rw [show N - (n + 1) + n = N - 1 by omega] at h4
      grind
  have h := key N (Nat.le_refl _) (1 / u) (by grind)
  rw [← h]
  have e : rv (fun i => if i < N - N then 0 else c i) N (1 / u) = rv c N (1 / u) := rv_congr _ (fun i hi => if_neg (by omega))
  rw [e]
/-- no change: all signs are like the last one's -/
theorem vc_none {b : Nat → Int} : ∀ n : Nat, vc b n = 0 → ∀ k : Nat, k < n → (b k).sign = 0 ∨ (b k).sign = vl b n
  | 0, _, k, hk => absurd hk (by omega)
  | n + 1, h, k, hk => by
    simp only [vc] at h
    have h1 : ¬ ((b n).sign ≠ 0 ∧ vl b n ≠ 0 ∧ (b n).sign ≠ vl b n) := fun g => by rw [if_pos g] at h; omega
    rw [if_neg h1] at h
    have ih := vc_none n h
    simp only [vl]
    by_cases c : (b n).sign = 0
    · rw [if_pos c]
      by_cases c2 : k = n
      · rw [c2]; exact Or.inl c
      · exact ih k (by omega)
    · rw [if_neg c]
      by_cases c2 : k = n
      · rw [c2]; exact Or.inr rfl
      · rcases ih k (by omega) with g | g
        · exact Or.inl g
        · by_cases c3 : vl b n = 0
          · rw [c3] at g; exact Or.inl g
          · have : (b n).sign = vl b n := Classical.byContradiction fun q => h1 ⟨c, c3, q⟩
            rw [this]; exact Or.inr g
theorem vl_zero {b : Nat → Int} : ∀ n : Nat, vl b n = 0 → ∀ k : Nat, k < n → b k = 0
  | 0, _, k, hk => absurd hk (by omega)
  | n + 1, h, k, hk => by
    simp only [vl] at h
    by_cases c : (b n).sign = 0
    · rw [if_pos c] at h
      by_cases c2 : k = n
      · rw [c2]; exact Int.sign_eq_zero_iff_zero.1 c
      · exact vl_zero n h k (by omega)
    · rw [if_neg c] at h; exact absurd h c
theorem vl_one {b : Nat → Int} (n : Nat) (h : vl b n ≠ 0) : vl b n = 1 ∨ vl b n = -1 := by
  induction n with
  | zero => exact absurd rfl h
  | succ n ih =>
    simp only [vl] at *
    by_cases c : (b n).sign = 0
    · rw [if_pos c] at h ⊢; exact ih h
    · rw [if_neg c] at h ⊢
      rw [← rsg_int] at h ⊢
      rcases rsg_three (b n : Rat) with g | g | g
      · exact Or.inr g
      · exact absurd g h
      · exact Or.inl g
/-- one change: before a place all signs are of one kind, from it on of the other -/
theorem vc_one {b : Nat → Int} : ∀ n : Nat, vc b n = 1 → ∃ p : Nat, p < n ∧ (∀ k : Nat, k < p → (b k).sign = 0 ∨ (b k).sign = - vl b n) ∧ (∃ k : Nat, k < p ∧ (b k).sign = - vl b n) ∧ (∀ k : Nat, p ≤ k → k < n → (b k).sign = 0 ∨ (b k).sign = vl b n) ∧ (b p).sign = vl b n ∧ vl b n ≠ 0
  | 0, h => absurd h (by simp [vc])
  | n + 1, h => by
    simp only [vc] at h
    simp only [vl]
    by_cases c : (b n).sign ≠ 0 ∧ vl b n ≠ 0 ∧ (b n).sign ≠ vl b n
    · rw [if_pos c] at h
      rw [if_neg c.1]
      have h0 : vc b n = 0 := by omega
      have h1 := vc_none n h0
      have hs : (b n).sign = 1 ∨ (b n).sign = -1 := by
        rw [← rsg_int]
        have := c.1
        rw [← rsg_int] at this
        rcases rsg_three (b n : Rat) with g | g | g <;> omega
      have hv := vl_one n c.2.1
      have hop : vl b n = - (b n).sign := by have := c.2.2; omega
      refine ⟨n, by omega, fun k hk => ?_, ?_, fun k k1 k2 => ?_, rfl, c.1⟩
      · rw [← hop]; exact h1 k hk
      · refine Classical.byContradiction fun hn => c.2.1 ?_
        refine Classical.byContradiction fun hv0 => ?_
        -- all are 0 then
        have hz : ∀ k : Nat, k < n → b k = 0 := fun k hk => by
          rcases h1 k hk with g | g
          · exact Int.sign_eq_zero_iff_zero.1 g
          · exact absurd ⟨k, hk, by rw [← hop]; exact g⟩ hn
        have : ∀ m : Nat, m ≤ n → vl b m = 0 := by
          intro m
          induction m with
          | zero => intro _; rfl
          | succ m ih => intro hm; simp only [vl]; rw [hz m (by omega), if_pos (show Int.sign 0 = 0 from rfl)]; exact ih (by omega)
        exact hv0 (this n (Nat.le_refl _))
      · rw [show k = n by omega]; exact Or.inr rfl
    · rw [if_neg c] at h
      obtain ⟨p, p1, p2, p3, p4, p5, p6⟩ := vc_one n h
      have e : (if (b n).sign = 0 then vl b n else (b n).sign) = vl b n := by
        by_cases c2 : (b n).sign = 0
        · rw [if_pos c2]
        · rw [if_neg c2]
          exact Classical.byContradiction fun q => c ⟨c2, p6, q⟩
      rw [e]
      refine ⟨p, by omega, p2, p3, fun k k1 k2 => ?_, p5, p6⟩
      by_cases c2 : k = n
      · rw [c2]
        by_cases c3 : (b n).sign = 0
        · exact Or.inl c3
        · exact Or.inr (Classical.byContradiction fun q => c ⟨c3, p6, q⟩)
      · exact p4 k k1 (by omega)
theorem term_sg {b : Int} {r : Int} {y : Rat} (hr : r = 1 ∨ r = -1) (h : b.sign = 0 ∨ b.sign = r) (hy : 0 ≤ y) : 0 ≤ (r : Rat) * ((b : Rat) * y) := by
  have h2 : (0 : Rat) ≤ (r : Rat) * (b : Rat) := by
    have h3 : (0 : Int) ≤ r * b := by
      rcases h with g | g
      · rw [Int.sign_eq_zero_iff_zero.1 g]; omega
      · rcases hr with u | u
        · rw [u] at g ⊢; have := Int.sign_eq_one_iff_pos.1 g; omega
        · rw [u] at g ⊢; have := Int.sign_eq_neg_one_iff_neg.1 g; omega
    have h4 : ((0 : Int) : Rat) ≤ ((r * b : Int) : Rat) := Rat.intCast_le_intCast.2 h3
    rw [Rat.intCast_mul] at h4
    exact h4
  have := Rat.mul_nonneg h2 hy
  grind
theorem term_pos {b : Int} {r : Int} {y : Rat} (hr : r = 1 ∨ r = -1) (h : b.sign = r) (hy : 0 < y) : 0 < (r : Rat) * ((b : Rat) * y) := by
  have h2 : (0 : Rat) < (r : Rat) * (b : Rat) := by
    have h3 : (0 : Int) < r * b := by
      rcases hr with u | u
      · rw [u] at h ⊢; have := Int.sign_eq_one_iff_pos.1 h; omega
      · rw [u] at h ⊢; have := Int.sign_eq_neg_one_iff_neg.1 h; omega
    have h4 : ((0 : Int) : Rat) < ((r * b : Int) : Rat) := Rat.intCast_lt_intCast.2 h3
    rw [Rat.intCast_mul] at h4
    exact h4
  have := Rat.mul_pos h2 hy
  grind
theorem rsg_of {x : Rat} {r : Int} (hr : r = 1 ∨ r = -1) (h : 0 < (r : Rat) * x) : rsg x = r := by
  rcases hr with u | u <;> rw [u] at h ⊢
  · have : ((1 : Int) : Rat) = 1 := rfl
    rw [this] at h
    exact rsg_pos (by grind)
  · have : ((-1 : Int) : Rat) = -1 := rfl
    rw [this] at h
    exact rsg_neg (by grind)
theorem of_rsg {x : Rat} {r : Int} (hr : r = 1 ∨ r = -1) (h : rsg x = r ∨ rsg x = 0) : 0 ≤ (r : Rat) * x := by
  rcases rsg_cases x with ⟨g, e⟩ | ⟨g, e⟩ | ⟨g, e⟩ <;> rcases hr with u | u <;> rw [u, e] at h <;> rw [u]
  · have : ((1 : Int) : Rat) = 1 := rfl
    rw [this]; grind
  · omega
  · rw [g]; grind
  · rw [g]; grind
  · omega
  · have : ((-1 : Int) : Rat) = -1 := rfl
    rw [this]; grind
/-- without a change the polynomial has one sign above 0 -/
theorem desc0 {b : Nat → Int} {N : Nat} (h : vc b N = 0) (hv : vl b N ≠ 0) {s : Rat} (hs : 0 < s) : rsg (rv b N s) = vl b N := by
  have hr := vl_one N hv
  obtain ⟨r, hr0⟩ : ∃ r : Int, r = vl b N := ⟨_, rfl⟩
  rw [← hr0] at hr ⊢
  have h1 := vc_none N h
  rw [← hr0] at h1
  have key : ∀ n : Nat, n ≤ N → 0 ≤ (r : Rat) * rv b n s ∧ ((∃ k : Nat, k < n ∧ b k ≠ 0) → 0 < (r : Rat) * rv b n s) := by
    intro n
    induction n with
    | zero => intro _; exact ⟨by show 0 ≤ (r : Rat) * 0; grind, fun ⟨k, hk, _⟩ => absurd hk (by omega)⟩
    | succ n ih =>
      intro hn
      obtain ⟨g1, g2⟩ := ih (by omega)
      have g3 := term_sg hr (h1 n (by omega)) (Rat.le_of_lt (rat_pow_pos hs n))
      have e : (r : Rat) * rv b (n + 1) s = (r : Rat) * rv b n s + (r : Rat) * ((b n : Rat) * s ^ n) := by
        show (r : Rat) * (rv b n s + (b n : Rat) * s ^ n) = _
        grind
      rw [e]
      refine ⟨by grind, fun ⟨k, k1, k2⟩ => ?_⟩
      by_cases c : k = n
      · have g4 : (b n).sign = r := by
          rcases h1 n (by omega) with g | g
          · rw [c] at k2; exact absurd (Int.sign_eq_zero_iff_zero.1 g) k2
          · exact g
        have := term_pos hr g4 (rat_pow_pos hs n)
        grind
      · have := g2 ⟨k, by omega, k2⟩
        grind
  refine rsg_of hr ((key N (Nat.le_refl _)).2 ?_)
  refine Classical.byContradiction fun hn => hv ?_
  have hz : ∀ k : Nat, k < N → b k = 0 := fun k hk => Classical.byContradiction fun q => hn ⟨k, hk, q⟩
  have : ∀ m : Nat, m ≤ N → vl b m = 0 := by
    intro m
    induction m with
    | zero => intro _; rfl
    | succ m ih => intro hm; simp only [vl]; rw [hz m (by omega), if_pos (show Int.sign 0 = 0 from rfl)]; exact ih (by omega)
  exact this N (Nat.le_refl _)
/-- with one change the sign, once turned, stays -/
theorem desc1 {b : Nat → Int} {N : Nat} (h : vc b N = 1) {s t : Rat} (hs : 0 < s) (hst : s < t) (hg : rsg (rv b N s) = vl b N ∨ rsg (rv b N s) = 0) : rsg (rv b N t) = vl b N := by
  obtain ⟨p, p1, p2, ⟨k0, p3, p3'⟩, p4, p5, p6⟩ := vc_one N h
  have hr := vl_one N p6
  obtain ⟨r, hr0⟩ : ∃ r : Int, r = vl b N := ⟨_, rfl⟩
  rw [← hr0] at hr hg p2 p3' p4 p5 ⊢
  have hr' : -r = 1 ∨ -r = -1 := by omega
  obtain ⟨l, hl⟩ : ∃ l : Rat, l = t / s := ⟨_, rfl⟩
  have hls : l * s = t := by rw [hl]; grind
  have hl1 : 1 < l := Rat.lt_of_mul_lt_mul_left (c := s) (by grind) (by grind)
  have powle : ∀ a b : Nat, a ≤ b → l ^ a ≤ l ^ b := by
    intro a b hab
    obtain ⟨k, rfl⟩ : ∃ k : Nat, b = a + k := ⟨b - a, by omega⟩
    clear hab
    induction k with
    | zero => rw [Nat.add_zero]; grind
    | succ k ih =>
      rw [show a + (k + 1) = a + k + 1 by omega, show l ^ (a + k + 1) = l ^ (a + k) * l by grind]
      have := Rat.mul_nonneg (Rat.le_of_lt (rat_pow_pos (show 0 < l by grind) (a + k))) (show 0 ≤ l - 1 by grind)
      grind
  have powlt : ∀ a b : Nat, a < b → l ^ a < l ^ b := by
    intro a b hab
    have h1 := powle (a + 1) b (by omega)
    have h2 : l ^ (a + 1) = l ^ a * l := by grind
    have := Rat.mul_pos (rat_pow_pos (show 0 < l by grind) a) (show 0 < l - 1 by grind)
    grind
  have mp : ∀ (a b : Rat) (n : Nat), (a * b) ^ n = a ^ n * b ^ n := by
    intro a b n
    induction n with
    | zero => grind
    | succ n ih => rw [show (a * b) ^ (n + 1) = (a * b) ^ n * (a * b) by grind, ih]; grind
  have key : ∀ n : Nat, n ≤ N → 0 ≤ (r : Rat) * (rv b n t - l ^ p * rv b n s) ∧ (k0 < n → 0 < (r : Rat) * (rv b n t - l ^ p * rv b n s)) := by
    intro n
    induction n with
    | zero => intro _; exact ⟨by show 0 ≤ (r : Rat) * (0 - l ^ p * 0); grind, fun hk => absurd hk (by omega)⟩
    | succ n ih =>
      intro hn
      obtain ⟨g1, g2⟩ := ih (by omega)
      have e : (r : Rat) * (rv b (n + 1) t - l ^ p * rv b (n + 1) s) = (r : Rat) * (rv b n t - l ^ p * rv b n s) + (r : Rat) * ((b n : Rat) * (s ^ n * (l ^ n - l ^ p))) := by
        show (r : Rat) * (rv b n t + (b n : Rat) * t ^ n - l ^ p * (rv b n s + (b n : Rat) * s ^ n)) = _
        rw [← hls, mp]
        grind
      rw [e]
      have hsn := rat_pow_pos hs n
      by_cases c : n < p
      · have hneg : 0 < s ^ n * (l ^ p - l ^ n) := Rat.mul_pos hsn (by have := powlt n p c; grind)
        have e2 : (r : Rat) * ((b n : Rat) * (s ^ n * (l ^ n - l ^ p))) = ((-r : Int) : Rat) * ((b n : Rat) * (s ^ n * (l ^ p - l ^ n))) := by rw [Rat.intCast_neg]; grind
        rw [e2]
        have g3 := term_sg hr' (p2 n c) (Rat.le_of_lt hneg)
        refine ⟨by grind, fun hk => ?_⟩
        by_cases c2 : k0 = n
        · have := term_pos hr' (show (b n).sign = -r by rw [← c2]; exact p3') hneg
          grind
        · have := g2 (by omega)
          grind
      · have hpos : 0 ≤ s ^ n * (l ^ n - l ^ p) := Rat.mul_nonneg (Rat.le_of_lt hsn) (by have := powle p n (by omega); grind)
        have g3 := term_sg hr (p4 n (by omega) (by omega)) hpos
        refine ⟨by grind, fun hk => ?_⟩
        have := g2 (by omega)
        grind
  have h1 := (key N (Nat.le_refl _)).2 (by omega)
  have h2 := of_rsg hr hg
  have h3 := Rat.mul_nonneg (Rat.le_of_lt (rat_pow_pos (show 0 < l by grind) p)) h2
  exact rsg_of hr (by grind)
