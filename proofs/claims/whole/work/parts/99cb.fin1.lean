/-- a polynomial that is looked at: short, and a divisor of a given one -/
def okF (F : Nat → Int) (N : Nat) : Prop := (1 ≤ N ∧ N ≤ 9 ∧ F (N - 1) ≠ 0) ∧ (∀ i : Nat, i < N → ((F i).natAbs : Int) ≤ 2 ^ 84) ∧ (N = 9 → ∀ i : Nat, i < N → ((F i).natAbs : Int) ≤ 2 ^ 30) ∧ ∃ (A : Nat → Int) (NA : Nat), (1 ≤ NA ∧ A (NA - 1) ≠ 0) ∧ NA ≤ 9 ∧ (∀ i : Nat, i < NA → ((A i).natAbs : Int) ≤ 1000000000) ∧ pdv F N A NA
theorem okF_given {A : Nat → Int} {N : Nat} (h : 1 ≤ N ∧ A (N - 1) ≠ 0) (hN : N ≤ 9) (hM : ∀ i : Nat, i < N → ((A i).natAbs : Int) ≤ 1000000000) : okF A N := by
  have e1 : (1000000000 : Int) ≤ 2 ^ 30 := by decide
  have e2 : (1000000000 : Int) ≤ 2 ^ 84 := by decide
  exact ⟨⟨h.1, hN, h.2⟩, fun i hi => Int.le_trans (hM i hi) e2, fun _ i hi => Int.le_trans (hM i hi) e1, A, N, h, hN, hM, dv_refl _ _⟩
theorem prm_self {P : Nat → Int} {n : Nat} (h : gN P n = 1) (i : Nat) : prm P n i = P i := by
  unfold prm
  rw [h]; show P i / 1 = P i; rw [Int.ediv_one]
theorem okF_prim {P A : Nat → Int} {n NA : Nat} (hP : gN P n = 1) (hn : 1 ≤ n ∧ P (n - 1) ≠ 0) (hA : 1 ≤ NA ∧ A (NA - 1) ≠ 0) (hNA : NA ≤ 9) (hM : ∀ i : Nat, i < NA → ((A i).natAbs : Int) ≤ 1000000000) (h : pdv P n A NA) : okF P n := by
  have hlen : n ≤ NA := by
    obtain ⟨a, q, l, ha, e⟩ := h
    obtain ⟨j, _, _, hj, _⟩ := dv_deg ha hn hA e
    omega
  refine ⟨⟨hn.1, by omega, hn.2⟩, fun i hi => ?_, fun h9 i hi => ?_, A, NA, hA, hNA, hM, h⟩
  · have := prm_bd hn hA hNA hM h i hi
    rw [prm_self hP] at this
    exact this
  · have eN : NA = n := by omega
    subst eN
    obtain ⟨C, k, k1, k2, k3, e⟩ := prim_dvd hP hn hA h
    have ek : k = 1 := by omega
    subst ek
    have hc : ∀ i : Nat, i < NA → A i = C 0 * P i := rv_inj (fun x => by
      rw [e, rv_smul]
      have : rv C 1 x = (C 0 : Rat) := by show 0 + (C 0 : Rat) * x ^ 0 = _; grind
      rw [this])
    have h2 := hM i hi
    rw [hc i hi, Int.natAbs_mul] at h2
    have h5 : C 0 ≠ 0 := k3
    have h3 := Nat.mul_le_mul_right (P i).natAbs (show 1 ≤ (C 0).natAbs by omega)
    have h4 : (1000000000 : Int) ≤ 2 ^ 30 := by decide
    omega
theorem okF_sub {F P : Nat → Int} {N n : Nat} (h : okF F N) (hP : gN P n = 1) (hn : 1 ≤ n ∧ P (n - 1) ≠ 0) (hd : pdv P n F N) : okF P n := by
  obtain ⟨_, _, _, A, NA, hA, hNA, hM, hdv⟩ := h
  exact okF_prim hP hn hA hNA hM (dv_trans hd hdv)
theorem FC_prim : ∀ {h : Nat} {a : Nat → Int} {Na : Nat} {b : Nat → Int} {Nb : Nat} {G : Nat → Int} {NG : Nat}, FC h a Na b Nb G NG → gN a Na = 1 → (1 ≤ Nb → gN b Nb = 1) → gN G NG = 1
  | 0, a, Na, b, Nb, G, NG, h, ha, hb => by
    obtain ⟨h1, h2⟩ := h
    subst h1
    have key : ∀ n : Nat, n ≤ NG → gN G n = gN a n := by
      intro n
      induction n with
      | zero => intro _; rfl
      | succ n ih => intro hn; show Int.gcd (G n) (gN G n) = Int.gcd (a n) (gN a n); rw [ih (by omega), h2 n (by omega)]
    rw [key NG (Nat.le_refl _)]; exact ha
  | h + 1, a, Na, b, Nb, G, NG, hF, ha, hb => by
    rcases hF with ⟨_, h1, h2⟩ | ⟨h3, r, Nr, ⟨y, y1, y2, y3, y4⟩, hr, hF⟩
    · subst h1
      have key : ∀ n : Nat, n ≤ NG → gN G n = gN a n := by
        intro n
        induction n with
        | zero => intro _; rfl
        | succ n ih => intro hn; show Int.gcd (G n) (gN G n) = Int.gcd (a n) (gN a n); rw [ih (by omega), h2 n (by omega)]
      rw [key NG (Nat.le_refl _)]; exact ha
    · exact FC_prim hF (hb h3) (fun hN => prim_one y3 hN (y2 (Nr - 1) (by omega)))
/-- parts of a polynomial that is looked at -/
theorem free_all {F : Nat → Int} {N : Nat} (h : okF F N) {f : Nat → Int} {Nf : Nat} {G : Nat → Int} {NG : Nat} (hf : freeR F N f Nf G NG) : okF f Nf ∧ okF G NG ∧ (2 ≤ Nf → good (cut f Nf) Nf) := by
  have h0 := h
  obtain ⟨⟨n1, n9, nl⟩, b84, b30, A, NA, hA, hNA, hM, hdv⟩ := h
  obtain ⟨g1, g2, ⟨g3, g4⟩, g5, k, k0, k1⟩ := free_ok ⟨n1, by omega⟩ nl hf
  have hfp : gN f Nf = 1 := by
    obtain ⟨a1, b1, q, y, j, k, h1, h2, h3, h4, h5, h6, h7, h8, h9, h10⟩ := hf
    exact prim_one h10 (by omega) (by rw [show Nf - 1 = N - NG by omega]; exact h9)
  have hGp : gN G NG = 1 := by
    obtain ⟨a1, b1, q, y, j, k, h1, h2, h3, _⟩ := hf
    exact FC_prim h3 (prim_one h1 n1 nl) (fun hb => prim_one h2 hb (der_lead n1 nl (N - 1 - 1) (by omega)))
  have hfd : pdv f Nf F N := by
    refine ⟨(k.den : Int), fun i => k.num * G i, NG, by have := k.den_nz; omega, fun x => ?_⟩
    have e1 := num_den k
    have hd : ((k.den : Int) : Rat) = (k.den : Rat) := rfl
    rw [k1, rv_smul, hd, ← e1]; grind
  have okf := okF_sub h0 hfp g2 hfd
  refine ⟨okf, okF_sub h0 hGp g1 g3, fun h2 => ?_⟩
  obtain ⟨⟨_, f9, fl⟩, f84, f30, _⟩ := okf
  have cz : ∀ B : Nat, (∀ i : Nat, i < Nf → ((f i).natAbs : Int) ≤ 2 ^ B) → ∀ t : Nat, ((cut f Nf t).natAbs : Int) ≤ 2 ^ B := fun B hB t => cut_bd hB t
  refine ⟨h2, f9, by rw [show cut f Nf (Nf - 1) = f (Nf - 1) from if_pos (by omega)]; exact fl, cut_out f Nf, cz 84 f84, fun e9 => cz 30 (f30 e9), ?_⟩
  -- f and its derivative make up 1
  obtain ⟨Q, Q1, W, G', m, hq, _⟩ := sq_ex n1 nl
  obtain ⟨_, ⟨kf, kf0, kf1⟩, _⟩ := sq_free hq ⟨n1, by omega⟩ nl hf
  obtain ⟨Qd, U, V, s1, pU, pV, huv⟩ := sq_cop N (Nat.le_refl _) hq n1 nl
  have hder : ∀ x : Rat, rv (der (cut f Nf)) (Nf - 1) x = kf * Qd x := fun x => by
    have p1 := sm_mul (sm_const kf) s1
    have p2 := sm_rv (cut f Nf) Nf
    have p3 := sm_uniq p2 (sm_eq p1 (fun x => by rw [cut_rv]; exact kf1 x)) x
    rw [p3]; grind
  refine ⟨fun x => 1 / kf * U x, fun x => 1 / kf * V x, pol_mul (pol_const _) pU, pol_mul (pol_const _) pV, fun x => ?_⟩
  rw [cut_rv, kf1, hder]
  have := huv x
  have e : 1 / kf * U x * (kf * Q x) + 1 / kf * V x * (kf * Qd x) = U x * Q x + V x * Qd x := by grind
  rw [e]; exact this
theorem okF_FZ {F : Nat → Int} {N : Nat} (h : okF F N) : ∀ a1 b1 : Nat → Int, primR F N a1 → primR (der F) (N - 1) b1 → FZ 9 a1 N b1 (N - 1) := fun a1 b1 h1 h2 => by
  obtain ⟨⟨n1, n9, nl⟩, b84, b30, _⟩ := h
  have la : ldn F N := fun i hi => by rw [show i = N - 1 by omega]; exact nl
  have lb := der_lead n1 nl
  have hle : ∀ (B : Nat), (∀ i : Nat, i < N → ((F i).natAbs : Int) ≤ 2 ^ B) → (∀ i : Nat, i < N → ((a1 i).natAbs : Int) ≤ 2 ^ (B + 3)) ∧ (∀ i : Nat, i < N - 1 → ((b1 i).natAbs : Int) ≤ 2 ^ (B + 3)) := fun B hB => by
    have hp : (0 : Int) ≤ 2 ^ B := Int.le_of_lt (Int.pow_pos (by decide))
    have e : (2 : Int) ^ (B + 3) = 2 ^ B * 8 := by rw [Int.pow_add]; rfl
    refine ⟨fun i hi => ?_, fun i hi => ?_⟩
    · have := prim_le h1 la i hi
      have := hB i hi
      rw [e]; omega
    · have t1 := prim_le h2 lb i hi
      have t2 : ((der F i).natAbs : Int) ≤ 2 ^ (B + 3) := by
        unfold der
        rw [Int.natAbs_mul, Int.natCast_mul, e]
        exact Int.mul_le_mul (hB (i + 1) (by omega)) (by omega) (by omega) hp
      omega
  have lr := prim_ldn2 h2 lb
  rcases Nat.lt_or_ge N 9 with c | c
  · obtain ⟨q1, q2⟩ := hle 84 b84
    exact FZ_pair lr (by omega) q1 q2 (K := 11) (by omega) (by decide) (by decide) (by decide) 9
  · obtain ⟨q1, q2⟩ := hle 30 (b30 (by omega))
    exact FZ_pair lr (by omega) q1 q2 (K := 14) (by omega) (by decide) (by decide) (by decide) 9
theorem okF_pair {F F2 : Nat → Int} {N N2 : Nat} (h : okF F N) (h2 : okF F2 N2) : ∀ a1 b1 : Nat → Int, primR F N a1 → primR F2 N2 b1 → FZ 9 a1 N b1 N2 := fun a1 b1 p1 p2 => by
  obtain ⟨⟨n1, n9, nl⟩, b84, b30, _⟩ := h
  obtain ⟨⟨m1, m9, ml⟩, c84, c30, _⟩ := h2
  have la : ldn F N := fun i hi => by rw [show i = N - 1 by omega]; exact nl
  have lb : ldn F2 N2 := fun i hi => by rw [show i = N2 - 1 by omega]; exact ml
  have q1 := prim_le p1 la
  have q2 := prim_le p2 lb
  by_cases c : N = 9 ∧ N2 = 9
  · exact FZ_any (B := 30) (K := 14) (prim_ldn2 p1 la) (prim_ldn2 p2 lb) (fun i hi => by have := q1 i hi; have := b30 c.1 i hi; omega) (fun i hi => by have := q2 i hi; have := c30 c.2 i hi; omega) (by omega) (by decide) (by decide) (by decide) 9
  · exact FZ_any (B := 84) (K := 13) (prim_ldn2 p1 la) (prim_ldn2 p2 lb) (fun i hi => by have := q1 i hi; have := b84 i hi; omega) (fun i hi => by have := q2 i hi; have := c84 i hi; omega) (by omega) (by decide) (by decide) (by decide) 9
/-- the searches end -/
theorem free_TV {F : Nat → Int} {N : Nat} (h : okF F N) {f : Nat → Int} {Nf : Nat} {G : Nat → Int} {NG : Nat} (hf : freeR F N f Nf G NG) {n len : Int} (hl : 0 < len) (h1 : -1152921504606846976 ≤ n) (h2 : n + len ≤ 1152921504606846976) (h3 : 1 < Nf) : nd (cut f Nf) Nf 0 (mvd f Nf n len) (dy n 30) (dy (n + len) 30 - dy n 30) ∧ TV Nf 1800 (mvd f Nf n len) := by
  obtain ⟨okf, _, hg⟩ := free_all h hf
  have hn := nd_mvd (f := f) (N := Nf) ⟨by omega, okf.1.2.1⟩ hl h1 h2
  have hn' : nd (cut f Nf) Nf 0 (mvd f Nf n len) (dy n 30) (dy (n + len) 30 - dy n 30) := by
    obtain ⟨k, k0, k1, k2, r⟩ := hn
    exact ⟨k, k0, k1, fun t => by rw [cut_rv]; exact k2 t, r⟩
  exact ⟨hn', nd_TV (hg (by omega)) 1800 0 _ _ _ hn' (by omega) (by omega)⟩
theorem okF_cnt {F : Nat → Int} {N : Nat} (h : okF F N) {n len : Int} (hl : 0 < len) (h1 : -1152921504606846976 ≤ n) (h2 : n + len ≤ 1152921504606846976) : cntOK F N n len := ⟨okF_FZ h, fun _ _ _ _ hf => ⟨1800, by decide, fun h3 => (free_TV h hf hl h1 h2 h3).2⟩⟩
