/-- a part as a polynomial with short whole coefficients -/
theorem int_T {f : Nat → Int} {n : Nat} {Q Cf Tf : Rat → Rat} {k : Rat} (hok : okF f n) (k0 : k ≠ 0) (hk : ∀ x : Rat, rv f n x = k * Q x) (pC : pol Cf) (pT : pol Tf) (e : ∀ x : Rat, Q x = Cf x * Tf x) : ∃ (P : Nat → Int) (l : Nat) (c : Rat), okF P l ∧ c ≠ 0 ∧ ∀ x : Rat, rv P l x = c * Tf x := by
  obtain ⟨d, q, l, hd, hq⟩ := pT
  obtain ⟨d2, q2, l2, hd2, hq2⟩ := pC
  have hd' := ne_cast hd
  have hd2' := ne_cast hd2
  rcases has_top (q := q) l with h0 | ⟨i, hi, hi2, hi3⟩
  · exfalso
    obtain ⟨z, _, _, hz⟩ := dense hok.1.1 hok.1.2.2 0 1 (by grind)
    have : rv q l z = 0 := by
      rw [rv_congr (e := fun _ => 0) z (fun i hi => h0 i hi)]; exact rv_zero z l
    have h1 := hq z
    rw [this] at h1
    have h2 := rat_cancel hd' (b := Tf z) (by grind)
    rw [hk, e, h2] at hz
    exact hz (by grind)
  · have hg : gN q (i + 1) ≠ 0 := gN_ne hi2 (i + 1) (by omega)
    have hg1 : (1 : Int) ≤ ((gN q (i + 1) : Nat) : Int) := by omega
    have hgr : ((((gN q (i + 1) : Nat) : Int)) : Rat) ≠ 0 := ne_cast (by omega)
    have e1 : ∀ x : Rat, ((((gN q (i + 1) : Nat) : Int)) : Rat) * rv (prm q (i + 1)) (i + 1) x = (d : Rat) * Tf x := fun x => by rw [prm_rv, ← rv_trim hi hi3, ← hq]
    have hl : prm q (i + 1) i ≠ 0 := fun g => by
      have := prm_mul (c := q) (show i < i + 1 by omega)
      rw [g] at this; exact hi2 (by omega)
    refine ⟨prm q (i + 1), i + 1, (d : Rat) / ((((gN q (i + 1) : Nat) : Int)) : Rat), okF_sub hok (prm_one hg) ⟨by omega, hl⟩ ?_, fun g => ?_, fun x => ?_⟩
    · -- it divides f
      have hr := num_den' (k / ((d2 : Rat) * (d : Rat)))
      obtain ⟨r, hr1⟩ : ∃ r : Rat, r = k / ((d2 : Rat) * (d : Rat)) := ⟨_, rfl⟩
      rw [← hr1] at hr
      have hden : ((r.den : Int) : Rat) = (r.den : Rat) := rfl
      obtain ⟨q3, h3⟩ := rv_sum q2 q2 l2 l2 (r.num * ((gN q (i + 1) : Nat) : Int)) 0
      refine ⟨(r.den : Int), q3, l2 + l2, by have := r.den_nz; omega, fun x => ?_⟩
      rw [h3, hden, hk, e, Rat.intCast_mul, ← hq2, ← hr]
      have z : ((0 : Int) : Rat) = 0 := rfl
      rw [z]
      have t1 := e1 x
      have hdd : (d2 : Rat) * (d : Rat) ≠ 0 := fun g => by
        rcases Rat.mul_eq_zero.1 g with u | u
        · exact hd2' u
        · exact hd' u
      have t2 : r * ((d2 : Rat) * (d : Rat)) = k := by rw [hr1]; grind
      have t3 : (r * (r.den : Rat) * ((((gN q (i + 1) : Nat) : Int)) : Rat) * ((d2 : Rat) * Cf x) + 0 * ((d2 : Rat) * Cf x)) * rv (prm q (i + 1)) (i + 1) x = r * (r.den : Rat) * (d2 : Rat) * Cf x * (((((gN q (i + 1) : Nat) : Int)) : Rat) * rv (prm q (i + 1)) (i + 1) x) := by grind
      rw [t3, t1, ← t2]
      grind
    · have : (d : Rat) = (d : Rat) / ((((gN q (i + 1) : Nat) : Int)) : Rat) * ((((gN q (i + 1) : Nat) : Int)) : Rat) := by grind
      rw [g] at this
      exact hd' (by grind)
    · have t := e1 x
      have t2 := rat_cancel hgr (b := rv (prm q (i + 1)) (i + 1) x - (d : Rat) / ((((gN q (i + 1) : Nat) : Int)) : Rat) * Tf x) (by grind)
      grind
theorem okF_bd {f : Nat → Int} {n : Nat} (h : okF f n) : bd (cut f n) n := ⟨h.1.2.1, fun t => by
  unfold cut
  split
  · exact h.2.1 t (by assumption)
  · decide⟩
theorem one_pw : ∀ n : Nat, (1 : Rat) ^ n = 1
  | 0 => by grind
  | n + 1 => by rw [show (1 : Rat) ^ (n + 1) = (1 : Rat) ^ n * 1 by grind, one_pw n]; grind
/-- a short polynomial moves little over a short way -/
theorem rq_ab {p : Nat → Rat} {L h : Rat} (hL : 0 ≤ L) (hh : ab 1 h) : ∀ n : Nat, (∀ i : Nat, i < n → ab L (p i)) → ab ((n : Rat) * L) (rq p n h)
  | 0, _ => by
    have e0 : ((0 : Nat) : Rat) = 0 := rfl
    rw [e0]
    show ab (0 * L) 0
    exact ab_zero (by grind)
  | n + 1, hp => by
    have h1 := rq_ab hL hh n (fun i hi => hp i (by omega))
    have h2 := ab_mul (hp n (by omega)) (ab_pow hh n)
    rw [show (1 : Rat) ^ n = 1 from one_pw n] at h2
    have h3 := ab_add h1 h2
    rw [nat_succ]
    show ab _ (rq p n h + p n * h ^ n)
    refine ab_le h3 ?_
    grind
theorem bd_move {f : Nat → Int} {N : Nat} (h : bd f N) (hN : 1 ≤ N) {x y w : Rat} (hx : ab ((2 : Rat) ^ 31) x) (hw0 : 0 ≤ w) (hw : w ≤ 1) (hxy : ab w (y - x)) : ab (w * (8 * (2 : Rat) ^ 374)) (rv f N y - rv f N x) := by
  obtain ⟨t, rfl⟩ : ∃ t : Rat, y = x + t := ⟨y - x, by grind⟩
  rw [show x + t - x = t by grind] at hxy
  obtain ⟨n, rfl⟩ : ∃ n : Nat, N = n + 1 := ⟨N - 1, by omega⟩
  have h9 := h.1
  rw [taylor f x t (n + 1) (by omega), rq_front]
  have e0 : rv (dcf f 0) (n + 1 - 0) x = rv f (n + 1) x := by rw [dcf_zero]; rfl
  have p374 := p2pos 374
  have h1 := rq_ab (p := fun i => rv (dcf f (i + 1)) (n + 1 - (i + 1)) x) (L := (2 : Rat) ^ 374) (h := t) (Rat.le_of_lt p374) (ab_le hxy hw) n (fun i hi => bd_tay h hx (i + 1) (by omega))
  have h2 := ab_mul hxy h1
  show ab _ (rv (dcf f 0) (n + 1 - 0) x + t * rq (fun i => rv (dcf f (i + 1)) (n + 1 - (i + 1)) x) n t - rv f (n + 1) x)
  rw [e0, show rv f (n + 1) x + t * rq (fun i => rv (dcf f (i + 1)) (n + 1 - (i + 1)) x) n t - rv f (n + 1) x = t * rq (fun i => rv (dcf f (i + 1)) (n + 1 - (i + 1)) x) n t by grind]
  refine ab_le h2 ?_
  have hn : ((n : Nat) : Rat) ≤ 8 := nat_le (show n ≤ 8 by omega)
  have t1 := Rat.mul_nonneg hw0 (Rat.mul_nonneg (show 0 ≤ 8 - (n : Rat) by grind) (Rat.le_of_lt p374))
  grind
theorem sep_num {d n1 : Nat} (hd : d ≤ 8) (hn : n1 ≤ 8) : ((qF (d + n1) : Int) : Rat) * (((2 : Int) ^ 84 : Int) : Rat) ^ (d + n1 - 1) * (((2 : Rat) ^ 31) ^ d * (1 / (2 : Rat) ^ 1560)) < 1 := by
  have hq : ∀ k : Fin 17, qF k.val ≤ 2 ^ 45 := by decide
  have q1 : ((qF (d + n1) : Int) : Rat) ≤ (2 : Rat) ^ 45 := by
    rw [← cast_pow2]; exact Rat.intCast_le_intCast.2 (hq ⟨d + n1, by omega⟩)
  rw [cast_pow2, two_pow_pow, two_pow_pow]
  have p1560 := p2pos 1560
  have hi : 0 < 1 / (2 : Rat) ^ 1560 := div_pos' (by grind) p1560
  have q2 := Rat.mul_le_mul_of_nonneg_left q1 (c := (2 : Rat) ^ (84 * (d + n1 - 1)) * ((2 : Rat) ^ (31 * d) * (1 / (2 : Rat) ^ 1560))) (Rat.mul_nonneg (Rat.le_of_lt (p2pos _)) (Rat.mul_nonneg (Rat.le_of_lt (p2pos _)) (Rat.le_of_lt hi)))
  have e3 : (2 : Rat) ^ (84 * (d + n1 - 1)) * ((2 : Rat) ^ (31 * d) * (1 / (2 : Rat) ^ 1560)) * (2 : Rat) ^ 45 = (2 : Rat) ^ (45 + 84 * (d + n1 - 1) + 31 * d) * (1 / (2 : Rat) ^ 1560) := by
    rw [rat_pow_add, rat_pow_add]; grind
  rw [e3] at q2
  have q3 := two_pow_mono (show 45 + 84 * (d + n1 - 1) + 31 * d + 1 ≤ 1560 by omega)
  rw [rat_pow_add] at q3
  have e4 : (2 : Rat) ^ 1560 * (1 / (2 : Rat) ^ 1560) = 1 := by grind
  have q5 := p2pos (45 + 84 * (d + n1 - 1) + 31 * d)
  have q6 : (2 : Rat) ^ (45 + 84 * (d + n1 - 1) + 31 * d) < (2 : Rat) ^ 1560 := by grind
  have q7 := Rat.mul_pos (show 0 < (2 : Rat) ^ 1560 - (2 : Rat) ^ (45 + 84 * (d + n1 - 1) + 31 * d) by grind) hi
  grind
theorem pair_half {P R : Nat → Int} {n m : Nat} (hP : okF P n) (hR : okF R m) (hmn : m ≤ n) (hbz : ∃ U V : Rat → Rat, pol U ∧ pol V ∧ ∀ x : Rat, 1 = U x * rv P n x + V x * rv R m x) {x : Rat} (hx : ab ((2 : Rat) ^ 31) x) : ¬ (ab (1 / (2 : Rat) ^ 1560) (rv P n x) ∧ ab (1 / (2 : Rat) ^ 1560) (rv R m x)) := by
  have p1560 := p2pos 1560
  have hi : 0 < 1 / (2 : Rat) ^ 1560 := div_pos' (by grind) p1560
  obtain ⟨d, rfl⟩ : ∃ d : Nat, n = d + 1 := ⟨n - 1, by have := hP.1.1; omega⟩
  obtain ⟨e, rfl⟩ : ∃ e : Nat, m = e + 1 := ⟨m - 1, by have := hR.1.1; omega⟩
  have h9 := hP.1.2.1
  have hX : (1 : Rat) ≤ (2 : Rat) ^ 31 := by have := two_pow_mono (show 0 ≤ 31 by omega); grind
  by_cases c : d = 0
  · subst c
    rintro ⟨g, _⟩
    have e1 : rv P (0 + 1) x = (P 0 : Rat) := by show 0 + (P 0 : Rat) * x ^ 0 = _; grind
    rw [e1] at g
    have hp0 := hP.1.2.2
    have hs : 1 / (2 : Rat) ^ 1560 < 1 := by
      have t1 := two_pow_mono (show 1 ≤ 1560 by omega)
      have e4 : (2 : Rat) ^ 1560 * (1 / (2 : Rat) ^ 1560) = 1 := by grind
      have t2 : (2 : Rat) ^ 1 = 2 := by grind
      rw [t2] at t1
      have := Rat.mul_pos (show 0 < (2 : Rat) ^ 1560 - 1 by grind) hi
      grind
    unfold ab at g
    rcases Int.lt_or_le (P 0) 0 with u | u
    · have : ((P 0 : Int) : Rat) ≤ ((-1 : Int) : Rat) := Rat.intCast_le_intCast.2 (by omega)
      have o : ((-1 : Int) : Rat) = -1 := rfl
      grind
    · have : ((1 : Int) : Rat) ≤ ((P 0 : Int) : Rat) := Rat.intCast_le_intCast.2 (by simp only [Nat.zero_add, Nat.sub_self] at hp0; omega)
      have o : ((1 : Int) : Rat) = 1 := rfl
      grind
  · obtain ⟨_, bP⟩ := okF_bd hP
    obtain ⟨_, bR⟩ := okF_bd hR
    have lP : cut P (d + 1) d ≠ 0 := by unfold cut; rw [if_pos (by omega)]; exact hP.1.2.2
    have lR : cut R (e + 1) e ≠ 0 := by unfold cut; rw [if_pos (by omega)]; exact hR.1.2.2
    have := sep_pair (f := cut P (d + 1)) (g := cut R (e + 1)) (d := d) (n1 := e) (by omega) (by omega) lP (fun t ht => cut_out P (d + 1) t (by omega)) lR (fun t ht => cut_out R (e + 1) t (by omega)) (M := 2 ^ 84) (by decide) bP bR (by
      obtain ⟨U, V, pU, pV, hb⟩ := hbz
      exact ⟨U, V, pU, pV, fun x => by rw [cut_rv, cut_rv]; exact hb x⟩) hX hx (e := 1 / (2 : Rat) ^ 1560) (Rat.le_of_lt hi) (sep_num (by omega) (by omega))
    rw [cut_rv, cut_rv] at this
    exact this
theorem okF_sep {P R : Nat → Int} {n m : Nat} (hP : okF P n) (hR : okF R m) (hbz : ∃ U V : Rat → Rat, pol U ∧ pol V ∧ ∀ x : Rat, 1 = U x * rv P n x + V x * rv R m x) {x : Rat} (hx : ab ((2 : Rat) ^ 31) x) : ¬ (ab (1 / (2 : Rat) ^ 1560) (rv P n x) ∧ ab (1 / (2 : Rat) ^ 1560) (rv R m x)) := by
  rcases Nat.le_total m n with c | c
  · exact pair_half hP hR c hbz hx
  · obtain ⟨U, V, pU, pV, hb⟩ := hbz
    have := pair_half hR hP c ⟨V, U, pV, pU, fun x => by rw [hb x]; grind⟩ hx
    exact fun g => this ⟨g.2, g.1⟩
