theorem rv_front (c : Nat → Int) (x : Rat) : ∀ n : Nat, rv c (n + 1) x = (c 0 : Rat) + x * rv (fun i => c (i + 1)) n x
  | 0 => by show 0 + (c 0 : Rat) * x ^ 0 = (c 0 : Rat) + x * 0; grind
  | n + 1 => by
    show rv c (n + 1) x + (c (n + 1) : Rat) * x ^ (n + 1) = (c 0 : Rat) + x * (rv (fun i => c (i + 1)) n x + (c (n + 1) : Rat) * x ^ n)
    rw [rv_front c x n]
    grind
/-- a polynomial is known by its values -/
theorem rv_inj {c e : Nat → Int} : ∀ {n : Nat}, (∀ x : Rat, rv c n x = rv e n x) → ∀ i : Nat, i < n → c i = e i
  | 0, _, i, hi => absurd hi (by omega)
  | n + 1, h, i, hi => by
    have hd : ∀ x : Rat, rv (fun i => c i + (-1) * e i) (n + 1) x = 0 := fun x => by
      rw [rv_add, rv_smul, h x]
      have : ((-1 : Int) : Rat) = -1 := rfl
      rw [this]
      grind
    have htop : c n = e n := by
      refine Classical.byContradiction fun hn => ?_
      obtain ⟨z, _, _, hz⟩ := dense (c := fun i => c i + (-1) * e i) (N := n + 1) (by omega) (by show c n + (-1) * e n ≠ 0; omega) 0 1 (by grind)
      exact hz (hd z)
    by_cases c1 : i = n
    · rw [c1]; exact htop
    · refine rv_inj (n := n) (fun x => ?_) i (by omega)
      have h1 := h x
      show rv c n x = rv e n x
      have h2 : rv c n x + (c n : Rat) * x ^ n = rv e n x + (e n : Rat) * x ^ n := h1
      rw [htop] at h2
      grind
/-- division by x - a, from the top -/
theorem sfa_div (d : Nat → Int) (N : Nat) (a : Int) (t : Rat) : ∀ m : Nat, m ≤ N → rv (fun j => d (N - m + j)) m t = (sfa d N a m : Rat) + (t - (a : Rat)) * rv (fun j => sfa d N a (m - 1 - j)) (m - 1) t
  | 0, _ => by
    show (0 : Rat) = ((0 : Int) : Rat) + _ * 0
    have : ((0 : Int) : Rat) = 0 := rfl
    rw [this]; grind
  | m + 1, h => by
    rw [rv_front]
    have e1 : rv (fun i => d (N - (m + 1) + (i + 1))) m t = rv (fun j => d (N - m + j)) m t := rv_congr t (fun i hi => by rw [show N - (m + 1) + (i + 1) = N - m + i by omega])
    rw [e1, sfa_div d N a t m (by omega)]
    have e2 : sfa d N a (m + 1) = d (N - (m + 1)) + sfa d N a m * a := rfl
    rw [e2, Rat.intCast_add, Rat.intCast_mul, Nat.add_zero]
    show _ = _ + (t - (a : Rat)) * rv (fun j => sfa d N a (m - j)) m t
    cases m with
    | zero =>
      show (d (N - (0 + 1)) : Rat) + t * (((sfa d N a 0 : Int) : Rat) + (t - (a : Rat)) * 0) = (d (N - (0 + 1)) : Rat) + ((sfa d N a 0 : Int) : Rat) * (a : Rat) + (t - (a : Rat)) * 0
      have : ((sfa d N a 0 : Int) : Rat) = 0 := rfl
      rw [this]; grind
    | succ m =>
      rw [rv_front]
      have e3 : rv (fun i => sfa d N a (m + 1 - (i + 1))) m t = rv (fun j => sfa d N a (m + 1 - 1 - j)) m t := rv_congr t (fun i hi => by rw [show m + 1 - (i + 1) = m + 1 - 1 - i by omega])
      rw [e3]
      show _ + t * (((sfa d N a (m + 1) : Int) : Rat) + _ * rv (fun j => sfa d N a (m + 1 - 1 - j)) m t) = _ + _ + _ * (((sfa d N a (m + 1 - 0) : Int) : Rat) + _)
      rw [Nat.sub_zero]
      grind
theorem sha_inv (c : Nat → Int) (N : Nat) (a : Int) (t : Rat) : ∀ i : Nat, i < N → rv (sha c N a i) i (t - (a : Rat)) + (t - (a : Rat)) ^ i * rv (fun j => sha c N a i (i + j)) (N - i) t = rv c N t
  | 0, _ => by
    show 0 + (t - (a : Rat)) ^ 0 * rv (fun j => c (0 + j)) (N - 0) t = _
    have e : (fun j => c (0 + j)) = c := by funext j; rw [Nat.zero_add]
    rw [e, Nat.sub_zero]
    grind
  | i + 1, h => by
    have ih := sha_inv c N a t i (by omega)
    obtain ⟨d, hd⟩ : ∃ d : Nat → Int, d = sha c N a i := ⟨_, rfl⟩
    have e0 : sha c N a (i + 1) = passa d N a i := by rw [hd]; rfl
    rw [e0]
    rw [← hd] at ih
    have h1 := sfa_div d N a t (N - i) (by omega)
    rw [show N - (N - i) = i by omega] at h1
    rw [← ih, h1]
    have e1 : rv (passa d N a i) i (t - (a : Rat)) = rv d i (t - (a : Rat)) := rv_congr _ (fun k hk => if_neg (by omega))
    have e2 : passa d N a i i = sfa d N a (N - i) := if_pos ⟨Nat.le_refl _, by omega⟩
    show rv (passa d N a i) i (t - (a : Rat)) + ((passa d N a i i : Int) : Rat) * (t - (a : Rat)) ^ i + (t - (a : Rat)) ^ (i + 1) * rv (fun j => passa d N a i (i + 1 + j)) (N - (i + 1)) t = _
    rw [e1, e2]
    have e3 : rv (fun j => passa d N a i (i + 1 + j)) (N - (i + 1)) t = rv (fun j => sfa d N a (N - i - 1 - j)) (N - i - 1) t := by
      rw [show N - (i + 1) = N - i - 1 by omega]
      exact rv_congr t (fun j hj => by
        show passa d N a i (i + 1 + j) = _
        unfold passa
        rw [if_pos ⟨by omega, by omega⟩, show N - (i + 1 + j) = N - i - 1 - j by omega])
    rw [e3]
    grind
/-- moved by a -/
theorem sha_rv (c : Nat → Int) {N : Nat} (hN : 1 ≤ N) (a : Int) (t : Rat) : rv (sha c N a (N - 1)) N t = rv c N (t + (a : Rat)) := by
  have h := sha_inv c N a (t + (a : Rat)) (N - 1) (by omega)
  rw [show t + (a : Rat) - (a : Rat) = t by grind] at h
  rw [← h, show N - (N - 1) = 0 + 1 by omega]
  obtain ⟨n, rfl⟩ : ∃ n : Nat, N = n + 1 := ⟨N - 1, by omega⟩
  rw [Nat.add_sub_cancel]
  show rv (sha c (n + 1) a n) n t + ((sha c (n + 1) a n n : Int) : Rat) * t ^ n = rv (sha c (n + 1) a n) n t + t ^ n * (0 + ((sha c (n + 1) a n (n + 0) : Int) : Rat) * (t + (a : Rat)) ^ 0)
  rw [Nat.add_zero]
  grind
theorem sfx_sfa (c : Nat → Int) (N : Nat) : ∀ m : Nat, sfx c N m = sfa c N 1 m
  | 0 => rfl
  | m + 1 => by show c (N - (m + 1)) + sfx c N m = c (N - (m + 1)) + sfa c N 1 m * 1; rw [sfx_sfa c N m]; omega
theorem shf_sha (c : Nat → Int) (N : Nat) : ∀ i : Nat, shf c N i = sha c N 1 i
  | 0 => rfl
  | i + 1 => by
    show pass (shf c N i) N i = passa (sha c N 1 i) N 1 i
    rw [shf_sha c N i]
    funext k
    unfold pass passa
    rw [sfx_sfa]
theorem sh1_rv (c : Nat → Int) {N : Nat} (hN : 1 ≤ N) (t : Rat) : rv (sh1 c N) N t = rv c N (t + 1) := by
  unfold sh1
  rw [shf_sha]
  exact sha_rv c hN 1 t
/-- scaled: each coefficient times a power of the same -/
theorem rv_scale {c e : Nat → Int} {p : Rat} {N : Nat} (hp : p ≠ 0) (h : ∀ i : Nat, i < N → (e i : Rat) = (c i : Rat) * p ^ (N - 1 - i)) (t : Rat) (hN : 1 ≤ N) : rv e N t = p ^ (N - 1) * rv c N (t / p) := by
  have key : ∀ n : Nat, n ≤ N → p ^ 0 * rv e n t = p ^ (N - 1) * rv c n (t / p) := by
    intro n
    induction n with
    | zero => intro _; show p ^ 0 * 0 = p ^ (N - 1) * 0; grind
    | succ n ih =>
      intro hn
      have h1 := ih (by omega)
      show p ^ 0 * (rv e n t + (e n : Rat) * t ^ n) = p ^ (N - 1) * (rv c n (t / p) + (c n : Rat) * (t / p) ^ n)
      rw [h n (by omega)]
      have h2 : p ^ (N - 1) = p ^ (N - 1 - n) * p ^ n := by rw [← rat_pow_add, show N - 1 - n + n = N - 1 by omega]
      have h3 : t ^ n = (t / p) ^ n * p ^ n := by
        have : t = (t / p) * p := by grind
        have mp : ∀ (a b : Rat) (n : Nat), (a * b) ^ n = a ^ n * b ^ n := by
          intro a b n
          induction n with
          | zero => grind
          | succ n ih => rw [show (a * b) ^ (n + 1) = (a * b) ^ n * (a * b) by grind, ih]; grind
        rw [← mp, ← this]
      have h4 : p ^ (N - 1) * ((c n : Rat) * (t / p) ^ n) = (c n : Rat) * p ^ (N - 1 - n) * t ^ n := by rw [h2, h3]; grind
      grind
  have := key N (Nat.le_refl _)
  grind
theorem hlv_rv (c : Nat → Int) {N : Nat} (hN : 1 ≤ N) (t : Rat) : rv (hlv c N) N t = (2 : Rat) ^ (N - 1) * rv c N (t / 2) := rv_scale (by grind) (fun i _ => by unfold hlv; rw [Rat.intCast_mul, cast_pow2]) t hN
theorem rv_stretch (c : Nat → Int) (p : Int) (t : Rat) : ∀ n : Nat, rv (fun i => c i * p ^ i) n t = rv c n (t * (p : Rat))
  | 0 => rfl
  | n + 1 => by
    show rv (fun i => c i * p ^ i) n t + ((c n * p ^ n : Int) : Rat) * t ^ n = rv c n (t * (p : Rat)) + (c n : Rat) * (t * (p : Rat)) ^ n
    have mp : ∀ (a b : Rat) (n : Nat), (a * b) ^ n = a ^ n * b ^ n := by
      intro a b n
      induction n with
      | zero => grind
      | succ n ih => rw [show (a * b) ^ (n + 1) = (a * b) ^ n * (a * b) by grind, ih]; grind
    rw [rv_stretch c p t n, Rat.intCast_mul, cast_pow, mp]
    grind
theorem mvd_rv (f : Nat → Int) {N : Nat} (hN : 1 ≤ N) (n len : Int) (t : Rat) : rv (mvd f N n len) N t = ((2 : Rat) ^ 30) ^ (N - 1) * rv f N (((n : Rat) + t * (len : Rat)) / (2 : Rat) ^ 30) := by
  unfold mvd
  rw [rv_stretch, sha_rv _ hN, rv_scale (c := f) (p := (2 : Rat) ^ 30) (by have := p2pos 30; grind) (fun i _ => by rw [Rat.intCast_mul, cast_pow2, pow_mul']) _ hN]
  rw [show t * (len : Rat) + (n : Rat) = (n : Rat) + t * (len : Rat) by grind]
theorem psum_rv (c : Nat → Int) : ∀ n : Nat, ((psum c n : Int) : Rat) = rv c n 1
  | 0 => rfl
  | n + 1 => by
    show ((psum c n + c n : Int) : Rat) = rv c n 1 + (c n : Rat) * 1 ^ n
    rw [Rat.intCast_add, psum_rv c n]
    have : ∀ n : Nat, (1 : Rat) ^ n = 1 := by intro n; induction n with | zero => grind | succ n ih => grind
    rw [this]; grind
/-- doubling brings back what halving and two moves did -/
theorem tw_ok (c : Nat → Int) {N : Nat} (hN : 1 ≤ N) : ∀ k : Nat, k < N → twc (sh1 (sh1 (hlv c N) N) N) N k = sh1 c N k := by
  have h : ∀ k : Nat, k < N → sh1 (sh1 (hlv c N) N) N k = hlv (sh1 c N) N k := rv_inj (fun x => by
    rw [sh1_rv _ hN, sh1_rv _ hN, hlv_rv _ hN, hlv_rv _ hN, sh1_rv _ hN]
    rw [show (x + 1 + 1) / 2 = x / 2 + 1 by grind])
  intro k hk
  unfold twc
  rw [h k hk]
  by_cases c1 : k < N - 1
  · rw [if_pos c1]
    unfold hlv
    obtain ⟨m, hm⟩ : ∃ m : Int, m = 2 ^ (N - 1 - k) := ⟨_, rfl⟩
    have hm0 : 0 < m := by rw [hm]; exact Int.pow_pos (by decide)
    rw [← hm]
    obtain ⟨z, hz⟩ : ∃ z : Int, z = sh1 c N k := ⟨_, rfl⟩
    rw [← hz, Int.natAbs_mul, Int.natCast_mul, Int.sign_mul, Int.sign_eq_one_of_pos hm0, Int.mul_one]
    have e : ((m.natAbs : Nat) : Int) = m := by omega
    rw [e, Int.mul_ediv_cancel _ (by omega)]
    rcases Int.lt_trichotomy z 0 with g | g | g
    · rw [Int.sign_eq_neg_one_of_neg g]; omega
    · rw [g]; rfl
    · rw [Int.sign_eq_one_of_pos g]; omega
  · rw [if_neg c1]
    unfold hlv
    rw [show N - 1 - k = 0 by omega]
    omega
