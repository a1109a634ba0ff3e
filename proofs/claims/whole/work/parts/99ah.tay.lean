/-- the binomials that the class takes -/
def bch (k od : Nat) : Int := if od = 0 then 1 else chq k od
theorem bch_pascal {k od : Nat} (hk : k < 15) (ho : od < 16) : bch (k + 1) (od + 1) = bch k od + bch k (od + 1) := by
  have h : ∀ k : Fin 15, ∀ i : Fin 16, bch (k.val + 1) (i.val + 1) = bch k.val i.val + bch k.val (i.val + 1) := by decide +kernel
  exact h ⟨k, hk⟩ ⟨od, ho⟩
theorem bch_zero (k : Nat) : bch k 0 = 1 := rfl
theorem bch_over {k : Nat} (hk : k < 16) : bch k (k + 1) = 0 := by
  have h : ∀ k : Fin 16, bch k.val (k.val + 1) = 0 := by decide +kernel
  exact h ⟨k, hk⟩
theorem bch_self {k : Nat} (hk : k < 16) : bch k k = 1 := by
  have h : ∀ k : Fin 16, bch k.val k.val = 1 := by decide +kernel
  exact h ⟨k, hk⟩
/-- a polynomial with fractions for coefficients -/
def rq (p : Nat → Rat) : Nat → Rat → Rat
  | 0, _ => 0
  | n + 1, h => rq p n h + p n * h ^ n
theorem rq_congr {p q : Nat → Rat} : ∀ {n : Nat} (h : Rat), (∀ i : Nat, i < n → p i = q i) → rq p n h = rq q n h
  | 0, _, _ => rfl
  | n + 1, h, g => by
    show rq p n h + _ = rq q n h + _
    rw [rq_congr h (fun i hi => g i (by omega)), g n (by omega)]
theorem rq_front (p : Nat → Rat) (h : Rat) : ∀ n : Nat, rq p (n + 1) h = p 0 + h * rq (fun i => p (i + 1)) n h
  | 0 => by show 0 + p 0 * h ^ 0 = p 0 + h * 0; grind
  | n + 1 => by
    show rq p (n + 1) h + p (n + 1) * h ^ (n + 1) = p 0 + h * (rq (fun i => p (i + 1)) n h + p (n + 1) * h ^ n)
    rw [rq_front p h n]
    grind
theorem rq_add (p q : Nat → Rat) (h : Rat) : ∀ n : Nat, rq (fun i => p i + q i) n h = rq p n h + rq q n h
  | 0 => by show (0 : Rat) = 0 + 0; grind
  | n + 1 => by
    show rq (fun i => p i + q i) n h + (p n + q n) * h ^ n = (rq p n h + p n * h ^ n) + (rq q n h + q n * h ^ n)
    rw [rq_add p q h n]
    grind
theorem rq_smul (a : Rat) (p : Nat → Rat) (h : Rat) : ∀ n : Nat, rq (fun i => a * p i) n h = a * rq p n h
  | 0 => by show (0 : Rat) = a * 0; grind
  | n + 1 => by
    show rq (fun i => a * p i) n h + (a * p n) * h ^ n = a * (rq p n h + p n * h ^ n)
    rw [rq_smul a p h n]
    grind
theorem rq_nice {B : Rat} (hB : 0 ≤ B) (p : Nat → Rat) : ∀ n : Nat, nice B (fun x => rq p n x)
  | 0 => nice_const B 0
  | n + 1 => nice_add (rq_nice hB p n) (nice_mul (nice_const B _) (nice_pow hB n))
theorem binom (x h : Rat) : ∀ n : Nat, n < 16 → (x + h) ^ n = rq (fun od => (bch n od : Rat) * x ^ (n - od)) (n + 1) h
  | 0, _ => by
    show (x + h) ^ 0 = 0 + ((bch 0 0 : Int) : Rat) * x ^ (0 - 0) * h ^ 0
    rw [bch_zero]
    grind
  | n + 1, hn => by
    have ih := binom x h n (by omega)
    rw [rq_front]
    have e1 : rq (fun i => ((bch (n + 1) (i + 1) : Int) : Rat) * x ^ (n + 1 - (i + 1))) (n + 1) h = rq (fun i => ((bch n i : Int) : Rat) * x ^ (n - i) + ((bch n (i + 1) : Int) : Rat) * x ^ (n - i)) (n + 1) h := rq_congr h (fun i hi => by
      rw [bch_pascal (by omega) (by omega), Rat.intCast_add, show n + 1 - (i + 1) = n - i by omega]
      grind)
    rw [e1, rq_add, ← ih]
    -- the second half
    have e2 : rq (fun i => ((bch n (i + 1) : Int) : Rat) * x ^ (n - i)) (n + 1) h = rq (fun i => ((bch n (i + 1) : Int) : Rat) * x ^ (n - i)) n h := by
      show rq _ n h + ((bch n (n + 1) : Int) : Rat) * x ^ (n - n) * h ^ n = _
      rw [bch_over (by omega)]
      have : ((0 : Int) : Rat) = 0 := rfl
      rw [this]
      grind
    have e3 : rq (fun i => ((bch n (i + 1) : Int) : Rat) * x ^ (n - i)) n h = x * rq (fun i => ((bch n (i + 1) : Int) : Rat) * x ^ (n - (i + 1))) n h := by
      rw [← rq_smul]
      exact rq_congr h (fun i hi => by
        obtain ⟨k, hk⟩ : ∃ k : Nat, n - i = k + 1 := ⟨n - i - 1, by omega⟩
        rw [show n - (i + 1) = k by omega, hk]
        grind)
    have e4 := rq_front (fun od => ((bch n od : Int) : Rat) * x ^ (n - od)) h n
    rw [← ih] at e4
    rw [e2, e3]
    have b0 : ((bch (n + 1) 0 : Int) : Rat) = 1 := rfl
    have b1 : ((bch n 0 : Int) : Rat) = 1 := rfl
    rw [b0]
    rw [b1] at e4
    rw [show n - 0 = n by omega] at e4
    rw [show n + 1 - 0 = n + 1 by omega]
    grind
/-- the coefficients of order od, in powers of x -/
def dcf (c : Nat → Int) (od : Nat) : Nat → Int := fun i => c (i + od) * bch (i + od) od
theorem taylor (c : Nat → Int) (x h : Rat) : ∀ N : Nat, N ≤ 16 → rv c N (x + h) = rq (fun od => rv (dcf c od) (N - od) x) N h
  | 0, _ => rfl
  | N + 1, hN => by
    show rv c N (x + h) + (c N : Rat) * (x + h) ^ N = rq (fun od => rv (dcf c od) (N + 1 - od) x) N h + rv (dcf c N) (N + 1 - N) x * h ^ N
    rw [taylor c x h N (by omega), binom x h N (by omega)]
    have e1 : rq (fun od => rv (dcf c od) (N + 1 - od) x) N h = rq (fun od => rv (dcf c od) (N - od) x + (c N : Rat) * (((bch N od : Int) : Rat) * x ^ (N - od))) N h := rq_congr h (fun od ho => by
      obtain ⟨k, hk⟩ : ∃ k : Nat, N - od = k := ⟨_, rfl⟩
      rw [show N + 1 - od = k + 1 by omega, hk]
      show rv (dcf c od) k x + ((c (k + od) * bch (k + od) od : Int) : Rat) * x ^ k = _
      rw [show k + od = N by omega, Rat.intCast_mul]
      grind)
    rw [e1, rq_add, rq_smul]
    have e2 : rv (dcf c N) (N + 1 - N) x = (c N : Rat) * (bch N N : Rat) := by
      rw [show N + 1 - N = 0 + 1 by omega]
      show 0 + ((c (0 + N) * bch (0 + N) N : Int) : Rat) * x ^ 0 = _
      rw [show 0 + N = N by omega, Rat.intCast_mul]
      grind
    rw [e2]
    show _ + (c N : Rat) * (rq (fun od => ((bch N od : Int) : Rat) * x ^ (N - od)) N h + ((bch N N : Int) : Rat) * x ^ (N - N) * h ^ N) = _
    rw [show N - N = 0 by omega]
    grind
/-- two smooth functions that agree but at 0 agree there -/
theorem agree0 {f g : Rat → Rat} (hf : nice 1 f) (hg : nice 1 g) (h : ∀ x : Rat, x ≠ 0 → ab 1 x → f x = g x) : f 0 = g 0 := by
  obtain ⟨M, m0, _, m2⟩ := hf
  obtain ⟨N, n0, _, n2⟩ := hg
  refine Classical.byContradiction fun hn => ?_
  obtain ⟨d, hd⟩ : ∃ d : Rat, d = (if f 0 < g 0 then g 0 - f 0 else f 0 - g 0) := ⟨_, rfl⟩
  have hd0 : 0 < d := by rw [hd]; split <;> grind
  obtain ⟨x, x0, x1, x2⟩ := pos_min (show (0 : Rat) < 1 by grind) (div_pos' hd0 (show 0 < M + N + 1 by grind))
  have x3 : (M + N) * x < d := by
    have h3 := Rat.mul_le_mul_of_nonneg_left x2 (c := M + N + 1) (by grind)
    have ee : (M + N + 1) * (d / (M + N + 1)) = d := by grind
    rw [ee] at h3
    grind
  have b0 : ab 1 0 := ab_zero (by grind)
  have bx : ab 1 x := by unfold ab; constructor <;> grind
  have h1 := m2 0 x b0 bx (by grind)
  have h2 := n2 0 x b0 bx (by grind)
  have h3 := h x (by grind) bx
  unfold ab at h1 h2
  split at hd <;> grind
/-- at a zero of G of order od, the coefficient of G Q of that order -/
theorem order_mul : ∀ (od : Nat) (p g : Nat → Rat) (n m : Nat) (q : Rat → Rat), nice 1 q → od < m → od < n → (∀ h : Rat, ab 1 h → rq p n h = rq g m h * q h) → (∀ j : Nat, j < od → g j = 0) → p od = g od * q 0
  | 0, p, g, n, m, q, hq, hm, hn, h, _ => by
    obtain ⟨n', rfl⟩ : ∃ k : Nat, n = k + 1 := ⟨n - 1, by omega⟩
    obtain ⟨m', rfl⟩ : ∃ k : Nat, m = k + 1 := ⟨m - 1, by omega⟩
    have h0 := h 0 (ab_zero (by grind))
    rw [rq_front, rq_front] at h0
    grind
  | od + 1, p, g, n, m, q, hq, hm, hn, h, hg => by
    obtain ⟨n', rfl⟩ : ∃ k : Nat, n = k + 1 := ⟨n - 1, by omega⟩
    obtain ⟨m', rfl⟩ : ∃ k : Nat, m = k + 1 := ⟨m - 1, by omega⟩
    have g0 := hg 0 (by omega)
    have p0 : p 0 = 0 := by
      have h0 := h 0 (ab_zero (by grind))
      rw [rq_front, rq_front, g0] at h0
      grind
    have hnz : ∀ x : Rat, x ≠ 0 → ab 1 x → rq (fun i => p (i + 1)) n' x = rq (fun i => g (i + 1)) m' x * q x := fun x x0 x1 => by
      have h1 := h x x1
      rw [rq_front, rq_front, g0, p0] at h1
      have h2 : x * (rq (fun i => p (i + 1)) n' x) = x * (rq (fun i => g (i + 1)) m' x * q x) := by grind
      have h3 : x * (rq (fun i => p (i + 1)) n' x - rq (fun i => g (i + 1)) m' x * q x) = 0 := by grind
      rcases Rat.mul_eq_zero.1 h3 with u | u
      · exact absurd u x0
      · grind
    have h00 := agree0 (rq_nice (by grind) (fun i => p (i + 1)) n') (nice_mul (rq_nice (by grind) (fun i => g (i + 1)) m') hq) hnz
    exact order_mul od (fun i => p (i + 1)) (fun i => g (i + 1)) n' m' q hq (by omega) (by omega) (fun x hx => by
      by_cases c : x = 0
      · rw [c]; exact h00
      · exact hnz x c hx) (fun j hj => hg (j + 1) (by omega))
