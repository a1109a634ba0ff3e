/-- the value of the polynomial with the first n coefficients -/
def rv (c : Nat → Int) : Nat → Rat → Rat
  | 0, _ => 0
  | n + 1, x => rv c n x + (c n : Rat) * x ^ n
theorem rv_congr {c e : Nat → Int} : ∀ {n : Nat} (x : Rat), (∀ i : Nat, i < n → c i = e i) → rv c n x = rv e n x
  | 0, _, _ => rfl
  | n + 1, x, h => by
    show rv c n x + _ = rv e n x + _
    rw [rv_congr x (fun i hi => h i (by omega)), h n (by omega)]
theorem rv_more {c : Nat → Int} {n : Nat} (h : ∀ i : Nat, n ≤ i → c i = 0) (x : Rat) : ∀ k : Nat, rv c (n + k) x = rv c n x
  | 0 => rfl
  | k + 1 => by
    show rv c (n + k) x + (c (n + k) : Rat) * x ^ (n + k) = _
    rw [rv_more h x k, h (n + k) (by omega)]
    grind
theorem rv_le {c : Nat → Int} {n m : Nat} (h : ∀ i : Nat, n ≤ i → c i = 0) (hm : n ≤ m) (x : Rat) : rv c m x = rv c n x := by
  have := rv_more h x (m - n)
  rw [show n + (m - n) = m by omega] at this
  exact this
theorem rv_add (c e : Nat → Int) (x : Rat) : ∀ n : Nat, rv (fun i => c i + e i) n x = rv c n x + rv e n x
  | 0 => by show (0 : Rat) = 0 + 0; grind
  | n + 1 => by
    show rv (fun i => c i + e i) n x + ((c n + e n : Int) : Rat) * x ^ n = (rv c n x + (c n : Rat) * x ^ n) + (rv e n x + (e n : Rat) * x ^ n)
    rw [rv_add c e x n]
    grind
theorem rv_smul (a : Int) (c : Nat → Int) (x : Rat) : ∀ n : Nat, rv (fun i => a * c i) n x = (a : Rat) * rv c n x
  | 0 => by show (0 : Rat) = a * 0; grind
  | n + 1 => by
    show rv (fun i => a * c i) n x + ((a * c n : Int) : Rat) * x ^ n = a * (rv c n x + (c n : Rat) * x ^ n)
    rw [rv_smul a c x n]
    grind
theorem rv_zero (x : Rat) : ∀ n : Nat, rv (fun _ => 0) n x = 0
  | 0 => rfl
  | n + 1 => by
    show rv (fun _ => 0) n x + ((0 : Int) : Rat) * x ^ n = 0
    rw [rv_zero x n]
    grind
theorem nice_pow {B : Rat} (hB : 0 ≤ B) : ∀ n : Nat, nice B (fun x => x ^ n)
  | 0 => by
    have e : (fun x : Rat => x ^ 0) = (fun _ => 1) := by funext x; grind
    rw [e]; exact nice_const B 1
  | n + 1 => by
    have e : (fun x : Rat => x ^ (n + 1)) = (fun x => x ^ n * x) := by funext x; grind
    rw [e]; exact nice_mul (nice_pow hB n) (nice_id hB)
theorem rv_nice {B : Rat} (hB : 0 ≤ B) (c : Nat → Int) : ∀ n : Nat, nice B (fun x => rv c n x)
  | 0 => nice_const B 0
  | n + 1 => nice_add (rv_nice hB c n) (nice_mul (nice_const B _) (nice_pow hB n))
/-- the derivative -/
def dpr (c : Nat → Int) : Nat → Int := fun i => c (i + 1) * ((i + 1 : Nat) : Int)
theorem slope_pow {B : Rat} (hB : 0 ≤ B) : ∀ n : Nat, slope B (fun x => x ^ (n + 1)) (fun x => ((n + 1 : Nat) : Rat) * x ^ n)
  | 0 => by
    have e : (fun x : Rat => x ^ (0 + 1)) = (fun x => x) := by funext x; grind
    have e2 : (fun x : Rat => ((0 + 1 : Nat) : Rat) * x ^ 0) = (fun _ => 1) := by funext x; grind
    rw [e, e2]; exact slope_id B
  | n + 1 => by
    have h := slope_mul (slope_pow hB n) (slope_id B) (nice_pow hB (n + 1)) (nice_id hB) (nice_const B 1)
    have e : (fun x : Rat => x ^ (n + 1 + 1)) = (fun x => x ^ (n + 1) * x) := by funext x; grind
    have e2 : (fun x : Rat => ((n + 1 + 1 : Nat) : Rat) * x ^ (n + 1)) = (fun x => ((n + 1 : Nat) : Rat) * x ^ n * x + x ^ (n + 1) * 1) := by funext x; grind
    rw [e, e2]; exact h
theorem rv_slope {B : Rat} (hB : 0 ≤ B) (c : Nat → Int) : ∀ n : Nat, slope B (fun x => rv c (n + 1) x) (fun x => rv (dpr c) n x)
  | 0 => by
    have e : (fun x : Rat => rv c (0 + 1) x) = (fun _ => (c 0 : Rat)) := by funext x; show 0 + (c 0 : Rat) * x ^ 0 = _; grind
    rw [e]; exact slope_const B _
  | n + 1 => by
    have h1 := slope_mul (slope_const B (c (n + 1) : Rat)) (slope_pow hB n) (nice_const B _) (nice_pow hB (n + 1)) (nice_mul (nice_const B _) (nice_pow hB n))
    have h2 := slope_add (rv_slope hB c n) h1
    have e2 : (fun x : Rat => rv (dpr c) (n + 1) x) = (fun x => rv (dpr c) n x + (0 * x ^ (n + 1) + (c (n + 1) : Rat) * (((n + 1 : Nat) : Rat) * x ^ n))) := by
      funext x
      show rv (dpr c) n x + ((c (n + 1) * ((n + 1 : Nat) : Int) : Int) : Rat) * x ^ n = _
      have e3 : ((c (n + 1) * ((n + 1 : Nat) : Int) : Int) : Rat) = (c (n + 1) : Rat) * ((n + 1 : Nat) : Rat) := by rw [Rat.intCast_mul]; rfl
      rw [e3]
      grind
    rw [e2]; exact h2

