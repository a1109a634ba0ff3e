theorem rv_qx (f : Nat → Int) (e : Nat) (x : Rat) : ∀ n : Nat, rv (qx e f) (n + e) x = x ^ e * rv f n x
  | 0 => by
    have h : ∀ k : Nat, k ≤ e → rv (qx e f) k x = 0 := by
      intro k
      induction k with
      | zero => intro _; rfl
      | succ k ih =>
        intro hk
        show rv (qx e f) k x + ((qx e f k : Int) : Rat) * x ^ k = 0
        rw [ih (by omega)]
        unfold qx
        rw [if_neg (by omega)]
        grind
    rw [Nat.zero_add, h e (Nat.le_refl _)]
    show (0 : Rat) = x ^ e * 0
    grind
  | n + 1 => by
    rw [show n + 1 + e = (n + e) + 1 by omega]
    show rv (qx e f) (n + e) x + ((qx e f (n + e) : Int) : Rat) * x ^ (n + e) = x ^ e * (rv f n x + (f n : Rat) * x ^ n)
    rw [rv_qx f e x n]
    unfold qx
    rw [if_pos (by omega), show n + e - e = n by omega]
    grind
/-- a product of polynomials, laid out as a sum -/
theorem rv_conv (q f : Nat → Int) (n : Nat) (hf : ∀ i : Nat, n ≤ i → f i = 0) (x : Rat) : ∀ d m : Nat, n + d ≤ m → rv (fun s => qS d (fun e => q e * qx e f s)) m x = rv q d x * rv f n x
  | 0, m, _ => by
    have e : (fun s => qS 0 (fun e => q e * qx e f s)) = (fun _ => 0) := by funext s; rfl
    rw [e, rv_zero]
    show (0 : Rat) = 0 * _
    grind
  | d + 1, m, h => by
    have e : (fun s => qS (d + 1) (fun e => q e * qx e f s)) = (fun s => qS d (fun e => q e * qx e f s) + q d * qx d f s) := by funext s; rfl
    rw [e, rv_add, rv_conv q f n hf x d m (by omega), rv_smul]
    have h2 : rv (qx d f) m x = x ^ d * rv f n x := by
      have h3 := rv_qx f d x (m - d)
      rw [show m - d + d = m by omega] at h3
      rw [h3, rv_le hf (by omega)]
    rw [h2]
    show _ = (rv q d x + (q d : Rat) * x ^ d) * rv f n x
    grind
/-- the terms from the top, as Horner takes them -/
theorem rv_horner {c : Nat → Int} {N : Nat} (x : Rat) (t : Nat → Rat) (h0 : t 0 = 0) (hs : ∀ j : Nat, j < N → t (j + 1) = t j * x + (c (N - 1 - j) : Rat)) : ∀ j : Nat, j ≤ N → t j * x ^ (N - j) + rv c (N - j) x = rv c N x
  | 0, _ => by rw [h0]; show 0 * _ + rv c (N - 0) x = _; rw [Nat.sub_zero]; grind
  | j + 1, h => by
    have h1 := rv_horner x t h0 hs j (by omega)
    rw [hs j (by omega)]
    rw [← h1]
    obtain ⟨k, hk⟩ : ∃ k : Nat, N - j = k + 1 := ⟨N - j - 1, by omega⟩
    rw [show N - (j + 1) = k by omega, hk, show N - 1 - j = k by omega]
    show _ = t j * x ^ (k + 1) + (rv c k x + (c k : Rat) * x ^ k)
    grind
