theorem pN_k {k : Nat} (h : 2 ≤ k ∧ k < 10) : pN k = 10 - k ∧ 25 ≤ pB k ∧ pB k + pN k ≤ 61 := by
  have h1 : ∀ k : Fin 10, 2 ≤ k.val → pN k.val = 10 - k.val ∧ 25 ≤ pB k.val ∧ pB k.val + pN k.val ≤ 61 := by decide
  exact h1 ⟨k, h.2⟩ h.1
theorem ex_base {Z : Nat → Int} {T : Nat → Nat} {Zi : Nat → Int} (h1 : T 1 ≤ T 0 ∧ 1 ≤ T 0 ∧ (2 ≤ T 1 → T 0 ≤ T 1 + 7)) (hT : ∀ j : Nat, j < 12 → T j ≤ pN j) (hld : Z (pB 1 + (T 1 - 1)) ≠ 0) (hlb : ∀ j : Nat, j < 2 → ∀ i : Nat, i < T j → lb (Z (pB j + i)) 4) (h2 : 1 ≤ T 1) (hZ : ∀ q : Nat, q < 25 ∨ 84 ≤ q → Zi q = Z q) (h77 : Zi 77 = 1) (h78 : Zi 78 = 1) : exS Z T Zi T 2 := by
  have t0 : T 0 ≤ 16 := hT 0 (by omega)
  have t1 : T 1 ≤ 9 := hT 1 (by omega)
  have e0 : zr Zi T 0 = zr Z T 0 := zr_congr rfl (fun s hs => hZ _ (Or.inl (by show 0 + s < 25; omega)))
  have e1 : zr Zi T 1 = zr Z T 1 := zr_congr rfl (fun s hs => hZ _ (Or.inl (by show 16 + s < 25; omega)))
  have l1 : lb (1 : Int) 95 := by
    have h9 := lb_nat (k := 1) (by omega)
    exact lb_le h9 (by omega)
  refine ⟨⟨hZ, fun j _ => rfl, hT, fun i h3 h4 => absurd h3 (by omega), fun i hi s hs => ?_⟩, h2, ⟨by show T 1 + 2 ≤ 11; omega, Nat.le_refl _, Or.inl rfl⟩, h1.1, t0, h1.2.2, by rw [h77]; exact l1, by rw [h78]; exact l1, ?_⟩
  · have hi2 : i = 0 ∨ i = 1 := by omega
    rcases hi2 with rfl | rfl
    · rw [hZ _ (Or.inl (by show 0 + s < 25; omega))]; exact lb_le (hlb 0 (by omega) s hs) (by omega)
    · rw [hZ _ (Or.inl (by show 16 + s < 25; omega))]; exact lb_le (hlb 1 (by omega) s hs) (by omega)
  · show qIn (zr Z T 0) (zr Z T 1) (T 0 - 1) (T 1 - 1) (zr Zi T 0) (zr Zi T 1) (T 0 - 1) (T 1 - 1) (Zi 77) (Zi 78)
    rw [e0, e1, h77, h78]
    refine ⟨fun t ht => zr_out (by omega), by rw [zr_in (by omega)]; exact hld, by omega, by omega, by omega, fun j _ _ => ⟨1, Or.inl rfl, fun t => ?_⟩⟩
    rw [Int.one_pow, Int.one_pow, Int.one_mul, Int.one_mul, Int.one_mul]
theorem ex_next {Z : Nat → Int} {T : Nat → Nat} {Zi : Nat → Int} {Ti : Nat → Nat} {k N : Nat} (hS : exS Z T Zi Ti k) (hk : 2 ≤ k ∧ k < 10) {f q ρ : Nat → Int} {hq : Int} {Z2 : Nat → Int} {T2 : Nat → Nat} (hT1 : T 1 ≤ 9)
    (hf : ∀ i : Nat, ρ i = f i * (Zi 77 * Zi 78 ^ (Ti (k - 2) - Ti (k - 1)))) (g77 : 0 < Zi 77) (g78 : 0 < Zi 78) (hfl : ∀ i : Nat, lb (f i) 95) (hql : lb hq 95) (hN : 1 ≤ N) (hNlt : N < Ti (k - 1)) (hf0 : f (N - 1) ≠ 0) (hfz : ∀ i : Nat, N ≤ i → f i = 0)
    (hsum : ∀ s : Nat, ((zr Zi Ti (k - 1) (Ti (k - 1) - 1)).natAbs : Int) ^ (Ti (k - 2) - Ti (k - 1) + 1) * zr Zi Ti (k - 2) s + qS (Ti (k - 2) - Ti (k - 1) + 1) (fun e => q e * qx e (zr Zi Ti (k - 1)) s) = ρ s)
    (hQ : qIn (zr Z T 0) (zr Z T 1) (T 0 - 1) (T 1 - 1) (zr Zi Ti (k - 1)) (fun i => -(f i)) (Ti (k - 1) - 1) (N - 1) ((zr Zi Ti (k - 1) (Ti (k - 1) - 1)).natAbs : Int) (if Ti (k - 2) - Ti (k - 1) = 0 then Zi 78 else hq))
    (u1 : ∀ r : Nat, (r < 61 ∧ (r < pB k ∨ pB k + pN k ≤ r)) ∨ 84 ≤ r → Z2 r = Zi r) (u2 : ∀ j : Nat, j ≠ 10 → j ≠ k → T2 j = Ti j) (u3 : T2 k = N) (u4 : T2 10 ≤ 16) (u5 : ∀ i : Nat, i < N → Z2 (pB k + i) = -(f i)) (u6 : Z2 77 = ((zr Zi Ti (k - 1) (Ti (k - 1) - 1)).natAbs : Int)) (u7 : Z2 78 = (if Ti (k - 2) - Ti (k - 1) = 0 then Zi 78 else hq)) : exS Z T Z2 T2 (k + 1) := by
  obtain ⟨⟨i1, i2, i3, i4, i5⟩, a1, a2, a3, a4, a5, a6, a7, hQ1⟩ := hS
  have hp := pN_k hk
  have hrow : ∀ j : Nat, j < k → ∀ s : Nat, s < Ti j → Z2 (pB j + s) = Zi (pB j + s) := fun j hj s hs => by
    have d1 := pB_d (i := j) (j := k) (by omega) (by omega) (by omega)
    have d2 := pB_d (i := j) (j := 10) (by omega) (by omega) (by omega)
    have d3 := i3 j (by omega)
    have d4 := pB_r (j := j) (by omega)
    have e1 : pB 10 = 61 := rfl
    have e2 : pN 10 = 16 := rfl
    have e3 : j < 10 := by omega
    have d5 : pB j + pN j ≤ 61 := by
      have h9 : ∀ j : Fin 10, pB j.val + pN j.val ≤ 61 := by decide
      exact h9 ⟨j, e3⟩
    exact u1 _ (Or.inl ⟨by omega, by omega⟩)
  have hTj : ∀ j : Nat, j < k → T2 j = Ti j := fun j hj => u2 j (by omega) (by omega)
  have hzr : ∀ j : Nat, j < k → zr Z2 T2 j = zr Zi Ti j := fun j hj => zr_congr (hTj j hj) (hrow j hj)
  have hzk : zr Z2 T2 k = fun i => -(f i) := by
    funext i
    by_cases h : i < N
    · rw [zr_in (by rw [u3]; exact h), u5 i h]
    · rw [zr_out (by rw [u3]; omega), hfz i (by omega)]; rfl
  have hw : 0 < Zi 77 * Zi 78 ^ (Ti (k - 2) - Ti (k - 1)) := Int.mul_pos g77 (q_pow_pos g78 _)
  have hlc : lb ((zr Zi Ti (k - 1) (Ti (k - 1) - 1)).natAbs : Int) 95 := by
    have h9 := zr_lb (i5 (k - 1) (by omega)) (Ti (k - 1) - 1)
    unfold lb at *
    rw [Int.natAbs_natCast]; exact h9
  have e1 : k + 1 - 1 = k := by omega
  have e2 : k + 1 - 2 = k - 1 := by omega
  have hk1 : Ti (k - 1) ≤ T 1 := a2.2.1
  refine ⟨⟨fun r hr => ?_, fun j hj => ?_, fun j hj => ?_, fun i g1 g2 => ?_, fun i hi s hs => ?_⟩, ?_⟩
  · rw [u1 r (by omega), i1 r hr]
  · rw [u2 j (by omega) (by omega), i2 j hj]
  · by_cases c1 : j = k
    · rw [c1, u3, hp.1]; omega
    · by_cases c2 : j = 10
      · rw [c2]; exact u4
      · rw [u2 j c2 c1]; exact i3 j hj
  · by_cases c1 : i = k
    · subst c1
      refine ⟨by rw [u3, hTj _ (by omega)]; exact hNlt, by rw [u3]; exact hN, by rw [hzk, u3]; exact fun h => hf0 (by have h9 : -(f (N - 1)) = 0 := h; omega), Zi 77 * Zi 78 ^ (Ti (i - 2) - Ti (i - 1)), q, hw, fun s => ?_⟩
      rw [hTj (i - 1) (by omega), hTj (i - 2) (by omega), hzr (i - 1) (by omega), hzr (i - 2) (by omega), hzk, hsum s, hf s]
      show f s * _ = -_ * -(f s)
      grind
    · exact lnk_congr (fun j hj => ⟨hTj j (by omega), hzr j (by omega)⟩) (i4 i g1 (by omega))
  · by_cases c1 : i = k
    · subst c1
      rw [u3] at hs
      rw [u5 s hs]
      have h9 := hfl s
      unfold lb at *; omega
    · rw [hTj i (by omega)] at hs
      rw [hrow i (by omega) s hs]
      exact i5 i (by omega) s hs
  · rw [e1, e2, u3, hTj (k - 1) (by omega), hzr (k - 1) (by omega), hzk, u6, u7]
    refine ⟨hN, ⟨by omega, by omega, Or.inr (by omega)⟩, by omega, by omega, fun _ => by omega, hlc, ?_, hQ⟩
    by_cases hd : Ti (k - 2) - Ti (k - 1) = 0
    · rw [if_pos hd]; exact a7
    · rw [if_neg hd]; exact hql
