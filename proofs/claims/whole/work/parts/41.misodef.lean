/-- what the reference holds while it isolates -/
def xI (X : mX) (isF mn : Int32) (lf : Nat → Int32) (cf : Nat → Int64) (fB : Nat → Int32) : mX := (isF, mn, lf, cf, fB, X.2.2.2.2.2.1, X.2.2.2.2.2.2)
def apL (lf : Nat → Int32) : Nat → List (Int × Int) → (Nat → Int32)
  | _, [] => lf
  | k, q :: r => apL (upd lf k (iZ q.1)) (k + 1) r
def apC (cf : Nat → Int64) : Nat → List (Int × Int) → (Nat → Int64)
  | _, [] => cf
  | k, q :: r => apC (vp_updL cf k (lZ q.2)) (k + 1) r
theorem apL_app : ∀ (r1 r2 : List (Int × Int)) (lf : Nat → Int32) (k : Nat), apL lf k (r1 ++ r2) = apL (apL lf k r1) (k + r1.length) r2
  | [], r2, lf, k => rfl
  | q :: r, r2, lf, k => by
    show apL (upd lf k (iZ q.1)) (k + 1) (r ++ r2) = _
    rw [apL_app r r2]
    show _ = apL (apL (upd lf k (iZ q.1)) (k + 1) r) (k + (r.length + 1)) r2
    rw [show k + 1 + r.length = k + (r.length + 1) by omega]
theorem apC_app : ∀ (r1 r2 : List (Int × Int)) (cf : Nat → Int64) (k : Nat), apC cf k (r1 ++ r2) = apC (apC cf k r1) (k + r1.length) r2
  | [], r2, cf, k => rfl
  | q :: r, r2, cf, k => by
    show apC (vp_updL cf k (lZ q.2)) (k + 1) (r ++ r2) = _
    rw [apC_app r r2]
    show _ = apC (apC (vp_updL cf k (lZ q.2)) (k + 1) r) (k + (r.length + 1)) r2
    rw [show k + 1 + r.length = k + (r.length + 1) by omega]
def oneI (ex dp : Nat) (u : Int) : Prop := u = 1 ∧ (ex : Int) ≤ (dp : Int) - 31
/-- the search for the places of the roots of c, from depth dp on: what it finds; none: some are too near -/
def IRl (N ex : Nat) : Nat → (Nat → Int) → Nat → Int → Option (List (Int × Int)) → Prop
  | 0, _, _, _, _ => False
  | k + 1, c, dp, pl, res => ∃ h : Nat, h < 4000 ∧ (1 < N → TV N h c) ∧ ((UV N h c ≤ 0 ∧ res = some []) ∨ (oneI ex dp (UV N h c) ∧ res = some [((dp : Int) - 31, pl - 2 ^ (dp - 1))]) ∨ (0 < UV N h c ∧ ¬ oneI ex dp (UV N h c) ∧ dp = 61 ∧ res = none) ∨ (0 < UV N h c ∧ ¬ oneI ex dp (UV N h c) ∧ dp ≠ 61 ∧ ((IRl N ex k (hlv c N) (dp + 1) (2 * pl) none ∧ res = none) ∨ ∃ r1 : List (Int × Int), IRl N ex k (hlv c N) (dp + 1) (2 * pl) (some r1) ∧ ((IRl N ex k (sh1 (hlv c N) N) (dp + 1) (2 * pl + 1) none ∧ res = none) ∨ ∃ r2 : List (Int × Int), IRl N ex k (sh1 (hlv c N) N) (dp + 1) (2 * pl + 1) (some r2) ∧ res = some (r1 ++ r2)))))
/-- it ends, numbers stay short, and at most b roots are found -/
def IKl (N ex : Nat) : Nat → (Nat → Int) → Nat → Nat → Prop
  | 0, _, _, _ => False
  | k + 1, c, dp, b => okB c N ∧ ∃ h : Nat, h < 4000 ∧ (1 < N → TV N h c) ∧ UV N h c < 100 ∧ (oneI ex dp (UV N h c) → 1 ≤ b) ∧ (0 < UV N h c → ¬ oneI ex dp (UV N h c) → dp ≠ 61 → ∃ b1 b2 : Nat, b1 + b2 ≤ b ∧ IKl N ex k (hlv c N) (dp + 1) b1 ∧ IKl N ex k (sh1 (hlv c N) N) (dp + 1) b2 ∧ ∀ i : Nat, i < N → twc (sh1 (sh1 (hlv c N) N) N) N i = sh1 c N i)
def iSt (N : Nat) (c Y : Nat → Int) (kL kS kN gD : Nat → Int32) : Prop := mAll kL kS kN Y ∧ gD 8 = iZ ((N : Int) - 1) ∧ ∀ i : Nat, i < N → Y (9 * 8 + i) = c i
theorem pl_odd (p : Int) : (p * 2 + 1) / 2 = p := by omega
theorem land1 {z : Int} (h0 : 0 ≤ z) (h1 : z < 9223372036854775808) : lZ z &&& lZ 1 = lZ (z % 2) := by
  have h := lZ_and (z := z) 1 (by omega) (m := 1) (by decide)
  rw [h]; rfl
theorem lor1 {z : Int} (h0 : 0 ≤ z) (h1 : z < 4611686018427387904) (hz : z % 2 = 0) : lZ z ||| lZ 1 = lZ (z + 1) := lZ_or_add (k := 1) h0 (by omega) (by rw [Int.pow_one]; exact Int.dvd_of_emod_eq_zero hz) (by omega) (by decide) (by omega)
