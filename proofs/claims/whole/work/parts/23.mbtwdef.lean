section ZB
variable {p : Program} {l : Launch} {e : Env} {R : Room} {s : State} {m : MethodId} {args : Array Value} {below : List Frame} {meth : Method} {c : Code} {D : va_G} {A : Nat → Prop} {nL cells slots : Nat} {Qp : State → Prop}
variable {cc : ByteArray} {Ts : List Cond} {own : String} {tys : List (ClassId × FieldType)} {ws : va_W} {pc : Nat} {lv : List (Nat × Value)} {rest : List Value}
theorem w_zast (C : ZC p s m args c cc nL Ts own D tys) (ws' : va_W) (q0 t0 : Nat) {ad : Nat} {cA : ClassId} {n : Nat} {f : Nat → Int32} (ha : ws[q0]? = some (ad, .inl (cA, n, .inl f))) (ht : tys[t0]? = some (cA, .boolean)) {i : Int} {x x' : Int32} (hx : vp_nar .boolean x = x') (ix : Nat) (hi : i = ix ∧ ix < n ∧ n < 2147483648) (hw : ws.set q0 (ad, .inl (cA, n, .inl (upd f ix x'))) = ws') (hdg : decode cc pc = .ok (.bastore, 1)) (kk : ZW p l e R s m args below meth c D A nL cells slots Qp ws' (pc + 1) lv (rest)) : ZW p l e R s m args below meth c D A nL cells slots Qp ws (pc) lv (.int x :: .int (iZ i) :: .ref ad :: rest) := fun H locs ls hP hD hS hl => va_zast C.1.1 C.1.2.1 C.2 hP hD hS q0 t0 ha ht (iZ_in (by omega) (by omega) hi.2.2) hdg (by rw [iZ_ix ix hi.1 (by omega), hx]; exact fun H1 locs1 hP1 hD1 hS1 => kk H1 locs1 ls (hw ▸ hP1) (hw ▸ hD1) hS1 hl)
theorem w_last (C : ZC p s m args c cc nL Ts own D tys) (ws' : va_W) (q0 t0 : Nat) {ad : Nat} {cA : ClassId} {n : Nat} {f : Nat → Int64} (ha : ws[q0]? = some (ad, .inl (cA, n, .inr (.inl f)))) (ht : tys[t0]? = some (cA, .long)) {i : Int} {x : Int64} (ix : Nat) (hi : i = ix ∧ ix < n ∧ n < 2147483648) (hw : ws.set q0 (ad, .inl (cA, n, .inr (.inl (vp_updL f ix x)))) = ws') (hdg : decode cc pc = .ok (.lastore, 1)) (kk : ZW p l e R s m args below meth c D A nL cells slots Qp ws' (pc + 1) lv (rest)) : ZW p l e R s m args below meth c D A nL cells slots Qp ws (pc) lv (.long x :: .int (iZ i) :: .ref ad :: rest) := fun H locs ls hP hD hS hl => va_last C.1.1 C.1.2.1 C.2 hP hD hS q0 t0 ha ht (iZ_in (by omega) (by omega) hi.2.2) hdg (by rw [iZ_ix ix hi.1 (by omega)]; exact fun H1 locs1 hP1 hD1 hS1 => kk H1 locs1 ls (hw ▸ hP1) (hw ▸ hD1) hS1 hl)
end ZB
/-- the flags 'second' of the search are f -/
def xB (X : mX) (f : Nat → Int32) : mX := (X.1, X.2.1, X.2.2.1, X.2.2.2.1, f, X.2.2.2.2.2.1, X.2.2.2.2.2.2)
theorem xB_id (X : mX) : xB X X.2.2.2.2.1 = X := rfl
/-- halved, moved by 1, doubled rows; how often the sign changes -/
def hlv (c : Nat → Int) (N : Nat) : Nat → Int := fun k => c k * 2 ^ (N - 1 - k)
def sh1 (c : Nat → Int) (N : Nat) : Nat → Int := shf c N (N - 1)
def twc (c : Nat → Int) (N : Nat) : Nat → Int := fun k => if k < N - 1 then (c k).sign * (((c k).natAbs : Int) / 2 ^ (N - 1 - k)) else c k
def vv (c : Nat → Int) (N : Nat) : Nat := vc (shf (fun k => c (N - 1 - k)) N (N - 1)) N
def okB (c : Nat → Int) (N : Nat) : Prop := ∃ M : Int, 0 ≤ M ∧ (∀ i : Nat, i < N → ((c i).natAbs : Int) ≤ M) ∧ 16 ^ 9 * M < 2 ^ (31 * 638)
/-- the search for the roots of c between 0 and 1 ends within h halvings, and no number grows too long -/
def TV (N : Nat) : Nat → (Nat → Int) → Prop
  | 0, c => okB c N ∧ vv c N ≤ 1
  | h + 1, c => okB c N ∧ (vv c N ≤ 1 ∨ (TV N h (hlv c N) ∧ okB (sh1 (hlv c N) N) N ∧ TV N h (sh1 (hlv c N) N) ∧ ∀ k : Nat, k < N → twc (sh1 (sh1 (hlv c N) N) N) N k = sh1 c N k))
/-- what it counts -/
def CV (N : Nat) : Nat → (Nat → Int) → Nat
  | 0, c => vv c N
  | h + 1, c => if vv c N ≤ 1 then vv c N else CV N h (hlv c N) + (if sh1 (hlv c N) N 0 = 0 then 1 else 0) + CV N h (sh1 (hlv c N) N)
theorem TV_ok {N h : Nat} {c : Nat → Int} (H : TV N h c) : okB c N := by
  cases h with
  | zero => exact H.1
  | succ h => exact H.1
theorem CV_leaf {N h : Nat} {c : Nat → Int} (H : vv c N ≤ 1) : CV N h c = vv c N := by
  cases h with
  | zero => rfl
  | succ h => exact if_pos H
theorem p639 : (2 : Int) ^ (31 * 638) ≤ 2 ^ (31 * 639) := pw31_le (by omega)
theorem le16 {M : Int} (hM : 0 ≤ M) : M ≤ 16 ^ 9 * M := by
  have h1 := Int.mul_le_mul_of_nonneg_right (show (1 : Int) ≤ 16 ^ 9 by decide) hM
  omega
