section MATHI
variable {p : Program} {l : Launch} {e : Env} {R : Room} {s : State} {m : MethodId} {args : Array Value} {below : List Frame} {meth : Method} {c : Code} {D : va_G} {A : Nat → Prop} {nL cells slots : Nat} {Qp : State → Prop}
variable {cc : ByteArray} {Ts : List Cond} {own : String} {ws : va_W} {pc : Nat} {lv : List (Nat × Value)} {rest : List Value} {tys : List (ClassId × FieldType)}
theorem w_mmini (C : ZC p s m args c cc nL Ts own D tys) {index : Nat} (h1 : Cond.methodLink own index yJ9_min_7cf53 ∈ Ts) (h2 : Cond.static yJ9_min_7cf53 ∈ Ts) (h3 : Cond.initialized RJ9 ∈ Ts) (h4 : Cond.code yJ9_min_7cf53 cJ9_min_7cf53 2 (some .int) ∈ Ts) (hR : cells ≤ R.cells ∧ slots ≤ R.slots) (hF : 1 ≤ R.frames ∧ (rest.map fun v => v.category).sum + 13 ≤ R.locals) {x y : Int} (hx : -2147483648 ≤ x ∧ x < 2147483648) (hy : -2147483648 ≤ y ∧ y < 2147483648) (hdg : decode cc pc = .ok (.invokestatic index, 3)) (kk : ZW p l e R s m args below meth c D A nL cells slots Qp ws (pc + 3) lv (.int (iZ (min x y)) :: rest)) : ZW p l e R s m args below meth c D A nL cells slots Qp ws pc lv (.int (iZ y) :: .int (iZ x) :: rest) := fun H locs ls hP hD hS hl => va_mmin C.1.1 C.1.2.1 (C.1.2.2.1.trans hl.1.symm) C.1.2.2.2.1 (C.1.2.2.2.2 _ h1) (C.1.2.2.2.2 _ h2) (C.1.2.2.2.2 _ h3) (C.1.2.2.2.2 _ h4) hF.1 hF.2 hR.1 hR.2 hdg (by
    have e9 : (if iZ y < iZ x then iZ y else iZ x) = iZ (min x y) := by
      by_cases q : y < x
      · rw [if_pos ((iZ_lt ⟨hy, hx⟩).2 q)]; congr 1; omega
      · rw [if_neg (fun h => q ((iZ_lt ⟨hy, hx⟩).1 h))]; congr 1; omega
    rw [e9]; exact kk H locs ls hP hD hS hl)
end MATHI
/-- every count up to a point is the function's value -/
def cuF (Z : Nat → Int) (T : Nat → Nat) (us ex : Nat) (cu : Int → Int) : Prop := ∀ x v : Int, -9223372036854775808 ≤ x → x < 9223372036854775808 → upR Z T us x ex v → v = cu x
theorem cuF_to {Z Z' : Nat → Int} {T : Nat → Nat} {us ex : Nat} {cu : Int → Int} (h : cuF Z T us ex cu) (he : ∀ q : Nat, q < 84 → Z' q = Z q) : cuF Z' T us ex cu := fun x v h1 h2 h3 => h x v h1 h2 (upR_to h3 he)
