/-- cells in another order -/
theorem pm_map (L : List va_W) : (List.range L.length).map (fun k => L.getD k []) = L := by
  apply List.ext_getElem?
  intro i
  rw [List.getElem?_map]
  by_cases h : i < L.length
  · rw [List.getElem?_range h, List.getElem?_eq_getElem h]
    show some (L.getD i []) = _
    rw [List.getD_eq_getElem?_getD, List.getElem?_eq_getElem h]; rfl
  · rw [List.getElem?_eq_none (by rw [List.length_range]; omega), List.getElem?_eq_none (by omega)]; rfl
theorem pm_fold (X : va_W) : ∀ L : List va_W, L.foldr (fun a b => a ++ b) X = L.flatten ++ X
  | [] => rfl
  | a :: L => by
    show a ++ L.foldr (fun a b => a ++ b) X = (a ++ L.flatten) ++ X
    rw [pm_fold X L, List.append_assoc]
theorem pm (L : List va_W) (X : va_W) (q : List Nat) (n : Nat) (hn : L.length = n) (h : q.Perm (List.range n)) : (L.foldr (fun a b => a ++ b) X).Perm ((q.map (fun k => L.getD k [])).foldr (fun a b => a ++ b) X) := by
  subst hn
  rw [pm_fold, pm_fold]
  refine List.Perm.append_right X ?_
  have h1 := h.map (fun k => L.getD k [])
  rw [pm_map] at h1
  exact h1.symm.flatten
/-- cells that say the same -/
def weq (D : va_G) (x y : Nat × va_E) : Prop := x.1 = y.1 ∧ ∀ H : Heap, va_at D vwCl x H → va_at D vwCl y H
def wq (D : va_G) : va_W → va_W → Prop
  | [], [] => True
  | x :: xs, y :: ys => weq D x y ∧ wq D xs ys
  | _, _ => False
theorem weq_refl (D : va_G) (x : Nat × va_E) : weq D x x := ⟨rfl, fun _ h => h⟩
theorem wq_refl (D : va_G) : ∀ ws : va_W, wq D ws ws
  | [] => trivial
  | x :: xs => ⟨weq_refl D x, wq_refl D xs⟩
theorem wq_app {D : va_G} : ∀ {a b c d : va_W}, wq D a b → wq D c d → wq D (a ++ c) (b ++ d)
  | [], [], _, _, _, h => h
  | x :: xs, y :: ys, _, _, h, g => ⟨h.1, wq_app h.2 g⟩
  | [], _ :: _, _, _, h, _ => absurd h (fun h => h)
  | _ :: _, [], _, _, h, _ => absurd h (fun h => h)
theorem wq_flat {D : va_G} {f g : Nat → va_W} : ∀ {L : List Nat}, (∀ i ∈ L, wq D (f i) (g i)) → wq D (L.flatMap f) (L.flatMap g)
  | [], _ => trivial
  | i :: L, h => by
    rw [List.flatMap_cons, List.flatMap_cons]
    exact wq_app (h i List.mem_cons_self) (wq_flat (fun j hj => h j (List.mem_cons_of_mem _ hj)))
theorem wq_map {D : va_G} : ∀ {a b : va_W}, wq D a b → a.map (·.1) = b.map (·.1)
  | [], [], _ => rfl
  | x :: xs, y :: ys, h => by rw [List.map_cons, List.map_cons, h.1.1, wq_map h.2]
  | [], _ :: _, h => absurd h (fun h => h)
  | _ :: _, [], h => absurd h (fun h => h)
theorem wq_P {D : va_G} {H : Heap} : ∀ {a b : va_W}, wq D a b → va_P D vwCl a H → va_P D vwCl b H
  | [], [], _, h => h
  | x :: xs, y :: ys, h, hP => fun k q hq => by
    cases k with
    | zero => cases hq; exact h.1.2 H (hP 0 x rfl)
    | succ k => exact wq_P h.2 (fun k q hq => hP (k + 1) q hq) k q hq
  | [], _ :: _, h, _ => absurd h (fun h => h)
  | _ :: _, [], h, _ => absurd h (fun h => h)
theorem wq_D {D : va_G} {A : Nat → Prop} {a b : va_W} (h : wq D a b) (hD : va_D A a) : va_D A b := by
  rw [va_D_nd] at *
  have e := wq_map h
  refine ⟨by rw [← e]; exact hD.1, fun q hq => ?_⟩
  have h1 : q.1 ∈ b.map (·.1) := List.mem_map.2 ⟨q, hq, rfl⟩
  rw [← e] at h1
  obtain ⟨x, hx, e2⟩ := List.mem_map.1 h1
  rw [← e2]; exact hD.2 x hx
section WCONV
variable {p : Program} {l : Launch} {e : Env} {R : Room} {s : State} {m : MethodId} {args : Array Value} {below : List Frame} {meth : Method} {c : Code} {D : va_G} {A : Nat → Prop} {nL cells slots : Nat} {Qp : State → Prop} {ws : va_W} {pc : Nat} {lv : List (Nat × Value)} {rest : List Value}
theorem w_conv (ws' : va_W) (h : wq D ws ws') (kk : ZW p l e R s m args below meth c D A nL cells slots Qp ws' pc lv rest) : ZW p l e R s m args below meth c D A nL cells slots Qp ws pc lv rest := fun H locs ls hP hD hS hl => kk H locs ls (wq_P h hP) (wq_D h hD) hS hl
end WCONV
theorem weq_arr (D : va_G) (x : Nat) (cA : ClassId) (n : Nat) {f g : Nat → Option Nat} (h : ∀ i : Nat, i < n → f i = g i) : weq D (x, .inl (cA, n, .inr (.inr (.inr (.inr f))))) (x, .inl (cA, n, .inr (.inr (.inr (.inr g))))) := ⟨rfl, fun H hP => by
  show H[x]? = some (vp_cell cA _)
  rw [← vp_same cA n h]
  exact hP⟩
/-- the pool's addresses out of those of the parts -/
def jx (q : Nat) : Nat := if q < 16 then 0 else if q < 25 then 1 else if q < 33 then 2 else if q < 40 then 3 else if q < 46 then 4 else if q < 51 then 5 else if q < 55 then 6 else if q < 58 then 7 else if q < 60 then 8 else if q < 61 then 9 else 10
def qq (F : Nat → Nat → Nat) (g a : Nat → Nat) : Nat → Nat := fun q => if q < 77 then F (jx q) (q - pB (jx q)) else if q < 84 then g (q - 77) else if q < 88 then a (q - 84) else F 11 (q - 88)
theorem jx_in {j i : Nat} (hj : j < 11) (hi : i < pN j) : jx (pB j + i) = j ∧ pB j + i < 77 := by
  have h1 : ∀ j : Fin 11, ∀ i : Fin 16, i.val < pN j.val → jx (pB j.val + i.val) = j.val ∧ pB j.val + i.val < 77 := by decide
  have h2 := (pB_r (j := j) (by omega)).2.1
  exact h1 ⟨j, hj⟩ ⟨i, by omega⟩ hi
theorem qq_in (F : Nat → Nat → Nat) (g a : Nat → Nat) {j i : Nat} (hj : j < 12) (hi : i < pN j) : qq F g a (pB j + i) = F j i := by
  by_cases c : j < 11
  · obtain ⟨h1, h2⟩ := jx_in c hi
    unfold qq
    rw [if_pos h2, h1, show pB j + i - pB j = i by omega]
  · have e : j = 11 := by omega
    subst e
    unfold qq
    rw [show pB 11 = 88 from rfl, if_neg (by omega), if_neg (by omega), if_neg (by omega), show 88 + i - 88 = i by omega]
theorem qq_g (F : Nat → Nat → Nat) (g a : Nat → Nat) {i : Nat} (hi : i < 7) : qq F g a (77 + i) = g i := by
  unfold qq
  rw [if_neg (by omega), if_pos (by omega), show 77 + i - 77 = i by omega]
theorem qq_a (F : Nat → Nat → Nat) (g a : Nat → Nat) {i : Nat} (hi : i < 4) : qq F g a (84 + i) = a i := by
  unfold qq
  rw [if_neg (by omega), if_neg (by omega), if_pos (by omega), show 84 + i - 84 = i by omega]
theorem wzs_add (G : Nat → ClassId) (Q L : Nat → Nat) (a : Nat) : ∀ n : Nat, wzs G Q L (a + n) = wzs G Q L a ++ wzs G (fun i => Q (a + i)) (fun i => L (a + i)) n
  | 0 => by show _ = _ ++ []; rw [List.append_nil]; rfl
  | n + 1 => by
    rw [← Nat.add_assoc, wzs_succ, wzs_succ, wzs_add G Q L a n, List.append_assoc]
/-- the polynomials' numbers as a stretch of the pool -/
theorem nF_all (G : Nat → ClassId) (F E : Nat → Nat → Nat) (g h a b : Nat → Nat) : ∀ k : Nat, k ≤ 10 → (List.range k).flatMap (nF G F E) = wzs G (qq F g a) (qq E h b) (pB k)
  | 0, _ => rfl
  | k + 1, hk => by
    rw [fl_succ, nF_all G F E g h a b k (by omega), pB_succ (by omega), wzs_add]
    congr 1
    unfold nF
    exact wzs_congr G (fun i hi => ⟨(qq_in F g a (by omega) hi).symm, (qq_in E h b (by omega) hi).symm⟩)
theorem nF_11 (G : Nat → ClassId) (F E : Nat → Nat → Nat) (g h a b : Nat → Nat) : (List.range 11).flatMap (nF G F E) = wzs G (qq F g a) (qq E h b) 77 := by
  rw [fl_succ, nF_all G F E g h a b 10 (by omega), show (77 : Nat) = pB 10 + pN 10 from rfl, wzs_add]
  congr 1
theorem fp_fresh (D : va_G) (G : Nat → ClassId) (P PA : Nat → Nat) (F : Nat → Nat → Nat) (g a : Nat → Nat) : wq D ((List.range 12).flatMap (pF G P PA F)) (fp G (qq F g a) P PA (fun _ => 0)) := by
  unfold fp
  refine wq_flat (fun j hj => ?_)
  have hj2 := List.mem_range.1 hj
  exact ⟨weq_refl _ _, weq_arr D _ _ _ (fun i hi => by rw [qq_in F g a hj2 hi]), trivial⟩
