theorem natAbs_iZ {v : Int} (h : -1000000000 ≤ v ∧ v ≤ 1000000000) : ((iZ v).toInt.natAbs : Int) ≤ 1000000000 := by
  rw [iZ_toInt (by omega) (by omega)]; omega
theorem bd_upd {g : Nat → Int32} {k : Nat} {v : Int} (hg : ∀ i : Nat, i < 9 → ((g i).toInt.natAbs : Int) ≤ 1000000000) (h : -1000000000 ≤ v ∧ v ≤ 1000000000) : ∀ i : Nat, i < 9 → ((upd g k (iZ v) i).toInt.natAbs : Int) ≤ 1000000000 := fun i hi => by
  by_cases c : i = k
  · rw [c, upd_eq]; exact natAbs_iZ h
  · rw [upd_ne c]; exact hg i hi
theorem bd_new {g' : Nat → Int32} {h9 : Nat → Int64} (hin : ∀ i : Nat, i < 9 → -1000000000 ≤ (h9 i).toInt ∧ (h9 i).toInt ≤ 1000000000) (he : ∀ i : Nat, i < 9 → g' i = iZ (h9 i).toInt) : ∀ i : Nat, i < 9 → ((g' i).toInt.natAbs : Int) ≤ 1000000000 := fun i hi => by
  rw [he i hi]; exact natAbs_iZ (hin i hi)
set_option maxHeartbeats 4000000 in
set_option maxRecDepth 100000 in
theorem la_set {p : Program} {l : Launch} {e : Env} {s : State} {m : MethodId} {below : List Frame} {meth : Method} {c : Code} {D : va_G} {A : Nat → Prop} {cells slots : Nat} {Qp : State → Prop} {G : Nat → ClassId} {b L ri mq : Nat} {xs : Nat → Int32} {i : Nat} {g g2 : Nat → Int32} {fd : Int} {gl : Nat → Int32} {gc : Nat → Int64} {ge gr : Nat → Int32} {Wf : va_W → va_W} {Wm : va_W} (hA : ∀ q, s.heap.size ≤ q → A q) (C : ZC p s m #[Value.ref b] c code 4 lw_tbl RL D (cty G)) (hN : nW s) (hX : va_X b L xs s s.heap) (hbl : b < s.heap.size) (hbA : ¬ A b) (hi : i + 8 ≤ L ∧ L ≤ 4096) (hC : isC G ri g g2 fd gl gc ge gr cells slots Wf) (hM : isM G mq g g2 fd gl gc Wm) (ha : aI g g2 fd gl gc ge gr) (kk : (∀ (g g2 : Nat → Int32) (fd : Int) (gl : Nat → Int32) (gc : Nat → Int64) (ge gr : Nat → Int32) (cells slots : Nat) (Wf : va_W → va_W) (Wm : va_W), isC G ri g g2 fd gl gc ge gr cells slots Wf → isM G mq g g2 fd gl gc Wm → aI g g2 fd gl gc ge gr → ZW p l e room_1 s m #[Value.ref b] below meth c D A 4 cells slots Qp (Wf Wm) 679 [(0, .ref b), (1, .ref ri), (2, .ref mq), (3, .int (iZ (i : Int)))] [])) : ZW p l e room_1 s m #[Value.ref b] below meth c D A 4 cells slots Qp (Wf Wm) 120 [(0, .ref b), (1, .ref ri), (2, .ref mq), (3, .int (iZ (i : Int)))] [] := by
  refine w_aload_n C dL_law_120 1 rfl ?_
  refine w_arg C hX hbl hbA 1 0 3 rfl rfl ⟨by omega, hi.2⟩ rfl dL_law_121 dL_law_122 dL_law_123 dL_law_124 dL_law_125 ?_
  refine w_arg C hX hbl hbA 2 0 3 rfl rfl ⟨by omega, hi.2⟩ rfl dL_law_126 dL_law_127 dL_law_128 dL_law_129 dL_law_130 ?_
  refine w_arg C hX hbl hbA 3 0 3 rfl rfl ⟨by omega, hi.2⟩ rfl dL_law_131 dL_law_132 dL_law_133 dL_law_134 dL_law_135 ?_
  refine lc_set hA C hN Wm hC ha (xs (i + 1)).toInt (xs (i + 2)).toInt (xs (i + 3)).toInt  (i32r (xs (i + 1))) (i32r (xs (i + 2))) (i32r (xs (i + 3)))  dL_law_136 (fun r g' g2' fd' ce sl Wg hpost hC1 => ?_)
  have ha1 : aI g' g2' fd' gl gc ge gr := by
    rcases hpost with ⟨hok, _, ⟨_, rfl, rfl, rfl⟩ | ⟨_, rfl, rfl, rfl⟩⟩ | ⟨_, _, rfl, rfl, rfl⟩
    · exact ⟨bd_upd ha.1 hok.2.2, ha.2.1, Or.inl rfl⟩
    · exact ⟨ha.1, bd_upd ha.2.1 hok.2.2, ha.2.2⟩
    · exact ha
  refine w_aload_n C dL_law_139 2 rfl ?_
  refine w_arg C hX hbl hbA 1 0 3 rfl rfl ⟨by omega, hi.2⟩ rfl dL_law_140 dL_law_141 dL_law_142 dL_law_143 dL_law_144 ?_
  refine w_arg C hX hbl hbA 2 0 3 rfl rfl ⟨by omega, hi.2⟩ rfl dL_law_145 dL_law_146 dL_law_147 dL_law_148 dL_law_149 ?_
  refine w_arg C hX hbl hbA 3 0 3 rfl rfl ⟨by omega, hi.2⟩ rfl dL_law_150 dL_law_151 dL_law_152 dL_law_153 dL_law_154 ?_
  refine w_perm (Wg [] ++ Wm) (isC_perm hC1 Wm) ?_
  refine lm_set hA C hM ha (isC_room hC1) (xs (i + 1)).toInt (xs (i + 2)).toInt (xs (i + 3)).toInt  g' g2' fd' (i32r (xs (i + 1))) (i32r (xs (i + 2))) (i32r (xs (i + 3)))  hpost dL_law_155 (fun Wn hM1 => ?_)
  refine w_perm (Wg Wn) (isC_perm hC1 Wn).symm ?_
  refine w_ieq C 679 dL_law_158 (by decide) ?_
  exact kk _ _ _ _ _ _ _ _ _ _ _ hC1 hM1 ha1
set_option maxHeartbeats 4000000 in
set_option maxRecDepth 100000 in
theorem la_get {p : Program} {l : Launch} {e : Env} {s : State} {m : MethodId} {below : List Frame} {meth : Method} {c : Code} {D : va_G} {A : Nat → Prop} {cells slots : Nat} {Qp : State → Prop} {G : Nat → ClassId} {b L ri mq : Nat} {xs : Nat → Int32} {i : Nat} {g g2 : Nat → Int32} {fd : Int} {gl : Nat → Int32} {gc : Nat → Int64} {ge gr : Nat → Int32} {Wf : va_W → va_W} {Wm : va_W} (hA : ∀ q, s.heap.size ≤ q → A q) (C : ZC p s m #[Value.ref b] c code 4 lw_tbl RL D (cty G)) (hN : nW s) (hX : va_X b L xs s s.heap) (hbl : b < s.heap.size) (hbA : ¬ A b) (hi : i + 8 ≤ L ∧ L ≤ 4096) (hC : isC G ri g g2 fd gl gc ge gr cells slots Wf) (hM : isM G mq g g2 fd gl gc Wm) (ha : aI g g2 fd gl gc ge gr) (kk : (∀ (g g2 : Nat → Int32) (fd : Int) (gl : Nat → Int32) (gc : Nat → Int64) (ge gr : Nat → Int32) (cells slots : Nat) (Wf : va_W → va_W) (Wm : va_W), isC G ri g g2 fd gl gc ge gr cells slots Wf → isM G mq g g2 fd gl gc Wm → aI g g2 fd gl gc ge gr → ZW p l e room_1 s m #[Value.ref b] below meth c D A 4 cells slots Qp (Wf Wm) 679 [(0, .ref b), (1, .ref ri), (2, .ref mq), (3, .int (iZ (i : Int)))] [])) : ZW p l e room_1 s m #[Value.ref b] below meth c D A 4 cells slots Qp (Wf Wm) 163 [(0, .ref b), (1, .ref ri), (2, .ref mq), (3, .int (iZ (i : Int)))] [] := by
  refine w_aload_n C dL_law_163 1 rfl ?_
  refine w_arg C hX hbl hbA 1 0 3 rfl rfl ⟨by omega, hi.2⟩ rfl dL_law_164 dL_law_165 dL_law_166 dL_law_167 dL_law_168 ?_
  refine w_arg C hX hbl hbA 2 0 3 rfl rfl ⟨by omega, hi.2⟩ rfl dL_law_169 dL_law_170 dL_law_171 dL_law_172 dL_law_173 ?_
  refine lc_get hA C hN Wm hC ha (xs (i + 1)).toInt (xs (i + 2)).toInt  (i32r (xs (i + 1))) (i32r (xs (i + 2)))  dL_law_174 (fun r  ce sl Wg hpost hC1 => ?_)
  have ha1 := ha
  refine w_aload_n C dL_law_177 2 rfl ?_
  refine w_arg C hX hbl hbA 1 0 3 rfl rfl ⟨by omega, hi.2⟩ rfl dL_law_178 dL_law_179 dL_law_180 dL_law_181 dL_law_182 ?_
  refine w_arg C hX hbl hbA 2 0 3 rfl rfl ⟨by omega, hi.2⟩ rfl dL_law_183 dL_law_184 dL_law_185 dL_law_186 dL_law_187 ?_
  refine w_perm (Wg [] ++ Wm) (isC_perm hC1 Wm) ?_
  refine lm_get hA C hM ha (isC_room hC1) (xs (i + 1)).toInt (xs (i + 2)).toInt   (i32r (xs (i + 1))) (i32r (xs (i + 2)))  hpost dL_law_188 (fun Wn hM1 => ?_)
  refine w_perm (Wg Wn) (isC_perm hC1 Wn).symm ?_
  refine w_ieq C 679 dL_law_191 (by decide) ?_
  exact kk _ _ _ _ _ _ _ _ _ _ _ hC1 hM1 ha1
set_option maxHeartbeats 4000000 in
set_option maxRecDepth 100000 in
theorem la_degree {p : Program} {l : Launch} {e : Env} {s : State} {m : MethodId} {below : List Frame} {meth : Method} {c : Code} {D : va_G} {A : Nat → Prop} {cells slots : Nat} {Qp : State → Prop} {G : Nat → ClassId} {b L ri mq : Nat} {xs : Nat → Int32} {i : Nat} {g g2 : Nat → Int32} {fd : Int} {gl : Nat → Int32} {gc : Nat → Int64} {ge gr : Nat → Int32} {Wf : va_W → va_W} {Wm : va_W} (hA : ∀ q, s.heap.size ≤ q → A q) (C : ZC p s m #[Value.ref b] c code 4 lw_tbl RL D (cty G)) (hN : nW s) (hX : va_X b L xs s s.heap) (hbl : b < s.heap.size) (hbA : ¬ A b) (hi : i + 8 ≤ L ∧ L ≤ 4096) (hC : isC G ri g g2 fd gl gc ge gr cells slots Wf) (hM : isM G mq g g2 fd gl gc Wm) (ha : aI g g2 fd gl gc ge gr) (kk : (∀ (g g2 : Nat → Int32) (fd : Int) (gl : Nat → Int32) (gc : Nat → Int64) (ge gr : Nat → Int32) (cells slots : Nat) (Wf : va_W → va_W) (Wm : va_W), isC G ri g g2 fd gl gc ge gr cells slots Wf → isM G mq g g2 fd gl gc Wm → aI g g2 fd gl gc ge gr → ZW p l e room_1 s m #[Value.ref b] below meth c D A 4 cells slots Qp (Wf Wm) 679 [(0, .ref b), (1, .ref ri), (2, .ref mq), (3, .int (iZ (i : Int)))] [])) : ZW p l e room_1 s m #[Value.ref b] below meth c D A 4 cells slots Qp (Wf Wm) 196 [(0, .ref b), (1, .ref ri), (2, .ref mq), (3, .int (iZ (i : Int)))] [] := by
  refine w_aload_n C dL_law_196 1 rfl ?_
  refine w_arg C hX hbl hbA 1 0 3 rfl rfl ⟨by omega, hi.2⟩ rfl dL_law_197 dL_law_198 dL_law_199 dL_law_200 dL_law_201 ?_
  refine lc_degree hA C hN Wm hC ha (xs (i + 1)).toInt  (i32r (xs (i + 1)))  dL_law_202 (fun r  ce sl Wg hpost hC1 => ?_)
  have ha1 := ha
  refine w_aload_n C dL_law_205 2 rfl ?_
  refine w_arg C hX hbl hbA 1 0 3 rfl rfl ⟨by omega, hi.2⟩ rfl dL_law_206 dL_law_207 dL_law_208 dL_law_209 dL_law_210 ?_
  refine w_perm (Wg [] ++ Wm) (isC_perm hC1 Wm) ?_
  refine lm_degree hA C hM ha (isC_room hC1) (xs (i + 1)).toInt   (i32r (xs (i + 1)))  hpost dL_law_211 (fun Wn hM1 => ?_)
  refine w_perm (Wg Wn) (isC_perm hC1 Wn).symm ?_
  refine w_ieq C 679 dL_law_214 (by decide) ?_
  exact kk _ _ _ _ _ _ _ _ _ _ _ hC1 hM1 ha1
set_option maxHeartbeats 4000000 in
set_option maxRecDepth 100000 in
theorem la_sign {p : Program} {l : Launch} {e : Env} {s : State} {m : MethodId} {below : List Frame} {meth : Method} {c : Code} {D : va_G} {A : Nat → Prop} {cells slots : Nat} {Qp : State → Prop} {G : Nat → ClassId} {b L ri mq : Nat} {xs : Nat → Int32} {i : Nat} {g g2 : Nat → Int32} {fd : Int} {gl : Nat → Int32} {gc : Nat → Int64} {ge gr : Nat → Int32} {Wf : va_W → va_W} {Wm : va_W} (hA : ∀ q, s.heap.size ≤ q → A q) (C : ZC p s m #[Value.ref b] c code 4 lw_tbl RL D (cty G)) (hN : nW s) (hX : va_X b L xs s s.heap) (hbl : b < s.heap.size) (hbA : ¬ A b) (hi : i + 8 ≤ L ∧ L ≤ 4096) (hC : isC G ri g g2 fd gl gc ge gr cells slots Wf) (hM : isM G mq g g2 fd gl gc Wm) (ha : aI g g2 fd gl gc ge gr) (kk : (∀ (g g2 : Nat → Int32) (fd : Int) (gl : Nat → Int32) (gc : Nat → Int64) (ge gr : Nat → Int32) (cells slots : Nat) (Wf : va_W → va_W) (Wm : va_W), isC G ri g g2 fd gl gc ge gr cells slots Wf → isM G mq g g2 fd gl gc Wm → aI g g2 fd gl gc ge gr → ZW p l e room_1 s m #[Value.ref b] below meth c D A 4 cells slots Qp (Wf Wm) 679 [(0, .ref b), (1, .ref ri), (2, .ref mq), (3, .int (iZ (i : Int)))] [])) : ZW p l e room_1 s m #[Value.ref b] below meth c D A 4 cells slots Qp (Wf Wm) 219 [(0, .ref b), (1, .ref ri), (2, .ref mq), (3, .int (iZ (i : Int)))] [] := by
  refine w_aload_n C dL_law_219 1 rfl ?_
  refine w_arg C hX hbl hbA 1 0 3 rfl rfl ⟨by omega, hi.2⟩ rfl dL_law_220 dL_law_221 dL_law_222 dL_law_223 dL_law_224 ?_
  refine w_arg C hX hbl hbA 2 0 3 rfl rfl ⟨by omega, hi.2⟩ rfl dL_law_225 dL_law_226 dL_law_227 dL_law_228 dL_law_229 ?_
  refine w_hi C dL_law_230 dL_law_231 dL_law_233 ?_
  refine w_arg C hX hbl hbA 3 0 3 rfl rfl ⟨by omega, hi.2⟩ rfl dL_law_234 dL_law_235 dL_law_236 dL_law_237 dL_law_238 ?_
  refine w_lo C (wL_in kclL_28) dL_law_239 dL_law_240 dL_law_243 dL_law_244 ?_
  refine w_arg C hX hbl hbA 4 0 3 rfl rfl ⟨by omega, hi.2⟩ rfl dL_law_245 dL_law_246 dL_law_247 dL_law_248 dL_law_249 ?_
  refine lc_sign hA C hN Wm hC ha (xs (i + 1)).toInt (sJ (xs (i + 2)) (xs (i + 3))).toInt (xs (i + 4)).toInt  (i32r (xs (i + 1))) (i64r (sJ (xs (i + 2)) (xs (i + 3)))) (i32r (xs (i + 4)))  dL_law_250 (fun r  ce sl Wg hpost hC1 => ?_)
  have ha1 := ha
  refine w_aload_n C dL_law_253 2 rfl ?_
  refine w_arg C hX hbl hbA 1 0 3 rfl rfl ⟨by omega, hi.2⟩ rfl dL_law_254 dL_law_255 dL_law_256 dL_law_257 dL_law_258 ?_
  refine w_arg C hX hbl hbA 2 0 3 rfl rfl ⟨by omega, hi.2⟩ rfl dL_law_259 dL_law_260 dL_law_261 dL_law_262 dL_law_263 ?_
  refine w_hi C dL_law_264 dL_law_265 dL_law_267 ?_
  refine w_arg C hX hbl hbA 3 0 3 rfl rfl ⟨by omega, hi.2⟩ rfl dL_law_268 dL_law_269 dL_law_270 dL_law_271 dL_law_272 ?_
  refine w_lo C (wL_in kclL_28) dL_law_273 dL_law_274 dL_law_277 dL_law_278 ?_
  refine w_arg C hX hbl hbA 4 0 3 rfl rfl ⟨by omega, hi.2⟩ rfl dL_law_279 dL_law_280 dL_law_281 dL_law_282 dL_law_283 ?_
  refine w_perm (Wg [] ++ Wm) (isC_perm hC1 Wm) ?_
  refine lm_sign hA C hM ha (isC_room hC1) (xs (i + 1)).toInt (sJ (xs (i + 2)) (xs (i + 3))).toInt (xs (i + 4)).toInt   (i32r (xs (i + 1))) (i64r (sJ (xs (i + 2)) (xs (i + 3)))) (i32r (xs (i + 4)))  hpost dL_law_284 (fun Wn hM1 => ?_)
  refine w_perm (Wg Wn) (isC_perm hC1 Wn).symm ?_
  refine w_ieq C 679 dL_law_287 (by decide) ?_
  exact kk _ _ _ _ _ _ _ _ _ _ _ hC1 hM1 ha1
set_option maxHeartbeats 4000000 in
set_option maxRecDepth 100000 in
theorem la_between {p : Program} {l : Launch} {e : Env} {s : State} {m : MethodId} {below : List Frame} {meth : Method} {c : Code} {D : va_G} {A : Nat → Prop} {cells slots : Nat} {Qp : State → Prop} {G : Nat → ClassId} {b L ri mq : Nat} {xs : Nat → Int32} {i : Nat} {g g2 : Nat → Int32} {fd : Int} {gl : Nat → Int32} {gc : Nat → Int64} {ge gr : Nat → Int32} {Wf : va_W → va_W} {Wm : va_W} (hA : ∀ q, s.heap.size ≤ q → A q) (C : ZC p s m #[Value.ref b] c code 4 lw_tbl RL D (cty G)) (hN : nW s) (hX : va_X b L xs s s.heap) (hbl : b < s.heap.size) (hbA : ¬ A b) (hi : i + 8 ≤ L ∧ L ≤ 4096) (hC : isC G ri g g2 fd gl gc ge gr cells slots Wf) (hM : isM G mq g g2 fd gl gc Wm) (ha : aI g g2 fd gl gc ge gr) (kk : (∀ (g g2 : Nat → Int32) (fd : Int) (gl : Nat → Int32) (gc : Nat → Int64) (ge gr : Nat → Int32) (cells slots : Nat) (Wf : va_W → va_W) (Wm : va_W), isC G ri g g2 fd gl gc ge gr cells slots Wf → isM G mq g g2 fd gl gc Wm → aI g g2 fd gl gc ge gr → ZW p l e room_1 s m #[Value.ref b] below meth c D A 4 cells slots Qp (Wf Wm) 679 [(0, .ref b), (1, .ref ri), (2, .ref mq), (3, .int (iZ (i : Int)))] [])) : ZW p l e room_1 s m #[Value.ref b] below meth c D A 4 cells slots Qp (Wf Wm) 292 [(0, .ref b), (1, .ref ri), (2, .ref mq), (3, .int (iZ (i : Int)))] [] := by
  refine w_aload_n C dL_law_292 1 rfl ?_
  refine w_arg C hX hbl hbA 1 0 3 rfl rfl ⟨by omega, hi.2⟩ rfl dL_law_293 dL_law_294 dL_law_295 dL_law_296 dL_law_297 ?_
  refine w_arg C hX hbl hbA 2 0 3 rfl rfl ⟨by omega, hi.2⟩ rfl dL_law_298 dL_law_299 dL_law_300 dL_law_301 dL_law_302 ?_
  refine w_hi C dL_law_303 dL_law_304 dL_law_306 ?_
  refine w_arg C hX hbl hbA 3 0 3 rfl rfl ⟨by omega, hi.2⟩ rfl dL_law_307 dL_law_308 dL_law_309 dL_law_310 dL_law_311 ?_
  refine w_lo C (wL_in kclL_28) dL_law_312 dL_law_313 dL_law_316 dL_law_317 ?_
  refine w_arg C hX hbl hbA 4 0 3 rfl rfl ⟨by omega, hi.2⟩ rfl dL_law_318 dL_law_319 dL_law_320 dL_law_321 dL_law_322 ?_
  refine w_arg C hX hbl hbA 5 0 3 rfl rfl ⟨by omega, hi.2⟩ rfl dL_law_323 dL_law_324 dL_law_325 dL_law_326 dL_law_327 ?_
  refine w_hi C dL_law_328 dL_law_329 dL_law_331 ?_
  refine w_argb C hX hbl hbA 6 0 3 rfl rfl ⟨by omega, hi.2⟩ rfl (by decide) dL_law_332 dL_law_333 dL_law_334 dL_law_336 dL_law_337 ?_
  refine w_lo C (wL_in kclL_28) dL_law_338 dL_law_339 dL_law_342 dL_law_343 ?_
  refine w_argb C hX hbl hbA 7 0 3 rfl rfl ⟨by omega, hi.2⟩ rfl (by decide) dL_law_344 dL_law_345 dL_law_346 dL_law_348 dL_law_349 ?_
  refine lc_between hA C hN Wm hC ha (xs (i + 1)).toInt (sJ (xs (i + 2)) (xs (i + 3))).toInt (xs (i + 4)).toInt (sJ (xs (i + 5)) (xs (i + 6))).toInt (xs (i + 7)).toInt  (i32r (xs (i + 1))) (i64r (sJ (xs (i + 2)) (xs (i + 3)))) (i32r (xs (i + 4))) (i64r (sJ (xs (i + 5)) (xs (i + 6)))) (i32r (xs (i + 7)))  dL_law_350 (fun r  ce sl Wg hpost hC1 => ?_)
  have ha1 := ha
  refine w_aload_n C dL_law_353 2 rfl ?_
  refine w_arg C hX hbl hbA 1 0 3 rfl rfl ⟨by omega, hi.2⟩ rfl dL_law_354 dL_law_355 dL_law_356 dL_law_357 dL_law_358 ?_
  refine w_arg C hX hbl hbA 2 0 3 rfl rfl ⟨by omega, hi.2⟩ rfl dL_law_359 dL_law_360 dL_law_361 dL_law_362 dL_law_363 ?_
  refine w_hi C dL_law_364 dL_law_365 dL_law_367 ?_
  refine w_arg C hX hbl hbA 3 0 3 rfl rfl ⟨by omega, hi.2⟩ rfl dL_law_368 dL_law_369 dL_law_370 dL_law_371 dL_law_372 ?_
  refine w_lo C (wL_in kclL_28) dL_law_373 dL_law_374 dL_law_377 dL_law_378 ?_
  refine w_arg C hX hbl hbA 4 0 3 rfl rfl ⟨by omega, hi.2⟩ rfl dL_law_379 dL_law_380 dL_law_381 dL_law_382 dL_law_383 ?_
  refine w_arg C hX hbl hbA 5 0 3 rfl rfl ⟨by omega, hi.2⟩ rfl dL_law_384 dL_law_385 dL_law_386 dL_law_387 dL_law_388 ?_
  refine w_hi C dL_law_389 dL_law_390 dL_law_392 ?_
  refine w_argb C hX hbl hbA 6 0 3 rfl rfl ⟨by omega, hi.2⟩ rfl (by decide) dL_law_393 dL_law_394 dL_law_395 dL_law_397 dL_law_398 ?_
  refine w_lo C (wL_in kclL_28) dL_law_399 dL_law_400 dL_law_403 dL_law_404 ?_
  refine w_argb C hX hbl hbA 7 0 3 rfl rfl ⟨by omega, hi.2⟩ rfl (by decide) dL_law_405 dL_law_406 dL_law_407 dL_law_409 dL_law_410 ?_
  refine w_perm (Wg [] ++ Wm) (isC_perm hC1 Wm) ?_
  refine lm_between hA C hM ha (isC_room hC1) (xs (i + 1)).toInt (sJ (xs (i + 2)) (xs (i + 3))).toInt (xs (i + 4)).toInt (sJ (xs (i + 5)) (xs (i + 6))).toInt (xs (i + 7)).toInt   (i32r (xs (i + 1))) (i64r (sJ (xs (i + 2)) (xs (i + 3)))) (i32r (xs (i + 4))) (i64r (sJ (xs (i + 5)) (xs (i + 6)))) (i32r (xs (i + 7)))  hpost dL_law_411 (fun Wn hM1 => ?_)
  refine w_perm (Wg Wn) (isC_perm hC1 Wn).symm ?_
  refine w_ieq C 679 dL_law_414 (by decide) ?_
  exact kk _ _ _ _ _ _ _ _ _ _ _ hC1 hM1 ha1
set_option maxHeartbeats 4000000 in
set_option maxRecDepth 100000 in
theorem la_roots {p : Program} {l : Launch} {e : Env} {s : State} {m : MethodId} {below : List Frame} {meth : Method} {c : Code} {D : va_G} {A : Nat → Prop} {cells slots : Nat} {Qp : State → Prop} {G : Nat → ClassId} {b L ri mq : Nat} {xs : Nat → Int32} {i : Nat} {g g2 : Nat → Int32} {fd : Int} {gl : Nat → Int32} {gc : Nat → Int64} {ge gr : Nat → Int32} {Wf : va_W → va_W} {Wm : va_W} (hA : ∀ q, s.heap.size ≤ q → A q) (C : ZC p s m #[Value.ref b] c code 4 lw_tbl RL D (cty G)) (hN : nW s) (hX : va_X b L xs s s.heap) (hbl : b < s.heap.size) (hbA : ¬ A b) (hi : i + 8 ≤ L ∧ L ≤ 4096) (hC : isC G ri g g2 fd gl gc ge gr cells slots Wf) (hM : isM G mq g g2 fd gl gc Wm) (ha : aI g g2 fd gl gc ge gr) (kk : (∀ (g g2 : Nat → Int32) (fd : Int) (gl : Nat → Int32) (gc : Nat → Int64) (ge gr : Nat → Int32) (cells slots : Nat) (Wf : va_W → va_W) (Wm : va_W), isC G ri g g2 fd gl gc ge gr cells slots Wf → isM G mq g g2 fd gl gc Wm → aI g g2 fd gl gc ge gr → ZW p l e room_1 s m #[Value.ref b] below meth c D A 4 cells slots Qp (Wf Wm) 679 [(0, .ref b), (1, .ref ri), (2, .ref mq), (3, .int (iZ (i : Int)))] [])) : ZW p l e room_1 s m #[Value.ref b] below meth c D A 4 cells slots Qp (Wf Wm) 419 [(0, .ref b), (1, .ref ri), (2, .ref mq), (3, .int (iZ (i : Int)))] [] := by
  refine w_aload_n C dL_law_419 1 rfl ?_
  refine w_arg C hX hbl hbA 1 0 3 rfl rfl ⟨by omega, hi.2⟩ rfl dL_law_420 dL_law_421 dL_law_422 dL_law_423 dL_law_424 ?_
  refine lc_roots hA C hN Wm hC ha (xs (i + 1)).toInt  (i32r (xs (i + 1)))  dL_law_425 (fun r  ce sl Wg hpost hC1 => ?_)
  have ha1 := ha
  refine w_aload_n C dL_law_428 2 rfl ?_
  refine w_arg C hX hbl hbA 1 0 3 rfl rfl ⟨by omega, hi.2⟩ rfl dL_law_429 dL_law_430 dL_law_431 dL_law_432 dL_law_433 ?_
  refine w_perm (Wg [] ++ Wm) (isC_perm hC1 Wm) ?_
  refine lm_roots hA C hM ha (isC_room hC1) (xs (i + 1)).toInt   (i32r (xs (i + 1)))  hpost dL_law_434 (fun Wn hM1 => ?_)
  refine w_perm (Wg Wn) (isC_perm hC1 Wn).symm ?_
  refine w_ieq C 679 dL_law_437 (by decide) ?_
  exact kk _ _ _ _ _ _ _ _ _ _ _ hC1 hM1 ha1
set_option maxHeartbeats 4000000 in
set_option maxRecDepth 100000 in
theorem la_isolate {p : Program} {l : Launch} {e : Env} {s : State} {m : MethodId} {below : List Frame} {meth : Method} {c : Code} {D : va_G} {A : Nat → Prop} {cells slots : Nat} {Qp : State → Prop} {G : Nat → ClassId} {b L ri mq : Nat} {xs : Nat → Int32} {i : Nat} {g g2 : Nat → Int32} {fd : Int} {gl : Nat → Int32} {gc : Nat → Int64} {ge gr : Nat → Int32} {Wf : va_W → va_W} {Wm : va_W} (hA : ∀ q, s.heap.size ≤ q → A q) (C : ZC p s m #[Value.ref b] c code 4 lw_tbl RL D (cty G)) (hN : nW s) (hX : va_X b L xs s s.heap) (hbl : b < s.heap.size) (hbA : ¬ A b) (hi : i + 8 ≤ L ∧ L ≤ 4096) (hC : isC G ri g g2 fd gl gc ge gr cells slots Wf) (hM : isM G mq g g2 fd gl gc Wm) (ha : aI g g2 fd gl gc ge gr) (kk : (∀ (g g2 : Nat → Int32) (fd : Int) (gl : Nat → Int32) (gc : Nat → Int64) (ge gr : Nat → Int32) (cells slots : Nat) (Wf : va_W → va_W) (Wm : va_W), isC G ri g g2 fd gl gc ge gr cells slots Wf → isM G mq g g2 fd gl gc Wm → aI g g2 fd gl gc ge gr → ZW p l e room_1 s m #[Value.ref b] below meth c D A 4 cells slots Qp (Wf Wm) 679 [(0, .ref b), (1, .ref ri), (2, .ref mq), (3, .int (iZ (i : Int)))] [])) : ZW p l e room_1 s m #[Value.ref b] below meth c D A 4 cells slots Qp (Wf Wm) 442 [(0, .ref b), (1, .ref ri), (2, .ref mq), (3, .int (iZ (i : Int)))] [] := by
  obtain ⟨ct, cs, mu, hdat⟩ := iso_data g ha.1
  refine w_aload_n C dL_law_442 1 rfl ?_
  refine w_arg C hX hbl hbA 1 0 3 rfl rfl ⟨by omega, hi.2⟩ rfl dL_law_443 dL_law_444 dL_law_445 dL_law_446 dL_law_447 ?_
  refine lc_isolate hA C hN Wm hC ha (xs (i + 1)).toInt ct cs mu  (i32r (xs (i + 1))) (fun N h1 h2 => (hdat N h1 h2).1) dL_law_448 (fun r fd1 gl1 ge1 gr1 gc1 ce sl Wg hpost hC1 => ?_)
  have ha1 : aI g g2 fd1 gl1 gc1 ge1 gr1 := by
    rcases hpost with ⟨_, _, rfl, rfl, rfl, rfl, rfl⟩ | ⟨he1, he2, N, hN1, ⟨_, _, rfl⟩ | ⟨_, _, rfl, _⟩ | ⟨h1, _, rfl, hc8, hall⟩⟩
    · exact ha
    · exact ⟨ha.1, ha.2.1, Or.inl rfl⟩
    · exact ⟨ha.1, ha.2.1, Or.inl rfl⟩
    · obtain ⟨_, ⟨Q, Q1, W, G0, m9, hW⟩, hm⟩ := hdat N hN1 h1
      exact ⟨ha.1, ha.2.1, Or.inr ⟨N, Q, Q1, W, G0, m9, ct, cs, mu, (xs (i + 1)).toInt.toNat, hN1, h1, hW, rfl, hc8, by omega, hm, hall⟩⟩
  refine w_aload_n C dL_law_451 2 rfl ?_
  refine w_arg C hX hbl hbA 1 0 3 rfl rfl ⟨by omega, hi.2⟩ rfl dL_law_452 dL_law_453 dL_law_454 dL_law_455 dL_law_456 ?_
  refine w_perm (Wg [] ++ Wm) (isC_perm hC1 Wm) ?_
  refine lm_isolate hA C hM ha (isC_room hC1) (xs (i + 1)).toInt ct cs mu  fd1 gl1 ge1 gr1 gc1 (i32r (xs (i + 1))) (fun N h1 h2 => (hdat N h1 h2).2.1) hpost dL_law_457 (fun Wn hM1 => ?_)
  refine w_perm (Wg Wn) (isC_perm hC1 Wn).symm ?_
  refine w_ieq C 679 dL_law_460 (by decide) ?_
  exact kk _ _ _ _ _ _ _ _ _ _ _ hC1 hM1 ha1
set_option maxHeartbeats 4000000 in
set_option maxRecDepth 100000 in
theorem la_level {p : Program} {l : Launch} {e : Env} {s : State} {m : MethodId} {below : List Frame} {meth : Method} {c : Code} {D : va_G} {A : Nat → Prop} {cells slots : Nat} {Qp : State → Prop} {G : Nat → ClassId} {b L ri mq : Nat} {xs : Nat → Int32} {i : Nat} {g g2 : Nat → Int32} {fd : Int} {gl : Nat → Int32} {gc : Nat → Int64} {ge gr : Nat → Int32} {Wf : va_W → va_W} {Wm : va_W} (hA : ∀ q, s.heap.size ≤ q → A q) (C : ZC p s m #[Value.ref b] c code 4 lw_tbl RL D (cty G)) (hN : nW s) (hX : va_X b L xs s s.heap) (hbl : b < s.heap.size) (hbA : ¬ A b) (hi : i + 8 ≤ L ∧ L ≤ 4096) (hC : isC G ri g g2 fd gl gc ge gr cells slots Wf) (hM : isM G mq g g2 fd gl gc Wm) (ha : aI g g2 fd gl gc ge gr) (kk : (∀ (g g2 : Nat → Int32) (fd : Int) (gl : Nat → Int32) (gc : Nat → Int64) (ge gr : Nat → Int32) (cells slots : Nat) (Wf : va_W → va_W) (Wm : va_W), isC G ri g g2 fd gl gc ge gr cells slots Wf → isM G mq g g2 fd gl gc Wm → aI g g2 fd gl gc ge gr → ZW p l e room_1 s m #[Value.ref b] below meth c D A 4 cells slots Qp (Wf Wm) 679 [(0, .ref b), (1, .ref ri), (2, .ref mq), (3, .int (iZ (i : Int)))] [])) : ZW p l e room_1 s m #[Value.ref b] below meth c D A 4 cells slots Qp (Wf Wm) 465 [(0, .ref b), (1, .ref ri), (2, .ref mq), (3, .int (iZ (i : Int)))] [] := by
  refine w_aload_n C dL_law_465 1 rfl ?_
  refine w_arg C hX hbl hbA 1 0 3 rfl rfl ⟨by omega, hi.2⟩ rfl dL_law_466 dL_law_467 dL_law_468 dL_law_469 dL_law_470 ?_
  refine lc_level hA C hN Wm hC ha (xs (i + 1)).toInt  (i32r (xs (i + 1)))  dL_law_471 (fun r  ce sl Wg hpost hC1 => ?_)
  have ha1 := ha
  refine w_aload_n C dL_law_474 2 rfl ?_
  refine w_arg C hX hbl hbA 1 0 3 rfl rfl ⟨by omega, hi.2⟩ rfl dL_law_475 dL_law_476 dL_law_477 dL_law_478 dL_law_479 ?_
  refine w_perm (Wg [] ++ Wm) (isC_perm hC1 Wm) ?_
  refine lm_level hA C hM ha (isC_room hC1) (xs (i + 1)).toInt   (i32r (xs (i + 1)))  hpost dL_law_480 (fun Wn hM1 => ?_)
  refine w_perm (Wg Wn) (isC_perm hC1 Wn).symm ?_
  refine w_ieq C 679 dL_law_483 (by decide) ?_
  exact kk _ _ _ _ _ _ _ _ _ _ _ hC1 hM1 ha1
set_option maxHeartbeats 4000000 in
set_option maxRecDepth 100000 in
theorem la_exact {p : Program} {l : Launch} {e : Env} {s : State} {m : MethodId} {below : List Frame} {meth : Method} {c : Code} {D : va_G} {A : Nat → Prop} {cells slots : Nat} {Qp : State → Prop} {G : Nat → ClassId} {b L ri mq : Nat} {xs : Nat → Int32} {i : Nat} {g g2 : Nat → Int32} {fd : Int} {gl : Nat → Int32} {gc : Nat → Int64} {ge gr : Nat → Int32} {Wf : va_W → va_W} {Wm : va_W} (hA : ∀ q, s.heap.size ≤ q → A q) (C : ZC p s m #[Value.ref b] c code 4 lw_tbl RL D (cty G)) (hN : nW s) (hX : va_X b L xs s s.heap) (hbl : b < s.heap.size) (hbA : ¬ A b) (hi : i + 8 ≤ L ∧ L ≤ 4096) (hC : isC G ri g g2 fd gl gc ge gr cells slots Wf) (hM : isM G mq g g2 fd gl gc Wm) (ha : aI g g2 fd gl gc ge gr) (kk : (∀ (g g2 : Nat → Int32) (fd : Int) (gl : Nat → Int32) (gc : Nat → Int64) (ge gr : Nat → Int32) (cells slots : Nat) (Wf : va_W → va_W) (Wm : va_W), isC G ri g g2 fd gl gc ge gr cells slots Wf → isM G mq g g2 fd gl gc Wm → aI g g2 fd gl gc ge gr → ZW p l e room_1 s m #[Value.ref b] below meth c D A 4 cells slots Qp (Wf Wm) 679 [(0, .ref b), (1, .ref ri), (2, .ref mq), (3, .int (iZ (i : Int)))] [])) : ZW p l e room_1 s m #[Value.ref b] below meth c D A 4 cells slots Qp (Wf Wm) 512 [(0, .ref b), (1, .ref ri), (2, .ref mq), (3, .int (iZ (i : Int)))] [] := by
  refine w_aload_n C dL_law_512 1 rfl ?_
  refine w_arg C hX hbl hbA 1 0 3 rfl rfl ⟨by omega, hi.2⟩ rfl dL_law_513 dL_law_514 dL_law_515 dL_law_516 dL_law_517 ?_
  refine lc_exact hA C hN Wm hC ha (xs (i + 1)).toInt  (i32r (xs (i + 1)))  dL_law_518 (fun r  ce sl Wg hpost hC1 => ?_)
  have ha1 := ha
  refine w_aload_n C dL_law_521 2 rfl ?_
  refine w_arg C hX hbl hbA 1 0 3 rfl rfl ⟨by omega, hi.2⟩ rfl dL_law_522 dL_law_523 dL_law_524 dL_law_525 dL_law_526 ?_
  refine w_perm (Wg [] ++ Wm) (isC_perm hC1 Wm) ?_
  refine lm_exact hA C hM ha (isC_room hC1) (xs (i + 1)).toInt   (i32r (xs (i + 1)))  hpost dL_law_527 (fun Wn hM1 => ?_)
  refine w_perm (Wg Wn) (isC_perm hC1 Wn).symm ?_
  refine w_ieq C 679 dL_law_530 (by decide) ?_
  exact kk _ _ _ _ _ _ _ _ _ _ _ hC1 hM1 ha1
set_option maxHeartbeats 4000000 in
set_option maxRecDepth 100000 in
theorem la_multiplicity {p : Program} {l : Launch} {e : Env} {s : State} {m : MethodId} {below : List Frame} {meth : Method} {c : Code} {D : va_G} {A : Nat → Prop} {cells slots : Nat} {Qp : State → Prop} {G : Nat → ClassId} {b L ri mq : Nat} {xs : Nat → Int32} {i : Nat} {g g2 : Nat → Int32} {fd : Int} {gl : Nat → Int32} {gc : Nat → Int64} {ge gr : Nat → Int32} {Wf : va_W → va_W} {Wm : va_W} (hA : ∀ q, s.heap.size ≤ q → A q) (C : ZC p s m #[Value.ref b] c code 4 lw_tbl RL D (cty G)) (hN : nW s) (hX : va_X b L xs s s.heap) (hbl : b < s.heap.size) (hbA : ¬ A b) (hi : i + 8 ≤ L ∧ L ≤ 4096) (hC : isC G ri g g2 fd gl gc ge gr cells slots Wf) (hM : isM G mq g g2 fd gl gc Wm) (ha : aI g g2 fd gl gc ge gr) (kk : (∀ (g g2 : Nat → Int32) (fd : Int) (gl : Nat → Int32) (gc : Nat → Int64) (ge gr : Nat → Int32) (cells slots : Nat) (Wf : va_W → va_W) (Wm : va_W), isC G ri g g2 fd gl gc ge gr cells slots Wf → isM G mq g g2 fd gl gc Wm → aI g g2 fd gl gc ge gr → ZW p l e room_1 s m #[Value.ref b] below meth c D A 4 cells slots Qp (Wf Wm) 679 [(0, .ref b), (1, .ref ri), (2, .ref mq), (3, .int (iZ (i : Int)))] [])) : ZW p l e room_1 s m #[Value.ref b] below meth c D A 4 cells slots Qp (Wf Wm) 535 [(0, .ref b), (1, .ref ri), (2, .ref mq), (3, .int (iZ (i : Int)))] [] := by
  refine w_aload_n C dL_law_535 1 rfl ?_
  refine w_arg C hX hbl hbA 1 0 3 rfl rfl ⟨by omega, hi.2⟩ rfl dL_law_536 dL_law_537 dL_law_538 dL_law_539 dL_law_540 ?_
  refine lc_multiplicity hA C hN Wm hC ha (xs (i + 1)).toInt  (i32r (xs (i + 1)))  dL_law_541 (fun r  ce sl Wg hpost hC1 => ?_)
  have ha1 := ha
  refine w_aload_n C dL_law_544 2 rfl ?_
  refine w_arg C hX hbl hbA 1 0 3 rfl rfl ⟨by omega, hi.2⟩ rfl dL_law_545 dL_law_546 dL_law_547 dL_law_548 dL_law_549 ?_
  refine w_perm (Wg [] ++ Wm) (isC_perm hC1 Wm) ?_
  refine lm_multiplicity hA C hM ha (isC_room hC1) (xs (i + 1)).toInt   (i32r (xs (i + 1)))  hpost dL_law_550 (fun Wn hM1 => ?_)
  refine w_perm (Wg Wn) (isC_perm hC1 Wn).symm ?_
  refine w_ieq C 679 dL_law_553 (by decide) ?_
  exact kk _ _ _ _ _ _ _ _ _ _ _ hC1 hM1 ha1
set_option maxHeartbeats 4000000 in
set_option maxRecDepth 100000 in
theorem la_cell {p : Program} {l : Launch} {e : Env} {s : State} {m : MethodId} {below : List Frame} {meth : Method} {c : Code} {D : va_G} {A : Nat → Prop} {cells slots : Nat} {Qp : State → Prop} {G : Nat → ClassId} {b L ri mq : Nat} {xs : Nat → Int32} {i : Nat} {g g2 : Nat → Int32} {fd : Int} {gl : Nat → Int32} {gc : Nat → Int64} {ge gr : Nat → Int32} {Wf : va_W → va_W} {Wm : va_W} (hA : ∀ q, s.heap.size ≤ q → A q) (C : ZC p s m #[Value.ref b] c code 4 lw_tbl RL D (cty G)) (hN : nW s) (hX : va_X b L xs s s.heap) (hbl : b < s.heap.size) (hbA : ¬ A b) (hi : i + 8 ≤ L ∧ L ≤ 4096) (hC : isC G ri g g2 fd gl gc ge gr cells slots Wf) (hM : isM G mq g g2 fd gl gc Wm) (ha : aI g g2 fd gl gc ge gr) (kk : (∀ (g g2 : Nat → Int32) (fd : Int) (gl : Nat → Int32) (gc : Nat → Int64) (ge gr : Nat → Int32) (cells slots : Nat) (Wf : va_W → va_W) (Wm : va_W), isC G ri g g2 fd gl gc ge gr cells slots Wf → isM G mq g g2 fd gl gc Wm → aI g g2 fd gl gc ge gr → ZW p l e room_1 s m #[Value.ref b] below meth c D A 4 cells slots Qp (Wf Wm) 679 [(0, .ref b), (1, .ref ri), (2, .ref mq), (3, .int (iZ (i : Int)))] [])) : ZW p l e room_1 s m #[Value.ref b] below meth c D A 4 cells slots Qp (Wf Wm) 488 [(0, .ref b), (1, .ref ri), (2, .ref mq), (3, .int (iZ (i : Int)))] [] := by
  refine w_aload_n C dL_law_488 1 rfl ?_
  refine w_arg C hX hbl hbA 1 0 3 rfl rfl ⟨by omega, hi.2⟩ rfl dL_law_489 dL_law_490 dL_law_491 dL_law_492 dL_law_493 ?_
  refine lc_cell hA C hN Wm hC ha (xs (i + 1)).toInt  (i32r (xs (i + 1)))  dL_law_494 (fun r  ce sl Wg hpost hC1 => ?_)
  have ha1 := ha
  refine w_aload_n C dL_law_497 2 rfl ?_
  refine w_arg C hX hbl hbA 1 0 3 rfl rfl ⟨by omega, hi.2⟩ rfl dL_law_498 dL_law_499 dL_law_500 dL_law_501 dL_law_502 ?_
  refine w_perm (Wg [] ++ Wm) (isC_perm hC1 Wm) ?_
  refine lm_cell hA C hM ha (isC_room hC1) (xs (i + 1)).toInt   (i32r (xs (i + 1)))  hpost dL_law_503 (fun Wn hM1 => ?_)
  refine w_perm (Wg Wn) (isC_perm hC1 Wn).symm ?_
  refine w_leq C 679 dL_law_506 dL_law_507 (by decide) ?_
  exact kk _ _ _ _ _ _ _ _ _ _ _ hC1 hM1 ha1
set_option maxHeartbeats 4000000 in
set_option maxRecDepth 100000 in
theorem la_signAt {p : Program} {l : Launch} {e : Env} {s : State} {m : MethodId} {below : List Frame} {meth : Method} {c : Code} {D : va_G} {A : Nat → Prop} {cells slots : Nat} {Qp : State → Prop} {G : Nat → ClassId} {b L ri mq : Nat} {xs : Nat → Int32} {i : Nat} {g g2 : Nat → Int32} {fd : Int} {gl : Nat → Int32} {gc : Nat → Int64} {ge gr : Nat → Int32} {Wf : va_W → va_W} {Wm : va_W} (hA : ∀ q, s.heap.size ≤ q → A q) (C : ZC p s m #[Value.ref b] c code 4 lw_tbl RL D (cty G)) (hN : nW s) (hX : va_X b L xs s s.heap) (hbl : b < s.heap.size) (hbA : ¬ A b) (hi : i + 8 ≤ L ∧ L ≤ 4096) (hC : isC G ri g g2 fd gl gc ge gr cells slots Wf) (hM : isM G mq g g2 fd gl gc Wm) (ha : aI g g2 fd gl gc ge gr) (kk : (∀ (g g2 : Nat → Int32) (fd : Int) (gl : Nat → Int32) (gc : Nat → Int64) (ge gr : Nat → Int32) (cells slots : Nat) (Wf : va_W → va_W) (Wm : va_W), isC G ri g g2 fd gl gc ge gr cells slots Wf → isM G mq g g2 fd gl gc Wm → aI g g2 fd gl gc ge gr → ZW p l e room_1 s m #[Value.ref b] below meth c D A 4 cells slots Qp (Wf Wm) 679 [(0, .ref b), (1, .ref ri), (2, .ref mq), (3, .int (iZ (i : Int)))] [])) : ZW p l e room_1 s m #[Value.ref b] below meth c D A 4 cells slots Qp (Wf Wm) 558 [(0, .ref b), (1, .ref ri), (2, .ref mq), (3, .int (iZ (i : Int)))] [] := by
  rcases Classical.em (0 ≤ (xs (i + 1)).toInt ∧ (xs (i + 1)).toInt < fd ∧ (xs (i + 1)).toInt < 8) with hyes | hyes
  · have hF : aF g fd gl gc ge gr := ha.2.2.resolve_left (fun q => absurd hyes.2.1 (by omega))
    obtain ⟨N, Q9, Q19, W9, G9, m9, ct, cs, mu, u, t1, n2, _⟩ := aF_at (i := (xs (i + 1)).toInt.toNat) hF (by omega)
    have hlv : ∀ i : Nat, (i : Int) < fd → 0 ≤ (gl i).toInt ∧ (gl i).toInt ≤ 30 := fun i hi => by
      obtain ⟨N, Q9, Q19, W9, G9, m9, ct, cs, mu, u, t1, n2, hW, hct, hfe, hc8, hu30, hal, el, ec, el2, ec2, hm, hge, hgr, hr1, hr2⟩ := aF_at hF hi
      omega
    have hce : ∀ i : Nat, (i : Int) < fd → -4611686018427387904 ≤ (gc i).toInt ∧ (gc i).toInt ≤ 4611686018427387904 := fun i hi => by
      obtain ⟨N, Q9, Q19, W9, G9, m9, ct, cs, mu, u, t1, n2, hW, hct, hfe, hc8, hu30, hal, el, ec, el2, ec2, hm, hge, hgr, hr1, hr2⟩ := aF_at hF hi
      omega
    have hda : tpN (gp g) 9 (N - 1 + 1) := by rw [show N - 1 + 1 = N by omega]; exact t1
    refine w_aload_n C dL_law_558 1 rfl ?_
    refine w_arg C hX hbl hbA 1 0 3 rfl rfl ⟨by omega, hi.2⟩ rfl dL_law_559 dL_law_560 dL_law_561 dL_law_562 dL_law_563 ?_
    refine lc_signAt hA C hN Wm hC ha (xs (i + 1)).toInt  (i32r (xs (i + 1))) hyes (N - 1) hda (by omega) hlv hce dL_law_564 (fun r  ce sl Wg hpost hC1 => ?_)
    have ha1 := ha
    refine w_aload_n C dL_law_567 2 rfl ?_
    refine w_arg C hX hbl hbA 1 0 3 rfl rfl ⟨by omega, hi.2⟩ rfl dL_law_568 dL_law_569 dL_law_570 dL_law_571 dL_law_572 ?_
    refine w_perm (Wg [] ++ Wm) (isC_perm hC1 Wm) ?_
    refine lm_signAt hA C hM ha (isC_room hC1) (xs (i + 1)).toInt   (i32r (xs (i + 1))) hyes hpost dL_law_573 (fun Wn hM1 => ?_)
    refine w_perm (Wg Wn) (isC_perm hC1 Wn).symm ?_
    refine w_ieq C 679 dL_law_576 (by decide) ?_
    exact kk _ _ _ _ _ _ _ _ _ _ _ hC1 hM1 ha1
  · refine w_aload_n C dL_law_558 1 rfl ?_
    refine w_arg C hX hbl hbA 1 0 3 rfl rfl ⟨by omega, hi.2⟩ rfl dL_law_559 dL_law_560 dL_law_561 dL_law_562 dL_law_563 ?_
    refine lc_signAtN hA C hN Wm hC ha (xs (i + 1)).toInt  (i32r (xs (i + 1))) hyes dL_law_564 (fun r  ce sl Wg hpost hC1 => ?_)
    have ha1 := ha
    refine w_aload_n C dL_law_567 2 rfl ?_
    refine w_arg C hX hbl hbA 1 0 3 rfl rfl ⟨by omega, hi.2⟩ rfl dL_law_568 dL_law_569 dL_law_570 dL_law_571 dL_law_572 ?_
    refine w_perm (Wg [] ++ Wm) (isC_perm hC1 Wm) ?_
    refine lm_signAtN hA C hM ha (isC_room hC1) (xs (i + 1)).toInt   (i32r (xs (i + 1))) hyes hpost dL_law_573 (fun Wn hM1 => ?_)
    refine w_perm (Wg Wn) (isC_perm hC1 Wn).symm ?_
    refine w_ieq C 679 dL_law_576 (by decide) ?_
    exact kk _ _ _ _ _ _ _ _ _ _ _ hC1 hM1 ha1
set_option maxHeartbeats 4000000 in
set_option maxRecDepth 100000 in
theorem la_common {p : Program} {l : Launch} {e : Env} {s : State} {m : MethodId} {below : List Frame} {meth : Method} {c : Code} {D : va_G} {A : Nat → Prop} {cells slots : Nat} {Qp : State → Prop} {G : Nat → ClassId} {b L ri mq : Nat} {xs : Nat → Int32} {i : Nat} {g g2 : Nat → Int32} {fd : Int} {gl : Nat → Int32} {gc : Nat → Int64} {ge gr : Nat → Int32} {Wf : va_W → va_W} {Wm : va_W} (hA : ∀ q, s.heap.size ≤ q → A q) (C : ZC p s m #[Value.ref b] c code 4 lw_tbl RL D (cty G)) (hN : nW s) (hX : va_X b L xs s s.heap) (hbl : b < s.heap.size) (hbA : ¬ A b) (hi : i + 8 ≤ L ∧ L ≤ 4096) (hC : isC G ri g g2 fd gl gc ge gr cells slots Wf) (hM : isM G mq g g2 fd gl gc Wm) (ha : aI g g2 fd gl gc ge gr) (kk : (∀ (g g2 : Nat → Int32) (fd : Int) (gl : Nat → Int32) (gc : Nat → Int64) (ge gr : Nat → Int32) (cells slots : Nat) (Wf : va_W → va_W) (Wm : va_W), isC G ri g g2 fd gl gc ge gr cells slots Wf → isM G mq g g2 fd gl gc Wm → aI g g2 fd gl gc ge gr → ZW p l e room_1 s m #[Value.ref b] below meth c D A 4 cells slots Qp (Wf Wm) 679 [(0, .ref b), (1, .ref ri), (2, .ref mq), (3, .int (iZ (i : Int)))] [])) : ZW p l e room_1 s m #[Value.ref b] below meth c D A 4 cells slots Qp (Wf Wm) 581 [(0, .ref b), (1, .ref ri), (2, .ref mq), (3, .int (iZ (i : Int)))] [] := by
  refine w_aload_n C dL_law_581 1 rfl ?_
  refine lc_common hA C hN Wm hC ha     dL_law_582 (fun r  ce sl Wg hpost hC1 => ?_)
  have ha1 := ha
  refine w_aload_n C dL_law_585 2 rfl ?_
  refine w_perm (Wg [] ++ Wm) (isC_perm hC1 Wm) ?_
  refine lm_common hA C hM ha (isC_room hC1)      hpost dL_law_586 (fun Wn hM1 => ?_)
  refine w_perm (Wg Wn) (isC_perm hC1 Wn).symm ?_
  refine w_ieq C 679 dL_law_589 (by decide) ?_
  exact kk _ _ _ _ _ _ _ _ _ _ _ hC1 hM1 ha1
set_option maxHeartbeats 4000000 in
set_option maxRecDepth 100000 in
theorem la_divisor {p : Program} {l : Launch} {e : Env} {s : State} {m : MethodId} {below : List Frame} {meth : Method} {c : Code} {D : va_G} {A : Nat → Prop} {cells slots : Nat} {Qp : State → Prop} {G : Nat → ClassId} {b L ri mq : Nat} {xs : Nat → Int32} {i : Nat} {g g2 : Nat → Int32} {fd : Int} {gl : Nat → Int32} {gc : Nat → Int64} {ge gr : Nat → Int32} {Wf : va_W → va_W} {Wm : va_W} (hA : ∀ q, s.heap.size ≤ q → A q) (C : ZC p s m #[Value.ref b] c code 4 lw_tbl RL D (cty G)) (hN : nW s) (hX : va_X b L xs s s.heap) (hbl : b < s.heap.size) (hbA : ¬ A b) (hi : i + 8 ≤ L ∧ L ≤ 4096) (hC : isC G ri g g2 fd gl gc ge gr cells slots Wf) (hM : isM G mq g g2 fd gl gc Wm) (ha : aI g g2 fd gl gc ge gr) (kk : (∀ (g g2 : Nat → Int32) (fd : Int) (gl : Nat → Int32) (gc : Nat → Int64) (ge gr : Nat → Int32) (cells slots : Nat) (Wf : va_W → va_W) (Wm : va_W), isC G ri g g2 fd gl gc ge gr cells slots Wf → isM G mq g g2 fd gl gc Wm → aI g g2 fd gl gc ge gr → ZW p l e room_1 s m #[Value.ref b] below meth c D A 4 cells slots Qp (Wf Wm) 679 [(0, .ref b), (1, .ref ri), (2, .ref mq), (3, .int (iZ (i : Int)))] [])) : ZW p l e room_1 s m #[Value.ref b] below meth c D A 4 cells slots Qp (Wf Wm) 594 [(0, .ref b), (1, .ref ri), (2, .ref mq), (3, .int (iZ (i : Int)))] [] := by
  refine w_aload_n C dL_law_594 1 rfl ?_
  refine lc_divisor hA C hN Wm hC ha     dL_law_595 (fun r  ce sl Wg hpost hC1 => ?_)
  have ha1 := ha
  refine w_aload_n C dL_law_598 2 rfl ?_
  refine w_perm (Wg [] ++ Wm) (isC_perm hC1 Wm) ?_
  refine lm_divisor hA C hM ha (isC_room hC1)      hpost dL_law_599 (fun Wn hM1 => ?_)
  refine w_perm (Wg Wn) (isC_perm hC1 Wn).symm ?_
  refine w_ieq C 679 dL_law_602 (by decide) ?_
  exact kk _ _ _ _ _ _ _ _ _ _ _ hC1 hM1 ha1
set_option maxHeartbeats 4000000 in
set_option maxRecDepth 100000 in
theorem la_derive {p : Program} {l : Launch} {e : Env} {s : State} {m : MethodId} {below : List Frame} {meth : Method} {c : Code} {D : va_G} {A : Nat → Prop} {cells slots : Nat} {Qp : State → Prop} {G : Nat → ClassId} {b L ri mq : Nat} {xs : Nat → Int32} {i : Nat} {g g2 : Nat → Int32} {fd : Int} {gl : Nat → Int32} {gc : Nat → Int64} {ge gr : Nat → Int32} {Wf : va_W → va_W} {Wm : va_W} (hA : ∀ q, s.heap.size ≤ q → A q) (C : ZC p s m #[Value.ref b] c code 4 lw_tbl RL D (cty G)) (hN : nW s) (hX : va_X b L xs s s.heap) (hbl : b < s.heap.size) (hbA : ¬ A b) (hi : i + 8 ≤ L ∧ L ≤ 4096) (hC : isC G ri g g2 fd gl gc ge gr cells slots Wf) (hM : isM G mq g g2 fd gl gc Wm) (ha : aI g g2 fd gl gc ge gr) (kk : (∀ (g g2 : Nat → Int32) (fd : Int) (gl : Nat → Int32) (gc : Nat → Int64) (ge gr : Nat → Int32) (cells slots : Nat) (Wf : va_W → va_W) (Wm : va_W), isC G ri g g2 fd gl gc ge gr cells slots Wf → isM G mq g g2 fd gl gc Wm → aI g g2 fd gl gc ge gr → ZW p l e room_1 s m #[Value.ref b] below meth c D A 4 cells slots Qp (Wf Wm) 679 [(0, .ref b), (1, .ref ri), (2, .ref mq), (3, .int (iZ (i : Int)))] [])) : ZW p l e room_1 s m #[Value.ref b] below meth c D A 4 cells slots Qp (Wf Wm) 607 [(0, .ref b), (1, .ref ri), (2, .ref mq), (3, .int (iZ (i : Int)))] [] := by
  refine w_aload_n C dL_law_607 1 rfl ?_
  refine lc_derive hA C hN Wm hC ha     dL_law_608 (fun r g2' ce sl Wg hpost hC1 => ?_)
  have ha1 : aI g g2' fd gl gc ge gr := by
    obtain ⟨h9, hh9, ⟨hin, N, hg9, _⟩ | ⟨_, _, rfl⟩⟩ := hpost
    · exact ⟨ha.1, bd_new hin hg9, ha.2.2⟩
    · exact ha
  refine w_aload_n C dL_law_611 2 rfl ?_
  refine w_perm (Wg [] ++ Wm) (isC_perm hC1 Wm) ?_
  refine lm_derive hA C hM ha (isC_room hC1)   g2'   hpost dL_law_612 (fun Wn hM1 => ?_)
  refine w_perm (Wg Wn) (isC_perm hC1 Wn).symm ?_
  refine w_ieq C 679 dL_law_615 (by decide) ?_
  exact kk _ _ _ _ _ _ _ _ _ _ _ hC1 hM1 ha1
set_option maxHeartbeats 4000000 in
set_option maxRecDepth 100000 in
theorem la_times {p : Program} {l : Launch} {e : Env} {s : State} {m : MethodId} {below : List Frame} {meth : Method} {c : Code} {D : va_G} {A : Nat → Prop} {cells slots : Nat} {Qp : State → Prop} {G : Nat → ClassId} {b L ri mq : Nat} {xs : Nat → Int32} {i : Nat} {g g2 : Nat → Int32} {fd : Int} {gl : Nat → Int32} {gc : Nat → Int64} {ge gr : Nat → Int32} {Wf : va_W → va_W} {Wm : va_W} (hA : ∀ q, s.heap.size ≤ q → A q) (C : ZC p s m #[Value.ref b] c code 4 lw_tbl RL D (cty G)) (hN : nW s) (hX : va_X b L xs s s.heap) (hbl : b < s.heap.size) (hbA : ¬ A b) (hi : i + 8 ≤ L ∧ L ≤ 4096) (hC : isC G ri g g2 fd gl gc ge gr cells slots Wf) (hM : isM G mq g g2 fd gl gc Wm) (ha : aI g g2 fd gl gc ge gr) (kk : (∀ (g g2 : Nat → Int32) (fd : Int) (gl : Nat → Int32) (gc : Nat → Int64) (ge gr : Nat → Int32) (cells slots : Nat) (Wf : va_W → va_W) (Wm : va_W), isC G ri g g2 fd gl gc ge gr cells slots Wf → isM G mq g g2 fd gl gc Wm → aI g g2 fd gl gc ge gr → ZW p l e room_1 s m #[Value.ref b] below meth c D A 4 cells slots Qp (Wf Wm) 679 [(0, .ref b), (1, .ref ri), (2, .ref mq), (3, .int (iZ (i : Int)))] [])) : ZW p l e room_1 s m #[Value.ref b] below meth c D A 4 cells slots Qp (Wf Wm) 620 [(0, .ref b), (1, .ref ri), (2, .ref mq), (3, .int (iZ (i : Int)))] [] := by
  refine w_aload_n C dL_law_620 1 rfl ?_
  refine w_arg C hX hbl hbA 1 0 3 rfl rfl ⟨by omega, hi.2⟩ rfl dL_law_621 dL_law_622 dL_law_623 dL_law_624 dL_law_625 ?_
  refine lc_times hA C hN Wm hC ha (xs (i + 1)).toInt  (i32r (xs (i + 1)))  dL_law_626 (fun r g' fd' ce sl Wg hpost hC1 => ?_)
  have ha1 : aI g' g2 fd' gl gc ge gr := by
    obtain ⟨N0, _, ⟨_, _, rfl, rfl⟩ | ⟨_, _, rfl, rfl⟩ | ⟨_, _, h9, _, ⟨hin, N, hg9, _, _, rfl⟩ | ⟨_, _, rfl, rfl⟩⟩⟩ := hpost
    · exact ha
    · exact ha
    · exact ⟨bd_new hin hg9, ha.2.1, Or.inl rfl⟩
    · exact ha
  refine w_aload_n C dL_law_629 2 rfl ?_
  refine w_arg C hX hbl hbA 1 0 3 rfl rfl ⟨by omega, hi.2⟩ rfl dL_law_630 dL_law_631 dL_law_632 dL_law_633 dL_law_634 ?_
  refine w_perm (Wg [] ++ Wm) (isC_perm hC1 Wm) ?_
  refine lm_times hA C hM ha (isC_room hC1) (xs (i + 1)).toInt  g' fd' (i32r (xs (i + 1)))  hpost dL_law_635 (fun Wn hM1 => ?_)
  refine w_perm (Wg Wn) (isC_perm hC1 Wn).symm ?_
  refine w_ieq C 679 dL_law_638 (by decide) ?_
  exact kk _ _ _ _ _ _ _ _ _ _ _ hC1 hM1 ha1
set_option maxHeartbeats 4000000 in
set_option maxRecDepth 100000 in
theorem la_shift {p : Program} {l : Launch} {e : Env} {s : State} {m : MethodId} {below : List Frame} {meth : Method} {c : Code} {D : va_G} {A : Nat → Prop} {cells slots : Nat} {Qp : State → Prop} {G : Nat → ClassId} {b L ri mq : Nat} {xs : Nat → Int32} {i : Nat} {g g2 : Nat → Int32} {fd : Int} {gl : Nat → Int32} {gc : Nat → Int64} {ge gr : Nat → Int32} {Wf : va_W → va_W} {Wm : va_W} (hA : ∀ q, s.heap.size ≤ q → A q) (C : ZC p s m #[Value.ref b] c code 4 lw_tbl RL D (cty G)) (hN : nW s) (hX : va_X b L xs s s.heap) (hbl : b < s.heap.size) (hbA : ¬ A b) (hi : i + 8 ≤ L ∧ L ≤ 4096) (hC : isC G ri g g2 fd gl gc ge gr cells slots Wf) (hM : isM G mq g g2 fd gl gc Wm) (ha : aI g g2 fd gl gc ge gr) (kk : (∀ (g g2 : Nat → Int32) (fd : Int) (gl : Nat → Int32) (gc : Nat → Int64) (ge gr : Nat → Int32) (cells slots : Nat) (Wf : va_W → va_W) (Wm : va_W), isC G ri g g2 fd gl gc ge gr cells slots Wf → isM G mq g g2 fd gl gc Wm → aI g g2 fd gl gc ge gr → ZW p l e room_1 s m #[Value.ref b] below meth c D A 4 cells slots Qp (Wf Wm) 679 [(0, .ref b), (1, .ref ri), (2, .ref mq), (3, .int (iZ (i : Int)))] [])) : ZW p l e room_1 s m #[Value.ref b] below meth c D A 4 cells slots Qp (Wf Wm) 643 [(0, .ref b), (1, .ref ri), (2, .ref mq), (3, .int (iZ (i : Int)))] [] := by
  refine w_aload_n C dL_law_643 1 rfl ?_
  refine w_arg C hX hbl hbA 1 0 3 rfl rfl ⟨by omega, hi.2⟩ rfl dL_law_644 dL_law_645 dL_law_646 dL_law_647 dL_law_648 ?_
  refine lc_shift hA C hN Wm hC ha (xs (i + 1)).toInt  (i32r (xs (i + 1)))  dL_law_649 (fun r g' fd' ce sl Wg hpost hC1 => ?_)
  have ha1 : aI g' g2 fd' gl gc ge gr := by
    obtain ⟨h9, N, _, ⟨_, _, rfl, rfl⟩ | ⟨_, ⟨_, _, rfl, rfl⟩ | ⟨_, _, ⟨_, _, rfl, rfl⟩ | ⟨hin, N9, hg9, _, _, rfl⟩⟩⟩⟩ := hpost
    · exact ha
    · exact ha
    · exact ha
    · exact ⟨bd_new hin hg9, ha.2.1, Or.inl rfl⟩
  refine w_aload_n C dL_law_652 2 rfl ?_
  refine w_arg C hX hbl hbA 1 0 3 rfl rfl ⟨by omega, hi.2⟩ rfl dL_law_653 dL_law_654 dL_law_655 dL_law_656 dL_law_657 ?_
  refine w_perm (Wg [] ++ Wm) (isC_perm hC1 Wm) ?_
  refine lm_shift hA C hM ha (isC_room hC1) (xs (i + 1)).toInt  g' fd' (i32r (xs (i + 1)))  hpost dL_law_658 (fun Wn hM1 => ?_)
  refine w_perm (Wg Wn) (isC_perm hC1 Wn).symm ?_
  refine w_ieq C 679 dL_law_661 (by decide) ?_
  exact kk _ _ _ _ _ _ _ _ _ _ _ hC1 hM1 ha1
set_option maxHeartbeats 4000000 in
set_option maxRecDepth 100000 in
theorem la_swap {p : Program} {l : Launch} {e : Env} {s : State} {m : MethodId} {below : List Frame} {meth : Method} {c : Code} {D : va_G} {A : Nat → Prop} {cells slots : Nat} {Qp : State → Prop} {G : Nat → ClassId} {b L ri mq : Nat} {xs : Nat → Int32} {i : Nat} {g g2 : Nat → Int32} {fd : Int} {gl : Nat → Int32} {gc : Nat → Int64} {ge gr : Nat → Int32} {Wf : va_W → va_W} {Wm : va_W} (hA : ∀ q, s.heap.size ≤ q → A q) (C : ZC p s m #[Value.ref b] c code 4 lw_tbl RL D (cty G)) (hN : nW s) (hX : va_X b L xs s s.heap) (hbl : b < s.heap.size) (hbA : ¬ A b) (hi : i + 8 ≤ L ∧ L ≤ 4096) (hC : isC G ri g g2 fd gl gc ge gr cells slots Wf) (hM : isM G mq g g2 fd gl gc Wm) (ha : aI g g2 fd gl gc ge gr) (kk : (∀ (g g2 : Nat → Int32) (fd : Int) (gl : Nat → Int32) (gc : Nat → Int64) (ge gr : Nat → Int32) (cells slots : Nat) (Wf : va_W → va_W) (Wm : va_W), isC G ri g g2 fd gl gc ge gr cells slots Wf → isM G mq g g2 fd gl gc Wm → aI g g2 fd gl gc ge gr → ZW p l e room_1 s m #[Value.ref b] below meth c D A 4 cells slots Qp (Wf Wm) 679 [(0, .ref b), (1, .ref ri), (2, .ref mq), (3, .int (iZ (i : Int)))] [])) : ZW p l e room_1 s m #[Value.ref b] below meth c D A 4 cells slots Qp (Wf Wm) 666 [(0, .ref b), (1, .ref ri), (2, .ref mq), (3, .int (iZ (i : Int)))] [] := by
  refine w_aload_n C dL_law_666 1 rfl ?_
  refine lc_swap hA C hN Wm hC ha     dL_law_667 (fun r  ce sl Wg hpost hC1 => ?_)
  have ha1 : aI g2 g (-1) gl gc ge gr := ⟨ha.2.1, ha.1, Or.inl rfl⟩
  refine w_aload_n C dL_law_670 2 rfl ?_
  refine w_perm (Wg [] ++ Wm) (isC_perm hC1 Wm) ?_
  refine lm_swap hA C hM ha (isC_room hC1)      hpost dL_law_671 (fun Wn hM1 => ?_)
  refine w_perm (Wg Wn) (isC_perm hC1 Wn).symm ?_
  refine w_ieq C 679 dL_law_674 (by decide) ?_
  exact kk _ _ _ _ _ _ _ _ _ _ _ hC1 hM1 ha1
