def kl_Ops (P : kv_H → Prop) : Prop := (∀ (a0 a1 a2 a3 : Int32), kl_Op P (f_X9_leaf a0 a1 a2 a3) (f_X10_leaf a0 a1 a2 a3)) ∧
  (∀ (a0 a1 : Int32), kl_Op P (f_X9_told a0 a1) (f_X10_told a0 a1)) ∧
  (∀ (a0 a1 : Int32), kl_Op P (f_X9_as a0 a1) (f_X10_as a0 a1)) ∧
  (∀ (a0 a1 : Int32), kl_Op P (f_X9_turns a0 a1) (f_X10_turns a0 a1)) ∧
  (∀ (a0 a1 a2 : Int32), kl_Op P (f_X9_set a0 a1 a2) (f_X10_set a0 a1 a2)) ∧
  (∀ (a0 a1 : Int32), kl_Op P (f_X9_leans a0 a1) (f_X10_leans a0 a1)) ∧
  (∀ (a0 : Int32), kl_Op P (f_X9_deal a0) (f_X10_deal a0)) ∧
  (∀ (a0 : Int32), kl_Op P (f_X9_space a0) (f_X10_space a0)) ∧
  (∀ (a0 : Int32), kl_Op P (f_X9_rule a0) (f_X10_rule a0)) ∧
  (∀ (a0 : Int32), kl_Op P (f_X9_care a0) (f_X10_care a0)) ∧
  (∀ (a0 : Int32), kl_Op P (f_X9_want a0) (f_X10_want a0)) ∧
  (kl_Op P (f_X9_next ) (f_X10_next )) ∧
  (∀ (a0 : Int32), kl_Op P (f_X9_out a0) (f_X10_out a0)) ∧
  (∀ (a0 : Int32), kl_Op P (f_X9_at a0) (f_X10_at a0)) ∧
  (∀ (a0 : Int32), kl_Op P (f_X9_fire a0) (f_X10_fire a0)) ∧
  (∀ (a0 : Int32), kl_Op P (f_X9_seed a0) (f_X10_seed a0)) ∧
  (∀ (a0 : Int32), kl_Op P (f_X9_plan a0) (f_X10_plan a0)) ∧
  (kl_Op P (f_X9_clear ) (f_X10_clear )) ∧
  (∀ (a0 : Int32), kl_Op P (f_X9_run a0) (f_X10_run a0)) ∧
  (kl_Op P (f_X9_would ) (f_X10_would )) ∧
  (∀ (a0 : Int32), kl_Op P (f_X9_least a0) (f_X10_least a0)) ∧
  (∀ (a0 : Int32), kl_Op P (f_X9_hold a0) (f_X10_hold a0)) ∧
  (∀ (a0 : Int32), kl_Op P (f_X9_best a0) (f_X10_best a0)) ∧
  (∀ (a0 : Int32), kl_Op P (f_X9_price a0) (f_X10_price a0)) ∧
  (∀ (a0 : Int32), kl_Op P (f_X9_means a0) (f_X10_means a0)) ∧
  (∀ (a0 a1 : Int32), kl_Op P (f_X9_gap a0 a1) (f_X10_gap a0 a1)) ∧
  (∀ (a0 a1 a2 : Int32), kl_Op P (f_X9_feed a0 a1 a2) (f_X10_feed a0 a1 a2)) ∧
  (∀ (a0 : Int32), kl_Op P (f_X9_trim a0) (f_X10_trim a0)) ∧
  (kl_Op P (f_X9_text ) (f_X10_text )) ∧
  (∀ (a0 a1 : Int32), kl_Op P (f_X9_textTold a0 a1) (f_X10_textTold a0 a1)) ∧
  (∀ (a0 : Int32), kl_Op P (f_X9_why a0) (f_X10_why a0)) ∧
  (∀ (a0 a1 a2 : Int32), kl_Op P (f_X9_sheet a0 a1 a2) (f_X10_sheet a0 a1 a2)) ∧
  (∀ (a0 a1 a2 : Int32), kl_Op P (f_X9_mark a0 a1 a2) (f_X10_mark a0 a1 a2)) ∧
  (∀ (a0 : Int32), kl_Op P (f_X9_pour a0) (f_X10_pour a0)) ∧
  (∀ (a0 : Int32), kl_Op P (f_X9_reads a0) (f_X10_reads a0)) ∧
  (∀ (a0 a1 a2 a3 a4 : Int32), kl_Op P (f_X9_copy a0 a1 a2 a3 a4) (f_X10_copy a0 a1 a2 a3 a4)) ∧
  (∀ (a0 a1 a2 : Int32), kl_Op P (f_X9_lay a0 a1 a2) (f_X10_lay a0 a1 a2)) ∧
  (∀ (a0 a1 : Int32), kl_Op P (f_X9_ask a0 a1) (f_X10_ask a0 a1)) ∧
  (∀ (a0 a1 : Int32), kl_Op P (f_X9_item a0 a1) (f_X10_item a0 a1)) ∧
  (∀ (a0 a1 : Int32), kl_Op P (f_X9_rest a0 a1) (f_X10_rest a0 a1)) ∧
  (∀ (a0 : Int32), kl_Op P (f_X9_tell a0) (f_X10_tell a0)) ∧
  (∀ (a0 : Int32), kl_Op P (f_X9_check a0) (f_X10_check a0)) ∧
  (kl_Op P (f_X9_keep ) (f_X10_keep )) ∧
  (kl_Op P (f_X9_back ) (f_X10_back )) ∧
  (∀ (a0 : Int32), kl_Op P (f_X9_count a0) (f_X10_count a0))
section KM
variable {G : kv_G} {p : Program} {l : Launch} {e : Env} {s : State} {m : MethodId} {below : List Frame} {meth : Method} {c : Code} {b L i : Nat} {xs : Nat → Int32} {Q : State → Prop} {ls : List (Option Value)} {st : List Value} {h : kv_H}
theorem kl_case_0 {P : kv_H → Prop} (C : kl_C G p s m c b L xs) (hL : L ≤ 3072) (hi : i + 6 ≤ L) (hop : (∀ (a0 a1 a2 a3 : Int32), kl_Op P (f_X9_leaf a0 a1 a2 a3) (f_X10_leaf a0 a1 a2 a3))) (hP : P h) (hN : ∀ h2, P h2 → kl_S G p l e s m below meth c b Q 1464 [some (.ref 2000), some (.ref 0), some (.ref 111), some (.int (nI i))] [] h2) : kl_S G p l e s m below meth c b Q 228 [some (.ref 2000), some (.ref 0), some (.ref 111), some (.int (nI i))] [] h := by
  refine kl_aload C d_L_law_228 rfl ?_
  refine kl_aload C d_L_law_229 rfl ?_
  refine kl_iload C d_L_law_230 rfl ?_
  refine kl_const (v := 1) C d_L_law_231 ?_
  refine kl_iadd C d_L_law_232 ?_
  refine kl_sld C (kl_ix (k := 1) hi (by decide) hL) d_L_law_233 ?_
  refine kl_aload C d_L_law_234 rfl ?_
  refine kl_iload C d_L_law_235 rfl ?_
  refine kl_const (v := 2) C d_L_law_236 ?_
  refine kl_iadd C d_L_law_237 ?_
  refine kl_sld C (kl_ix (k := 2) hi (by decide) hL) d_L_law_238 ?_
  refine kl_aload C d_L_law_239 rfl ?_
  refine kl_iload C d_L_law_240 rfl ?_
  refine kl_const (v := 3) C d_L_law_241 ?_
  refine kl_iadd C d_L_law_242 ?_
  refine kl_sld C (kl_ix (k := 3) hi (by decide) hL) d_L_law_243 ?_
  refine kl_aload C d_L_law_244 rfl ?_
  refine kl_iload C d_L_law_245 rfl ?_
  refine kl_const (v := 4) C d_L_law_246 ?_
  refine kl_iadd C d_L_law_247 ?_
  refine kl_sld C (kl_ix (k := 4) hi (by decide) hL) d_L_law_248 ?_
  obtain ⟨r, h1, h2, e1, e2, hP2⟩ := hop (xs (nI i + 1).toNatClampNeg) (xs (nI i + 2).toNatClampNeg) (xs (nI i + 3).toNatClampNeg) (xs (nI i + 4).toNatClampNeg) h hP
  refine kl_iv_i (As := [.int (xs (nI i + 1).toNatClampNeg), .int (xs (nI i + 2).toNatClampNeg), .int (xs (nI i + 3).toNatClampNeg), .int (xs (nI i + 4).toNatClampNeg)]) C d_L_law_249 cl_L_13 (m_X9_leaf (xs (nI i + 1).toNatClampNeg) (xs (nI i + 2).toNatClampNeg) (xs (nI i + 3).toNatClampNeg) (xs (nI i + 4).toNatClampNeg) h) e1 sh_0 (Nat.le_of_ble_eq_true rfl) rfl (Nat.le_of_ble_eq_true rfl) ?_
  refine kl_aload C d_L_law_252 rfl ?_
  refine kl_aload C d_L_law_253 rfl ?_
  refine kl_iload C d_L_law_254 rfl ?_
  refine kl_const (v := 1) C d_L_law_255 ?_
  refine kl_iadd C d_L_law_256 ?_
  refine kl_sld C (kl_ix (k := 1) hi (by decide) hL) d_L_law_257 ?_
  refine kl_aload C d_L_law_258 rfl ?_
  refine kl_iload C d_L_law_259 rfl ?_
  refine kl_const (v := 2) C d_L_law_260 ?_
  refine kl_iadd C d_L_law_261 ?_
  refine kl_sld C (kl_ix (k := 2) hi (by decide) hL) d_L_law_262 ?_
  refine kl_aload C d_L_law_263 rfl ?_
  refine kl_iload C d_L_law_264 rfl ?_
  refine kl_const (v := 3) C d_L_law_265 ?_
  refine kl_iadd C d_L_law_266 ?_
  refine kl_sld C (kl_ix (k := 3) hi (by decide) hL) d_L_law_267 ?_
  refine kl_aload C d_L_law_268 rfl ?_
  refine kl_iload C d_L_law_269 rfl ?_
  refine kl_const (v := 4) C d_L_law_270 ?_
  refine kl_iadd C d_L_law_271 ?_
  refine kl_sld C (kl_ix (k := 4) hi (by decide) hL) d_L_law_272 ?_
  refine kl_iv_i (As := [.int (xs (nI i + 1).toNatClampNeg), .int (xs (nI i + 2).toNatClampNeg), .int (xs (nI i + 3).toNatClampNeg), .int (xs (nI i + 4).toNatClampNeg)]) C d_L_law_273 cl_L_17 (m_X10_leaf (xs (nI i + 1).toNatClampNeg) (xs (nI i + 2).toNatClampNeg) (xs (nI i + 3).toNatClampNeg) (xs (nI i + 4).toNatClampNeg) h1) e2 sh_111 (Nat.le_of_ble_eq_true rfl) rfl (Nat.le_of_ble_eq_true rfl) ?_
  refine kl_eqT C rfl d_L_law_276 ?_
  exact hN h2 hP2
theorem kl_case_1 {P : kv_H → Prop} (C : kl_C G p s m c b L xs) (hL : L ≤ 3072) (hi : i + 6 ≤ L) (hop : (∀ (a0 a1 : Int32), kl_Op P (f_X9_told a0 a1) (f_X10_told a0 a1))) (hP : P h) (hN : ∀ h2, P h2 → kl_S G p l e s m below meth c b Q 1464 [some (.ref 2000), some (.ref 0), some (.ref 111), some (.int (nI i))] [] h2) : kl_S G p l e s m below meth c b Q 281 [some (.ref 2000), some (.ref 0), some (.ref 111), some (.int (nI i))] [] h := by
  refine kl_aload C d_L_law_281 rfl ?_
  refine kl_aload C d_L_law_282 rfl ?_
  refine kl_iload C d_L_law_283 rfl ?_
  refine kl_const (v := 1) C d_L_law_284 ?_
  refine kl_iadd C d_L_law_285 ?_
  refine kl_sld C (kl_ix (k := 1) hi (by decide) hL) d_L_law_286 ?_
  refine kl_aload C d_L_law_287 rfl ?_
  refine kl_iload C d_L_law_288 rfl ?_
  refine kl_const (v := 2) C d_L_law_289 ?_
  refine kl_iadd C d_L_law_290 ?_
  refine kl_sld C (kl_ix (k := 2) hi (by decide) hL) d_L_law_291 ?_
  obtain ⟨r, h1, h2, e1, e2, hP2⟩ := hop (xs (nI i + 1).toNatClampNeg) (xs (nI i + 2).toNatClampNeg) h hP
  refine kl_iv_i (As := [.int (xs (nI i + 1).toNatClampNeg), .int (xs (nI i + 2).toNatClampNeg)]) C d_L_law_292 cl_L_18 (m_X9_told (xs (nI i + 1).toNatClampNeg) (xs (nI i + 2).toNatClampNeg) h) e1 sh_0 (Nat.le_of_ble_eq_true rfl) rfl (Nat.le_of_ble_eq_true rfl) ?_
  refine kl_aload C d_L_law_295 rfl ?_
  refine kl_aload C d_L_law_296 rfl ?_
  refine kl_iload C d_L_law_297 rfl ?_
  refine kl_const (v := 1) C d_L_law_298 ?_
  refine kl_iadd C d_L_law_299 ?_
  refine kl_sld C (kl_ix (k := 1) hi (by decide) hL) d_L_law_300 ?_
  refine kl_aload C d_L_law_301 rfl ?_
  refine kl_iload C d_L_law_302 rfl ?_
  refine kl_const (v := 2) C d_L_law_303 ?_
  refine kl_iadd C d_L_law_304 ?_
  refine kl_sld C (kl_ix (k := 2) hi (by decide) hL) d_L_law_305 ?_
  refine kl_iv_i (As := [.int (xs (nI i + 1).toNatClampNeg), .int (xs (nI i + 2).toNatClampNeg)]) C d_L_law_306 cl_L_22 (m_X10_told (xs (nI i + 1).toNatClampNeg) (xs (nI i + 2).toNatClampNeg) h1) e2 sh_111 (Nat.le_of_ble_eq_true rfl) rfl (Nat.le_of_ble_eq_true rfl) ?_
  refine kl_eqT C rfl d_L_law_309 ?_
  exact hN h2 hP2
theorem kl_case_2 {P : kv_H → Prop} (C : kl_C G p s m c b L xs) (hL : L ≤ 3072) (hi : i + 6 ≤ L) (hop : (∀ (a0 a1 : Int32), kl_Op P (f_X9_as a0 a1) (f_X10_as a0 a1))) (hP : P h) (hN : ∀ h2, P h2 → kl_S G p l e s m below meth c b Q 1464 [some (.ref 2000), some (.ref 0), some (.ref 111), some (.int (nI i))] [] h2) : kl_S G p l e s m below meth c b Q 314 [some (.ref 2000), some (.ref 0), some (.ref 111), some (.int (nI i))] [] h := by
  refine kl_aload C d_L_law_314 rfl ?_
  refine kl_aload C d_L_law_315 rfl ?_
  refine kl_iload C d_L_law_316 rfl ?_
  refine kl_const (v := 1) C d_L_law_317 ?_
  refine kl_iadd C d_L_law_318 ?_
  refine kl_sld C (kl_ix (k := 1) hi (by decide) hL) d_L_law_319 ?_
  refine kl_aload C d_L_law_320 rfl ?_
  refine kl_iload C d_L_law_321 rfl ?_
  refine kl_const (v := 2) C d_L_law_322 ?_
  refine kl_iadd C d_L_law_323 ?_
  refine kl_sld C (kl_ix (k := 2) hi (by decide) hL) d_L_law_324 ?_
  obtain ⟨r, h1, h2, e1, e2, hP2⟩ := hop (xs (nI i + 1).toNatClampNeg) (xs (nI i + 2).toNatClampNeg) h hP
  refine kl_iv_i (As := [.int (xs (nI i + 1).toNatClampNeg), .int (xs (nI i + 2).toNatClampNeg)]) C d_L_law_325 cl_L_23 (m_X9_as (xs (nI i + 1).toNatClampNeg) (xs (nI i + 2).toNatClampNeg) h) e1 sh_0 (Nat.le_of_ble_eq_true rfl) rfl (Nat.le_of_ble_eq_true rfl) ?_
  refine kl_aload C d_L_law_328 rfl ?_
  refine kl_aload C d_L_law_329 rfl ?_
  refine kl_iload C d_L_law_330 rfl ?_
  refine kl_const (v := 1) C d_L_law_331 ?_
  refine kl_iadd C d_L_law_332 ?_
  refine kl_sld C (kl_ix (k := 1) hi (by decide) hL) d_L_law_333 ?_
  refine kl_aload C d_L_law_334 rfl ?_
  refine kl_iload C d_L_law_335 rfl ?_
  refine kl_const (v := 2) C d_L_law_336 ?_
  refine kl_iadd C d_L_law_337 ?_
  refine kl_sld C (kl_ix (k := 2) hi (by decide) hL) d_L_law_338 ?_
  refine kl_iv_i (As := [.int (xs (nI i + 1).toNatClampNeg), .int (xs (nI i + 2).toNatClampNeg)]) C d_L_law_339 cl_L_26 (m_X10_as (xs (nI i + 1).toNatClampNeg) (xs (nI i + 2).toNatClampNeg) h1) e2 sh_111 (Nat.le_of_ble_eq_true rfl) rfl (Nat.le_of_ble_eq_true rfl) ?_
  refine kl_eqT C rfl d_L_law_342 ?_
  exact hN h2 hP2
theorem kl_case_3 {P : kv_H → Prop} (C : kl_C G p s m c b L xs) (hL : L ≤ 3072) (hi : i + 6 ≤ L) (hop : (∀ (a0 a1 : Int32), kl_Op P (f_X9_turns a0 a1) (f_X10_turns a0 a1))) (hP : P h) (hN : ∀ h2, P h2 → kl_S G p l e s m below meth c b Q 1464 [some (.ref 2000), some (.ref 0), some (.ref 111), some (.int (nI i))] [] h2) : kl_S G p l e s m below meth c b Q 347 [some (.ref 2000), some (.ref 0), some (.ref 111), some (.int (nI i))] [] h := by
  refine kl_aload C d_L_law_347 rfl ?_
  refine kl_aload C d_L_law_348 rfl ?_
  refine kl_iload C d_L_law_349 rfl ?_
  refine kl_const (v := 1) C d_L_law_350 ?_
  refine kl_iadd C d_L_law_351 ?_
  refine kl_sld C (kl_ix (k := 1) hi (by decide) hL) d_L_law_352 ?_
  refine kl_aload C d_L_law_353 rfl ?_
  refine kl_iload C d_L_law_354 rfl ?_
  refine kl_const (v := 2) C d_L_law_355 ?_
  refine kl_iadd C d_L_law_356 ?_
  refine kl_sld C (kl_ix (k := 2) hi (by decide) hL) d_L_law_357 ?_
  obtain ⟨r, h1, h2, e1, e2, hP2⟩ := hop (xs (nI i + 1).toNatClampNeg) (xs (nI i + 2).toNatClampNeg) h hP
  refine kl_iv_i (As := [.int (xs (nI i + 1).toNatClampNeg), .int (xs (nI i + 2).toNatClampNeg)]) C d_L_law_358 cl_L_27 (m_X9_turns (xs (nI i + 1).toNatClampNeg) (xs (nI i + 2).toNatClampNeg) h) e1 sh_0 (Nat.le_of_ble_eq_true rfl) rfl (Nat.le_of_ble_eq_true rfl) ?_
  refine kl_aload C d_L_law_361 rfl ?_
  refine kl_aload C d_L_law_362 rfl ?_
  refine kl_iload C d_L_law_363 rfl ?_
  refine kl_const (v := 1) C d_L_law_364 ?_
  refine kl_iadd C d_L_law_365 ?_
  refine kl_sld C (kl_ix (k := 1) hi (by decide) hL) d_L_law_366 ?_
  refine kl_aload C d_L_law_367 rfl ?_
  refine kl_iload C d_L_law_368 rfl ?_
  refine kl_const (v := 2) C d_L_law_369 ?_
  refine kl_iadd C d_L_law_370 ?_
  refine kl_sld C (kl_ix (k := 2) hi (by decide) hL) d_L_law_371 ?_
  refine kl_iv_i (As := [.int (xs (nI i + 1).toNatClampNeg), .int (xs (nI i + 2).toNatClampNeg)]) C d_L_law_372 cl_L_30 (m_X10_turns (xs (nI i + 1).toNatClampNeg) (xs (nI i + 2).toNatClampNeg) h1) e2 sh_111 (Nat.le_of_ble_eq_true rfl) rfl (Nat.le_of_ble_eq_true rfl) ?_
  refine kl_eqT C rfl d_L_law_375 ?_
  exact hN h2 hP2
theorem kl_case_4 {P : kv_H → Prop} (C : kl_C G p s m c b L xs) (hL : L ≤ 3072) (hi : i + 6 ≤ L) (hop : (∀ (a0 a1 a2 : Int32), kl_Op P (f_X9_set a0 a1 a2) (f_X10_set a0 a1 a2))) (hP : P h) (hN : ∀ h2, P h2 → kl_S G p l e s m below meth c b Q 1464 [some (.ref 2000), some (.ref 0), some (.ref 111), some (.int (nI i))] [] h2) : kl_S G p l e s m below meth c b Q 380 [some (.ref 2000), some (.ref 0), some (.ref 111), some (.int (nI i))] [] h := by
  refine kl_aload C d_L_law_380 rfl ?_
  refine kl_aload C d_L_law_381 rfl ?_
  refine kl_iload C d_L_law_382 rfl ?_
  refine kl_const (v := 1) C d_L_law_383 ?_
  refine kl_iadd C d_L_law_384 ?_
  refine kl_sld C (kl_ix (k := 1) hi (by decide) hL) d_L_law_385 ?_
  refine kl_aload C d_L_law_386 rfl ?_
  refine kl_iload C d_L_law_387 rfl ?_
  refine kl_const (v := 2) C d_L_law_388 ?_
  refine kl_iadd C d_L_law_389 ?_
  refine kl_sld C (kl_ix (k := 2) hi (by decide) hL) d_L_law_390 ?_
  refine kl_aload C d_L_law_391 rfl ?_
  refine kl_iload C d_L_law_392 rfl ?_
  refine kl_const (v := 3) C d_L_law_393 ?_
  refine kl_iadd C d_L_law_394 ?_
  refine kl_sld C (kl_ix (k := 3) hi (by decide) hL) d_L_law_395 ?_
  obtain ⟨r, h1, h2, e1, e2, hP2⟩ := hop (xs (nI i + 1).toNatClampNeg) (xs (nI i + 2).toNatClampNeg) (xs (nI i + 3).toNatClampNeg) h hP
  refine kl_iv_i (As := [.int (xs (nI i + 1).toNatClampNeg), .int (xs (nI i + 2).toNatClampNeg), .int (xs (nI i + 3).toNatClampNeg)]) C d_L_law_396 cl_L_31 (m_X9_set (xs (nI i + 1).toNatClampNeg) (xs (nI i + 2).toNatClampNeg) (xs (nI i + 3).toNatClampNeg) h) e1 sh_0 (Nat.le_of_ble_eq_true rfl) rfl (Nat.le_of_ble_eq_true rfl) ?_
  refine kl_aload C d_L_law_399 rfl ?_
  refine kl_aload C d_L_law_400 rfl ?_
  refine kl_iload C d_L_law_401 rfl ?_
  refine kl_const (v := 1) C d_L_law_402 ?_
  refine kl_iadd C d_L_law_403 ?_
  refine kl_sld C (kl_ix (k := 1) hi (by decide) hL) d_L_law_404 ?_
  refine kl_aload C d_L_law_405 rfl ?_
  refine kl_iload C d_L_law_406 rfl ?_
  refine kl_const (v := 2) C d_L_law_407 ?_
  refine kl_iadd C d_L_law_408 ?_
  refine kl_sld C (kl_ix (k := 2) hi (by decide) hL) d_L_law_409 ?_
  refine kl_aload C d_L_law_410 rfl ?_
  refine kl_iload C d_L_law_411 rfl ?_
  refine kl_const (v := 3) C d_L_law_412 ?_
  refine kl_iadd C d_L_law_413 ?_
  refine kl_sld C (kl_ix (k := 3) hi (by decide) hL) d_L_law_414 ?_
  refine kl_iv_i (As := [.int (xs (nI i + 1).toNatClampNeg), .int (xs (nI i + 2).toNatClampNeg), .int (xs (nI i + 3).toNatClampNeg)]) C d_L_law_415 cl_L_35 (m_X10_set (xs (nI i + 1).toNatClampNeg) (xs (nI i + 2).toNatClampNeg) (xs (nI i + 3).toNatClampNeg) h1) e2 sh_111 (Nat.le_of_ble_eq_true rfl) rfl (Nat.le_of_ble_eq_true rfl) ?_
  refine kl_eqT C rfl d_L_law_418 ?_
  exact hN h2 hP2
theorem kl_case_5 {P : kv_H → Prop} (C : kl_C G p s m c b L xs) (hL : L ≤ 3072) (hi : i + 6 ≤ L) (hop : (∀ (a0 a1 : Int32), kl_Op P (f_X9_leans a0 a1) (f_X10_leans a0 a1))) (hP : P h) (hN : ∀ h2, P h2 → kl_S G p l e s m below meth c b Q 1464 [some (.ref 2000), some (.ref 0), some (.ref 111), some (.int (nI i))] [] h2) : kl_S G p l e s m below meth c b Q 423 [some (.ref 2000), some (.ref 0), some (.ref 111), some (.int (nI i))] [] h := by
  refine kl_aload C d_L_law_423 rfl ?_
  refine kl_aload C d_L_law_424 rfl ?_
  refine kl_iload C d_L_law_425 rfl ?_
  refine kl_const (v := 1) C d_L_law_426 ?_
  refine kl_iadd C d_L_law_427 ?_
  refine kl_sld C (kl_ix (k := 1) hi (by decide) hL) d_L_law_428 ?_
  refine kl_aload C d_L_law_429 rfl ?_
  refine kl_iload C d_L_law_430 rfl ?_
  refine kl_const (v := 2) C d_L_law_431 ?_
  refine kl_iadd C d_L_law_432 ?_
  refine kl_sld C (kl_ix (k := 2) hi (by decide) hL) d_L_law_433 ?_
  obtain ⟨r, h1, h2, e1, e2, hP2⟩ := hop (xs (nI i + 1).toNatClampNeg) (xs (nI i + 2).toNatClampNeg) h hP
  refine kl_iv_i (As := [.int (xs (nI i + 1).toNatClampNeg), .int (xs (nI i + 2).toNatClampNeg)]) C d_L_law_434 cl_L_36 (m_X9_leans (xs (nI i + 1).toNatClampNeg) (xs (nI i + 2).toNatClampNeg) h) e1 sh_0 (Nat.le_of_ble_eq_true rfl) rfl (Nat.le_of_ble_eq_true rfl) ?_
  refine kl_aload C d_L_law_437 rfl ?_
  refine kl_aload C d_L_law_438 rfl ?_
  refine kl_iload C d_L_law_439 rfl ?_
  refine kl_const (v := 1) C d_L_law_440 ?_
  refine kl_iadd C d_L_law_441 ?_
  refine kl_sld C (kl_ix (k := 1) hi (by decide) hL) d_L_law_442 ?_
  refine kl_aload C d_L_law_443 rfl ?_
  refine kl_iload C d_L_law_444 rfl ?_
  refine kl_const (v := 2) C d_L_law_445 ?_
  refine kl_iadd C d_L_law_446 ?_
  refine kl_sld C (kl_ix (k := 2) hi (by decide) hL) d_L_law_447 ?_
  refine kl_iv_i (As := [.int (xs (nI i + 1).toNatClampNeg), .int (xs (nI i + 2).toNatClampNeg)]) C d_L_law_448 cl_L_39 (m_X10_leans (xs (nI i + 1).toNatClampNeg) (xs (nI i + 2).toNatClampNeg) h1) e2 sh_111 (Nat.le_of_ble_eq_true rfl) rfl (Nat.le_of_ble_eq_true rfl) ?_
  refine kl_eqT C rfl d_L_law_451 ?_
  exact hN h2 hP2
theorem kl_case_6 {P : kv_H → Prop} (C : kl_C G p s m c b L xs) (hL : L ≤ 3072) (hi : i + 6 ≤ L) (hop : (∀ (a0 : Int32), kl_Op P (f_X9_deal a0) (f_X10_deal a0))) (hP : P h) (hN : ∀ h2, P h2 → kl_S G p l e s m below meth c b Q 1464 [some (.ref 2000), some (.ref 0), some (.ref 111), some (.int (nI i))] [] h2) : kl_S G p l e s m below meth c b Q 456 [some (.ref 2000), some (.ref 0), some (.ref 111), some (.int (nI i))] [] h := by
  refine kl_aload C d_L_law_456 rfl ?_
  refine kl_aload C d_L_law_457 rfl ?_
  refine kl_iload C d_L_law_458 rfl ?_
  refine kl_const (v := 1) C d_L_law_459 ?_
  refine kl_iadd C d_L_law_460 ?_
  refine kl_sld C (kl_ix (k := 1) hi (by decide) hL) d_L_law_461 ?_
  obtain ⟨r, h1, h2, e1, e2, hP2⟩ := hop (xs (nI i + 1).toNatClampNeg) h hP
  refine kl_iv_i (As := [.int (xs (nI i + 1).toNatClampNeg)]) C d_L_law_462 cl_L_40 (m_X9_deal (xs (nI i + 1).toNatClampNeg) h) e1 sh_0 (Nat.le_of_ble_eq_true rfl) rfl (Nat.le_of_ble_eq_true rfl) ?_
  refine kl_aload C d_L_law_465 rfl ?_
  refine kl_aload C d_L_law_466 rfl ?_
  refine kl_iload C d_L_law_467 rfl ?_
  refine kl_const (v := 1) C d_L_law_468 ?_
  refine kl_iadd C d_L_law_469 ?_
  refine kl_sld C (kl_ix (k := 1) hi (by decide) hL) d_L_law_470 ?_
  refine kl_iv_i (As := [.int (xs (nI i + 1).toNatClampNeg)]) C d_L_law_471 cl_L_44 (m_X10_deal (xs (nI i + 1).toNatClampNeg) h1) e2 sh_111 (Nat.le_of_ble_eq_true rfl) rfl (Nat.le_of_ble_eq_true rfl) ?_
  refine kl_eqT C rfl d_L_law_474 ?_
  exact hN h2 hP2
theorem kl_case_7 {P : kv_H → Prop} (C : kl_C G p s m c b L xs) (hL : L ≤ 3072) (hi : i + 6 ≤ L) (hop : (∀ (a0 : Int32), kl_Op P (f_X9_space a0) (f_X10_space a0))) (hP : P h) (hN : ∀ h2, P h2 → kl_S G p l e s m below meth c b Q 1464 [some (.ref 2000), some (.ref 0), some (.ref 111), some (.int (nI i))] [] h2) : kl_S G p l e s m below meth c b Q 479 [some (.ref 2000), some (.ref 0), some (.ref 111), some (.int (nI i))] [] h := by
  refine kl_aload C d_L_law_479 rfl ?_
  refine kl_aload C d_L_law_480 rfl ?_
  refine kl_iload C d_L_law_481 rfl ?_
  refine kl_const (v := 1) C d_L_law_482 ?_
  refine kl_iadd C d_L_law_483 ?_
  refine kl_sld C (kl_ix (k := 1) hi (by decide) hL) d_L_law_484 ?_
  obtain ⟨r, h1, h2, e1, e2, hP2⟩ := hop (xs (nI i + 1).toNatClampNeg) h hP
  refine kl_iv_i (As := [.int (xs (nI i + 1).toNatClampNeg)]) C d_L_law_485 cl_L_45 (m_X9_space (xs (nI i + 1).toNatClampNeg) h) e1 sh_0 (Nat.le_of_ble_eq_true rfl) rfl (Nat.le_of_ble_eq_true rfl) ?_
  refine kl_aload C d_L_law_488 rfl ?_
  refine kl_aload C d_L_law_489 rfl ?_
  refine kl_iload C d_L_law_490 rfl ?_
  refine kl_const (v := 1) C d_L_law_491 ?_
  refine kl_iadd C d_L_law_492 ?_
  refine kl_sld C (kl_ix (k := 1) hi (by decide) hL) d_L_law_493 ?_
  refine kl_iv_i (As := [.int (xs (nI i + 1).toNatClampNeg)]) C d_L_law_494 cl_L_48 (m_X10_space (xs (nI i + 1).toNatClampNeg) h1) e2 sh_111 (Nat.le_of_ble_eq_true rfl) rfl (Nat.le_of_ble_eq_true rfl) ?_
  refine kl_eqT C rfl d_L_law_497 ?_
  exact hN h2 hP2
theorem kl_case_8 {P : kv_H → Prop} (C : kl_C G p s m c b L xs) (hL : L ≤ 3072) (hi : i + 6 ≤ L) (hop : (∀ (a0 : Int32), kl_Op P (f_X9_rule a0) (f_X10_rule a0))) (hP : P h) (hN : ∀ h2, P h2 → kl_S G p l e s m below meth c b Q 1464 [some (.ref 2000), some (.ref 0), some (.ref 111), some (.int (nI i))] [] h2) : kl_S G p l e s m below meth c b Q 502 [some (.ref 2000), some (.ref 0), some (.ref 111), some (.int (nI i))] [] h := by
  refine kl_aload C d_L_law_502 rfl ?_
  refine kl_aload C d_L_law_503 rfl ?_
  refine kl_iload C d_L_law_504 rfl ?_
  refine kl_const (v := 1) C d_L_law_505 ?_
  refine kl_iadd C d_L_law_506 ?_
  refine kl_sld C (kl_ix (k := 1) hi (by decide) hL) d_L_law_507 ?_
  obtain ⟨r, h1, h2, e1, e2, hP2⟩ := hop (xs (nI i + 1).toNatClampNeg) h hP
  refine kl_iv_i (As := [.int (xs (nI i + 1).toNatClampNeg)]) C d_L_law_508 cl_L_49 (m_X9_rule (xs (nI i + 1).toNatClampNeg) h) e1 sh_0 (Nat.le_of_ble_eq_true rfl) rfl (Nat.le_of_ble_eq_true rfl) ?_
  refine kl_aload C d_L_law_511 rfl ?_
  refine kl_aload C d_L_law_512 rfl ?_
  refine kl_iload C d_L_law_513 rfl ?_
  refine kl_const (v := 1) C d_L_law_514 ?_
  refine kl_iadd C d_L_law_515 ?_
  refine kl_sld C (kl_ix (k := 1) hi (by decide) hL) d_L_law_516 ?_
  refine kl_iv_i (As := [.int (xs (nI i + 1).toNatClampNeg)]) C d_L_law_517 cl_L_52 (m_X10_rule (xs (nI i + 1).toNatClampNeg) h1) e2 sh_111 (Nat.le_of_ble_eq_true rfl) rfl (Nat.le_of_ble_eq_true rfl) ?_
  refine kl_eqT C rfl d_L_law_520 ?_
  exact hN h2 hP2
theorem kl_case_9 {P : kv_H → Prop} (C : kl_C G p s m c b L xs) (hL : L ≤ 3072) (hi : i + 6 ≤ L) (hop : (∀ (a0 : Int32), kl_Op P (f_X9_care a0) (f_X10_care a0))) (hP : P h) (hN : ∀ h2, P h2 → kl_S G p l e s m below meth c b Q 1464 [some (.ref 2000), some (.ref 0), some (.ref 111), some (.int (nI i))] [] h2) : kl_S G p l e s m below meth c b Q 525 [some (.ref 2000), some (.ref 0), some (.ref 111), some (.int (nI i))] [] h := by
  refine kl_aload C d_L_law_525 rfl ?_
  refine kl_aload C d_L_law_526 rfl ?_
  refine kl_iload C d_L_law_527 rfl ?_
  refine kl_const (v := 1) C d_L_law_528 ?_
  refine kl_iadd C d_L_law_529 ?_
  refine kl_sld C (kl_ix (k := 1) hi (by decide) hL) d_L_law_530 ?_
  obtain ⟨r, h1, h2, e1, e2, hP2⟩ := hop (xs (nI i + 1).toNatClampNeg) h hP
  refine kl_iv_i (As := [.int (xs (nI i + 1).toNatClampNeg)]) C d_L_law_531 cl_L_53 (m_X9_care (xs (nI i + 1).toNatClampNeg) h) e1 sh_0 (Nat.le_of_ble_eq_true rfl) rfl (Nat.le_of_ble_eq_true rfl) ?_
  refine kl_aload C d_L_law_534 rfl ?_
  refine kl_aload C d_L_law_535 rfl ?_
  refine kl_iload C d_L_law_536 rfl ?_
  refine kl_const (v := 1) C d_L_law_537 ?_
  refine kl_iadd C d_L_law_538 ?_
  refine kl_sld C (kl_ix (k := 1) hi (by decide) hL) d_L_law_539 ?_
  refine kl_iv_i (As := [.int (xs (nI i + 1).toNatClampNeg)]) C d_L_law_540 cl_L_56 (m_X10_care (xs (nI i + 1).toNatClampNeg) h1) e2 sh_111 (Nat.le_of_ble_eq_true rfl) rfl (Nat.le_of_ble_eq_true rfl) ?_
  refine kl_eqT C rfl d_L_law_543 ?_
  exact hN h2 hP2
theorem kl_case_10 {P : kv_H → Prop} (C : kl_C G p s m c b L xs) (hL : L ≤ 3072) (hi : i + 6 ≤ L) (hop : (∀ (a0 : Int32), kl_Op P (f_X9_want a0) (f_X10_want a0))) (hP : P h) (hN : ∀ h2, P h2 → kl_S G p l e s m below meth c b Q 1464 [some (.ref 2000), some (.ref 0), some (.ref 111), some (.int (nI i))] [] h2) : kl_S G p l e s m below meth c b Q 548 [some (.ref 2000), some (.ref 0), some (.ref 111), some (.int (nI i))] [] h := by
  refine kl_aload C d_L_law_548 rfl ?_
  refine kl_aload C d_L_law_549 rfl ?_
  refine kl_iload C d_L_law_550 rfl ?_
  refine kl_const (v := 1) C d_L_law_551 ?_
  refine kl_iadd C d_L_law_552 ?_
  refine kl_sld C (kl_ix (k := 1) hi (by decide) hL) d_L_law_553 ?_
  obtain ⟨r, h1, h2, e1, e2, hP2⟩ := hop (xs (nI i + 1).toNatClampNeg) h hP
  refine kl_iv_i (As := [.int (xs (nI i + 1).toNatClampNeg)]) C d_L_law_554 cl_L_57 (m_X9_want (xs (nI i + 1).toNatClampNeg) h) e1 sh_0 (Nat.le_of_ble_eq_true rfl) rfl (Nat.le_of_ble_eq_true rfl) ?_
  refine kl_aload C d_L_law_557 rfl ?_
  refine kl_aload C d_L_law_558 rfl ?_
  refine kl_iload C d_L_law_559 rfl ?_
  refine kl_const (v := 1) C d_L_law_560 ?_
  refine kl_iadd C d_L_law_561 ?_
  refine kl_sld C (kl_ix (k := 1) hi (by decide) hL) d_L_law_562 ?_
  refine kl_iv_i (As := [.int (xs (nI i + 1).toNatClampNeg)]) C d_L_law_563 cl_L_60 (m_X10_want (xs (nI i + 1).toNatClampNeg) h1) e2 sh_111 (Nat.le_of_ble_eq_true rfl) rfl (Nat.le_of_ble_eq_true rfl) ?_
  refine kl_eqT C rfl d_L_law_566 ?_
  exact hN h2 hP2
theorem kl_case_11 {P : kv_H → Prop} (C : kl_C G p s m c b L xs) (hL : L ≤ 3072) (hi : i + 6 ≤ L) (hop : (kl_Op P (f_X9_next ) (f_X10_next ))) (hP : P h) (hN : ∀ h2, P h2 → kl_S G p l e s m below meth c b Q 1464 [some (.ref 2000), some (.ref 0), some (.ref 111), some (.int (nI i))] [] h2) : kl_S G p l e s m below meth c b Q 571 [some (.ref 2000), some (.ref 0), some (.ref 111), some (.int (nI i))] [] h := by
  refine kl_aload C d_L_law_571 rfl ?_
  obtain ⟨r, h1, h2, e1, e2, hP2⟩ := hop h hP
  refine kl_iv_i (As := []) C d_L_law_572 cl_L_61 (m_X9_next h) e1 sh_0 (Nat.le_of_ble_eq_true rfl) rfl (Nat.le_of_ble_eq_true rfl) ?_
  refine kl_aload C d_L_law_575 rfl ?_
  refine kl_iv_i (As := []) C d_L_law_576 cl_L_65 (m_X10_next h1) e2 sh_111 (Nat.le_of_ble_eq_true rfl) rfl (Nat.le_of_ble_eq_true rfl) ?_
  refine kl_eqT C rfl d_L_law_579 ?_
  exact hN h2 hP2
theorem kl_case_12 {P : kv_H → Prop} (C : kl_C G p s m c b L xs) (hL : L ≤ 3072) (hi : i + 6 ≤ L) (hop : (∀ (a0 : Int32), kl_Op P (f_X9_out a0) (f_X10_out a0))) (hP : P h) (hN : ∀ h2, P h2 → kl_S G p l e s m below meth c b Q 1464 [some (.ref 2000), some (.ref 0), some (.ref 111), some (.int (nI i))] [] h2) : kl_S G p l e s m below meth c b Q 584 [some (.ref 2000), some (.ref 0), some (.ref 111), some (.int (nI i))] [] h := by
  refine kl_aload C d_L_law_584 rfl ?_
  refine kl_aload C d_L_law_585 rfl ?_
  refine kl_iload C d_L_law_586 rfl ?_
  refine kl_const (v := 1) C d_L_law_587 ?_
  refine kl_iadd C d_L_law_588 ?_
  refine kl_sld C (kl_ix (k := 1) hi (by decide) hL) d_L_law_589 ?_
  obtain ⟨r, h1, h2, e1, e2, hP2⟩ := hop (xs (nI i + 1).toNatClampNeg) h hP
  refine kl_iv_i (As := [.int (xs (nI i + 1).toNatClampNeg)]) C d_L_law_590 cl_L_66 (m_X9_out (xs (nI i + 1).toNatClampNeg) h) e1 sh_0 (Nat.le_of_ble_eq_true rfl) rfl (Nat.le_of_ble_eq_true rfl) ?_
  refine kl_aload C d_L_law_593 rfl ?_
  refine kl_aload C d_L_law_594 rfl ?_
  refine kl_iload C d_L_law_595 rfl ?_
  refine kl_const (v := 1) C d_L_law_596 ?_
  refine kl_iadd C d_L_law_597 ?_
  refine kl_sld C (kl_ix (k := 1) hi (by decide) hL) d_L_law_598 ?_
  refine kl_iv_i (As := [.int (xs (nI i + 1).toNatClampNeg)]) C d_L_law_599 cl_L_69 (m_X10_out (xs (nI i + 1).toNatClampNeg) h1) e2 sh_111 (Nat.le_of_ble_eq_true rfl) rfl (Nat.le_of_ble_eq_true rfl) ?_
  refine kl_eqT C rfl d_L_law_602 ?_
  exact hN h2 hP2
theorem kl_case_13 {P : kv_H → Prop} (C : kl_C G p s m c b L xs) (hL : L ≤ 3072) (hi : i + 6 ≤ L) (hop : (∀ (a0 : Int32), kl_Op P (f_X9_at a0) (f_X10_at a0))) (hP : P h) (hN : ∀ h2, P h2 → kl_S G p l e s m below meth c b Q 1464 [some (.ref 2000), some (.ref 0), some (.ref 111), some (.int (nI i))] [] h2) : kl_S G p l e s m below meth c b Q 607 [some (.ref 2000), some (.ref 0), some (.ref 111), some (.int (nI i))] [] h := by
  refine kl_aload C d_L_law_607 rfl ?_
  refine kl_aload C d_L_law_608 rfl ?_
  refine kl_iload C d_L_law_609 rfl ?_
  refine kl_const (v := 1) C d_L_law_610 ?_
  refine kl_iadd C d_L_law_611 ?_
  refine kl_sld C (kl_ix (k := 1) hi (by decide) hL) d_L_law_612 ?_
  obtain ⟨r, h1, h2, e1, e2, hP2⟩ := hop (xs (nI i + 1).toNatClampNeg) h hP
  refine kl_iv_i (As := [.int (xs (nI i + 1).toNatClampNeg)]) C d_L_law_613 cl_L_70 (m_X9_at (xs (nI i + 1).toNatClampNeg) h) e1 sh_0 (Nat.le_of_ble_eq_true rfl) rfl (Nat.le_of_ble_eq_true rfl) ?_
  refine kl_aload C d_L_law_616 rfl ?_
  refine kl_aload C d_L_law_617 rfl ?_
  refine kl_iload C d_L_law_618 rfl ?_
  refine kl_const (v := 1) C d_L_law_619 ?_
  refine kl_iadd C d_L_law_620 ?_
  refine kl_sld C (kl_ix (k := 1) hi (by decide) hL) d_L_law_621 ?_
  refine kl_iv_i (As := [.int (xs (nI i + 1).toNatClampNeg)]) C d_L_law_622 cl_L_73 (m_X10_at (xs (nI i + 1).toNatClampNeg) h1) e2 sh_111 (Nat.le_of_ble_eq_true rfl) rfl (Nat.le_of_ble_eq_true rfl) ?_
  refine kl_eqT C rfl d_L_law_625 ?_
  exact hN h2 hP2
theorem kl_case_14 {P : kv_H → Prop} (C : kl_C G p s m c b L xs) (hL : L ≤ 3072) (hi : i + 6 ≤ L) (hop : (∀ (a0 : Int32), kl_Op P (f_X9_fire a0) (f_X10_fire a0))) (hP : P h) (hN : ∀ h2, P h2 → kl_S G p l e s m below meth c b Q 1464 [some (.ref 2000), some (.ref 0), some (.ref 111), some (.int (nI i))] [] h2) : kl_S G p l e s m below meth c b Q 630 [some (.ref 2000), some (.ref 0), some (.ref 111), some (.int (nI i))] [] h := by
  refine kl_aload C d_L_law_630 rfl ?_
  refine kl_aload C d_L_law_631 rfl ?_
  refine kl_iload C d_L_law_632 rfl ?_
  refine kl_const (v := 1) C d_L_law_633 ?_
  refine kl_iadd C d_L_law_634 ?_
  refine kl_sld C (kl_ix (k := 1) hi (by decide) hL) d_L_law_635 ?_
  obtain ⟨r, h1, h2, e1, e2, hP2⟩ := hop (xs (nI i + 1).toNatClampNeg) h hP
  refine kl_iv_i (As := [.int (xs (nI i + 1).toNatClampNeg)]) C d_L_law_636 cl_L_74 (m_X9_fire (xs (nI i + 1).toNatClampNeg) h) e1 sh_0 (Nat.le_of_ble_eq_true rfl) rfl (Nat.le_of_ble_eq_true rfl) ?_
  refine kl_aload C d_L_law_639 rfl ?_
  refine kl_aload C d_L_law_640 rfl ?_
  refine kl_iload C d_L_law_641 rfl ?_
  refine kl_const (v := 1) C d_L_law_642 ?_
  refine kl_iadd C d_L_law_643 ?_
  refine kl_sld C (kl_ix (k := 1) hi (by decide) hL) d_L_law_644 ?_
  refine kl_iv_i (As := [.int (xs (nI i + 1).toNatClampNeg)]) C d_L_law_645 cl_L_77 (m_X10_fire (xs (nI i + 1).toNatClampNeg) h1) e2 sh_111 (Nat.le_of_ble_eq_true rfl) rfl (Nat.le_of_ble_eq_true rfl) ?_
  refine kl_eqT C rfl d_L_law_648 ?_
  exact hN h2 hP2
theorem kl_case_15 {P : kv_H → Prop} (C : kl_C G p s m c b L xs) (hL : L ≤ 3072) (hi : i + 6 ≤ L) (hop : (∀ (a0 : Int32), kl_Op P (f_X9_seed a0) (f_X10_seed a0))) (hP : P h) (hN : ∀ h2, P h2 → kl_S G p l e s m below meth c b Q 1464 [some (.ref 2000), some (.ref 0), some (.ref 111), some (.int (nI i))] [] h2) : kl_S G p l e s m below meth c b Q 653 [some (.ref 2000), some (.ref 0), some (.ref 111), some (.int (nI i))] [] h := by
  refine kl_aload C d_L_law_653 rfl ?_
  refine kl_aload C d_L_law_654 rfl ?_
  refine kl_iload C d_L_law_655 rfl ?_
  refine kl_const (v := 1) C d_L_law_656 ?_
  refine kl_iadd C d_L_law_657 ?_
  refine kl_sld C (kl_ix (k := 1) hi (by decide) hL) d_L_law_658 ?_
  obtain ⟨r, h1, h2, e1, e2, hP2⟩ := hop (xs (nI i + 1).toNatClampNeg) h hP
  refine kl_iv_i (As := [.int (xs (nI i + 1).toNatClampNeg)]) C d_L_law_659 cl_L_78 (m_X9_seed (xs (nI i + 1).toNatClampNeg) h) e1 sh_0 (Nat.le_of_ble_eq_true rfl) rfl (Nat.le_of_ble_eq_true rfl) ?_
  refine kl_aload C d_L_law_662 rfl ?_
  refine kl_aload C d_L_law_663 rfl ?_
  refine kl_iload C d_L_law_664 rfl ?_
  refine kl_const (v := 1) C d_L_law_665 ?_
  refine kl_iadd C d_L_law_666 ?_
  refine kl_sld C (kl_ix (k := 1) hi (by decide) hL) d_L_law_667 ?_
  refine kl_iv_i (As := [.int (xs (nI i + 1).toNatClampNeg)]) C d_L_law_668 cl_L_81 (m_X10_seed (xs (nI i + 1).toNatClampNeg) h1) e2 sh_111 (Nat.le_of_ble_eq_true rfl) rfl (Nat.le_of_ble_eq_true rfl) ?_
  refine kl_eqT C rfl d_L_law_671 ?_
  exact hN h2 hP2
theorem kl_case_16 {P : kv_H → Prop} (C : kl_C G p s m c b L xs) (hL : L ≤ 3072) (hi : i + 6 ≤ L) (hop : (∀ (a0 : Int32), kl_Op P (f_X9_plan a0) (f_X10_plan a0))) (hP : P h) (hN : ∀ h2, P h2 → kl_S G p l e s m below meth c b Q 1464 [some (.ref 2000), some (.ref 0), some (.ref 111), some (.int (nI i))] [] h2) : kl_S G p l e s m below meth c b Q 676 [some (.ref 2000), some (.ref 0), some (.ref 111), some (.int (nI i))] [] h := by
  refine kl_aload C d_L_law_676 rfl ?_
  refine kl_aload C d_L_law_677 rfl ?_
  refine kl_iload C d_L_law_678 rfl ?_
  refine kl_const (v := 1) C d_L_law_679 ?_
  refine kl_iadd C d_L_law_680 ?_
  refine kl_sld C (kl_ix (k := 1) hi (by decide) hL) d_L_law_681 ?_
  obtain ⟨r, h1, h2, e1, e2, hP2⟩ := hop (xs (nI i + 1).toNatClampNeg) h hP
  refine kl_iv_i (As := [.int (xs (nI i + 1).toNatClampNeg)]) C d_L_law_682 cl_L_82 (m_X9_plan (xs (nI i + 1).toNatClampNeg) h) e1 sh_0 (Nat.le_of_ble_eq_true rfl) rfl (Nat.le_of_ble_eq_true rfl) ?_
  refine kl_aload C d_L_law_685 rfl ?_
  refine kl_aload C d_L_law_686 rfl ?_
  refine kl_iload C d_L_law_687 rfl ?_
  refine kl_const (v := 1) C d_L_law_688 ?_
  refine kl_iadd C d_L_law_689 ?_
  refine kl_sld C (kl_ix (k := 1) hi (by decide) hL) d_L_law_690 ?_
  refine kl_iv_i (As := [.int (xs (nI i + 1).toNatClampNeg)]) C d_L_law_691 cl_L_85 (m_X10_plan (xs (nI i + 1).toNatClampNeg) h1) e2 sh_111 (Nat.le_of_ble_eq_true rfl) rfl (Nat.le_of_ble_eq_true rfl) ?_
  refine kl_eqT C rfl d_L_law_694 ?_
  exact hN h2 hP2
theorem kl_case_17 {P : kv_H → Prop} (C : kl_C G p s m c b L xs) (hL : L ≤ 3072) (hi : i + 6 ≤ L) (hop : (kl_Op P (f_X9_clear ) (f_X10_clear ))) (hP : P h) (hN : ∀ h2, P h2 → kl_S G p l e s m below meth c b Q 1464 [some (.ref 2000), some (.ref 0), some (.ref 111), some (.int (nI i))] [] h2) : kl_S G p l e s m below meth c b Q 699 [some (.ref 2000), some (.ref 0), some (.ref 111), some (.int (nI i))] [] h := by
  refine kl_aload C d_L_law_699 rfl ?_
  obtain ⟨r, h1, h2, e1, e2, hP2⟩ := hop h hP
  refine kl_iv_i (As := []) C d_L_law_700 cl_L_86 (m_X9_clear h) e1 sh_0 (Nat.le_of_ble_eq_true rfl) rfl (Nat.le_of_ble_eq_true rfl) ?_
  refine kl_aload C d_L_law_703 rfl ?_
  refine kl_iv_i (As := []) C d_L_law_704 cl_L_89 (m_X10_clear h1) e2 sh_111 (Nat.le_of_ble_eq_true rfl) rfl (Nat.le_of_ble_eq_true rfl) ?_
  refine kl_eqT C rfl d_L_law_707 ?_
  exact hN h2 hP2
theorem kl_case_18 {P : kv_H → Prop} (C : kl_C G p s m c b L xs) (hL : L ≤ 3072) (hi : i + 6 ≤ L) (hop : (∀ (a0 : Int32), kl_Op P (f_X9_run a0) (f_X10_run a0))) (hP : P h) (hN : ∀ h2, P h2 → kl_S G p l e s m below meth c b Q 1464 [some (.ref 2000), some (.ref 0), some (.ref 111), some (.int (nI i))] [] h2) : kl_S G p l e s m below meth c b Q 712 [some (.ref 2000), some (.ref 0), some (.ref 111), some (.int (nI i))] [] h := by
  refine kl_aload C d_L_law_712 rfl ?_
  refine kl_aload C d_L_law_713 rfl ?_
  refine kl_iload C d_L_law_714 rfl ?_
  refine kl_const (v := 1) C d_L_law_715 ?_
  refine kl_iadd C d_L_law_716 ?_
  refine kl_sld C (kl_ix (k := 1) hi (by decide) hL) d_L_law_717 ?_
  obtain ⟨r, h1, h2, e1, e2, hP2⟩ := hop (xs (nI i + 1).toNatClampNeg) h hP
  refine kl_iv_i (As := [.int (xs (nI i + 1).toNatClampNeg)]) C d_L_law_718 cl_L_90 (m_X9_run (xs (nI i + 1).toNatClampNeg) h) e1 sh_0 (Nat.le_of_ble_eq_true rfl) rfl (Nat.le_of_ble_eq_true rfl) ?_
  refine kl_aload C d_L_law_721 rfl ?_
  refine kl_aload C d_L_law_722 rfl ?_
  refine kl_iload C d_L_law_723 rfl ?_
  refine kl_const (v := 1) C d_L_law_724 ?_
  refine kl_iadd C d_L_law_725 ?_
  refine kl_sld C (kl_ix (k := 1) hi (by decide) hL) d_L_law_726 ?_
  refine kl_iv_i (As := [.int (xs (nI i + 1).toNatClampNeg)]) C d_L_law_727 cl_L_93 (m_X10_run (xs (nI i + 1).toNatClampNeg) h1) e2 sh_111 (Nat.le_of_ble_eq_true rfl) rfl (Nat.le_of_ble_eq_true rfl) ?_
  refine kl_eqT C rfl d_L_law_730 ?_
  exact hN h2 hP2
theorem kl_case_19 {P : kv_H → Prop} (C : kl_C G p s m c b L xs) (hL : L ≤ 3072) (hi : i + 6 ≤ L) (hop : (kl_Op P (f_X9_would ) (f_X10_would ))) (hP : P h) (hN : ∀ h2, P h2 → kl_S G p l e s m below meth c b Q 1464 [some (.ref 2000), some (.ref 0), some (.ref 111), some (.int (nI i))] [] h2) : kl_S G p l e s m below meth c b Q 735 [some (.ref 2000), some (.ref 0), some (.ref 111), some (.int (nI i))] [] h := by
  refine kl_aload C d_L_law_735 rfl ?_
  obtain ⟨r, h1, h2, e1, e2, hP2⟩ := hop h hP
  refine kl_iv_i (As := []) C d_L_law_736 cl_L_94 (m_X9_would h) e1 sh_0 (Nat.le_of_ble_eq_true rfl) rfl (Nat.le_of_ble_eq_true rfl) ?_
  refine kl_aload C d_L_law_739 rfl ?_
  refine kl_iv_i (As := []) C d_L_law_740 cl_L_97 (m_X10_would h1) e2 sh_111 (Nat.le_of_ble_eq_true rfl) rfl (Nat.le_of_ble_eq_true rfl) ?_
  refine kl_eqT C rfl d_L_law_743 ?_
  exact hN h2 hP2
theorem kl_case_20 {P : kv_H → Prop} (C : kl_C G p s m c b L xs) (hL : L ≤ 3072) (hi : i + 6 ≤ L) (hop : (∀ (a0 : Int32), kl_Op P (f_X9_least a0) (f_X10_least a0))) (hP : P h) (hN : ∀ h2, P h2 → kl_S G p l e s m below meth c b Q 1464 [some (.ref 2000), some (.ref 0), some (.ref 111), some (.int (nI i))] [] h2) : kl_S G p l e s m below meth c b Q 748 [some (.ref 2000), some (.ref 0), some (.ref 111), some (.int (nI i))] [] h := by
  refine kl_aload C d_L_law_748 rfl ?_
  refine kl_aload C d_L_law_749 rfl ?_
  refine kl_iload C d_L_law_750 rfl ?_
  refine kl_const (v := 1) C d_L_law_751 ?_
  refine kl_iadd C d_L_law_752 ?_
  refine kl_sld C (kl_ix (k := 1) hi (by decide) hL) d_L_law_753 ?_
  obtain ⟨r, h1, h2, e1, e2, hP2⟩ := hop (xs (nI i + 1).toNatClampNeg) h hP
  refine kl_iv_i (As := [.int (xs (nI i + 1).toNatClampNeg)]) C d_L_law_754 cl_L_98 (m_X9_least (xs (nI i + 1).toNatClampNeg) h) e1 sh_0 (Nat.le_of_ble_eq_true rfl) rfl (Nat.le_of_ble_eq_true rfl) ?_
  refine kl_aload C d_L_law_757 rfl ?_
  refine kl_aload C d_L_law_758 rfl ?_
  refine kl_iload C d_L_law_759 rfl ?_
  refine kl_const (v := 1) C d_L_law_760 ?_
  refine kl_iadd C d_L_law_761 ?_
  refine kl_sld C (kl_ix (k := 1) hi (by decide) hL) d_L_law_762 ?_
  refine kl_iv_i (As := [.int (xs (nI i + 1).toNatClampNeg)]) C d_L_law_763 cl_L_101 (m_X10_least (xs (nI i + 1).toNatClampNeg) h1) e2 sh_111 (Nat.le_of_ble_eq_true rfl) rfl (Nat.le_of_ble_eq_true rfl) ?_
  refine kl_eqT C rfl d_L_law_766 ?_
  exact hN h2 hP2
theorem kl_case_21 {P : kv_H → Prop} (C : kl_C G p s m c b L xs) (hL : L ≤ 3072) (hi : i + 6 ≤ L) (hop : (∀ (a0 : Int32), kl_Op P (f_X9_hold a0) (f_X10_hold a0))) (hP : P h) (hN : ∀ h2, P h2 → kl_S G p l e s m below meth c b Q 1464 [some (.ref 2000), some (.ref 0), some (.ref 111), some (.int (nI i))] [] h2) : kl_S G p l e s m below meth c b Q 771 [some (.ref 2000), some (.ref 0), some (.ref 111), some (.int (nI i))] [] h := by
  refine kl_aload C d_L_law_771 rfl ?_
  refine kl_aload C d_L_law_772 rfl ?_
  refine kl_iload C d_L_law_773 rfl ?_
  refine kl_const (v := 1) C d_L_law_774 ?_
  refine kl_iadd C d_L_law_775 ?_
  refine kl_sld C (kl_ix (k := 1) hi (by decide) hL) d_L_law_776 ?_
  obtain ⟨r, h1, h2, e1, e2, hP2⟩ := hop (xs (nI i + 1).toNatClampNeg) h hP
  refine kl_iv_i (As := [.int (xs (nI i + 1).toNatClampNeg)]) C d_L_law_777 cl_L_102 (m_X9_hold (xs (nI i + 1).toNatClampNeg) h) e1 sh_0 (Nat.le_of_ble_eq_true rfl) rfl (Nat.le_of_ble_eq_true rfl) ?_
  refine kl_aload C d_L_law_780 rfl ?_
  refine kl_aload C d_L_law_781 rfl ?_
  refine kl_iload C d_L_law_782 rfl ?_
  refine kl_const (v := 1) C d_L_law_783 ?_
  refine kl_iadd C d_L_law_784 ?_
  refine kl_sld C (kl_ix (k := 1) hi (by decide) hL) d_L_law_785 ?_
  refine kl_iv_i (As := [.int (xs (nI i + 1).toNatClampNeg)]) C d_L_law_786 cl_L_105 (m_X10_hold (xs (nI i + 1).toNatClampNeg) h1) e2 sh_111 (Nat.le_of_ble_eq_true rfl) rfl (Nat.le_of_ble_eq_true rfl) ?_
  refine kl_eqT C rfl d_L_law_789 ?_
  exact hN h2 hP2
theorem kl_case_22 {P : kv_H → Prop} (C : kl_C G p s m c b L xs) (hL : L ≤ 3072) (hi : i + 6 ≤ L) (hop : (∀ (a0 : Int32), kl_Op P (f_X9_best a0) (f_X10_best a0))) (hP : P h) (hN : ∀ h2, P h2 → kl_S G p l e s m below meth c b Q 1464 [some (.ref 2000), some (.ref 0), some (.ref 111), some (.int (nI i))] [] h2) : kl_S G p l e s m below meth c b Q 794 [some (.ref 2000), some (.ref 0), some (.ref 111), some (.int (nI i))] [] h := by
  refine kl_aload C d_L_law_794 rfl ?_
  refine kl_aload C d_L_law_795 rfl ?_
  refine kl_iload C d_L_law_796 rfl ?_
  refine kl_const (v := 1) C d_L_law_797 ?_
  refine kl_iadd C d_L_law_798 ?_
  refine kl_sld C (kl_ix (k := 1) hi (by decide) hL) d_L_law_799 ?_
  obtain ⟨r, h1, h2, e1, e2, hP2⟩ := hop (xs (nI i + 1).toNatClampNeg) h hP
  refine kl_iv_i (As := [.int (xs (nI i + 1).toNatClampNeg)]) C d_L_law_800 cl_L_106 (m_X9_best (xs (nI i + 1).toNatClampNeg) h) e1 sh_0 (Nat.le_of_ble_eq_true rfl) rfl (Nat.le_of_ble_eq_true rfl) ?_
  refine kl_aload C d_L_law_803 rfl ?_
  refine kl_aload C d_L_law_804 rfl ?_
  refine kl_iload C d_L_law_805 rfl ?_
  refine kl_const (v := 1) C d_L_law_806 ?_
  refine kl_iadd C d_L_law_807 ?_
  refine kl_sld C (kl_ix (k := 1) hi (by decide) hL) d_L_law_808 ?_
  refine kl_iv_i (As := [.int (xs (nI i + 1).toNatClampNeg)]) C d_L_law_809 cl_L_109 (m_X10_best (xs (nI i + 1).toNatClampNeg) h1) e2 sh_111 (Nat.le_of_ble_eq_true rfl) rfl (Nat.le_of_ble_eq_true rfl) ?_
  refine kl_eqT C rfl d_L_law_812 ?_
  exact hN h2 hP2
theorem kl_case_23 {P : kv_H → Prop} (C : kl_C G p s m c b L xs) (hL : L ≤ 3072) (hi : i + 6 ≤ L) (hop : (∀ (a0 : Int32), kl_Op P (f_X9_price a0) (f_X10_price a0))) (hP : P h) (hN : ∀ h2, P h2 → kl_S G p l e s m below meth c b Q 1464 [some (.ref 2000), some (.ref 0), some (.ref 111), some (.int (nI i))] [] h2) : kl_S G p l e s m below meth c b Q 817 [some (.ref 2000), some (.ref 0), some (.ref 111), some (.int (nI i))] [] h := by
  refine kl_aload C d_L_law_817 rfl ?_
  refine kl_aload C d_L_law_818 rfl ?_
  refine kl_iload C d_L_law_819 rfl ?_
  refine kl_const (v := 1) C d_L_law_820 ?_
  refine kl_iadd C d_L_law_821 ?_
  refine kl_sld C (kl_ix (k := 1) hi (by decide) hL) d_L_law_822 ?_
  obtain ⟨r, h1, h2, e1, e2, hP2⟩ := hop (xs (nI i + 1).toNatClampNeg) h hP
  refine kl_iv_i (As := [.int (xs (nI i + 1).toNatClampNeg)]) C d_L_law_823 cl_L_110 (m_X9_price (xs (nI i + 1).toNatClampNeg) h) e1 sh_0 (Nat.le_of_ble_eq_true rfl) rfl (Nat.le_of_ble_eq_true rfl) ?_
  refine kl_aload C d_L_law_826 rfl ?_
  refine kl_aload C d_L_law_827 rfl ?_
  refine kl_iload C d_L_law_828 rfl ?_
  refine kl_const (v := 1) C d_L_law_829 ?_
  refine kl_iadd C d_L_law_830 ?_
  refine kl_sld C (kl_ix (k := 1) hi (by decide) hL) d_L_law_831 ?_
  refine kl_iv_i (As := [.int (xs (nI i + 1).toNatClampNeg)]) C d_L_law_832 cl_L_113 (m_X10_price (xs (nI i + 1).toNatClampNeg) h1) e2 sh_111 (Nat.le_of_ble_eq_true rfl) rfl (Nat.le_of_ble_eq_true rfl) ?_
  refine kl_eqT C rfl d_L_law_835 ?_
  exact hN h2 hP2
theorem kl_case_24 {P : kv_H → Prop} (C : kl_C G p s m c b L xs) (hL : L ≤ 3072) (hi : i + 6 ≤ L) (hop : (∀ (a0 : Int32), kl_Op P (f_X9_means a0) (f_X10_means a0))) (hP : P h) (hN : ∀ h2, P h2 → kl_S G p l e s m below meth c b Q 1464 [some (.ref 2000), some (.ref 0), some (.ref 111), some (.int (nI i))] [] h2) : kl_S G p l e s m below meth c b Q 840 [some (.ref 2000), some (.ref 0), some (.ref 111), some (.int (nI i))] [] h := by
  refine kl_aload C d_L_law_840 rfl ?_
  refine kl_aload C d_L_law_841 rfl ?_
  refine kl_iload C d_L_law_842 rfl ?_
  refine kl_const (v := 1) C d_L_law_843 ?_
  refine kl_iadd C d_L_law_844 ?_
  refine kl_sld C (kl_ix (k := 1) hi (by decide) hL) d_L_law_845 ?_
  obtain ⟨r, h1, h2, e1, e2, hP2⟩ := hop (xs (nI i + 1).toNatClampNeg) h hP
  refine kl_iv_l (As := [.int (xs (nI i + 1).toNatClampNeg)]) C d_L_law_846 cl_L_114 (m_X9_means (xs (nI i + 1).toNatClampNeg) h) e1 sh_0 (Nat.le_of_ble_eq_true rfl) rfl (Nat.le_of_ble_eq_true rfl) ?_
  refine kl_aload C d_L_law_849 rfl ?_
  refine kl_aload C d_L_law_850 rfl ?_
  refine kl_iload C d_L_law_851 rfl ?_
  refine kl_const (v := 1) C d_L_law_852 ?_
  refine kl_iadd C d_L_law_853 ?_
  refine kl_sld C (kl_ix (k := 1) hi (by decide) hL) d_L_law_854 ?_
  refine kl_iv_l (As := [.int (xs (nI i + 1).toNatClampNeg)]) C d_L_law_855 cl_L_118 (m_X10_means (xs (nI i + 1).toNatClampNeg) h1) e2 sh_111 (Nat.le_of_ble_eq_true rfl) rfl (Nat.le_of_ble_eq_true rfl) ?_
  refine kl_lcmp C d_L_law_858 ?_
  refine kl_if0T C (kl_cmp0 r) d_L_law_859 ?_
  exact hN h2 hP2
theorem kl_case_25 {P : kv_H → Prop} (C : kl_C G p s m c b L xs) (hL : L ≤ 3072) (hi : i + 6 ≤ L) (hop : (∀ (a0 a1 : Int32), kl_Op P (f_X9_gap a0 a1) (f_X10_gap a0 a1))) (hP : P h) (hN : ∀ h2, P h2 → kl_S G p l e s m below meth c b Q 1464 [some (.ref 2000), some (.ref 0), some (.ref 111), some (.int (nI i))] [] h2) : kl_S G p l e s m below meth c b Q 864 [some (.ref 2000), some (.ref 0), some (.ref 111), some (.int (nI i))] [] h := by
  refine kl_aload C d_L_law_864 rfl ?_
  refine kl_aload C d_L_law_865 rfl ?_
  refine kl_iload C d_L_law_866 rfl ?_
  refine kl_const (v := 1) C d_L_law_867 ?_
  refine kl_iadd C d_L_law_868 ?_
  refine kl_sld C (kl_ix (k := 1) hi (by decide) hL) d_L_law_869 ?_
  refine kl_aload C d_L_law_870 rfl ?_
  refine kl_iload C d_L_law_871 rfl ?_
  refine kl_const (v := 2) C d_L_law_872 ?_
  refine kl_iadd C d_L_law_873 ?_
  refine kl_sld C (kl_ix (k := 2) hi (by decide) hL) d_L_law_874 ?_
  obtain ⟨r, h1, h2, e1, e2, hP2⟩ := hop (xs (nI i + 1).toNatClampNeg) (xs (nI i + 2).toNatClampNeg) h hP
  refine kl_iv_i (As := [.int (xs (nI i + 1).toNatClampNeg), .int (xs (nI i + 2).toNatClampNeg)]) C d_L_law_875 cl_L_119 (m_X9_gap (xs (nI i + 1).toNatClampNeg) (xs (nI i + 2).toNatClampNeg) h) e1 sh_0 (Nat.le_of_ble_eq_true rfl) rfl (Nat.le_of_ble_eq_true rfl) ?_
  refine kl_aload C d_L_law_878 rfl ?_
  refine kl_aload C d_L_law_879 rfl ?_
  refine kl_iload C d_L_law_880 rfl ?_
  refine kl_const (v := 1) C d_L_law_881 ?_
  refine kl_iadd C d_L_law_882 ?_
  refine kl_sld C (kl_ix (k := 1) hi (by decide) hL) d_L_law_883 ?_
  refine kl_aload C d_L_law_884 rfl ?_
  refine kl_iload C d_L_law_885 rfl ?_
  refine kl_const (v := 2) C d_L_law_886 ?_
  refine kl_iadd C d_L_law_887 ?_
  refine kl_sld C (kl_ix (k := 2) hi (by decide) hL) d_L_law_888 ?_
  refine kl_iv_i (As := [.int (xs (nI i + 1).toNatClampNeg), .int (xs (nI i + 2).toNatClampNeg)]) C d_L_law_889 cl_L_122 (m_X10_gap (xs (nI i + 1).toNatClampNeg) (xs (nI i + 2).toNatClampNeg) h1) e2 sh_111 (Nat.le_of_ble_eq_true rfl) rfl (Nat.le_of_ble_eq_true rfl) ?_
  refine kl_eqT C rfl d_L_law_892 ?_
  exact hN h2 hP2
theorem kl_case_26 {P : kv_H → Prop} (C : kl_C G p s m c b L xs) (hL : L ≤ 3072) (hi : i + 6 ≤ L) (hop : (∀ (a0 a1 a2 : Int32), kl_Op P (f_X9_feed a0 a1 a2) (f_X10_feed a0 a1 a2))) (hP : P h) (hN : ∀ h2, P h2 → kl_S G p l e s m below meth c b Q 1464 [some (.ref 2000), some (.ref 0), some (.ref 111), some (.int (nI i))] [] h2) : kl_S G p l e s m below meth c b Q 897 [some (.ref 2000), some (.ref 0), some (.ref 111), some (.int (nI i))] [] h := by
  refine kl_aload C d_L_law_897 rfl ?_
  refine kl_aload C d_L_law_898 rfl ?_
  refine kl_iload C d_L_law_899 rfl ?_
  refine kl_const (v := 1) C d_L_law_900 ?_
  refine kl_iadd C d_L_law_901 ?_
  refine kl_sld C (kl_ix (k := 1) hi (by decide) hL) d_L_law_902 ?_
  refine kl_aload C d_L_law_903 rfl ?_
  refine kl_iload C d_L_law_904 rfl ?_
  refine kl_const (v := 2) C d_L_law_905 ?_
  refine kl_iadd C d_L_law_906 ?_
  refine kl_sld C (kl_ix (k := 2) hi (by decide) hL) d_L_law_907 ?_
  refine kl_aload C d_L_law_908 rfl ?_
  refine kl_iload C d_L_law_909 rfl ?_
  refine kl_const (v := 3) C d_L_law_910 ?_
  refine kl_iadd C d_L_law_911 ?_
  refine kl_sld C (kl_ix (k := 3) hi (by decide) hL) d_L_law_912 ?_
  obtain ⟨r, h1, h2, e1, e2, hP2⟩ := hop (xs (nI i + 1).toNatClampNeg) (xs (nI i + 2).toNatClampNeg) (xs (nI i + 3).toNatClampNeg) h hP
  refine kl_iv_i (As := [.int (xs (nI i + 1).toNatClampNeg), .int (xs (nI i + 2).toNatClampNeg), .int (xs (nI i + 3).toNatClampNeg)]) C d_L_law_913 cl_L_123 (m_X9_feed (xs (nI i + 1).toNatClampNeg) (xs (nI i + 2).toNatClampNeg) (xs (nI i + 3).toNatClampNeg) h) e1 sh_0 (Nat.le_of_ble_eq_true rfl) rfl (Nat.le_of_ble_eq_true rfl) ?_
  refine kl_aload C d_L_law_916 rfl ?_
  refine kl_aload C d_L_law_917 rfl ?_
  refine kl_iload C d_L_law_918 rfl ?_
  refine kl_const (v := 1) C d_L_law_919 ?_
  refine kl_iadd C d_L_law_920 ?_
  refine kl_sld C (kl_ix (k := 1) hi (by decide) hL) d_L_law_921 ?_
  refine kl_aload C d_L_law_922 rfl ?_
  refine kl_iload C d_L_law_923 rfl ?_
  refine kl_const (v := 2) C d_L_law_924 ?_
  refine kl_iadd C d_L_law_925 ?_
  refine kl_sld C (kl_ix (k := 2) hi (by decide) hL) d_L_law_926 ?_
  refine kl_aload C d_L_law_927 rfl ?_
  refine kl_iload C d_L_law_928 rfl ?_
  refine kl_const (v := 3) C d_L_law_929 ?_
  refine kl_iadd C d_L_law_930 ?_
  refine kl_sld C (kl_ix (k := 3) hi (by decide) hL) d_L_law_931 ?_
  refine kl_iv_i (As := [.int (xs (nI i + 1).toNatClampNeg), .int (xs (nI i + 2).toNatClampNeg), .int (xs (nI i + 3).toNatClampNeg)]) C d_L_law_932 cl_L_126 (m_X10_feed (xs (nI i + 1).toNatClampNeg) (xs (nI i + 2).toNatClampNeg) (xs (nI i + 3).toNatClampNeg) h1) e2 sh_111 (Nat.le_of_ble_eq_true rfl) rfl (Nat.le_of_ble_eq_true rfl) ?_
  refine kl_eqT C rfl d_L_law_935 ?_
  exact hN h2 hP2
theorem kl_case_27 {P : kv_H → Prop} (C : kl_C G p s m c b L xs) (hL : L ≤ 3072) (hi : i + 6 ≤ L) (hop : (∀ (a0 : Int32), kl_Op P (f_X9_trim a0) (f_X10_trim a0))) (hP : P h) (hN : ∀ h2, P h2 → kl_S G p l e s m below meth c b Q 1464 [some (.ref 2000), some (.ref 0), some (.ref 111), some (.int (nI i))] [] h2) : kl_S G p l e s m below meth c b Q 940 [some (.ref 2000), some (.ref 0), some (.ref 111), some (.int (nI i))] [] h := by
  refine kl_aload C d_L_law_940 rfl ?_
  refine kl_aload C d_L_law_941 rfl ?_
  refine kl_iload C d_L_law_942 rfl ?_
  refine kl_const (v := 1) C d_L_law_943 ?_
  refine kl_iadd C d_L_law_944 ?_
  refine kl_sld C (kl_ix (k := 1) hi (by decide) hL) d_L_law_945 ?_
  obtain ⟨r, h1, h2, e1, e2, hP2⟩ := hop (xs (nI i + 1).toNatClampNeg) h hP
  refine kl_iv_i (As := [.int (xs (nI i + 1).toNatClampNeg)]) C d_L_law_946 cl_L_127 (m_X9_trim (xs (nI i + 1).toNatClampNeg) h) e1 sh_0 (Nat.le_of_ble_eq_true rfl) rfl (Nat.le_of_ble_eq_true rfl) ?_
  refine kl_aload C d_L_law_949 rfl ?_
  refine kl_aload C d_L_law_950 rfl ?_
  refine kl_iload C d_L_law_951 rfl ?_
  refine kl_const (v := 1) C d_L_law_952 ?_
  refine kl_iadd C d_L_law_953 ?_
  refine kl_sld C (kl_ix (k := 1) hi (by decide) hL) d_L_law_954 ?_
  refine kl_iv_i (As := [.int (xs (nI i + 1).toNatClampNeg)]) C d_L_law_955 cl_L_130 (m_X10_trim (xs (nI i + 1).toNatClampNeg) h1) e2 sh_111 (Nat.le_of_ble_eq_true rfl) rfl (Nat.le_of_ble_eq_true rfl) ?_
  refine kl_eqT C rfl d_L_law_958 ?_
  exact hN h2 hP2
theorem kl_case_28 {P : kv_H → Prop} (C : kl_C G p s m c b L xs) (hL : L ≤ 3072) (hi : i + 6 ≤ L) (hop : (kl_Op P (f_X9_text ) (f_X10_text ))) (hP : P h) (hN : ∀ h2, P h2 → kl_S G p l e s m below meth c b Q 1464 [some (.ref 2000), some (.ref 0), some (.ref 111), some (.int (nI i))] [] h2) : kl_S G p l e s m below meth c b Q 963 [some (.ref 2000), some (.ref 0), some (.ref 111), some (.int (nI i))] [] h := by
  refine kl_aload C d_L_law_963 rfl ?_
  obtain ⟨r, h1, h2, e1, e2, hP2⟩ := hop h hP
  refine kl_iv_i (As := []) C d_L_law_964 cl_L_131 (m_X9_text h) e1 sh_0 (Nat.le_of_ble_eq_true rfl) rfl (Nat.le_of_ble_eq_true rfl) ?_
  refine kl_aload C d_L_law_967 rfl ?_
  refine kl_iv_i (As := []) C d_L_law_968 cl_L_134 (m_X10_text h1) e2 sh_111 (Nat.le_of_ble_eq_true rfl) rfl (Nat.le_of_ble_eq_true rfl) ?_
  refine kl_eqT C rfl d_L_law_971 ?_
  exact hN h2 hP2
theorem kl_case_29 {P : kv_H → Prop} (C : kl_C G p s m c b L xs) (hL : L ≤ 3072) (hi : i + 6 ≤ L) (hop : (∀ (a0 a1 : Int32), kl_Op P (f_X9_textTold a0 a1) (f_X10_textTold a0 a1))) (hP : P h) (hN : ∀ h2, P h2 → kl_S G p l e s m below meth c b Q 1464 [some (.ref 2000), some (.ref 0), some (.ref 111), some (.int (nI i))] [] h2) : kl_S G p l e s m below meth c b Q 976 [some (.ref 2000), some (.ref 0), some (.ref 111), some (.int (nI i))] [] h := by
  refine kl_aload C d_L_law_976 rfl ?_
  refine kl_aload C d_L_law_977 rfl ?_
  refine kl_iload C d_L_law_978 rfl ?_
  refine kl_const (v := 1) C d_L_law_979 ?_
  refine kl_iadd C d_L_law_980 ?_
  refine kl_sld C (kl_ix (k := 1) hi (by decide) hL) d_L_law_981 ?_
  refine kl_aload C d_L_law_982 rfl ?_
  refine kl_iload C d_L_law_983 rfl ?_
  refine kl_const (v := 2) C d_L_law_984 ?_
  refine kl_iadd C d_L_law_985 ?_
  refine kl_sld C (kl_ix (k := 2) hi (by decide) hL) d_L_law_986 ?_
  obtain ⟨r, h1, h2, e1, e2, hP2⟩ := hop (xs (nI i + 1).toNatClampNeg) (xs (nI i + 2).toNatClampNeg) h hP
  refine kl_iv_i (As := [.int (xs (nI i + 1).toNatClampNeg), .int (xs (nI i + 2).toNatClampNeg)]) C d_L_law_987 cl_L_135 (m_X9_textTold (xs (nI i + 1).toNatClampNeg) (xs (nI i + 2).toNatClampNeg) h) e1 sh_0 (Nat.le_of_ble_eq_true rfl) rfl (Nat.le_of_ble_eq_true rfl) ?_
  refine kl_aload C d_L_law_990 rfl ?_
  refine kl_aload C d_L_law_991 rfl ?_
  refine kl_iload C d_L_law_992 rfl ?_
  refine kl_const (v := 1) C d_L_law_993 ?_
  refine kl_iadd C d_L_law_994 ?_
  refine kl_sld C (kl_ix (k := 1) hi (by decide) hL) d_L_law_995 ?_
  refine kl_aload C d_L_law_996 rfl ?_
  refine kl_iload C d_L_law_997 rfl ?_
  refine kl_const (v := 2) C d_L_law_998 ?_
  refine kl_iadd C d_L_law_999 ?_
  refine kl_sld C (kl_ix (k := 2) hi (by decide) hL) d_L_law_1000 ?_
  refine kl_iv_i (As := [.int (xs (nI i + 1).toNatClampNeg), .int (xs (nI i + 2).toNatClampNeg)]) C d_L_law_1001 cl_L_138 (m_X10_textTold (xs (nI i + 1).toNatClampNeg) (xs (nI i + 2).toNatClampNeg) h1) e2 sh_111 (Nat.le_of_ble_eq_true rfl) rfl (Nat.le_of_ble_eq_true rfl) ?_
  refine kl_eqT C rfl d_L_law_1004 ?_
  exact hN h2 hP2
theorem kl_case_30 {P : kv_H → Prop} (C : kl_C G p s m c b L xs) (hL : L ≤ 3072) (hi : i + 6 ≤ L) (hop : (∀ (a0 : Int32), kl_Op P (f_X9_why a0) (f_X10_why a0))) (hP : P h) (hN : ∀ h2, P h2 → kl_S G p l e s m below meth c b Q 1464 [some (.ref 2000), some (.ref 0), some (.ref 111), some (.int (nI i))] [] h2) : kl_S G p l e s m below meth c b Q 1009 [some (.ref 2000), some (.ref 0), some (.ref 111), some (.int (nI i))] [] h := by
  refine kl_aload C d_L_law_1009 rfl ?_
  refine kl_aload C d_L_law_1010 rfl ?_
  refine kl_iload C d_L_law_1011 rfl ?_
  refine kl_const (v := 1) C d_L_law_1012 ?_
  refine kl_iadd C d_L_law_1013 ?_
  refine kl_sld C (kl_ix (k := 1) hi (by decide) hL) d_L_law_1014 ?_
  obtain ⟨r, h1, h2, e1, e2, hP2⟩ := hop (xs (nI i + 1).toNatClampNeg) h hP
  refine kl_iv_i (As := [.int (xs (nI i + 1).toNatClampNeg)]) C d_L_law_1015 cl_L_139 (m_X9_why (xs (nI i + 1).toNatClampNeg) h) e1 sh_0 (Nat.le_of_ble_eq_true rfl) rfl (Nat.le_of_ble_eq_true rfl) ?_
  refine kl_aload C d_L_law_1018 rfl ?_
  refine kl_aload C d_L_law_1019 rfl ?_
  refine kl_iload C d_L_law_1020 rfl ?_
  refine kl_const (v := 1) C d_L_law_1021 ?_
  refine kl_iadd C d_L_law_1022 ?_
  refine kl_sld C (kl_ix (k := 1) hi (by decide) hL) d_L_law_1023 ?_
  refine kl_iv_i (As := [.int (xs (nI i + 1).toNatClampNeg)]) C d_L_law_1024 cl_L_142 (m_X10_why (xs (nI i + 1).toNatClampNeg) h1) e2 sh_111 (Nat.le_of_ble_eq_true rfl) rfl (Nat.le_of_ble_eq_true rfl) ?_
  refine kl_eqT C rfl d_L_law_1027 ?_
  exact hN h2 hP2
theorem kl_case_31 {P : kv_H → Prop} (C : kl_C G p s m c b L xs) (hL : L ≤ 3072) (hi : i + 6 ≤ L) (hop : (∀ (a0 a1 a2 : Int32), kl_Op P (f_X9_sheet a0 a1 a2) (f_X10_sheet a0 a1 a2))) (hP : P h) (hN : ∀ h2, P h2 → kl_S G p l e s m below meth c b Q 1464 [some (.ref 2000), some (.ref 0), some (.ref 111), some (.int (nI i))] [] h2) : kl_S G p l e s m below meth c b Q 1032 [some (.ref 2000), some (.ref 0), some (.ref 111), some (.int (nI i))] [] h := by
  refine kl_aload C d_L_law_1032 rfl ?_
  refine kl_aload C d_L_law_1033 rfl ?_
  refine kl_iload C d_L_law_1034 rfl ?_
  refine kl_const (v := 1) C d_L_law_1035 ?_
  refine kl_iadd C d_L_law_1036 ?_
  refine kl_sld C (kl_ix (k := 1) hi (by decide) hL) d_L_law_1037 ?_
  refine kl_aload C d_L_law_1038 rfl ?_
  refine kl_iload C d_L_law_1039 rfl ?_
  refine kl_const (v := 2) C d_L_law_1040 ?_
  refine kl_iadd C d_L_law_1041 ?_
  refine kl_sld C (kl_ix (k := 2) hi (by decide) hL) d_L_law_1042 ?_
  refine kl_aload C d_L_law_1043 rfl ?_
  refine kl_iload C d_L_law_1044 rfl ?_
  refine kl_const (v := 3) C d_L_law_1045 ?_
  refine kl_iadd C d_L_law_1046 ?_
  refine kl_sld C (kl_ix (k := 3) hi (by decide) hL) d_L_law_1047 ?_
  obtain ⟨r, h1, h2, e1, e2, hP2⟩ := hop (xs (nI i + 1).toNatClampNeg) (xs (nI i + 2).toNatClampNeg) (xs (nI i + 3).toNatClampNeg) h hP
  refine kl_iv_i (As := [.int (xs (nI i + 1).toNatClampNeg), .int (xs (nI i + 2).toNatClampNeg), .int (xs (nI i + 3).toNatClampNeg)]) C d_L_law_1048 cl_L_143 (m_X9_sheet (xs (nI i + 1).toNatClampNeg) (xs (nI i + 2).toNatClampNeg) (xs (nI i + 3).toNatClampNeg) h) e1 sh_0 (Nat.le_of_ble_eq_true rfl) rfl (Nat.le_of_ble_eq_true rfl) ?_
  refine kl_aload C d_L_law_1051 rfl ?_
  refine kl_aload C d_L_law_1052 rfl ?_
  refine kl_iload C d_L_law_1053 rfl ?_
  refine kl_const (v := 1) C d_L_law_1054 ?_
  refine kl_iadd C d_L_law_1055 ?_
  refine kl_sld C (kl_ix (k := 1) hi (by decide) hL) d_L_law_1056 ?_
  refine kl_aload C d_L_law_1057 rfl ?_
  refine kl_iload C d_L_law_1058 rfl ?_
  refine kl_const (v := 2) C d_L_law_1059 ?_
  refine kl_iadd C d_L_law_1060 ?_
  refine kl_sld C (kl_ix (k := 2) hi (by decide) hL) d_L_law_1061 ?_
  refine kl_aload C d_L_law_1062 rfl ?_
  refine kl_iload C d_L_law_1063 rfl ?_
  refine kl_const (v := 3) C d_L_law_1064 ?_
  refine kl_iadd C d_L_law_1065 ?_
  refine kl_sld C (kl_ix (k := 3) hi (by decide) hL) d_L_law_1066 ?_
  refine kl_iv_i (As := [.int (xs (nI i + 1).toNatClampNeg), .int (xs (nI i + 2).toNatClampNeg), .int (xs (nI i + 3).toNatClampNeg)]) C d_L_law_1067 cl_L_146 (m_X10_sheet (xs (nI i + 1).toNatClampNeg) (xs (nI i + 2).toNatClampNeg) (xs (nI i + 3).toNatClampNeg) h1) e2 sh_111 (Nat.le_of_ble_eq_true rfl) rfl (Nat.le_of_ble_eq_true rfl) ?_
  refine kl_eqT C rfl d_L_law_1070 ?_
  exact hN h2 hP2
theorem kl_case_32 {P : kv_H → Prop} (C : kl_C G p s m c b L xs) (hL : L ≤ 3072) (hi : i + 6 ≤ L) (hop : (∀ (a0 a1 a2 : Int32), kl_Op P (f_X9_mark a0 a1 a2) (f_X10_mark a0 a1 a2))) (hP : P h) (hN : ∀ h2, P h2 → kl_S G p l e s m below meth c b Q 1464 [some (.ref 2000), some (.ref 0), some (.ref 111), some (.int (nI i))] [] h2) : kl_S G p l e s m below meth c b Q 1075 [some (.ref 2000), some (.ref 0), some (.ref 111), some (.int (nI i))] [] h := by
  refine kl_aload C d_L_law_1075 rfl ?_
  refine kl_aload C d_L_law_1076 rfl ?_
  refine kl_iload C d_L_law_1077 rfl ?_
  refine kl_const (v := 1) C d_L_law_1078 ?_
  refine kl_iadd C d_L_law_1079 ?_
  refine kl_sld C (kl_ix (k := 1) hi (by decide) hL) d_L_law_1080 ?_
  refine kl_aload C d_L_law_1081 rfl ?_
  refine kl_iload C d_L_law_1082 rfl ?_
  refine kl_const (v := 2) C d_L_law_1083 ?_
  refine kl_iadd C d_L_law_1084 ?_
  refine kl_sld C (kl_ix (k := 2) hi (by decide) hL) d_L_law_1085 ?_
  refine kl_aload C d_L_law_1086 rfl ?_
  refine kl_iload C d_L_law_1087 rfl ?_
  refine kl_const (v := 3) C d_L_law_1088 ?_
  refine kl_iadd C d_L_law_1089 ?_
  refine kl_sld C (kl_ix (k := 3) hi (by decide) hL) d_L_law_1090 ?_
  obtain ⟨r, h1, h2, e1, e2, hP2⟩ := hop (xs (nI i + 1).toNatClampNeg) (xs (nI i + 2).toNatClampNeg) (xs (nI i + 3).toNatClampNeg) h hP
  refine kl_iv_i (As := [.int (xs (nI i + 1).toNatClampNeg), .int (xs (nI i + 2).toNatClampNeg), .int (xs (nI i + 3).toNatClampNeg)]) C d_L_law_1091 cl_L_147 (m_X9_mark (xs (nI i + 1).toNatClampNeg) (xs (nI i + 2).toNatClampNeg) (xs (nI i + 3).toNatClampNeg) h) e1 sh_0 (Nat.le_of_ble_eq_true rfl) rfl (Nat.le_of_ble_eq_true rfl) ?_
  refine kl_aload C d_L_law_1094 rfl ?_
  refine kl_aload C d_L_law_1095 rfl ?_
  refine kl_iload C d_L_law_1096 rfl ?_
  refine kl_const (v := 1) C d_L_law_1097 ?_
  refine kl_iadd C d_L_law_1098 ?_
  refine kl_sld C (kl_ix (k := 1) hi (by decide) hL) d_L_law_1099 ?_
  refine kl_aload C d_L_law_1100 rfl ?_
  refine kl_iload C d_L_law_1101 rfl ?_
  refine kl_const (v := 2) C d_L_law_1102 ?_
  refine kl_iadd C d_L_law_1103 ?_
  refine kl_sld C (kl_ix (k := 2) hi (by decide) hL) d_L_law_1104 ?_
  refine kl_aload C d_L_law_1105 rfl ?_
  refine kl_iload C d_L_law_1106 rfl ?_
  refine kl_const (v := 3) C d_L_law_1107 ?_
  refine kl_iadd C d_L_law_1108 ?_
  refine kl_sld C (kl_ix (k := 3) hi (by decide) hL) d_L_law_1109 ?_
  refine kl_iv_i (As := [.int (xs (nI i + 1).toNatClampNeg), .int (xs (nI i + 2).toNatClampNeg), .int (xs (nI i + 3).toNatClampNeg)]) C d_L_law_1110 cl_L_150 (m_X10_mark (xs (nI i + 1).toNatClampNeg) (xs (nI i + 2).toNatClampNeg) (xs (nI i + 3).toNatClampNeg) h1) e2 sh_111 (Nat.le_of_ble_eq_true rfl) rfl (Nat.le_of_ble_eq_true rfl) ?_
  refine kl_eqT C rfl d_L_law_1113 ?_
  exact hN h2 hP2
theorem kl_case_33 {P : kv_H → Prop} (C : kl_C G p s m c b L xs) (hL : L ≤ 3072) (hi : i + 6 ≤ L) (hop : (∀ (a0 : Int32), kl_Op P (f_X9_pour a0) (f_X10_pour a0))) (hP : P h) (hN : ∀ h2, P h2 → kl_S G p l e s m below meth c b Q 1464 [some (.ref 2000), some (.ref 0), some (.ref 111), some (.int (nI i))] [] h2) : kl_S G p l e s m below meth c b Q 1118 [some (.ref 2000), some (.ref 0), some (.ref 111), some (.int (nI i))] [] h := by
  refine kl_aload C d_L_law_1118 rfl ?_
  refine kl_aload C d_L_law_1119 rfl ?_
  refine kl_iload C d_L_law_1120 rfl ?_
  refine kl_const (v := 1) C d_L_law_1121 ?_
  refine kl_iadd C d_L_law_1122 ?_
  refine kl_sld C (kl_ix (k := 1) hi (by decide) hL) d_L_law_1123 ?_
  obtain ⟨r, h1, h2, e1, e2, hP2⟩ := hop (xs (nI i + 1).toNatClampNeg) h hP
  refine kl_iv_i (As := [.int (xs (nI i + 1).toNatClampNeg)]) C d_L_law_1124 cl_L_151 (m_X9_pour (xs (nI i + 1).toNatClampNeg) h) e1 sh_0 (Nat.le_of_ble_eq_true rfl) rfl (Nat.le_of_ble_eq_true rfl) ?_
  refine kl_aload C d_L_law_1127 rfl ?_
  refine kl_aload C d_L_law_1128 rfl ?_
  refine kl_iload C d_L_law_1129 rfl ?_
  refine kl_const (v := 1) C d_L_law_1130 ?_
  refine kl_iadd C d_L_law_1131 ?_
  refine kl_sld C (kl_ix (k := 1) hi (by decide) hL) d_L_law_1132 ?_
  refine kl_iv_i (As := [.int (xs (nI i + 1).toNatClampNeg)]) C d_L_law_1133 cl_L_154 (m_X10_pour (xs (nI i + 1).toNatClampNeg) h1) e2 sh_111 (Nat.le_of_ble_eq_true rfl) rfl (Nat.le_of_ble_eq_true rfl) ?_
  refine kl_eqT C rfl d_L_law_1136 ?_
  exact hN h2 hP2
theorem kl_case_34 {P : kv_H → Prop} (C : kl_C G p s m c b L xs) (hL : L ≤ 3072) (hi : i + 6 ≤ L) (hop : (∀ (a0 : Int32), kl_Op P (f_X9_reads a0) (f_X10_reads a0))) (hP : P h) (hN : ∀ h2, P h2 → kl_S G p l e s m below meth c b Q 1464 [some (.ref 2000), some (.ref 0), some (.ref 111), some (.int (nI i))] [] h2) : kl_S G p l e s m below meth c b Q 1141 [some (.ref 2000), some (.ref 0), some (.ref 111), some (.int (nI i))] [] h := by
  refine kl_aload C d_L_law_1141 rfl ?_
  refine kl_aload C d_L_law_1142 rfl ?_
  refine kl_iload C d_L_law_1143 rfl ?_
  refine kl_const (v := 1) C d_L_law_1144 ?_
  refine kl_iadd C d_L_law_1145 ?_
  refine kl_sld C (kl_ix (k := 1) hi (by decide) hL) d_L_law_1146 ?_
  obtain ⟨r, h1, h2, e1, e2, hP2⟩ := hop (xs (nI i + 1).toNatClampNeg) h hP
  refine kl_iv_i (As := [.int (xs (nI i + 1).toNatClampNeg)]) C d_L_law_1147 cl_L_155 (m_X9_reads (xs (nI i + 1).toNatClampNeg) h) e1 sh_0 (Nat.le_of_ble_eq_true rfl) rfl (Nat.le_of_ble_eq_true rfl) ?_
  refine kl_aload C d_L_law_1150 rfl ?_
  refine kl_aload C d_L_law_1151 rfl ?_
  refine kl_iload C d_L_law_1152 rfl ?_
  refine kl_const (v := 1) C d_L_law_1153 ?_
  refine kl_iadd C d_L_law_1154 ?_
  refine kl_sld C (kl_ix (k := 1) hi (by decide) hL) d_L_law_1155 ?_
  refine kl_iv_i (As := [.int (xs (nI i + 1).toNatClampNeg)]) C d_L_law_1156 cl_L_158 (m_X10_reads (xs (nI i + 1).toNatClampNeg) h1) e2 sh_111 (Nat.le_of_ble_eq_true rfl) rfl (Nat.le_of_ble_eq_true rfl) ?_
  refine kl_eqT C rfl d_L_law_1159 ?_
  exact hN h2 hP2
theorem kl_case_35 {P : kv_H → Prop} (C : kl_C G p s m c b L xs) (hL : L ≤ 3072) (hi : i + 6 ≤ L) (hop : (∀ (a0 a1 a2 a3 a4 : Int32), kl_Op P (f_X9_copy a0 a1 a2 a3 a4) (f_X10_copy a0 a1 a2 a3 a4))) (hP : P h) (hN : ∀ h2, P h2 → kl_S G p l e s m below meth c b Q 1464 [some (.ref 2000), some (.ref 0), some (.ref 111), some (.int (nI i))] [] h2) : kl_S G p l e s m below meth c b Q 1164 [some (.ref 2000), some (.ref 0), some (.ref 111), some (.int (nI i))] [] h := by
  refine kl_aload C d_L_law_1164 rfl ?_
  refine kl_aload C d_L_law_1165 rfl ?_
  refine kl_iload C d_L_law_1166 rfl ?_
  refine kl_const (v := 1) C d_L_law_1167 ?_
  refine kl_iadd C d_L_law_1168 ?_
  refine kl_sld C (kl_ix (k := 1) hi (by decide) hL) d_L_law_1169 ?_
  refine kl_aload C d_L_law_1170 rfl ?_
  refine kl_iload C d_L_law_1171 rfl ?_
  refine kl_const (v := 2) C d_L_law_1172 ?_
  refine kl_iadd C d_L_law_1173 ?_
  refine kl_sld C (kl_ix (k := 2) hi (by decide) hL) d_L_law_1174 ?_
  refine kl_aload C d_L_law_1175 rfl ?_
  refine kl_iload C d_L_law_1176 rfl ?_
  refine kl_const (v := 3) C d_L_law_1177 ?_
  refine kl_iadd C d_L_law_1178 ?_
  refine kl_sld C (kl_ix (k := 3) hi (by decide) hL) d_L_law_1179 ?_
  refine kl_aload C d_L_law_1180 rfl ?_
  refine kl_iload C d_L_law_1181 rfl ?_
  refine kl_const (v := 4) C d_L_law_1182 ?_
  refine kl_iadd C d_L_law_1183 ?_
  refine kl_sld C (kl_ix (k := 4) hi (by decide) hL) d_L_law_1184 ?_
  refine kl_aload C d_L_law_1185 rfl ?_
  refine kl_iload C d_L_law_1186 rfl ?_
  refine kl_const (v := 5) C d_L_law_1187 ?_
  refine kl_iadd C d_L_law_1188 ?_
  refine kl_sld C (kl_ix (k := 5) hi (by decide) hL) d_L_law_1189 ?_
  obtain ⟨r, h1, h2, e1, e2, hP2⟩ := hop (xs (nI i + 1).toNatClampNeg) (xs (nI i + 2).toNatClampNeg) (xs (nI i + 3).toNatClampNeg) (xs (nI i + 4).toNatClampNeg) (xs (nI i + 5).toNatClampNeg) h hP
  refine kl_iv_i (As := [.int (xs (nI i + 1).toNatClampNeg), .int (xs (nI i + 2).toNatClampNeg), .int (xs (nI i + 3).toNatClampNeg), .int (xs (nI i + 4).toNatClampNeg), .int (xs (nI i + 5).toNatClampNeg)]) C d_L_law_1190 cl_L_159 (m_X9_copy (xs (nI i + 1).toNatClampNeg) (xs (nI i + 2).toNatClampNeg) (xs (nI i + 3).toNatClampNeg) (xs (nI i + 4).toNatClampNeg) (xs (nI i + 5).toNatClampNeg) h) e1 sh_0 (Nat.le_of_ble_eq_true rfl) rfl (Nat.le_of_ble_eq_true rfl) ?_
  refine kl_aload C d_L_law_1193 rfl ?_
  refine kl_aload C d_L_law_1194 rfl ?_
  refine kl_iload C d_L_law_1195 rfl ?_
  refine kl_const (v := 1) C d_L_law_1196 ?_
  refine kl_iadd C d_L_law_1197 ?_
  refine kl_sld C (kl_ix (k := 1) hi (by decide) hL) d_L_law_1198 ?_
  refine kl_aload C d_L_law_1199 rfl ?_
  refine kl_iload C d_L_law_1200 rfl ?_
  refine kl_const (v := 2) C d_L_law_1201 ?_
  refine kl_iadd C d_L_law_1202 ?_
  refine kl_sld C (kl_ix (k := 2) hi (by decide) hL) d_L_law_1203 ?_
  refine kl_aload C d_L_law_1204 rfl ?_
  refine kl_iload C d_L_law_1205 rfl ?_
  refine kl_const (v := 3) C d_L_law_1206 ?_
  refine kl_iadd C d_L_law_1207 ?_
  refine kl_sld C (kl_ix (k := 3) hi (by decide) hL) d_L_law_1208 ?_
  refine kl_aload C d_L_law_1209 rfl ?_
  refine kl_iload C d_L_law_1210 rfl ?_
  refine kl_const (v := 4) C d_L_law_1211 ?_
  refine kl_iadd C d_L_law_1212 ?_
  refine kl_sld C (kl_ix (k := 4) hi (by decide) hL) d_L_law_1213 ?_
  refine kl_aload C d_L_law_1214 rfl ?_
  refine kl_iload C d_L_law_1215 rfl ?_
  refine kl_const (v := 5) C d_L_law_1216 ?_
  refine kl_iadd C d_L_law_1217 ?_
  refine kl_sld C (kl_ix (k := 5) hi (by decide) hL) d_L_law_1218 ?_
  refine kl_iv_i (As := [.int (xs (nI i + 1).toNatClampNeg), .int (xs (nI i + 2).toNatClampNeg), .int (xs (nI i + 3).toNatClampNeg), .int (xs (nI i + 4).toNatClampNeg), .int (xs (nI i + 5).toNatClampNeg)]) C d_L_law_1219 cl_L_163 (m_X10_copy (xs (nI i + 1).toNatClampNeg) (xs (nI i + 2).toNatClampNeg) (xs (nI i + 3).toNatClampNeg) (xs (nI i + 4).toNatClampNeg) (xs (nI i + 5).toNatClampNeg) h1) e2 sh_111 (Nat.le_of_ble_eq_true rfl) rfl (Nat.le_of_ble_eq_true rfl) ?_
  refine kl_eqT C rfl d_L_law_1222 ?_
  exact hN h2 hP2
theorem kl_case_36 {P : kv_H → Prop} (C : kl_C G p s m c b L xs) (hL : L ≤ 3072) (hi : i + 6 ≤ L) (hop : (∀ (a0 a1 a2 : Int32), kl_Op P (f_X9_lay a0 a1 a2) (f_X10_lay a0 a1 a2))) (hP : P h) (hN : ∀ h2, P h2 → kl_S G p l e s m below meth c b Q 1464 [some (.ref 2000), some (.ref 0), some (.ref 111), some (.int (nI i))] [] h2) : kl_S G p l e s m below meth c b Q 1227 [some (.ref 2000), some (.ref 0), some (.ref 111), some (.int (nI i))] [] h := by
  refine kl_aload C d_L_law_1227 rfl ?_
  refine kl_aload C d_L_law_1228 rfl ?_
  refine kl_iload C d_L_law_1229 rfl ?_
  refine kl_const (v := 1) C d_L_law_1230 ?_
  refine kl_iadd C d_L_law_1231 ?_
  refine kl_sld C (kl_ix (k := 1) hi (by decide) hL) d_L_law_1232 ?_
  refine kl_aload C d_L_law_1233 rfl ?_
  refine kl_iload C d_L_law_1234 rfl ?_
  refine kl_const (v := 2) C d_L_law_1235 ?_
  refine kl_iadd C d_L_law_1236 ?_
  refine kl_sld C (kl_ix (k := 2) hi (by decide) hL) d_L_law_1237 ?_
  refine kl_aload C d_L_law_1238 rfl ?_
  refine kl_iload C d_L_law_1239 rfl ?_
  refine kl_const (v := 3) C d_L_law_1240 ?_
  refine kl_iadd C d_L_law_1241 ?_
  refine kl_sld C (kl_ix (k := 3) hi (by decide) hL) d_L_law_1242 ?_
  obtain ⟨r, h1, h2, e1, e2, hP2⟩ := hop (xs (nI i + 1).toNatClampNeg) (xs (nI i + 2).toNatClampNeg) (xs (nI i + 3).toNatClampNeg) h hP
  refine kl_iv_i (As := [.int (xs (nI i + 1).toNatClampNeg), .int (xs (nI i + 2).toNatClampNeg), .int (xs (nI i + 3).toNatClampNeg)]) C d_L_law_1243 cl_L_164 (m_X9_lay (xs (nI i + 1).toNatClampNeg) (xs (nI i + 2).toNatClampNeg) (xs (nI i + 3).toNatClampNeg) h) e1 sh_0 (Nat.le_of_ble_eq_true rfl) rfl (Nat.le_of_ble_eq_true rfl) ?_
  refine kl_aload C d_L_law_1246 rfl ?_
  refine kl_aload C d_L_law_1247 rfl ?_
  refine kl_iload C d_L_law_1248 rfl ?_
  refine kl_const (v := 1) C d_L_law_1249 ?_
  refine kl_iadd C d_L_law_1250 ?_
  refine kl_sld C (kl_ix (k := 1) hi (by decide) hL) d_L_law_1251 ?_
  refine kl_aload C d_L_law_1252 rfl ?_
  refine kl_iload C d_L_law_1253 rfl ?_
  refine kl_const (v := 2) C d_L_law_1254 ?_
  refine kl_iadd C d_L_law_1255 ?_
  refine kl_sld C (kl_ix (k := 2) hi (by decide) hL) d_L_law_1256 ?_
  refine kl_aload C d_L_law_1257 rfl ?_
  refine kl_iload C d_L_law_1258 rfl ?_
  refine kl_const (v := 3) C d_L_law_1259 ?_
  refine kl_iadd C d_L_law_1260 ?_
  refine kl_sld C (kl_ix (k := 3) hi (by decide) hL) d_L_law_1261 ?_
  refine kl_iv_i (As := [.int (xs (nI i + 1).toNatClampNeg), .int (xs (nI i + 2).toNatClampNeg), .int (xs (nI i + 3).toNatClampNeg)]) C d_L_law_1262 cl_L_167 (m_X10_lay (xs (nI i + 1).toNatClampNeg) (xs (nI i + 2).toNatClampNeg) (xs (nI i + 3).toNatClampNeg) h1) e2 sh_111 (Nat.le_of_ble_eq_true rfl) rfl (Nat.le_of_ble_eq_true rfl) ?_
  refine kl_eqT C rfl d_L_law_1265 ?_
  exact hN h2 hP2
theorem kl_case_37 {P : kv_H → Prop} (C : kl_C G p s m c b L xs) (hL : L ≤ 3072) (hi : i + 6 ≤ L) (hop : (∀ (a0 a1 : Int32), kl_Op P (f_X9_ask a0 a1) (f_X10_ask a0 a1))) (hP : P h) (hN : ∀ h2, P h2 → kl_S G p l e s m below meth c b Q 1464 [some (.ref 2000), some (.ref 0), some (.ref 111), some (.int (nI i))] [] h2) : kl_S G p l e s m below meth c b Q 1270 [some (.ref 2000), some (.ref 0), some (.ref 111), some (.int (nI i))] [] h := by
  refine kl_aload C d_L_law_1270 rfl ?_
  refine kl_aload C d_L_law_1271 rfl ?_
  refine kl_iload C d_L_law_1272 rfl ?_
  refine kl_const (v := 1) C d_L_law_1273 ?_
  refine kl_iadd C d_L_law_1274 ?_
  refine kl_sld C (kl_ix (k := 1) hi (by decide) hL) d_L_law_1275 ?_
  refine kl_aload C d_L_law_1276 rfl ?_
  refine kl_iload C d_L_law_1277 rfl ?_
  refine kl_const (v := 2) C d_L_law_1278 ?_
  refine kl_iadd C d_L_law_1279 ?_
  refine kl_sld C (kl_ix (k := 2) hi (by decide) hL) d_L_law_1280 ?_
  obtain ⟨r, h1, h2, e1, e2, hP2⟩ := hop (xs (nI i + 1).toNatClampNeg) (xs (nI i + 2).toNatClampNeg) h hP
  refine kl_iv_i (As := [.int (xs (nI i + 1).toNatClampNeg), .int (xs (nI i + 2).toNatClampNeg)]) C d_L_law_1281 cl_L_168 (m_X9_ask (xs (nI i + 1).toNatClampNeg) (xs (nI i + 2).toNatClampNeg) h) e1 sh_0 (Nat.le_of_ble_eq_true rfl) rfl (Nat.le_of_ble_eq_true rfl) ?_
  refine kl_aload C d_L_law_1284 rfl ?_
  refine kl_aload C d_L_law_1285 rfl ?_
  refine kl_iload C d_L_law_1286 rfl ?_
  refine kl_const (v := 1) C d_L_law_1287 ?_
  refine kl_iadd C d_L_law_1288 ?_
  refine kl_sld C (kl_ix (k := 1) hi (by decide) hL) d_L_law_1289 ?_
  refine kl_aload C d_L_law_1290 rfl ?_
  refine kl_iload C d_L_law_1291 rfl ?_
  refine kl_const (v := 2) C d_L_law_1292 ?_
  refine kl_iadd C d_L_law_1293 ?_
  refine kl_sld C (kl_ix (k := 2) hi (by decide) hL) d_L_law_1294 ?_
  refine kl_iv_i (As := [.int (xs (nI i + 1).toNatClampNeg), .int (xs (nI i + 2).toNatClampNeg)]) C d_L_law_1295 cl_L_171 (m_X10_ask (xs (nI i + 1).toNatClampNeg) (xs (nI i + 2).toNatClampNeg) h1) e2 sh_111 (Nat.le_of_ble_eq_true rfl) rfl (Nat.le_of_ble_eq_true rfl) ?_
  refine kl_eqT C rfl d_L_law_1298 ?_
  exact hN h2 hP2
theorem kl_case_38 {P : kv_H → Prop} (C : kl_C G p s m c b L xs) (hL : L ≤ 3072) (hi : i + 6 ≤ L) (hop : (∀ (a0 a1 : Int32), kl_Op P (f_X9_item a0 a1) (f_X10_item a0 a1))) (hP : P h) (hN : ∀ h2, P h2 → kl_S G p l e s m below meth c b Q 1464 [some (.ref 2000), some (.ref 0), some (.ref 111), some (.int (nI i))] [] h2) : kl_S G p l e s m below meth c b Q 1303 [some (.ref 2000), some (.ref 0), some (.ref 111), some (.int (nI i))] [] h := by
  refine kl_aload C d_L_law_1303 rfl ?_
  refine kl_aload C d_L_law_1304 rfl ?_
  refine kl_iload C d_L_law_1305 rfl ?_
  refine kl_const (v := 1) C d_L_law_1306 ?_
  refine kl_iadd C d_L_law_1307 ?_
  refine kl_sld C (kl_ix (k := 1) hi (by decide) hL) d_L_law_1308 ?_
  refine kl_aload C d_L_law_1309 rfl ?_
  refine kl_iload C d_L_law_1310 rfl ?_
  refine kl_const (v := 2) C d_L_law_1311 ?_
  refine kl_iadd C d_L_law_1312 ?_
  refine kl_sld C (kl_ix (k := 2) hi (by decide) hL) d_L_law_1313 ?_
  obtain ⟨r, h1, h2, e1, e2, hP2⟩ := hop (xs (nI i + 1).toNatClampNeg) (xs (nI i + 2).toNatClampNeg) h hP
  refine kl_iv_i (As := [.int (xs (nI i + 1).toNatClampNeg), .int (xs (nI i + 2).toNatClampNeg)]) C d_L_law_1314 cl_L_172 (m_X9_item (xs (nI i + 1).toNatClampNeg) (xs (nI i + 2).toNatClampNeg) h) e1 sh_0 (Nat.le_of_ble_eq_true rfl) rfl (Nat.le_of_ble_eq_true rfl) ?_
  refine kl_aload C d_L_law_1317 rfl ?_
  refine kl_aload C d_L_law_1318 rfl ?_
  refine kl_iload C d_L_law_1319 rfl ?_
  refine kl_const (v := 1) C d_L_law_1320 ?_
  refine kl_iadd C d_L_law_1321 ?_
  refine kl_sld C (kl_ix (k := 1) hi (by decide) hL) d_L_law_1322 ?_
  refine kl_aload C d_L_law_1323 rfl ?_
  refine kl_iload C d_L_law_1324 rfl ?_
  refine kl_const (v := 2) C d_L_law_1325 ?_
  refine kl_iadd C d_L_law_1326 ?_
  refine kl_sld C (kl_ix (k := 2) hi (by decide) hL) d_L_law_1327 ?_
  refine kl_iv_i (As := [.int (xs (nI i + 1).toNatClampNeg), .int (xs (nI i + 2).toNatClampNeg)]) C d_L_law_1328 cl_L_175 (m_X10_item (xs (nI i + 1).toNatClampNeg) (xs (nI i + 2).toNatClampNeg) h1) e2 sh_111 (Nat.le_of_ble_eq_true rfl) rfl (Nat.le_of_ble_eq_true rfl) ?_
  refine kl_eqT C rfl d_L_law_1331 ?_
  exact hN h2 hP2
theorem kl_case_39 {P : kv_H → Prop} (C : kl_C G p s m c b L xs) (hL : L ≤ 3072) (hi : i + 6 ≤ L) (hop : (∀ (a0 a1 : Int32), kl_Op P (f_X9_rest a0 a1) (f_X10_rest a0 a1))) (hP : P h) (hN : ∀ h2, P h2 → kl_S G p l e s m below meth c b Q 1464 [some (.ref 2000), some (.ref 0), some (.ref 111), some (.int (nI i))] [] h2) : kl_S G p l e s m below meth c b Q 1336 [some (.ref 2000), some (.ref 0), some (.ref 111), some (.int (nI i))] [] h := by
  refine kl_aload C d_L_law_1336 rfl ?_
  refine kl_aload C d_L_law_1337 rfl ?_
  refine kl_iload C d_L_law_1338 rfl ?_
  refine kl_const (v := 1) C d_L_law_1339 ?_
  refine kl_iadd C d_L_law_1340 ?_
  refine kl_sld C (kl_ix (k := 1) hi (by decide) hL) d_L_law_1341 ?_
  refine kl_aload C d_L_law_1342 rfl ?_
  refine kl_iload C d_L_law_1343 rfl ?_
  refine kl_const (v := 2) C d_L_law_1344 ?_
  refine kl_iadd C d_L_law_1345 ?_
  refine kl_sld C (kl_ix (k := 2) hi (by decide) hL) d_L_law_1346 ?_
  obtain ⟨r, h1, h2, e1, e2, hP2⟩ := hop (xs (nI i + 1).toNatClampNeg) (xs (nI i + 2).toNatClampNeg) h hP
  refine kl_iv_i (As := [.int (xs (nI i + 1).toNatClampNeg), .int (xs (nI i + 2).toNatClampNeg)]) C d_L_law_1347 cl_L_176 (m_X9_rest (xs (nI i + 1).toNatClampNeg) (xs (nI i + 2).toNatClampNeg) h) e1 sh_0 (Nat.le_of_ble_eq_true rfl) rfl (Nat.le_of_ble_eq_true rfl) ?_
  refine kl_aload C d_L_law_1350 rfl ?_
  refine kl_aload C d_L_law_1351 rfl ?_
  refine kl_iload C d_L_law_1352 rfl ?_
  refine kl_const (v := 1) C d_L_law_1353 ?_
  refine kl_iadd C d_L_law_1354 ?_
  refine kl_sld C (kl_ix (k := 1) hi (by decide) hL) d_L_law_1355 ?_
  refine kl_aload C d_L_law_1356 rfl ?_
  refine kl_iload C d_L_law_1357 rfl ?_
  refine kl_const (v := 2) C d_L_law_1358 ?_
  refine kl_iadd C d_L_law_1359 ?_
  refine kl_sld C (kl_ix (k := 2) hi (by decide) hL) d_L_law_1360 ?_
  refine kl_iv_i (As := [.int (xs (nI i + 1).toNatClampNeg), .int (xs (nI i + 2).toNatClampNeg)]) C d_L_law_1361 cl_L_179 (m_X10_rest (xs (nI i + 1).toNatClampNeg) (xs (nI i + 2).toNatClampNeg) h1) e2 sh_111 (Nat.le_of_ble_eq_true rfl) rfl (Nat.le_of_ble_eq_true rfl) ?_
  refine kl_eqT C rfl d_L_law_1364 ?_
  exact hN h2 hP2
theorem kl_case_40 {P : kv_H → Prop} (C : kl_C G p s m c b L xs) (hL : L ≤ 3072) (hi : i + 6 ≤ L) (hop : (∀ (a0 : Int32), kl_Op P (f_X9_tell a0) (f_X10_tell a0))) (hP : P h) (hN : ∀ h2, P h2 → kl_S G p l e s m below meth c b Q 1464 [some (.ref 2000), some (.ref 0), some (.ref 111), some (.int (nI i))] [] h2) : kl_S G p l e s m below meth c b Q 1369 [some (.ref 2000), some (.ref 0), some (.ref 111), some (.int (nI i))] [] h := by
  refine kl_aload C d_L_law_1369 rfl ?_
  refine kl_aload C d_L_law_1370 rfl ?_
  refine kl_iload C d_L_law_1371 rfl ?_
  refine kl_const (v := 1) C d_L_law_1372 ?_
  refine kl_iadd C d_L_law_1373 ?_
  refine kl_sld C (kl_ix (k := 1) hi (by decide) hL) d_L_law_1374 ?_
  obtain ⟨r, h1, h2, e1, e2, hP2⟩ := hop (xs (nI i + 1).toNatClampNeg) h hP
  refine kl_iv_i (As := [.int (xs (nI i + 1).toNatClampNeg)]) C d_L_law_1375 cl_L_180 (m_X9_tell (xs (nI i + 1).toNatClampNeg) h) e1 sh_0 (Nat.le_of_ble_eq_true rfl) rfl (Nat.le_of_ble_eq_true rfl) ?_
  refine kl_aload C d_L_law_1378 rfl ?_
  refine kl_aload C d_L_law_1379 rfl ?_
  refine kl_iload C d_L_law_1380 rfl ?_
  refine kl_const (v := 1) C d_L_law_1381 ?_
  refine kl_iadd C d_L_law_1382 ?_
  refine kl_sld C (kl_ix (k := 1) hi (by decide) hL) d_L_law_1383 ?_
  refine kl_iv_i (As := [.int (xs (nI i + 1).toNatClampNeg)]) C d_L_law_1384 cl_L_183 (m_X10_tell (xs (nI i + 1).toNatClampNeg) h1) e2 sh_111 (Nat.le_of_ble_eq_true rfl) rfl (Nat.le_of_ble_eq_true rfl) ?_
  refine kl_eqT C rfl d_L_law_1387 ?_
  exact hN h2 hP2
theorem kl_case_41 {P : kv_H → Prop} (C : kl_C G p s m c b L xs) (hL : L ≤ 3072) (hi : i + 6 ≤ L) (hop : (∀ (a0 : Int32), kl_Op P (f_X9_check a0) (f_X10_check a0))) (hP : P h) (hN : ∀ h2, P h2 → kl_S G p l e s m below meth c b Q 1464 [some (.ref 2000), some (.ref 0), some (.ref 111), some (.int (nI i))] [] h2) : kl_S G p l e s m below meth c b Q 1392 [some (.ref 2000), some (.ref 0), some (.ref 111), some (.int (nI i))] [] h := by
  refine kl_aload C d_L_law_1392 rfl ?_
  refine kl_aload C d_L_law_1393 rfl ?_
  refine kl_iload C d_L_law_1394 rfl ?_
  refine kl_const (v := 1) C d_L_law_1395 ?_
  refine kl_iadd C d_L_law_1396 ?_
  refine kl_sld C (kl_ix (k := 1) hi (by decide) hL) d_L_law_1397 ?_
  obtain ⟨r, h1, h2, e1, e2, hP2⟩ := hop (xs (nI i + 1).toNatClampNeg) h hP
  refine kl_iv_i (As := [.int (xs (nI i + 1).toNatClampNeg)]) C d_L_law_1398 cl_L_184 (m_X9_check (xs (nI i + 1).toNatClampNeg) h) e1 sh_0 (Nat.le_of_ble_eq_true rfl) rfl (Nat.le_of_ble_eq_true rfl) ?_
  refine kl_aload C d_L_law_1401 rfl ?_
  refine kl_aload C d_L_law_1402 rfl ?_
  refine kl_iload C d_L_law_1403 rfl ?_
  refine kl_const (v := 1) C d_L_law_1404 ?_
  refine kl_iadd C d_L_law_1405 ?_
  refine kl_sld C (kl_ix (k := 1) hi (by decide) hL) d_L_law_1406 ?_
  refine kl_iv_i (As := [.int (xs (nI i + 1).toNatClampNeg)]) C d_L_law_1407 cl_L_187 (m_X10_check (xs (nI i + 1).toNatClampNeg) h1) e2 sh_111 (Nat.le_of_ble_eq_true rfl) rfl (Nat.le_of_ble_eq_true rfl) ?_
  refine kl_eqT C rfl d_L_law_1410 ?_
  exact hN h2 hP2
theorem kl_case_42 {P : kv_H → Prop} (C : kl_C G p s m c b L xs) (hL : L ≤ 3072) (hi : i + 6 ≤ L) (hop : (kl_Op P (f_X9_keep ) (f_X10_keep ))) (hP : P h) (hN : ∀ h2, P h2 → kl_S G p l e s m below meth c b Q 1464 [some (.ref 2000), some (.ref 0), some (.ref 111), some (.int (nI i))] [] h2) : kl_S G p l e s m below meth c b Q 1415 [some (.ref 2000), some (.ref 0), some (.ref 111), some (.int (nI i))] [] h := by
  refine kl_aload C d_L_law_1415 rfl ?_
  obtain ⟨r, h1, h2, e1, e2, hP2⟩ := hop h hP
  refine kl_iv_i (As := []) C d_L_law_1416 cl_L_188 (m_X9_keep h) e1 sh_0 (Nat.le_of_ble_eq_true rfl) rfl (Nat.le_of_ble_eq_true rfl) ?_
  refine kl_aload C d_L_law_1419 rfl ?_
  refine kl_iv_i (As := []) C d_L_law_1420 cl_L_191 (m_X10_keep h1) e2 sh_111 (Nat.le_of_ble_eq_true rfl) rfl (Nat.le_of_ble_eq_true rfl) ?_
  refine kl_eqT C rfl d_L_law_1423 ?_
  exact hN h2 hP2
theorem kl_case_43 {P : kv_H → Prop} (C : kl_C G p s m c b L xs) (hL : L ≤ 3072) (hi : i + 6 ≤ L) (hop : (kl_Op P (f_X9_back ) (f_X10_back ))) (hP : P h) (hN : ∀ h2, P h2 → kl_S G p l e s m below meth c b Q 1464 [some (.ref 2000), some (.ref 0), some (.ref 111), some (.int (nI i))] [] h2) : kl_S G p l e s m below meth c b Q 1428 [some (.ref 2000), some (.ref 0), some (.ref 111), some (.int (nI i))] [] h := by
  refine kl_aload C d_L_law_1428 rfl ?_
  obtain ⟨r, h1, h2, e1, e2, hP2⟩ := hop h hP
  refine kl_iv_i (As := []) C d_L_law_1429 cl_L_192 (m_X9_back h) e1 sh_0 (Nat.le_of_ble_eq_true rfl) rfl (Nat.le_of_ble_eq_true rfl) ?_
  refine kl_aload C d_L_law_1432 rfl ?_
  refine kl_iv_i (As := []) C d_L_law_1433 cl_L_195 (m_X10_back h1) e2 sh_111 (Nat.le_of_ble_eq_true rfl) rfl (Nat.le_of_ble_eq_true rfl) ?_
  refine kl_eqT C rfl d_L_law_1436 ?_
  exact hN h2 hP2
theorem kl_case_44 {P : kv_H → Prop} (C : kl_C G p s m c b L xs) (hL : L ≤ 3072) (hi : i + 6 ≤ L) (hop : (∀ (a0 : Int32), kl_Op P (f_X9_count a0) (f_X10_count a0))) (hP : P h) (hN : ∀ h2, P h2 → kl_S G p l e s m below meth c b Q 1464 [some (.ref 2000), some (.ref 0), some (.ref 111), some (.int (nI i))] [] h2) : kl_S G p l e s m below meth c b Q 1441 [some (.ref 2000), some (.ref 0), some (.ref 111), some (.int (nI i))] [] h := by
  refine kl_aload C d_L_law_1441 rfl ?_
  refine kl_aload C d_L_law_1442 rfl ?_
  refine kl_iload C d_L_law_1443 rfl ?_
  refine kl_const (v := 1) C d_L_law_1444 ?_
  refine kl_iadd C d_L_law_1445 ?_
  refine kl_sld C (kl_ix (k := 1) hi (by decide) hL) d_L_law_1446 ?_
  obtain ⟨r, h1, h2, e1, e2, hP2⟩ := hop (xs (nI i + 1).toNatClampNeg) h hP
  refine kl_iv_i (As := [.int (xs (nI i + 1).toNatClampNeg)]) C d_L_law_1447 cl_L_196 (m_X9_count (xs (nI i + 1).toNatClampNeg) h) e1 sh_0 (Nat.le_of_ble_eq_true rfl) rfl (Nat.le_of_ble_eq_true rfl) ?_
  refine kl_aload C d_L_law_1450 rfl ?_
  refine kl_aload C d_L_law_1451 rfl ?_
  refine kl_iload C d_L_law_1452 rfl ?_
  refine kl_const (v := 1) C d_L_law_1453 ?_
  refine kl_iadd C d_L_law_1454 ?_
  refine kl_sld C (kl_ix (k := 1) hi (by decide) hL) d_L_law_1455 ?_
  refine kl_iv_i (As := [.int (xs (nI i + 1).toNatClampNeg)]) C d_L_law_1456 cl_L_199 (m_X10_count (xs (nI i + 1).toNatClampNeg) h1) e2 sh_111 (Nat.le_of_ble_eq_true rfl) rfl (Nat.le_of_ble_eq_true rfl) ?_
  refine kl_eqT C rfl d_L_law_1459 ?_
  exact hN h2 hP2
theorem kl_to {x : Int32} {d : Nat} : ∀ {ks : List Int32} {ts : List Nat}, (∀ t ∈ ts, kl_S G p l e s m below meth c b Q t ls st h) → kl_S G p l e s m below meth c b Q d ls st h → kl_S G p l e s m below meth c b Q (kv_to x ks ts d) ls st h
  | [], ts, _, hd => by cases ts <;> exact hd
  | k :: ks, [], _, hd => hd
  | k :: ks, t :: ts, ht, hd => by
    unfold kv_to
    split
    · exact ht t List.mem_cons_self
    · exact kl_to (fun t h => ht t (List.mem_cons_of_mem _ h)) hd
set_option maxRecDepth 20000 in
theorem kl_loop {P : kv_H → Prop} (C : kl_C G p s m c b L xs) (hL : L ≤ 3072) (hops : kl_Ops P) (hE : ∀ h, kl_S G p l e s m below meth c b Q 1470 [none, none, none, none] [] h) : ∀ (n i : Nat) (h : kv_H), i ≤ L → L < i + 6 * n → P h → kl_S G p l e s m below meth c b Q 18 [some (.ref 2000), some (.ref 0), some (.ref 111), some (.int (nI i))] [] h := by
  intro n
  induction n with
  | zero => intro i h h1 h2; omega
  | succ n ih =>
    intro i h h1 h2 hP
    refine kl_iload C d_L_law_18 rfl ?_
    refine kl_aload C d_L_law_19 rfl ?_
    refine kl_slen C d_L_law_20 ?_
    refine kl_const (v := 6) C d_L_law_21 ?_
    refine kl_isub C d_L_law_23 ?_
    refine kl_gt C d_L_law_24 (fun q => ?_) (fun q => ?_)
    · intro H locs la hP hS hL
      exact hE h H locs la hP hS (kv_L_mono hL (fun j v q => by
        match j, q with
        | 0, q => cases q
        | 1, q => cases q
        | 2, q => cases q
        | 3, q => cases q))
    have hi : i + 6 ≤ L := by
      rcases Nat.lt_or_ge L (i + 6) with z | z
      · exact absurd ((kl_more hL h1).mpr z) q
      · exact z
    refine kl_aload C d_L_law_27 rfl ?_
    refine kl_iload C d_L_law_28 rfl ?_
    refine kl_sld C (vp_in_nI (by omega) (by omega)) d_L_law_29 ?_
    refine kl_const (v := 63) C d_L_law_30 ?_
    refine kl_iand C d_L_law_32 ?_
    have hN : ∀ h2, P h2 → kl_S G p l e s m below meth c b Q 1464 [some (.ref 2000), some (.ref 0), some (.ref 111), some (.int (nI i))] [] h2 := by
      intro h2 hP2
      refine kl_iinc C d_L_law_1464 rfl (by decide) (fun w _ q => by cases q; rfl) ?_
      refine kl_goto C d_L_law_1467 ?_
      have e6 : nI i + 6 = nI (i + 6) := nI_add i 6
      show kl_S G p l e s m below meth c b Q 18 [some (.ref 2000), some (.ref 0), some (.ref 111), some (.int (nI i + 6))] [] h2
      rw [e6]
      exact ih (i + 6) h2 (by omega) (by omega) hP2
    refine kl_sw (ks := [0, 1, 2, 3, 4, 5, 6, 7, 8, 9, 10, 11, 12, 13, 14, 15, 16, 17, 18, 19, 20, 21, 22, 23, 24, 25, 26, 27, 28, 29, 30, 31, 32, 33, 34, 35, 36, 37, 38, 39, 40, 41, 42, 43, 44]) (ts := [228, 281, 314, 347, 380, 423, 456, 479, 502, 525, 548, 571, 584, 607, 630, 653, 676, 699, 712, 735, 748, 771, 794, 817, 840, 864, 897, 940, 963, 976, 1009, 1032, 1075, 1118, 1141, 1164, 1227, 1270, 1303, 1336, 1369, 1392, 1415, 1428, 1441]) (d := 1464) C (dflt := 1431) (lo := 0) (hi := 44) (offs := #[195, 248, 281, 314, 347, 390, 423, 446, 469, 492, 515, 538, 551, 574, 597, 620, 643, 666, 679, 702, 715, 738, 761, 784, 807, 831, 864, 907, 930, 943, 976, 999, 1042, 1085, 1108, 1131, 1194, 1237, 1270, 1303, 1336, 1359, 1382, 1395, 1408]) (len := 195) (by decide +kernel) (by decide +kernel) (by decide +kernel) (by decide +kernel) (by decide +kernel) (by decide +kernel) ?_
    refine kl_to (fun t ht => ?_) (hN h hP)
    simp only [List.mem_cons, List.not_mem_nil, or_false] at ht
    rcases ht with rfl | rfl | rfl | rfl | rfl | rfl | rfl | rfl | rfl | rfl | rfl | rfl | rfl | rfl | rfl | rfl | rfl | rfl | rfl | rfl | rfl | rfl | rfl | rfl | rfl | rfl | rfl | rfl | rfl | rfl | rfl | rfl | rfl | rfl | rfl | rfl | rfl | rfl | rfl | rfl | rfl | rfl | rfl | rfl | rfl
    · exact kl_case_0 C hL hi hops.1 hP hN
    · exact kl_case_1 C hL hi hops.2.1 hP hN
    · exact kl_case_2 C hL hi hops.2.2.1 hP hN
    · exact kl_case_3 C hL hi hops.2.2.2.1 hP hN
    · exact kl_case_4 C hL hi hops.2.2.2.2.1 hP hN
    · exact kl_case_5 C hL hi hops.2.2.2.2.2.1 hP hN
    · exact kl_case_6 C hL hi hops.2.2.2.2.2.2.1 hP hN
    · exact kl_case_7 C hL hi hops.2.2.2.2.2.2.2.1 hP hN
    · exact kl_case_8 C hL hi hops.2.2.2.2.2.2.2.2.1 hP hN
    · exact kl_case_9 C hL hi hops.2.2.2.2.2.2.2.2.2.1 hP hN
    · exact kl_case_10 C hL hi hops.2.2.2.2.2.2.2.2.2.2.1 hP hN
    · exact kl_case_11 C hL hi hops.2.2.2.2.2.2.2.2.2.2.2.1 hP hN
    · exact kl_case_12 C hL hi hops.2.2.2.2.2.2.2.2.2.2.2.2.1 hP hN
    · exact kl_case_13 C hL hi hops.2.2.2.2.2.2.2.2.2.2.2.2.2.1 hP hN
    · exact kl_case_14 C hL hi hops.2.2.2.2.2.2.2.2.2.2.2.2.2.2.1 hP hN
    · exact kl_case_15 C hL hi hops.2.2.2.2.2.2.2.2.2.2.2.2.2.2.2.1 hP hN
    · exact kl_case_16 C hL hi hops.2.2.2.2.2.2.2.2.2.2.2.2.2.2.2.2.1 hP hN
    · exact kl_case_17 C hL hi hops.2.2.2.2.2.2.2.2.2.2.2.2.2.2.2.2.2.1 hP hN
    · exact kl_case_18 C hL hi hops.2.2.2.2.2.2.2.2.2.2.2.2.2.2.2.2.2.2.1 hP hN
    · exact kl_case_19 C hL hi hops.2.2.2.2.2.2.2.2.2.2.2.2.2.2.2.2.2.2.2.1 hP hN
    · exact kl_case_20 C hL hi hops.2.2.2.2.2.2.2.2.2.2.2.2.2.2.2.2.2.2.2.2.1 hP hN
    · exact kl_case_21 C hL hi hops.2.2.2.2.2.2.2.2.2.2.2.2.2.2.2.2.2.2.2.2.2.1 hP hN
    · exact kl_case_22 C hL hi hops.2.2.2.2.2.2.2.2.2.2.2.2.2.2.2.2.2.2.2.2.2.2.1 hP hN
    · exact kl_case_23 C hL hi hops.2.2.2.2.2.2.2.2.2.2.2.2.2.2.2.2.2.2.2.2.2.2.2.1 hP hN
    · exact kl_case_24 C hL hi hops.2.2.2.2.2.2.2.2.2.2.2.2.2.2.2.2.2.2.2.2.2.2.2.2.1 hP hN
    · exact kl_case_25 C hL hi hops.2.2.2.2.2.2.2.2.2.2.2.2.2.2.2.2.2.2.2.2.2.2.2.2.2.1 hP hN
    · exact kl_case_26 C hL hi hops.2.2.2.2.2.2.2.2.2.2.2.2.2.2.2.2.2.2.2.2.2.2.2.2.2.2.1 hP hN
    · exact kl_case_27 C hL hi hops.2.2.2.2.2.2.2.2.2.2.2.2.2.2.2.2.2.2.2.2.2.2.2.2.2.2.2.1 hP hN
    · exact kl_case_28 C hL hi hops.2.2.2.2.2.2.2.2.2.2.2.2.2.2.2.2.2.2.2.2.2.2.2.2.2.2.2.2.1 hP hN
    · exact kl_case_29 C hL hi hops.2.2.2.2.2.2.2.2.2.2.2.2.2.2.2.2.2.2.2.2.2.2.2.2.2.2.2.2.2.1 hP hN
    · exact kl_case_30 C hL hi hops.2.2.2.2.2.2.2.2.2.2.2.2.2.2.2.2.2.2.2.2.2.2.2.2.2.2.2.2.2.2.1 hP hN
    · exact kl_case_31 C hL hi hops.2.2.2.2.2.2.2.2.2.2.2.2.2.2.2.2.2.2.2.2.2.2.2.2.2.2.2.2.2.2.2.1 hP hN
    · exact kl_case_32 C hL hi hops.2.2.2.2.2.2.2.2.2.2.2.2.2.2.2.2.2.2.2.2.2.2.2.2.2.2.2.2.2.2.2.2.1 hP hN
    · exact kl_case_33 C hL hi hops.2.2.2.2.2.2.2.2.2.2.2.2.2.2.2.2.2.2.2.2.2.2.2.2.2.2.2.2.2.2.2.2.2.1 hP hN
    · exact kl_case_34 C hL hi hops.2.2.2.2.2.2.2.2.2.2.2.2.2.2.2.2.2.2.2.2.2.2.2.2.2.2.2.2.2.2.2.2.2.2.1 hP hN
    · exact kl_case_35 C hL hi hops.2.2.2.2.2.2.2.2.2.2.2.2.2.2.2.2.2.2.2.2.2.2.2.2.2.2.2.2.2.2.2.2.2.2.2.1 hP hN
    · exact kl_case_36 C hL hi hops.2.2.2.2.2.2.2.2.2.2.2.2.2.2.2.2.2.2.2.2.2.2.2.2.2.2.2.2.2.2.2.2.2.2.2.2.1 hP hN
    · exact kl_case_37 C hL hi hops.2.2.2.2.2.2.2.2.2.2.2.2.2.2.2.2.2.2.2.2.2.2.2.2.2.2.2.2.2.2.2.2.2.2.2.2.2.1 hP hN
    · exact kl_case_38 C hL hi hops.2.2.2.2.2.2.2.2.2.2.2.2.2.2.2.2.2.2.2.2.2.2.2.2.2.2.2.2.2.2.2.2.2.2.2.2.2.2.1 hP hN
    · exact kl_case_39 C hL hi hops.2.2.2.2.2.2.2.2.2.2.2.2.2.2.2.2.2.2.2.2.2.2.2.2.2.2.2.2.2.2.2.2.2.2.2.2.2.2.2.1 hP hN
    · exact kl_case_40 C hL hi hops.2.2.2.2.2.2.2.2.2.2.2.2.2.2.2.2.2.2.2.2.2.2.2.2.2.2.2.2.2.2.2.2.2.2.2.2.2.2.2.2.1 hP hN
    · exact kl_case_41 C hL hi hops.2.2.2.2.2.2.2.2.2.2.2.2.2.2.2.2.2.2.2.2.2.2.2.2.2.2.2.2.2.2.2.2.2.2.2.2.2.2.2.2.2.1 hP hN
    · exact kl_case_42 C hL hi hops.2.2.2.2.2.2.2.2.2.2.2.2.2.2.2.2.2.2.2.2.2.2.2.2.2.2.2.2.2.2.2.2.2.2.2.2.2.2.2.2.2.2.1 hP hN
    · exact kl_case_43 C hL hi hops.2.2.2.2.2.2.2.2.2.2.2.2.2.2.2.2.2.2.2.2.2.2.2.2.2.2.2.2.2.2.2.2.2.2.2.2.2.2.2.2.2.2.2.1 hP hN
    · exact kl_case_44 C hL hi hops.2.2.2.2.2.2.2.2.2.2.2.2.2.2.2.2.2.2.2.2.2.2.2.2.2.2.2.2.2.2.2.2.2.2.2.2.2.2.2.2.2.2.2.2 hP hN
end KM
