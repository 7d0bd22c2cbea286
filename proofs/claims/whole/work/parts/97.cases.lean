/-! THE LAW: its thirty-two cases (by program law.py) -/
section CASES
variable {p : Program} {l : Launch} {e : Env} {s : State} {m : MethodId} {args : Array Value} {below : List Frame} {meth : Method} {c : Code} {Q : State → Prop} {ret0 : Option FieldType}
variable {D : va_G} {Y : Nat → ClassId} {A : Nat → Prop} {αx αm : Adr} {cells slots : Nat} {μx μm : Mem} {b L N : Nat} {xs : Nat → Int32}
set_option maxRecDepth 100000 in
theorem law_0 (C : CX p s m args meth c cL_law 4 RL ret0 D Y LB2 A) (S : SC s A b L xs N) (hR : Rel μx μm) (hrm : Roo cells slots (μx 28 0 0)) (kn : ∀ (α' : Adr) (μx' μm' : Mem) (cells' slots' : Nat), α' 0 0 = αx 0 0 → Rel μx' μm' → Roo cells' slots' (μx' 28 0 0) → GG D Y LB2 A p l e room_1 s m args below meth c 4 Q (mA α' αm) cells' slots' [(3, vi (N : Int)), (2, .ref (αm 30 0)), (1, .ref (αx 0 0)), (0, .ref b)] [] (mM μx' μm') 1227) : GG D Y LB2 A p l e room_1 s m args below meth c 4 Q (mA αx αm) cells slots [(3, vi (N : Int)), (2, .ref (αm 30 0)), (1, .ref (αx 0 0)), (0, .ref b)] [] (mM μx μm) 176 := by
  obtain ⟨r, μx', μm', hfx, hfm, hR'⟩ := op_status hR 
  have h28 : μx' 28 = μx 28 := k_X8_status rfl _ _ hfx
  have hcr := hrm.cr hR.len
  refine g_ald_n C 2 rfl rfl dL_law_176 ?_
  refine g_callX C dL_law_177 cw_X8_status m_2_63 m_2_64 m_2_65 rfl (c_X8_status hfx) rfl rfl (Nat.le_of_ble_eq_true rfl) ⟨Nat.le_of_ble_eq_true rfl, Nat.le_of_ble_eq_true rfl⟩ hcr (fun α' hα => ?_)
  subst hα
  refine g_ald_n C 1 rfl rfl dL_law_180 ?_
  refine g_callM C dL_law_181 cw_X9_status m_4_121 m_4_122 m_4_123 rfl (c_X9_status hfm) rfl rfl (Nat.le_of_ble_eq_true rfl) ⟨Nat.le_of_ble_eq_true rfl, Nat.le_of_ble_eq_true rfl⟩ hcr ?_
  refine g_ic_eq C 1227 (by decide) dL_law_184 (fun _ => ?_) (fun h => absurd rfl h)
  exact kn α' μx' μm' cells slots rfl hR' (by rw [h28]; exact hrm)
set_option maxRecDepth 100000 in
theorem law_1 (C : CX p s m args meth c cL_law 4 RL ret0 D Y LB2 A) (S : SC s A b L xs N) (hR : Rel μx μm) (hrm : Roo cells slots (μx 28 0 0)) (kn : ∀ (α' : Adr) (μx' μm' : Mem) (cells' slots' : Nat), α' 0 0 = αx 0 0 → Rel μx' μm' → Roo cells' slots' (μx' 28 0 0) → GG D Y LB2 A p l e room_1 s m args below meth c 4 Q (mA α' αm) cells' slots' [(3, vi (N : Int)), (2, .ref (αm 30 0)), (1, .ref (αx 0 0)), (0, .ref b)] [] (mM μx' μm') 1227) : GG D Y LB2 A p l e room_1 s m args below meth c 4 Q (mA αx αm) cells slots [(3, vi (N : Int)), (2, .ref (αm 30 0)), (1, .ref (αx 0 0)), (0, .ref b)] [] (mM μx μm) 189 := by
  obtain ⟨r, μx', μm', hfx, hfm, hR'⟩ := op_tray hR (sc_I xs (N + 1)) (sc_I xs (N + 2)) (sc_I xs (N + 3))
  have h28 : μx' 28 = μx 28 := k_X8_tray rfl _ _ hfx
  have hcr := hrm.cr hR.len
  refine g_ald_n C 2 rfl rfl dL_law_189 ?_
  refine g_arg C S 3 0 1 (by decide) rfl rfl dL_law_190 dL_law_191 dL_law_192 dL_law_193 dL_law_194 ?_
  refine g_arg C S 3 0 2 (by decide) rfl rfl dL_law_195 dL_law_196 dL_law_197 dL_law_198 dL_law_199 ?_
  refine g_arg C S 3 0 3 (by decide) rfl rfl dL_law_200 dL_law_201 dL_law_202 dL_law_203 dL_law_204 ?_
  refine g_callX C dL_law_205 cw_X8_tray m_2_67 m_2_68 m_2_69 rfl (c_X8_tray hfx) rfl rfl (Nat.le_of_ble_eq_true rfl) ⟨Nat.le_of_ble_eq_true rfl, Nat.le_of_ble_eq_true rfl⟩ hcr (fun α' hα => ?_)
  subst hα
  refine g_ald_n C 1 rfl rfl dL_law_208 ?_
  refine g_arg C S 3 0 1 (by decide) rfl rfl dL_law_209 dL_law_210 dL_law_211 dL_law_212 dL_law_213 ?_
  refine g_arg C S 3 0 2 (by decide) rfl rfl dL_law_214 dL_law_215 dL_law_216 dL_law_217 dL_law_218 ?_
  refine g_arg C S 3 0 3 (by decide) rfl rfl dL_law_219 dL_law_220 dL_law_221 dL_law_222 dL_law_223 ?_
  refine g_callM C dL_law_224 cw_X9_tray m_4_125 m_4_126 m_4_127 rfl (c_X9_tray hfm) rfl rfl (Nat.le_of_ble_eq_true rfl) ⟨Nat.le_of_ble_eq_true rfl, Nat.le_of_ble_eq_true rfl⟩ hcr ?_
  refine g_ic_eq C 1227 (by decide) dL_law_227 (fun _ => ?_) (fun h => absurd rfl h)
  exact kn α' μx' μm' cells slots rfl hR' (by rw [h28]; exact hrm)
set_option maxRecDepth 100000 in
theorem law_2 (C : CX p s m args meth c cL_law 4 RL ret0 D Y LB2 A) (S : SC s A b L xs N) (hR : Rel μx μm) (hrm : Roo cells slots (μx 28 0 0)) (kn : ∀ (α' : Adr) (μx' μm' : Mem) (cells' slots' : Nat), α' 0 0 = αx 0 0 → Rel μx' μm' → Roo cells' slots' (μx' 28 0 0) → GG D Y LB2 A p l e room_1 s m args below meth c 4 Q (mA α' αm) cells' slots' [(3, vi (N : Int)), (2, .ref (αm 30 0)), (1, .ref (αx 0 0)), (0, .ref b)] [] (mM μx' μm') 1227) : GG D Y LB2 A p l e room_1 s m args below meth c 4 Q (mA αx αm) cells slots [(3, vi (N : Int)), (2, .ref (αm 30 0)), (1, .ref (αx 0 0)), (0, .ref b)] [] (mM μx μm) 232 := by
  obtain ⟨r, μx', μm', hfx, hfm, hR'⟩ := op_write hR (sc_I xs (N + 1)) (sc_I xs (N + 2)) (lor_I (lsh (w32 (sc xs (N + 3))) 32) (lan (w32 (sc xs (N + 4))) (4294967295)))
  have h28 : μx' 28 = μx 28 := k_X8_write rfl _ _ hfx
  have hcr := hrm.cr hR.len
  refine g_ald_n C 2 rfl rfl dL_law_232 ?_
  refine g_arg C S 3 0 1 (by decide) rfl rfl dL_law_233 dL_law_234 dL_law_235 dL_law_236 dL_law_237 ?_
  refine g_arg C S 3 0 2 (by decide) rfl rfl dL_law_238 dL_law_239 dL_law_240 dL_law_241 dL_law_242 ?_
  refine g_arg C S 3 0 3 (by decide) rfl rfl dL_law_243 dL_law_244 dL_law_245 dL_law_246 dL_law_247 ?_
  refine g_i2l C dL_law_248 ?_
  refine g_bipush C rfl dL_law_249 ?_
  refine g_lshl C dL_law_251 ?_
  refine g_arg C S 3 0 4 (by decide) rfl rfl dL_law_252 dL_law_253 dL_law_254 dL_law_255 dL_law_256 ?_
  refine g_i2l C dL_law_257 ?_
  refine g_ldc2 (x := 4294967295) C m_5_119 dL_law_258 ?_
  refine g_land C dL_law_261 ?_
  refine g_lor C dL_law_262 ?_
  refine g_callX C dL_law_263 cw_X8_write m_2_89 m_2_90 m_2_91 rfl (c_X8_write hfx) rfl rfl (Nat.le_of_ble_eq_true rfl) ⟨Nat.le_of_ble_eq_true rfl, Nat.le_of_ble_eq_true rfl⟩ hcr (fun α' hα => ?_)
  subst hα
  refine g_ald_n C 1 rfl rfl dL_law_266 ?_
  refine g_arg C S 3 0 1 (by decide) rfl rfl dL_law_267 dL_law_268 dL_law_269 dL_law_270 dL_law_271 ?_
  refine g_arg C S 3 0 2 (by decide) rfl rfl dL_law_272 dL_law_273 dL_law_274 dL_law_275 dL_law_276 ?_
  refine g_arg C S 3 0 3 (by decide) rfl rfl dL_law_277 dL_law_278 dL_law_279 dL_law_280 dL_law_281 ?_
  refine g_i2l C dL_law_282 ?_
  refine g_bipush C rfl dL_law_283 ?_
  refine g_lshl C dL_law_285 ?_
  refine g_arg C S 3 0 4 (by decide) rfl rfl dL_law_286 dL_law_287 dL_law_288 dL_law_289 dL_law_290 ?_
  refine g_i2l C dL_law_291 ?_
  refine g_ldc2 (x := 4294967295) C m_5_119 dL_law_292 ?_
  refine g_land C dL_law_295 ?_
  refine g_lor C dL_law_296 ?_
  refine g_callM C dL_law_297 cw_X9_write m_4_133 m_4_134 m_4_135 rfl (c_X9_write hfm) rfl rfl (Nat.le_of_ble_eq_true rfl) ⟨Nat.le_of_ble_eq_true rfl, Nat.le_of_ble_eq_true rfl⟩ hcr ?_
  refine g_ic_eq C 1227 (by decide) dL_law_300 (fun _ => ?_) (fun h => absurd rfl h)
  exact kn α' μx' μm' cells slots rfl hR' (by rw [h28]; exact hrm)
set_option maxRecDepth 100000 in
theorem law_3 (C : CX p s m args meth c cL_law 4 RL ret0 D Y LB2 A) (S : SC s A b L xs N) (hR : Rel μx μm) (hrm : Roo cells slots (μx 28 0 0)) (kn : ∀ (α' : Adr) (μx' μm' : Mem) (cells' slots' : Nat), α' 0 0 = αx 0 0 → Rel μx' μm' → Roo cells' slots' (μx' 28 0 0) → GG D Y LB2 A p l e room_1 s m args below meth c 4 Q (mA α' αm) cells' slots' [(3, vi (N : Int)), (2, .ref (αm 30 0)), (1, .ref (αx 0 0)), (0, .ref b)] [] (mM μx' μm') 1227) : GG D Y LB2 A p l e room_1 s m args below meth c 4 Q (mA αx αm) cells slots [(3, vi (N : Int)), (2, .ref (αm 30 0)), (1, .ref (αx 0 0)), (0, .ref b)] [] (mM μx μm) 305 := by
  obtain ⟨r, μx', μm', hfx, hfm, hR'⟩ := op_read hR (sc_I xs (N + 1)) (sc_I xs (N + 2))
  have h28 : μx' 28 = μx 28 := k_X8_read rfl _ _ hfx
  have hcr := hrm.cr hR.len
  refine g_ald_n C 2 rfl rfl dL_law_305 ?_
  refine g_arg C S 3 0 1 (by decide) rfl rfl dL_law_306 dL_law_307 dL_law_308 dL_law_309 dL_law_310 ?_
  refine g_arg C S 3 0 2 (by decide) rfl rfl dL_law_311 dL_law_312 dL_law_313 dL_law_314 dL_law_315 ?_
  refine g_callX C dL_law_316 cw_X8_read m_2_114 m_2_115 m_2_116 rfl (c_X8_read hfx) rfl rfl (Nat.le_of_ble_eq_true rfl) ⟨Nat.le_of_ble_eq_true rfl, Nat.le_of_ble_eq_true rfl⟩ hcr (fun α' hα => ?_)
  subst hα
  refine g_ald_n C 1 rfl rfl dL_law_319 ?_
  refine g_arg C S 3 0 1 (by decide) rfl rfl dL_law_320 dL_law_321 dL_law_322 dL_law_323 dL_law_324 ?_
  refine g_arg C S 3 0 2 (by decide) rfl rfl dL_law_325 dL_law_326 dL_law_327 dL_law_328 dL_law_329 ?_
  refine g_callM C dL_law_330 cw_X9_read m_4_148 m_4_149 m_4_150 rfl (c_X9_read hfm) rfl rfl (Nat.le_of_ble_eq_true rfl) ⟨Nat.le_of_ble_eq_true rfl, Nat.le_of_ble_eq_true rfl⟩ hcr ?_
  refine g_lc_eq C 1227 (by decide) dL_law_333 dL_law_334 (fun _ => ?_) (fun h => absurd rfl h)
  exact kn α' μx' μm' cells slots rfl hR' (by rw [h28]; exact hrm)
set_option maxRecDepth 100000 in
theorem law_4 (C : CX p s m args meth c cL_law 4 RL ret0 D Y LB2 A) (S : SC s A b L xs N) (hR : Rel μx μm) (hrm : Roo cells slots (μx 28 0 0)) (kn : ∀ (α' : Adr) (μx' μm' : Mem) (cells' slots' : Nat), α' 0 0 = αx 0 0 → Rel μx' μm' → Roo cells' slots' (μx' 28 0 0) → GG D Y LB2 A p l e room_1 s m args below meth c 4 Q (mA α' αm) cells' slots' [(3, vi (N : Int)), (2, .ref (αm 30 0)), (1, .ref (αx 0 0)), (0, .ref b)] [] (mM μx' μm') 1227) : GG D Y LB2 A p l e room_1 s m args below meth c 4 Q (mA αx αm) cells slots [(3, vi (N : Int)), (2, .ref (αm 30 0)), (1, .ref (αx 0 0)), (0, .ref b)] [] (mM μx μm) 339 := by
  obtain ⟨r, μx', μm', hfx, hfm, hR'⟩ := op_pour hR (sc_I xs (N + 1)) (sc_I xs (N + 2)) (sc_I xs (N + 3)) (sc_I xs (N + 4)) (sc_I xs (N + 5))
  have h28 : μx' 28 = μx 28 := k_X8_pour rfl _ _ hfx
  have hcr := hrm.cr hR.len
  refine g_ald_n C 2 rfl rfl dL_law_339 ?_
  refine g_arg C S 3 0 1 (by decide) rfl rfl dL_law_340 dL_law_341 dL_law_342 dL_law_343 dL_law_344 ?_
  refine g_arg C S 3 0 2 (by decide) rfl rfl dL_law_345 dL_law_346 dL_law_347 dL_law_348 dL_law_349 ?_
  refine g_arg C S 3 0 3 (by decide) rfl rfl dL_law_350 dL_law_351 dL_law_352 dL_law_353 dL_law_354 ?_
  refine g_arg C S 3 0 4 (by decide) rfl rfl dL_law_355 dL_law_356 dL_law_357 dL_law_358 dL_law_359 ?_
  refine g_arg C S 3 0 5 (by decide) rfl rfl dL_law_360 dL_law_361 dL_law_362 dL_law_363 dL_law_364 ?_
  refine g_callX C dL_law_365 cw_X8_pour m_2_126 m_2_127 m_2_128 rfl (c_X8_pour hfx) rfl rfl (Nat.le_of_ble_eq_true rfl) ⟨Nat.le_of_ble_eq_true rfl, Nat.le_of_ble_eq_true rfl⟩ hcr (fun α' hα => ?_)
  subst hα
  refine g_ald_n C 1 rfl rfl dL_law_368 ?_
  refine g_arg C S 3 0 1 (by decide) rfl rfl dL_law_369 dL_law_370 dL_law_371 dL_law_372 dL_law_373 ?_
  refine g_arg C S 3 0 2 (by decide) rfl rfl dL_law_374 dL_law_375 dL_law_376 dL_law_377 dL_law_378 ?_
  refine g_arg C S 3 0 3 (by decide) rfl rfl dL_law_379 dL_law_380 dL_law_381 dL_law_382 dL_law_383 ?_
  refine g_arg C S 3 0 4 (by decide) rfl rfl dL_law_384 dL_law_385 dL_law_386 dL_law_387 dL_law_388 ?_
  refine g_arg C S 3 0 5 (by decide) rfl rfl dL_law_389 dL_law_390 dL_law_391 dL_law_392 dL_law_393 ?_
  refine g_callM C dL_law_394 cw_X9_pour m_4_153 m_4_154 m_4_155 rfl (c_X9_pour hfm) rfl rfl (Nat.le_of_ble_eq_true rfl) ⟨Nat.le_of_ble_eq_true rfl, Nat.le_of_ble_eq_true rfl⟩ hcr ?_
  refine g_ic_eq C 1227 (by decide) dL_law_397 (fun _ => ?_) (fun h => absurd rfl h)
  exact kn α' μx' μm' cells slots rfl hR' (by rw [h28]; exact hrm)
set_option maxRecDepth 100000 in
theorem law_5 (C : CX p s m args meth c cL_law 4 RL ret0 D Y LB2 A) (S : SC s A b L xs N) (hR : Rel μx μm) (hrm : Roo cells slots (μx 28 0 0)) (kn : ∀ (α' : Adr) (μx' μm' : Mem) (cells' slots' : Nat), α' 0 0 = αx 0 0 → Rel μx' μm' → Roo cells' slots' (μx' 28 0 0) → GG D Y LB2 A p l e room_1 s m args below meth c 4 Q (mA α' αm) cells' slots' [(3, vi (N : Int)), (2, .ref (αm 30 0)), (1, .ref (αx 0 0)), (0, .ref b)] [] (mM μx' μm') 1227) : GG D Y LB2 A p l e room_1 s m args below meth c 4 Q (mA αx αm) cells slots [(3, vi (N : Int)), (2, .ref (αm 30 0)), (1, .ref (αx 0 0)), (0, .ref b)] [] (mM μx μm) 402 := by
  obtain ⟨r, μx', μm', hfx, hfm, hR'⟩ := op_part hR (sc_I xs (N + 1)) (sc_I xs (N + 2)) (sc_I xs (N + 3))
  have h28 : μx' 28 = μx 28 := k_X8_part rfl _ _ hfx
  have hcr := hrm.cr hR.len
  refine g_ald_n C 2 rfl rfl dL_law_402 ?_
  refine g_arg C S 3 0 1 (by decide) rfl rfl dL_law_403 dL_law_404 dL_law_405 dL_law_406 dL_law_407 ?_
  refine g_arg C S 3 0 2 (by decide) rfl rfl dL_law_408 dL_law_409 dL_law_410 dL_law_411 dL_law_412 ?_
  refine g_arg C S 3 0 3 (by decide) rfl rfl dL_law_413 dL_law_414 dL_law_415 dL_law_416 dL_law_417 ?_
  refine g_callX C dL_law_418 cw_X8_part m_2_137 m_2_138 m_2_139 rfl (c_X8_part hfx) rfl rfl (Nat.le_of_ble_eq_true rfl) ⟨Nat.le_of_ble_eq_true rfl, Nat.le_of_ble_eq_true rfl⟩ hcr (fun α' hα => ?_)
  subst hα
  refine g_ald_n C 1 rfl rfl dL_law_421 ?_
  refine g_arg C S 3 0 1 (by decide) rfl rfl dL_law_422 dL_law_423 dL_law_424 dL_law_425 dL_law_426 ?_
  refine g_arg C S 3 0 2 (by decide) rfl rfl dL_law_427 dL_law_428 dL_law_429 dL_law_430 dL_law_431 ?_
  refine g_arg C S 3 0 3 (by decide) rfl rfl dL_law_432 dL_law_433 dL_law_434 dL_law_435 dL_law_436 ?_
  refine g_callM C dL_law_437 cw_X9_part m_4_157 m_4_158 m_4_159 rfl (c_X9_part hfm) rfl rfl (Nat.le_of_ble_eq_true rfl) ⟨Nat.le_of_ble_eq_true rfl, Nat.le_of_ble_eq_true rfl⟩ hcr ?_
  refine g_ic_eq C 1227 (by decide) dL_law_440 (fun _ => ?_) (fun h => absurd rfl h)
  exact kn α' μx' μm' cells slots rfl hR' (by rw [h28]; exact hrm)
set_option maxRecDepth 100000 in
theorem law_6 (C : CX p s m args meth c cL_law 4 RL ret0 D Y LB2 A) (S : SC s A b L xs N) (hR : Rel μx μm) (hrm : Roo cells slots (μx 28 0 0)) (kn : ∀ (α' : Adr) (μx' μm' : Mem) (cells' slots' : Nat), α' 0 0 = αx 0 0 → Rel μx' μm' → Roo cells' slots' (μx' 28 0 0) → GG D Y LB2 A p l e room_1 s m args below meth c 4 Q (mA α' αm) cells' slots' [(3, vi (N : Int)), (2, .ref (αm 30 0)), (1, .ref (αx 0 0)), (0, .ref b)] [] (mM μx' μm') 1227) : GG D Y LB2 A p l e room_1 s m args below meth c 4 Q (mA αx αm) cells slots [(3, vi (N : Int)), (2, .ref (αm 30 0)), (1, .ref (αx 0 0)), (0, .ref b)] [] (mM μx μm) 445 := by
  obtain ⟨r, μx', μm', hfx, hfm, hR'⟩ := op_fixed hR (sc_I xs (N + 1)) (sc_I xs (N + 2))
  have h28 : μx' 28 = μx 28 := k_X8_fixed rfl _ _ hfx
  have hcr := hrm.cr hR.len
  refine g_ald_n C 2 rfl rfl dL_law_445 ?_
  refine g_arg C S 3 0 1 (by decide) rfl rfl dL_law_446 dL_law_447 dL_law_448 dL_law_449 dL_law_450 ?_
  refine g_arg C S 3 0 2 (by decide) rfl rfl dL_law_451 dL_law_452 dL_law_453 dL_law_454 dL_law_455 ?_
  refine g_callX C dL_law_456 cw_X8_fixed m_2_192 m_2_193 m_2_194 rfl (c_X8_fixed hfx) rfl rfl (Nat.le_of_ble_eq_true rfl) ⟨Nat.le_of_ble_eq_true rfl, Nat.le_of_ble_eq_true rfl⟩ hcr (fun α' hα => ?_)
  subst hα
  refine g_ald_n C 1 rfl rfl dL_law_459 ?_
  refine g_arg C S 3 0 1 (by decide) rfl rfl dL_law_460 dL_law_461 dL_law_462 dL_law_463 dL_law_464 ?_
  refine g_arg C S 3 0 2 (by decide) rfl rfl dL_law_465 dL_law_466 dL_law_467 dL_law_468 dL_law_469 ?_
  refine g_callM C dL_law_470 cw_X9_fixed m_4_181 m_4_182 m_4_183 rfl (c_X9_fixed hfm) rfl rfl (Nat.le_of_ble_eq_true rfl) ⟨Nat.le_of_ble_eq_true rfl, Nat.le_of_ble_eq_true rfl⟩ hcr ?_
  refine g_ic_eq C 1227 (by decide) dL_law_473 (fun _ => ?_) (fun h => absurd rfl h)
  exact kn α' μx' μm' cells slots rfl hR' (by rw [h28]; exact hrm)
set_option maxRecDepth 100000 in
theorem law_7 (C : CX p s m args meth c cL_law 4 RL ret0 D Y LB2 A) (S : SC s A b L xs N) (hR : Rel μx μm) (hrm : Roo cells slots (μx 28 0 0)) (kn : ∀ (α' : Adr) (μx' μm' : Mem) (cells' slots' : Nat), α' 0 0 = αx 0 0 → Rel μx' μm' → Roo cells' slots' (μx' 28 0 0) → GG D Y LB2 A p l e room_1 s m args below meth c 4 Q (mA α' αm) cells' slots' [(3, vi (N : Int)), (2, .ref (αm 30 0)), (1, .ref (αx 0 0)), (0, .ref b)] [] (mM μx' μm') 1227) : GG D Y LB2 A p l e room_1 s m args below meth c 4 Q (mA αx αm) cells slots [(3, vi (N : Int)), (2, .ref (αm 30 0)), (1, .ref (αx 0 0)), (0, .ref b)] [] (mM μx μm) 478 := by
  obtain ⟨r, μx', μm', hfx, hfm, hR'⟩ := op_either hR (sc_I xs (N + 1)) (sc_I xs (N + 2)) (sc_I xs (N + 3)) (sc_I xs (N + 4)) (sc_I xs (N + 5))
  have h28 : μx' 28 = μx 28 := k_X8_either rfl _ _ hfx
  have hcr := hrm.cr hR.len
  refine g_ald_n C 2 rfl rfl dL_law_478 ?_
  refine g_arg C S 3 0 1 (by decide) rfl rfl dL_law_479 dL_law_480 dL_law_481 dL_law_482 dL_law_483 ?_
  refine g_arg C S 3 0 2 (by decide) rfl rfl dL_law_484 dL_law_485 dL_law_486 dL_law_487 dL_law_488 ?_
  refine g_arg C S 3 0 3 (by decide) rfl rfl dL_law_489 dL_law_490 dL_law_491 dL_law_492 dL_law_493 ?_
  refine g_arg C S 3 0 4 (by decide) rfl rfl dL_law_494 dL_law_495 dL_law_496 dL_law_497 dL_law_498 ?_
  refine g_arg C S 3 0 5 (by decide) rfl rfl dL_law_499 dL_law_500 dL_law_501 dL_law_502 dL_law_503 ?_
  refine g_callX C dL_law_504 cw_X8_either m_2_196 m_2_197 m_2_198 rfl (c_X8_either hfx) rfl rfl (Nat.le_of_ble_eq_true rfl) ⟨Nat.le_of_ble_eq_true rfl, Nat.le_of_ble_eq_true rfl⟩ hcr (fun α' hα => ?_)
  subst hα
  refine g_ald_n C 1 rfl rfl dL_law_507 ?_
  refine g_arg C S 3 0 1 (by decide) rfl rfl dL_law_508 dL_law_509 dL_law_510 dL_law_511 dL_law_512 ?_
  refine g_arg C S 3 0 2 (by decide) rfl rfl dL_law_513 dL_law_514 dL_law_515 dL_law_516 dL_law_517 ?_
  refine g_arg C S 3 0 3 (by decide) rfl rfl dL_law_518 dL_law_519 dL_law_520 dL_law_521 dL_law_522 ?_
  refine g_arg C S 3 0 4 (by decide) rfl rfl dL_law_523 dL_law_524 dL_law_525 dL_law_526 dL_law_527 ?_
  refine g_arg C S 3 0 5 (by decide) rfl rfl dL_law_528 dL_law_529 dL_law_530 dL_law_531 dL_law_532 ?_
  refine g_callM C dL_law_533 cw_X9_either m_4_185 m_4_186 m_4_187 rfl (c_X9_either hfm) rfl rfl (Nat.le_of_ble_eq_true rfl) ⟨Nat.le_of_ble_eq_true rfl, Nat.le_of_ble_eq_true rfl⟩ hcr ?_
  refine g_ic_eq C 1227 (by decide) dL_law_536 (fun _ => ?_) (fun h => absurd rfl h)
  exact kn α' μx' μm' cells slots rfl hR' (by rw [h28]; exact hrm)
set_option maxRecDepth 100000 in
theorem law_8 (C : CX p s m args meth c cL_law 4 RL ret0 D Y LB2 A) (S : SC s A b L xs N) (hR : Rel μx μm) (hrm : Roo cells slots (μx 28 0 0)) (kn : ∀ (α' : Adr) (μx' μm' : Mem) (cells' slots' : Nat), α' 0 0 = αx 0 0 → Rel μx' μm' → Roo cells' slots' (μx' 28 0 0) → GG D Y LB2 A p l e room_1 s m args below meth c 4 Q (mA α' αm) cells' slots' [(3, vi (N : Int)), (2, .ref (αm 30 0)), (1, .ref (αx 0 0)), (0, .ref b)] [] (mM μx' μm') 1227) : GG D Y LB2 A p l e room_1 s m args below meth c 4 Q (mA αx αm) cells slots [(3, vi (N : Int)), (2, .ref (αm 30 0)), (1, .ref (αx 0 0)), (0, .ref b)] [] (mM μx μm) 541 := by
  obtain ⟨r, μx', μm', hfx, hfm, hR'⟩ := op_again hR (sc_I xs (N + 1)) (sc_I xs (N + 2)) (sc_I xs (N + 3)) (sc_I xs (N + 4))
  have h28 : μx' 28 = μx 28 := k_X8_again rfl _ _ hfx
  have hcr := hrm.cr hR.len
  refine g_ald_n C 2 rfl rfl dL_law_541 ?_
  refine g_arg C S 3 0 1 (by decide) rfl rfl dL_law_542 dL_law_543 dL_law_544 dL_law_545 dL_law_546 ?_
  refine g_arg C S 3 0 2 (by decide) rfl rfl dL_law_547 dL_law_548 dL_law_549 dL_law_550 dL_law_551 ?_
  refine g_arg C S 3 0 3 (by decide) rfl rfl dL_law_552 dL_law_553 dL_law_554 dL_law_555 dL_law_556 ?_
  refine g_arg C S 3 0 4 (by decide) rfl rfl dL_law_557 dL_law_558 dL_law_559 dL_law_560 dL_law_561 ?_
  refine g_callX C dL_law_562 cw_X8_again m_2_209 m_2_210 m_2_211 rfl (c_X8_again hfx) rfl rfl (Nat.le_of_ble_eq_true rfl) ⟨Nat.le_of_ble_eq_true rfl, Nat.le_of_ble_eq_true rfl⟩ hcr (fun α' hα => ?_)
  subst hα
  refine g_ald_n C 1 rfl rfl dL_law_565 ?_
  refine g_arg C S 3 0 1 (by decide) rfl rfl dL_law_566 dL_law_567 dL_law_568 dL_law_569 dL_law_570 ?_
  refine g_arg C S 3 0 2 (by decide) rfl rfl dL_law_571 dL_law_572 dL_law_573 dL_law_574 dL_law_575 ?_
  refine g_arg C S 3 0 3 (by decide) rfl rfl dL_law_576 dL_law_577 dL_law_578 dL_law_579 dL_law_580 ?_
  refine g_arg C S 3 0 4 (by decide) rfl rfl dL_law_581 dL_law_582 dL_law_583 dL_law_584 dL_law_585 ?_
  refine g_callM C dL_law_586 cw_X9_again m_4_197 m_4_198 m_4_199 rfl (c_X9_again hfm) rfl rfl (Nat.le_of_ble_eq_true rfl) ⟨Nat.le_of_ble_eq_true rfl, Nat.le_of_ble_eq_true rfl⟩ hcr ?_
  refine g_ic_eq C 1227 (by decide) dL_law_589 (fun _ => ?_) (fun h => absurd rfl h)
  exact kn α' μx' μm' cells slots rfl hR' (by rw [h28]; exact hrm)
set_option maxRecDepth 100000 in
theorem law_9 (C : CX p s m args meth c cL_law 4 RL ret0 D Y LB2 A) (S : SC s A b L xs N) (hR : Rel μx μm) (hrm : Roo cells slots (μx 28 0 0)) (kn : ∀ (α' : Adr) (μx' μm' : Mem) (cells' slots' : Nat), α' 0 0 = αx 0 0 → Rel μx' μm' → Roo cells' slots' (μx' 28 0 0) → GG D Y LB2 A p l e room_1 s m args below meth c 4 Q (mA α' αm) cells' slots' [(3, vi (N : Int)), (2, .ref (αm 30 0)), (1, .ref (αx 0 0)), (0, .ref b)] [] (mM μx' μm') 1227) : GG D Y LB2 A p l e room_1 s m args below meth c 4 Q (mA αx αm) cells slots [(3, vi (N : Int)), (2, .ref (αm 30 0)), (1, .ref (αx 0 0)), (0, .ref b)] [] (mM μx μm) 594 := by
  by_cases hz : w32 (sc xs (N + 3)) = 0
  · obtain ⟨r, μx', μm', hfx, hfm, hR'⟩ := op_need hR (sc_I xs (N + 1)) (sc_I xs (N + 2)) (show I32 0 from ⟨by decide, by decide⟩)
    have h28 : μx' 28 = μx 28 := k_X8_need rfl _ _ hfx
    have hcr := hrm.cr hR.len
    refine g_ald_n C 2 rfl rfl dL_law_594 ?_
    refine g_arg C S 3 0 1 (by decide) rfl rfl dL_law_595 dL_law_596 dL_law_597 dL_law_598 dL_law_599 ?_
    refine g_arg C S 3 0 2 (by decide) rfl rfl dL_law_600 dL_law_601 dL_law_602 dL_law_603 dL_law_604 ?_
    refine g_arg C S 3 0 3 (by decide) rfl rfl dL_law_605 dL_law_606 dL_law_607 dL_law_608 dL_law_609 ?_
    refine g_if_eq C 617 (by decide) dL_law_610 (fun _ => ?_) (fun h => absurd hz h)
    refine g_iconst C dL_law_617 ?_
    refine g_callX C dL_law_618 cw_X8_need m_2_217 m_2_218 m_2_219 rfl (c_X8_need hfx) rfl rfl (Nat.le_of_ble_eq_true rfl) ⟨Nat.le_of_ble_eq_true rfl, Nat.le_of_ble_eq_true rfl⟩ hcr (fun α' hα => ?_)
    subst hα
    refine g_ald_n C 1 rfl rfl dL_law_621 ?_
    refine g_arg C S 3 0 1 (by decide) rfl rfl dL_law_622 dL_law_623 dL_law_624 dL_law_625 dL_law_626 ?_
    refine g_arg C S 3 0 2 (by decide) rfl rfl dL_law_627 dL_law_628 dL_law_629 dL_law_630 dL_law_631 ?_
    refine g_arg C S 3 0 3 (by decide) rfl rfl dL_law_632 dL_law_633 dL_law_634 dL_law_635 dL_law_636 ?_
    refine g_if_eq C 644 (by decide) dL_law_637 (fun _ => ?_) (fun h => absurd hz h)
    refine g_iconst C dL_law_644 ?_
    refine g_callM C dL_law_645 cw_X9_need m_4_201 m_4_202 m_4_203 rfl (c_X9_need hfm) rfl rfl (Nat.le_of_ble_eq_true rfl) ⟨Nat.le_of_ble_eq_true rfl, Nat.le_of_ble_eq_true rfl⟩ hcr ?_
    refine g_ic_eq C 1227 (by decide) dL_law_648 (fun _ => ?_) (fun h => absurd rfl h)
    exact kn α' μx' μm' cells slots rfl hR' (by rw [h28]; exact hrm)
  · obtain ⟨r, μx', μm', hfx, hfm, hR'⟩ := op_need hR (sc_I xs (N + 1)) (sc_I xs (N + 2)) (show I32 1 from ⟨by decide, by decide⟩)
    have h28 : μx' 28 = μx 28 := k_X8_need rfl _ _ hfx
    have hcr := hrm.cr hR.len
    refine g_ald_n C 2 rfl rfl dL_law_594 ?_
    refine g_arg C S 3 0 1 (by decide) rfl rfl dL_law_595 dL_law_596 dL_law_597 dL_law_598 dL_law_599 ?_
    refine g_arg C S 3 0 2 (by decide) rfl rfl dL_law_600 dL_law_601 dL_law_602 dL_law_603 dL_law_604 ?_
    refine g_arg C S 3 0 3 (by decide) rfl rfl dL_law_605 dL_law_606 dL_law_607 dL_law_608 dL_law_609 ?_
    refine g_if_eq C 617 (by decide) dL_law_610 (fun h => absurd h hz) (fun _ => ?_)
    refine g_iconst C dL_law_613 ?_
    refine g_goto C 618 (by decide) dL_law_614 ?_
    refine g_callX C dL_law_618 cw_X8_need m_2_217 m_2_218 m_2_219 rfl (c_X8_need hfx) rfl rfl (Nat.le_of_ble_eq_true rfl) ⟨Nat.le_of_ble_eq_true rfl, Nat.le_of_ble_eq_true rfl⟩ hcr (fun α' hα => ?_)
    subst hα
    refine g_ald_n C 1 rfl rfl dL_law_621 ?_
    refine g_arg C S 3 0 1 (by decide) rfl rfl dL_law_622 dL_law_623 dL_law_624 dL_law_625 dL_law_626 ?_
    refine g_arg C S 3 0 2 (by decide) rfl rfl dL_law_627 dL_law_628 dL_law_629 dL_law_630 dL_law_631 ?_
    refine g_arg C S 3 0 3 (by decide) rfl rfl dL_law_632 dL_law_633 dL_law_634 dL_law_635 dL_law_636 ?_
    refine g_if_eq C 644 (by decide) dL_law_637 (fun h => absurd h hz) (fun _ => ?_)
    refine g_iconst C dL_law_640 ?_
    refine g_goto C 645 (by decide) dL_law_641 ?_
    refine g_callM C dL_law_645 cw_X9_need m_4_201 m_4_202 m_4_203 rfl (c_X9_need hfm) rfl rfl (Nat.le_of_ble_eq_true rfl) ⟨Nat.le_of_ble_eq_true rfl, Nat.le_of_ble_eq_true rfl⟩ hcr ?_
    refine g_ic_eq C 1227 (by decide) dL_law_648 (fun _ => ?_) (fun h => absurd rfl h)
    exact kn α' μx' μm' cells slots rfl hR' (by rw [h28]; exact hrm)
set_option maxRecDepth 100000 in
theorem law_10 (C : CX p s m args meth c cL_law 4 RL ret0 D Y LB2 A) (S : SC s A b L xs N) (hR : Rel μx μm) (hrm : Roo cells slots (μx 28 0 0)) (kn : ∀ (α' : Adr) (μx' μm' : Mem) (cells' slots' : Nat), α' 0 0 = αx 0 0 → Rel μx' μm' → Roo cells' slots' (μx' 28 0 0) → GG D Y LB2 A p l e room_1 s m args below meth c 4 Q (mA α' αm) cells' slots' [(3, vi (N : Int)), (2, .ref (αm 30 0)), (1, .ref (αx 0 0)), (0, .ref b)] [] (mM μx' μm') 1227) : GG D Y LB2 A p l e room_1 s m args below meth c 4 Q (mA αx αm) cells slots [(3, vi (N : Int)), (2, .ref (αm 30 0)), (1, .ref (αx 0 0)), (0, .ref b)] [] (mM μx μm) 653 := by
  obtain ⟨r, μx', μm', hfx, hfm, hR'⟩ := op_cause hR (sc_I xs (N + 1)) (sc_I xs (N + 2))
  have h28 : μx' 28 = μx 28 := k_X8_cause rfl _ _ hfx
  have hcr := hrm.cr hR.len
  refine g_ald_n C 2 rfl rfl dL_law_653 ?_
  refine g_arg C S 3 0 1 (by decide) rfl rfl dL_law_654 dL_law_655 dL_law_656 dL_law_657 dL_law_658 ?_
  refine g_arg C S 3 0 2 (by decide) rfl rfl dL_law_659 dL_law_660 dL_law_661 dL_law_662 dL_law_663 ?_
  refine g_callX C dL_law_664 cw_X8_cause m_2_225 m_2_226 m_2_227 rfl (c_X8_cause hfx) rfl rfl (Nat.le_of_ble_eq_true rfl) ⟨Nat.le_of_ble_eq_true rfl, Nat.le_of_ble_eq_true rfl⟩ hcr (fun α' hα => ?_)
  subst hα
  refine g_ald_n C 1 rfl rfl dL_law_667 ?_
  refine g_arg C S 3 0 1 (by decide) rfl rfl dL_law_668 dL_law_669 dL_law_670 dL_law_671 dL_law_672 ?_
  refine g_arg C S 3 0 2 (by decide) rfl rfl dL_law_673 dL_law_674 dL_law_675 dL_law_676 dL_law_677 ?_
  refine g_callM C dL_law_678 cw_X9_cause m_4_205 m_4_206 m_4_207 rfl (c_X9_cause hfm) rfl rfl (Nat.le_of_ble_eq_true rfl) ⟨Nat.le_of_ble_eq_true rfl, Nat.le_of_ble_eq_true rfl⟩ hcr ?_
  refine g_ic_eq C 1227 (by decide) dL_law_681 (fun _ => ?_) (fun h => absurd rfl h)
  exact kn α' μx' μm' cells slots rfl hR' (by rw [h28]; exact hrm)
set_option maxRecDepth 100000 in
theorem law_11 (C : CX p s m args meth c cL_law 4 RL ret0 D Y LB2 A) (S : SC s A b L xs N) (hR : Rel μx μm) (hrm : Roo cells slots (μx 28 0 0)) (kn : ∀ (α' : Adr) (μx' μm' : Mem) (cells' slots' : Nat), α' 0 0 = αx 0 0 → Rel μx' μm' → Roo cells' slots' (μx' 28 0 0) → GG D Y LB2 A p l e room_1 s m args below meth c 4 Q (mA α' αm) cells' slots' [(3, vi (N : Int)), (2, .ref (αm 30 0)), (1, .ref (αx 0 0)), (0, .ref b)] [] (mM μx' μm') 1227) : GG D Y LB2 A p l e room_1 s m args below meth c 4 Q (mA αx αm) cells slots [(3, vi (N : Int)), (2, .ref (αm 30 0)), (1, .ref (αx 0 0)), (0, .ref b)] [] (mM μx μm) 686 := by
  obtain ⟨r, μx', μm', hfx, hfm, hR'⟩ := op_late hR (sc_I xs (N + 1)) (sc_I xs (N + 2)) (sc_I xs (N + 3))
  have h28 : μx' 28 = μx 28 := k_X8_late rfl _ _ hfx
  have hcr := hrm.cr hR.len
  refine g_ald_n C 2 rfl rfl dL_law_686 ?_
  refine g_arg C S 3 0 1 (by decide) rfl rfl dL_law_687 dL_law_688 dL_law_689 dL_law_690 dL_law_691 ?_
  refine g_arg C S 3 0 2 (by decide) rfl rfl dL_law_692 dL_law_693 dL_law_694 dL_law_695 dL_law_696 ?_
  refine g_arg C S 3 0 3 (by decide) rfl rfl dL_law_697 dL_law_698 dL_law_699 dL_law_700 dL_law_701 ?_
  refine g_callX C dL_law_702 cw_X8_late m_2_233 m_2_234 m_2_235 rfl (c_X8_late hfx) rfl rfl (Nat.le_of_ble_eq_true rfl) ⟨Nat.le_of_ble_eq_true rfl, Nat.le_of_ble_eq_true rfl⟩ hcr (fun α' hα => ?_)
  subst hα
  refine g_ald_n C 1 rfl rfl dL_law_705 ?_
  refine g_arg C S 3 0 1 (by decide) rfl rfl dL_law_706 dL_law_707 dL_law_708 dL_law_709 dL_law_710 ?_
  refine g_arg C S 3 0 2 (by decide) rfl rfl dL_law_711 dL_law_712 dL_law_713 dL_law_714 dL_law_715 ?_
  refine g_arg C S 3 0 3 (by decide) rfl rfl dL_law_716 dL_law_717 dL_law_718 dL_law_719 dL_law_720 ?_
  refine g_callM C dL_law_721 cw_X9_late m_4_209 m_4_210 m_4_211 rfl (c_X9_late hfm) rfl rfl (Nat.le_of_ble_eq_true rfl) ⟨Nat.le_of_ble_eq_true rfl, Nat.le_of_ble_eq_true rfl⟩ hcr ?_
  refine g_ic_eq C 1227 (by decide) dL_law_724 (fun _ => ?_) (fun h => absurd rfl h)
  exact kn α' μx' μm' cells slots rfl hR' (by rw [h28]; exact hrm)
set_option maxRecDepth 100000 in
theorem law_12 (C : CX p s m args meth c cL_law 4 RL ret0 D Y LB2 A) (S : SC s A b L xs N) (hR : Rel μx μm) (hrm : Roo cells slots (μx 28 0 0)) (kn : ∀ (α' : Adr) (μx' μm' : Mem) (cells' slots' : Nat), α' 0 0 = αx 0 0 → Rel μx' μm' → Roo cells' slots' (μx' 28 0 0) → GG D Y LB2 A p l e room_1 s m args below meth c 4 Q (mA α' αm) cells' slots' [(3, vi (N : Int)), (2, .ref (αm 30 0)), (1, .ref (αx 0 0)), (0, .ref b)] [] (mM μx' μm') 1227) : GG D Y LB2 A p l e room_1 s m args below meth c 4 Q (mA αx αm) cells slots [(3, vi (N : Int)), (2, .ref (αm 30 0)), (1, .ref (αx 0 0)), (0, .ref b)] [] (mM μx μm) 729 := by
  obtain ⟨r, μx', μm', hfx, hfm, hR'⟩ := op_hands hR (sc_I xs (N + 1))
  have h28 : μx' 28 = μx 28 := k_X8_hands rfl _ _ hfx
  have hcr := hrm.cr hR.len
  refine g_ald_n C 2 rfl rfl dL_law_729 ?_
  refine g_arg C S 3 0 1 (by decide) rfl rfl dL_law_730 dL_law_731 dL_law_732 dL_law_733 dL_law_734 ?_
  refine g_callX C dL_law_735 cw_X8_hands m_2_237 m_2_238 m_2_239 rfl (c_X8_hands hfx) rfl rfl (Nat.le_of_ble_eq_true rfl) ⟨Nat.le_of_ble_eq_true rfl, Nat.le_of_ble_eq_true rfl⟩ hcr (fun α' hα => ?_)
  subst hα
  refine g_ald_n C 1 rfl rfl dL_law_738 ?_
  refine g_arg C S 3 0 1 (by decide) rfl rfl dL_law_739 dL_law_740 dL_law_741 dL_law_742 dL_law_743 ?_
  refine g_callM C dL_law_744 cw_X9_hands m_4_213 m_4_214 m_4_215 rfl (c_X9_hands hfm) rfl rfl (Nat.le_of_ble_eq_true rfl) ⟨Nat.le_of_ble_eq_true rfl, Nat.le_of_ble_eq_true rfl⟩ hcr ?_
  refine g_ic_eq C 1227 (by decide) dL_law_747 (fun _ => ?_) (fun h => absurd rfl h)
  exact kn α' μx' μm' cells slots rfl hR' (by rw [h28]; exact hrm)
set_option maxRecDepth 100000 in
theorem law_13 (C : CX p s m args meth c cL_law 4 RL ret0 D Y LB2 A) (S : SC s A b L xs N) (hR : Rel μx μm) (hrm : Roo cells slots (μx 28 0 0)) (kn : ∀ (α' : Adr) (μx' μm' : Mem) (cells' slots' : Nat), α' 0 0 = αx 0 0 → Rel μx' μm' → Roo cells' slots' (μx' 28 0 0) → GG D Y LB2 A p l e room_1 s m args below meth c 4 Q (mA α' αm) cells' slots' [(3, vi (N : Int)), (2, .ref (αm 30 0)), (1, .ref (αx 0 0)), (0, .ref b)] [] (mM μx' μm') 1227) : GG D Y LB2 A p l e room_1 s m args below meth c 4 Q (mA αx αm) cells slots [(3, vi (N : Int)), (2, .ref (αm 30 0)), (1, .ref (αx 0 0)), (0, .ref b)] [] (mM μx μm) 752 := by
  obtain ⟨r, μx', μm', hfx, hfm, hR'⟩ := op_clear hR 
  have h28 : μx' 28 = μx 28 := k_X8_clear rfl _ _ hfx
  have hcr := hrm.cr hR.len
  refine g_ald_n C 2 rfl rfl dL_law_752 ?_
  refine g_callX C dL_law_753 cw_X8_clear m_3_1 m_3_2 m_3_3 rfl (c_X8_clear hfx) rfl rfl (Nat.le_of_ble_eq_true rfl) ⟨Nat.le_of_ble_eq_true rfl, Nat.le_of_ble_eq_true rfl⟩ hcr (fun α' hα => ?_)
  subst hα
  refine g_ald_n C 1 rfl rfl dL_law_756 ?_
  refine g_callM C dL_law_757 cw_X9_clear m_4_217 m_4_218 m_4_219 rfl (c_X9_clear hfm) rfl rfl (Nat.le_of_ble_eq_true rfl) ⟨Nat.le_of_ble_eq_true rfl, Nat.le_of_ble_eq_true rfl⟩ hcr ?_
  refine g_ic_eq C 1227 (by decide) dL_law_760 (fun _ => ?_) (fun h => absurd rfl h)
  exact kn α' μx' μm' cells slots rfl hR' (by rw [h28]; exact hrm)
set_option maxRecDepth 100000 in
theorem law_14 (C : CX p s m args meth c cL_law 4 RL ret0 D Y LB2 A) (S : SC s A b L xs N) (hR : Rel μx μm) (hrm : Roo cells slots (μx 28 0 0)) (kn : ∀ (α' : Adr) (μx' μm' : Mem) (cells' slots' : Nat), α' 0 0 = αx 0 0 → Rel μx' μm' → Roo cells' slots' (μx' 28 0 0) → GG D Y LB2 A p l e room_1 s m args below meth c 4 Q (mA α' αm) cells' slots' [(3, vi (N : Int)), (2, .ref (αm 30 0)), (1, .ref (αx 0 0)), (0, .ref b)] [] (mM μx' μm') 1227) : GG D Y LB2 A p l e room_1 s m args below meth c 4 Q (mA αx αm) cells slots [(3, vi (N : Int)), (2, .ref (αm 30 0)), (1, .ref (αx 0 0)), (0, .ref b)] [] (mM μx μm) 765 := by
  obtain ⟨r, μx', μm', hfx, hfm, hR'⟩ := op_told hR (sc_I xs (N + 1)) (sc_I xs (N + 2))
  have h28 : μx' 28 = μx 28 := k_X8_told rfl _ _ hfx
  have hcr := hrm.cr hR.len
  refine g_ald_n C 2 rfl rfl dL_law_765 ?_
  refine g_arg C S 3 0 1 (by decide) rfl rfl dL_law_766 dL_law_767 dL_law_768 dL_law_769 dL_law_770 ?_
  refine g_arg C S 3 0 2 (by decide) rfl rfl dL_law_771 dL_law_772 dL_law_773 dL_law_774 dL_law_775 ?_
  refine g_callX C dL_law_776 cw_X8_told m_3_9 m_3_10 m_3_11 rfl (c_X8_told hfx) rfl rfl (Nat.le_of_ble_eq_true rfl) ⟨Nat.le_of_ble_eq_true rfl, Nat.le_of_ble_eq_true rfl⟩ hcr (fun α' hα => ?_)
  subst hα
  refine g_ald_n C 1 rfl rfl dL_law_779 ?_
  refine g_arg C S 3 0 1 (by decide) rfl rfl dL_law_780 dL_law_781 dL_law_782 dL_law_783 dL_law_784 ?_
  refine g_arg C S 3 0 2 (by decide) rfl rfl dL_law_785 dL_law_786 dL_law_787 dL_law_788 dL_law_789 ?_
  refine g_callM C dL_law_790 cw_X9_told m_4_221 m_4_222 m_4_223 rfl (c_X9_told hfm) rfl rfl (Nat.le_of_ble_eq_true rfl) ⟨Nat.le_of_ble_eq_true rfl, Nat.le_of_ble_eq_true rfl⟩ hcr ?_
  refine g_ic_eq C 1227 (by decide) dL_law_793 (fun _ => ?_) (fun h => absurd rfl h)
  exact kn α' μx' μm' cells slots rfl hR' (by rw [h28]; exact hrm)
set_option maxRecDepth 100000 in
theorem law_15 (C : CX p s m args meth c cL_law 4 RL ret0 D Y LB2 A) (S : SC s A b L xs N) (hR : Rel μx μm) (hrm : Roo cells slots (μx 28 0 0)) (kn : ∀ (α' : Adr) (μx' μm' : Mem) (cells' slots' : Nat), α' 0 0 = αx 0 0 → Rel μx' μm' → Roo cells' slots' (μx' 28 0 0) → GG D Y LB2 A p l e room_1 s m args below meth c 4 Q (mA α' αm) cells' slots' [(3, vi (N : Int)), (2, .ref (αm 30 0)), (1, .ref (αx 0 0)), (0, .ref b)] [] (mM μx' μm') 1227) : GG D Y LB2 A p l e room_1 s m args below meth c 4 Q (mA αx αm) cells slots [(3, vi (N : Int)), (2, .ref (αm 30 0)), (1, .ref (αx 0 0)), (0, .ref b)] [] (mM μx μm) 798 := by
  obtain ⟨r, μx', μm', hfx, hfm, hR'⟩ := op_row hR (sc_I xs (N + 1)) (sc_I xs (N + 2)) (sc_I xs (N + 3))
  have h28 : μx' 28 = μx 28 := k_X8_row rfl _ _ hfx
  have hcr := hrm.cr hR.len
  refine g_ald_n C 2 rfl rfl dL_law_798 ?_
  refine g_arg C S 3 0 1 (by decide) rfl rfl dL_law_799 dL_law_800 dL_law_801 dL_law_802 dL_law_803 ?_
  refine g_arg C S 3 0 2 (by decide) rfl rfl dL_law_804 dL_law_805 dL_law_806 dL_law_807 dL_law_808 ?_
  refine g_arg C S 3 0 3 (by decide) rfl rfl dL_law_809 dL_law_810 dL_law_811 dL_law_812 dL_law_813 ?_
  refine g_callX C dL_law_814 cw_X8_row m_3_19 m_3_20 m_3_21 rfl (c_X8_row hfx) rfl rfl (Nat.le_of_ble_eq_true rfl) ⟨Nat.le_of_ble_eq_true rfl, Nat.le_of_ble_eq_true rfl⟩ hcr (fun α' hα => ?_)
  subst hα
  refine g_ald_n C 1 rfl rfl dL_law_817 ?_
  refine g_arg C S 3 0 1 (by decide) rfl rfl dL_law_818 dL_law_819 dL_law_820 dL_law_821 dL_law_822 ?_
  refine g_arg C S 3 0 2 (by decide) rfl rfl dL_law_823 dL_law_824 dL_law_825 dL_law_826 dL_law_827 ?_
  refine g_arg C S 3 0 3 (by decide) rfl rfl dL_law_828 dL_law_829 dL_law_830 dL_law_831 dL_law_832 ?_
  refine g_callM C dL_law_833 cw_X9_row m_4_226 m_4_227 m_4_228 rfl (c_X9_row hfm) rfl rfl (Nat.le_of_ble_eq_true rfl) ⟨Nat.le_of_ble_eq_true rfl, Nat.le_of_ble_eq_true rfl⟩ hcr ?_
  refine g_ic_eq C 1227 (by decide) dL_law_836 (fun _ => ?_) (fun h => absurd rfl h)
  exact kn α' μx' μm' cells slots rfl hR' (by rw [h28]; exact hrm)
set_option maxRecDepth 100000 in
theorem law_16 (C : CX p s m args meth c cL_law 4 RL ret0 D Y LB2 A) (S : SC s A b L xs N) (hR : Rel μx μm) (hrm : Roo cells slots (μx 28 0 0)) (kn : ∀ (α' : Adr) (μx' μm' : Mem) (cells' slots' : Nat), α' 0 0 = αx 0 0 → Rel μx' μm' → Roo cells' slots' (μx' 28 0 0) → GG D Y LB2 A p l e room_1 s m args below meth c 4 Q (mA α' αm) cells' slots' [(3, vi (N : Int)), (2, .ref (αm 30 0)), (1, .ref (αx 0 0)), (0, .ref b)] [] (mM μx' μm') 1227) : GG D Y LB2 A p l e room_1 s m args below meth c 4 Q (mA αx αm) cells slots [(3, vi (N : Int)), (2, .ref (αm 30 0)), (1, .ref (αx 0 0)), (0, .ref b)] [] (mM μx μm) 841 := by
  obtain ⟨r, μx', μm', hfx, hfm, hR'⟩ := op_upper hR 
  have h28 : μx' 28 = μx 28 := k_X8_upper rfl _ _ hfx
  have hcr := hrm.cr hR.len
  refine g_ald_n C 2 rfl rfl dL_law_841 ?_
  refine g_callX C dL_law_842 cw_X8_upper m_3_23 m_3_24 m_3_25 rfl (c_X8_upper hfx) rfl rfl (Nat.le_of_ble_eq_true rfl) ⟨Nat.le_of_ble_eq_true rfl, Nat.le_of_ble_eq_true rfl⟩ hcr (fun α' hα => ?_)
  subst hα
  refine g_ald_n C 1 rfl rfl dL_law_845 ?_
  refine g_callM C dL_law_846 cw_X9_upper m_4_230 m_4_231 m_4_232 rfl (c_X9_upper hfm) rfl rfl (Nat.le_of_ble_eq_true rfl) ⟨Nat.le_of_ble_eq_true rfl, Nat.le_of_ble_eq_true rfl⟩ hcr ?_
  refine g_lc_eq C 1227 (by decide) dL_law_849 dL_law_850 (fun _ => ?_) (fun h => absurd rfl h)
  exact kn α' μx' μm' cells slots rfl hR' (by rw [h28]; exact hrm)
set_option maxRecDepth 100000 in
theorem law_17 (C : CX p s m args meth c cL_law 4 RL ret0 D Y LB2 A) (S : SC s A b L xs N) (hR : Rel μx μm) (hrm : Roo cells slots (μx 28 0 0)) (kn : ∀ (α' : Adr) (μx' μm' : Mem) (cells' slots' : Nat), α' 0 0 = αx 0 0 → Rel μx' μm' → Roo cells' slots' (μx' 28 0 0) → GG D Y LB2 A p l e room_1 s m args below meth c 4 Q (mA α' αm) cells' slots' [(3, vi (N : Int)), (2, .ref (αm 30 0)), (1, .ref (αx 0 0)), (0, .ref b)] [] (mM μx' μm') 1227) : GG D Y LB2 A p l e room_1 s m args below meth c 4 Q (mA αx αm) cells slots [(3, vi (N : Int)), (2, .ref (αm 30 0)), (1, .ref (αx 0 0)), (0, .ref b)] [] (mM μx μm) 855 := by
  obtain ⟨r, μx', μm', hfx, hfm, hR'⟩ := op_lower hR 
  have h28 : μx' 28 = μx 28 := k_X8_lower rfl _ _ hfx
  have hcr := hrm.cr hR.len
  refine g_ald_n C 2 rfl rfl dL_law_855 ?_
  refine g_callX C dL_law_856 cw_X8_lower m_3_27 m_3_28 m_3_29 rfl (c_X8_lower hfx) rfl rfl (Nat.le_of_ble_eq_true rfl) ⟨Nat.le_of_ble_eq_true rfl, Nat.le_of_ble_eq_true rfl⟩ hcr (fun α' hα => ?_)
  subst hα
  refine g_ald_n C 1 rfl rfl dL_law_859 ?_
  refine g_callM C dL_law_860 cw_X9_lower m_4_234 m_4_235 m_4_236 rfl (c_X9_lower hfm) rfl rfl (Nat.le_of_ble_eq_true rfl) ⟨Nat.le_of_ble_eq_true rfl, Nat.le_of_ble_eq_true rfl⟩ hcr ?_
  refine g_lc_eq C 1227 (by decide) dL_law_863 dL_law_864 (fun _ => ?_) (fun h => absurd rfl h)
  exact kn α' μx' μm' cells slots rfl hR' (by rw [h28]; exact hrm)
set_option maxRecDepth 100000 in
theorem law_18 (C : CX p s m args meth c cL_law 4 RL ret0 D Y LB2 A) (S : SC s A b L xs N) (hR : Rel μx μm) (hrm : Roo cells slots (μx 28 0 0)) (kn : ∀ (α' : Adr) (μx' μm' : Mem) (cells' slots' : Nat), α' 0 0 = αx 0 0 → Rel μx' μm' → Roo cells' slots' (μx' 28 0 0) → GG D Y LB2 A p l e room_1 s m args below meth c 4 Q (mA α' αm) cells' slots' [(3, vi (N : Int)), (2, .ref (αm 30 0)), (1, .ref (αx 0 0)), (0, .ref b)] [] (mM μx' μm') 1227) : GG D Y LB2 A p l e room_1 s m args below meth c 4 Q (mA αx αm) cells slots [(3, vi (N : Int)), (2, .ref (αm 30 0)), (1, .ref (αx 0 0)), (0, .ref b)] [] (mM μx μm) 869 := by
  obtain ⟨r, μx', μm', hfx, hfm, hR'⟩ := op_ways hR 
  have h28 : μx' 28 = μx 28 := k_X8_ways rfl _ _ hfx
  have hcr := hrm.cr hR.len
  refine g_ald_n C 2 rfl rfl dL_law_869 ?_
  refine g_callX C dL_law_870 cw_X8_ways m_3_31 m_3_32 m_3_33 rfl (c_X8_ways hfx) rfl rfl (Nat.le_of_ble_eq_true rfl) ⟨Nat.le_of_ble_eq_true rfl, Nat.le_of_ble_eq_true rfl⟩ hcr (fun α' hα => ?_)
  subst hα
  refine g_ald_n C 1 rfl rfl dL_law_873 ?_
  refine g_callM C dL_law_874 cw_X9_ways m_4_238 m_4_239 m_5_0 rfl (c_X9_ways hfm) rfl rfl (Nat.le_of_ble_eq_true rfl) ⟨Nat.le_of_ble_eq_true rfl, Nat.le_of_ble_eq_true rfl⟩ hcr ?_
  refine g_ic_eq C 1227 (by decide) dL_law_877 (fun _ => ?_) (fun h => absurd rfl h)
  exact kn α' μx' μm' cells slots rfl hR' (by rw [h28]; exact hrm)
set_option maxRecDepth 100000 in
theorem law_19 (C : CX p s m args meth c cL_law 4 RL ret0 D Y LB2 A) (S : SC s A b L xs N) (hR : Rel μx μm) (hrm : Roo cells slots (μx 28 0 0)) (kn : ∀ (α' : Adr) (μx' μm' : Mem) (cells' slots' : Nat), α' 0 0 = αx 0 0 → Rel μx' μm' → Roo cells' slots' (μx' 28 0 0) → GG D Y LB2 A p l e room_1 s m args below meth c 4 Q (mA α' αm) cells' slots' [(3, vi (N : Int)), (2, .ref (αm 30 0)), (1, .ref (αx 0 0)), (0, .ref b)] [] (mM μx' μm') 1227) : GG D Y LB2 A p l e room_1 s m args below meth c 4 Q (mA αx αm) cells slots [(3, vi (N : Int)), (2, .ref (αm 30 0)), (1, .ref (αx 0 0)), (0, .ref b)] [] (mM μx μm) 882 := by
  obtain ⟨r, μx', μm', hfx, hfm, hR'⟩ := op_ends hR (sc_I xs (N + 1))
  obtain ⟨mc, ms, hg, hpot⟩ := pot_ends hR (sc_I xs (N + 1))
  have hrm' := hrm.step (hpot _ _ hfx)
  have hcr := hrm'.cr hR'.len
  refine g_ald_n C 2 rfl rfl dL_law_882 ?_
  refine g_arg C S 3 0 1 (by decide) rfl rfl dL_law_883 dL_law_884 dL_law_885 dL_law_886 dL_law_887 ?_
  refine g_callX C dL_law_888 cw_X8_ends m_3_48 m_3_49 m_3_50 rfl (c_X8_ends hg hfx) rfl rfl (Nat.le_of_ble_eq_true rfl) ⟨Nat.le_of_ble_eq_true rfl, Nat.le_of_ble_eq_true rfl⟩ hcr (fun α' hα => ?_)
  refine g_ald_n C 1 rfl rfl dL_law_891 ?_
  refine g_arg C S 3 0 1 (by decide) rfl rfl dL_law_892 dL_law_893 dL_law_894 dL_law_895 dL_law_896 ?_
  refine g_callM C dL_law_897 cw_X9_ends m_5_7 m_5_8 m_5_9 rfl (c_X9_ends hfm) rfl rfl (Nat.le_of_ble_eq_true rfl) ⟨Nat.le_of_ble_eq_true rfl, Nat.le_of_ble_eq_true rfl⟩ hcr ?_
  refine g_ic_eq C 1227 (by decide) dL_law_900 (fun _ => ?_) (fun h => absurd rfl h)
  exact kn α' μx' μm' _ _ (hα 0 0 (by decide) (by decide)) hR' hrm'
set_option maxRecDepth 100000 in
theorem law_20 (C : CX p s m args meth c cL_law 4 RL ret0 D Y LB2 A) (S : SC s A b L xs N) (hR : Rel μx μm) (hrm : Roo cells slots (μx 28 0 0)) (kn : ∀ (α' : Adr) (μx' μm' : Mem) (cells' slots' : Nat), α' 0 0 = αx 0 0 → Rel μx' μm' → Roo cells' slots' (μx' 28 0 0) → GG D Y LB2 A p l e room_1 s m args below meth c 4 Q (mA α' αm) cells' slots' [(3, vi (N : Int)), (2, .ref (αm 30 0)), (1, .ref (αx 0 0)), (0, .ref b)] [] (mM μx' μm') 1227) : GG D Y LB2 A p l e room_1 s m args below meth c 4 Q (mA αx αm) cells slots [(3, vi (N : Int)), (2, .ref (αm 30 0)), (1, .ref (αx 0 0)), (0, .ref b)] [] (mM μx μm) 905 := by
  obtain ⟨r, μx', μm', hfx, hfm, hR'⟩ := op_done hR (sc_I xs (N + 1)) (sc_I xs (N + 2))
  obtain ⟨mc, ms, hg, hpot⟩ := pot_done hR (sc_I xs (N + 1)) (sc_I xs (N + 2))
  have hrm' := hrm.step (hpot _ _ hfx)
  have hcr := hrm'.cr hR'.len
  refine g_ald_n C 2 rfl rfl dL_law_905 ?_
  refine g_arg C S 3 0 1 (by decide) rfl rfl dL_law_906 dL_law_907 dL_law_908 dL_law_909 dL_law_910 ?_
  refine g_arg C S 3 0 2 (by decide) rfl rfl dL_law_911 dL_law_912 dL_law_913 dL_law_914 dL_law_915 ?_
  refine g_callX C dL_law_916 cw_X8_done m_3_126 m_3_127 m_3_128 rfl (c_X8_done hg hfx) rfl rfl (Nat.le_of_ble_eq_true rfl) ⟨Nat.le_of_ble_eq_true rfl, Nat.le_of_ble_eq_true rfl⟩ hcr (fun α' hα => ?_)
  refine g_ald_n C 1 rfl rfl dL_law_919 ?_
  refine g_arg C S 3 0 1 (by decide) rfl rfl dL_law_920 dL_law_921 dL_law_922 dL_law_923 dL_law_924 ?_
  refine g_arg C S 3 0 2 (by decide) rfl rfl dL_law_925 dL_law_926 dL_law_927 dL_law_928 dL_law_929 ?_
  refine g_callM C dL_law_930 cw_X9_done m_5_53 m_5_54 m_5_55 rfl (c_X9_done hfm) rfl rfl (Nat.le_of_ble_eq_true rfl) ⟨Nat.le_of_ble_eq_true rfl, Nat.le_of_ble_eq_true rfl⟩ hcr ?_
  refine g_ic_eq C 1227 (by decide) dL_law_933 (fun _ => ?_) (fun h => absurd rfl h)
  exact kn α' μx' μm' _ _ (hα 0 0 (by decide) (by decide)) hR' hrm'
set_option maxRecDepth 100000 in
theorem law_21 (C : CX p s m args meth c cL_law 4 RL ret0 D Y LB2 A) (S : SC s A b L xs N) (hR : Rel μx μm) (hrm : Roo cells slots (μx 28 0 0)) (kn : ∀ (α' : Adr) (μx' μm' : Mem) (cells' slots' : Nat), α' 0 0 = αx 0 0 → Rel μx' μm' → Roo cells' slots' (μx' 28 0 0) → GG D Y LB2 A p l e room_1 s m args below meth c 4 Q (mA α' αm) cells' slots' [(3, vi (N : Int)), (2, .ref (αm 30 0)), (1, .ref (αx 0 0)), (0, .ref b)] [] (mM μx' μm') 1227) : GG D Y LB2 A p l e room_1 s m args below meth c 4 Q (mA αx αm) cells slots [(3, vi (N : Int)), (2, .ref (αm 30 0)), (1, .ref (αx 0 0)), (0, .ref b)] [] (mM μx μm) 938 := by
  obtain ⟨r, μx', μm', hfx, hfm, hR'⟩ := op_promise hR (sc_I xs (N + 1)) (sc_I xs (N + 2))
  obtain ⟨mc, ms, hg, hpot⟩ := pot_promise hR (sc_I xs (N + 1)) (sc_I xs (N + 2))
  have hrm' := hrm.step (hpot _ _ hfx)
  have hcr := hrm'.cr hR'.len
  refine g_ald_n C 2 rfl rfl dL_law_938 ?_
  refine g_arg C S 3 0 1 (by decide) rfl rfl dL_law_939 dL_law_940 dL_law_941 dL_law_942 dL_law_943 ?_
  refine g_arg C S 3 0 2 (by decide) rfl rfl dL_law_944 dL_law_945 dL_law_946 dL_law_947 dL_law_948 ?_
  refine g_callX C dL_law_949 cw_X8_promise m_3_134 m_3_135 m_3_136 rfl (c_X8_promise hg hfx) rfl rfl (Nat.le_of_ble_eq_true rfl) ⟨Nat.le_of_ble_eq_true rfl, Nat.le_of_ble_eq_true rfl⟩ hcr (fun α' hα => ?_)
  refine g_ald_n C 1 rfl rfl dL_law_952 ?_
  refine g_arg C S 3 0 1 (by decide) rfl rfl dL_law_953 dL_law_954 dL_law_955 dL_law_956 dL_law_957 ?_
  refine g_arg C S 3 0 2 (by decide) rfl rfl dL_law_958 dL_law_959 dL_law_960 dL_law_961 dL_law_962 ?_
  refine g_callM C dL_law_963 cw_X9_promise m_5_57 m_5_58 m_5_59 rfl (c_X9_promise hfm) rfl rfl (Nat.le_of_ble_eq_true rfl) ⟨Nat.le_of_ble_eq_true rfl, Nat.le_of_ble_eq_true rfl⟩ hcr ?_
  refine g_ic_eq C 1227 (by decide) dL_law_966 (fun _ => ?_) (fun h => absurd rfl h)
  exact kn α' μx' μm' _ _ (hα 0 0 (by decide) (by decide)) hR' hrm'
set_option maxRecDepth 100000 in
theorem law_22 (C : CX p s m args meth c cL_law 4 RL ret0 D Y LB2 A) (S : SC s A b L xs N) (hR : Rel μx μm) (hrm : Roo cells slots (μx 28 0 0)) (kn : ∀ (α' : Adr) (μx' μm' : Mem) (cells' slots' : Nat), α' 0 0 = αx 0 0 → Rel μx' μm' → Roo cells' slots' (μx' 28 0 0) → GG D Y LB2 A p l e room_1 s m args below meth c 4 Q (mA α' αm) cells' slots' [(3, vi (N : Int)), (2, .ref (αm 30 0)), (1, .ref (αx 0 0)), (0, .ref b)] [] (mM μx' μm') 1227) : GG D Y LB2 A p l e room_1 s m args below meth c 4 Q (mA αx αm) cells slots [(3, vi (N : Int)), (2, .ref (αm 30 0)), (1, .ref (αx 0 0)), (0, .ref b)] [] (mM μx μm) 971 := by
  obtain ⟨r, μx', μm', hfx, hfm, hR'⟩ := op_mean hR 
  obtain ⟨mc, ms, hg, hpot⟩ := pot_mean hR 
  have hrm' := hrm.step (hpot _ _ hfx)
  have hcr := hrm'.cr hR'.len
  refine g_ald_n C 2 rfl rfl dL_law_971 ?_
  refine g_callX C dL_law_972 cw_X8_mean m_3_155 m_3_156 m_3_157 rfl (c_X8_mean hg hfx) rfl rfl (Nat.le_of_ble_eq_true rfl) ⟨Nat.le_of_ble_eq_true rfl, Nat.le_of_ble_eq_true rfl⟩ hcr (fun α' hα => ?_)
  refine g_ald_n C 1 rfl rfl dL_law_975 ?_
  refine g_callM C dL_law_976 cw_X9_mean m_5_62 m_5_63 m_5_64 rfl (c_X9_mean hfm) rfl rfl (Nat.le_of_ble_eq_true rfl) ⟨Nat.le_of_ble_eq_true rfl, Nat.le_of_ble_eq_true rfl⟩ hcr ?_
  refine g_ic_eq C 1227 (by decide) dL_law_979 (fun _ => ?_) (fun h => absurd rfl h)
  exact kn α' μx' μm' _ _ (hα 0 0 (by decide) (by decide)) hR' hrm'
set_option maxRecDepth 100000 in
theorem law_23 (C : CX p s m args meth c cL_law 4 RL ret0 D Y LB2 A) (S : SC s A b L xs N) (hR : Rel μx μm) (hrm : Roo cells slots (μx 28 0 0)) (kn : ∀ (α' : Adr) (μx' μm' : Mem) (cells' slots' : Nat), α' 0 0 = αx 0 0 → Rel μx' μm' → Roo cells' slots' (μx' 28 0 0) → GG D Y LB2 A p l e room_1 s m args below meth c 4 Q (mA α' αm) cells' slots' [(3, vi (N : Int)), (2, .ref (αm 30 0)), (1, .ref (αx 0 0)), (0, .ref b)] [] (mM μx' μm') 1227) : GG D Y LB2 A p l e room_1 s m args below meth c 4 Q (mA αx αm) cells slots [(3, vi (N : Int)), (2, .ref (αm 30 0)), (1, .ref (αx 0 0)), (0, .ref b)] [] (mM μx μm) 984 := by
  obtain ⟨r, μx', μm', hfx, hfm, hR'⟩ := op_spread hR 
  obtain ⟨mc, ms, hg, hpot⟩ := pot_spread hR 
  have hrm' := hrm.step (hpot _ _ hfx)
  have hcr := hrm'.cr hR'.len
  refine g_ald_n C 2 rfl rfl dL_law_984 ?_
  refine g_callX C dL_law_985 cw_X8_spread m_3_163 m_3_164 m_3_165 rfl (c_X8_spread hg hfx) rfl rfl (Nat.le_of_ble_eq_true rfl) ⟨Nat.le_of_ble_eq_true rfl, Nat.le_of_ble_eq_true rfl⟩ hcr (fun α' hα => ?_)
  refine g_ald_n C 1 rfl rfl dL_law_988 ?_
  refine g_callM C dL_law_989 cw_X9_spread m_5_66 m_5_67 m_5_68 rfl (c_X9_spread hfm) rfl rfl (Nat.le_of_ble_eq_true rfl) ⟨Nat.le_of_ble_eq_true rfl, Nat.le_of_ble_eq_true rfl⟩ hcr ?_
  refine g_ic_eq C 1227 (by decide) dL_law_992 (fun _ => ?_) (fun h => absurd rfl h)
  exact kn α' μx' μm' _ _ (hα 0 0 (by decide) (by decide)) hR' hrm'
set_option maxRecDepth 100000 in
theorem law_24 (C : CX p s m args meth c cL_law 4 RL ret0 D Y LB2 A) (S : SC s A b L xs N) (hR : Rel μx μm) (hrm : Roo cells slots (μx 28 0 0)) (kn : ∀ (α' : Adr) (μx' μm' : Mem) (cells' slots' : Nat), α' 0 0 = αx 0 0 → Rel μx' μm' → Roo cells' slots' (μx' 28 0 0) → GG D Y LB2 A p l e room_1 s m args below meth c 4 Q (mA α' αm) cells' slots' [(3, vi (N : Int)), (2, .ref (αm 30 0)), (1, .ref (αx 0 0)), (0, .ref b)] [] (mM μx' μm') 1227) : GG D Y LB2 A p l e room_1 s m args below meth c 4 Q (mA αx αm) cells slots [(3, vi (N : Int)), (2, .ref (αm 30 0)), (1, .ref (αx 0 0)), (0, .ref b)] [] (mM μx μm) 997 := by
  obtain ⟨r, μx', μm', hfx, hfm, hR'⟩ := op_sure hR (sc_I xs (N + 1))
  obtain ⟨mc, ms, hg, hpot⟩ := pot_sure hR (sc_I xs (N + 1))
  have hrm' := hrm.step (hpot _ _ hfx)
  have hcr := hrm'.cr hR'.len
  refine g_ald_n C 2 rfl rfl dL_law_997 ?_
  refine g_arg C S 3 0 1 (by decide) rfl rfl dL_law_998 dL_law_999 dL_law_1000 dL_law_1001 dL_law_1002 ?_
  refine g_callX C dL_law_1003 cw_X8_sure m_3_173 m_3_174 m_3_175 rfl (c_X8_sure hg hfx) rfl rfl (Nat.le_of_ble_eq_true rfl) ⟨Nat.le_of_ble_eq_true rfl, Nat.le_of_ble_eq_true rfl⟩ hcr (fun α' hα => ?_)
  refine g_ald_n C 1 rfl rfl dL_law_1006 ?_
  refine g_arg C S 3 0 1 (by decide) rfl rfl dL_law_1007 dL_law_1008 dL_law_1009 dL_law_1010 dL_law_1011 ?_
  refine g_callM C dL_law_1012 cw_X9_sure m_5_75 m_5_76 m_5_77 rfl (c_X9_sure hfm) rfl rfl (Nat.le_of_ble_eq_true rfl) ⟨Nat.le_of_ble_eq_true rfl, Nat.le_of_ble_eq_true rfl⟩ hcr ?_
  refine g_ic_eq C 1227 (by decide) dL_law_1015 (fun _ => ?_) (fun h => absurd rfl h)
  exact kn α' μx' μm' _ _ (hα 0 0 (by decide) (by decide)) hR' hrm'
set_option maxRecDepth 100000 in
theorem law_25 (C : CX p s m args meth c cL_law 4 RL ret0 D Y LB2 A) (S : SC s A b L xs N) (hR : Rel μx μm) (hrm : Roo cells slots (μx 28 0 0)) (kn : ∀ (α' : Adr) (μx' μm' : Mem) (cells' slots' : Nat), α' 0 0 = αx 0 0 → Rel μx' μm' → Roo cells' slots' (μx' 28 0 0) → GG D Y LB2 A p l e room_1 s m args below meth c 4 Q (mA α' αm) cells' slots' [(3, vi (N : Int)), (2, .ref (αm 30 0)), (1, .ref (αx 0 0)), (0, .ref b)] [] (mM μx' μm') 1227) : GG D Y LB2 A p l e room_1 s m args below meth c 4 Q (mA αx αm) cells slots [(3, vi (N : Int)), (2, .ref (αm 30 0)), (1, .ref (αx 0 0)), (0, .ref b)] [] (mM μx μm) 1020 := by
  obtain ⟨r, μx', μm', hfx, hfm, hR'⟩ := op_surest hR 
  obtain ⟨mc, ms, hg, hpot⟩ := pot_surest hR 
  have hrm' := hrm.step (hpot _ _ hfx)
  have hcr := hrm'.cr hR'.len
  refine g_ald_n C 2 rfl rfl dL_law_1020 ?_
  refine g_callX C dL_law_1021 cw_X8_surest m_3_194 m_3_195 m_3_196 rfl (c_X8_surest hg hfx) rfl rfl (Nat.le_of_ble_eq_true rfl) ⟨Nat.le_of_ble_eq_true rfl, Nat.le_of_ble_eq_true rfl⟩ hcr (fun α' hα => ?_)
  refine g_ald_n C 1 rfl rfl dL_law_1024 ?_
  refine g_callM C dL_law_1025 cw_X9_surest m_5_84 m_5_85 m_5_86 rfl (c_X9_surest hfm) rfl rfl (Nat.le_of_ble_eq_true rfl) ⟨Nat.le_of_ble_eq_true rfl, Nat.le_of_ble_eq_true rfl⟩ hcr ?_
  refine g_ic_eq C 1227 (by decide) dL_law_1028 (fun _ => ?_) (fun h => absurd rfl h)
  exact kn α' μx' μm' _ _ (hα 0 0 (by decide) (by decide)) hR' hrm'
set_option maxRecDepth 100000 in
theorem law_26 (C : CX p s m args meth c cL_law 4 RL ret0 D Y LB2 A) (S : SC s A b L xs N) (hR : Rel μx μm) (hrm : Roo cells slots (μx 28 0 0)) (kn : ∀ (α' : Adr) (μx' μm' : Mem) (cells' slots' : Nat), α' 0 0 = αx 0 0 → Rel μx' μm' → Roo cells' slots' (μx' 28 0 0) → GG D Y LB2 A p l e room_1 s m args below meth c 4 Q (mA α' αm) cells' slots' [(3, vi (N : Int)), (2, .ref (αm 30 0)), (1, .ref (αx 0 0)), (0, .ref b)] [] (mM μx' μm') 1227) : GG D Y LB2 A p l e room_1 s m args below meth c 4 Q (mA αx αm) cells slots [(3, vi (N : Int)), (2, .ref (αm 30 0)), (1, .ref (αx 0 0)), (0, .ref b)] [] (mM μx μm) 1033 := by
  obtain ⟨r, μx', μm', hfx, hfm, hR'⟩ := op_moves hR (sc_I xs (N + 1))
  obtain ⟨mc, ms, hg, hpot⟩ := pot_moves hR (sc_I xs (N + 1))
  have hrm' := hrm.step (hpot _ _ hfx)
  have hcr := hrm'.cr hR'.len
  refine g_ald_n C 2 rfl rfl dL_law_1033 ?_
  refine g_arg C S 3 0 1 (by decide) rfl rfl dL_law_1034 dL_law_1035 dL_law_1036 dL_law_1037 dL_law_1038 ?_
  refine g_callX C dL_law_1039 cw_X8_moves m_3_202 m_3_203 m_3_204 rfl (c_X8_moves hg hfx) rfl rfl (Nat.le_of_ble_eq_true rfl) ⟨Nat.le_of_ble_eq_true rfl, Nat.le_of_ble_eq_true rfl⟩ hcr (fun α' hα => ?_)
  refine g_ald_n C 1 rfl rfl dL_law_1042 ?_
  refine g_arg C S 3 0 1 (by decide) rfl rfl dL_law_1043 dL_law_1044 dL_law_1045 dL_law_1046 dL_law_1047 ?_
  refine g_callM C dL_law_1048 cw_X9_moves m_5_91 m_5_92 m_5_93 rfl (c_X9_moves hfm) rfl rfl (Nat.le_of_ble_eq_true rfl) ⟨Nat.le_of_ble_eq_true rfl, Nat.le_of_ble_eq_true rfl⟩ hcr ?_
  refine g_ic_eq C 1227 (by decide) dL_law_1051 (fun _ => ?_) (fun h => absurd rfl h)
  exact kn α' μx' μm' _ _ (hα 0 0 (by decide) (by decide)) hR' hrm'
set_option maxRecDepth 100000 in
theorem law_27 (C : CX p s m args meth c cL_law 4 RL ret0 D Y LB2 A) (S : SC s A b L xs N) (hR : Rel μx μm) (hrm : Roo cells slots (μx 28 0 0)) (kn : ∀ (α' : Adr) (μx' μm' : Mem) (cells' slots' : Nat), α' 0 0 = αx 0 0 → Rel μx' μm' → Roo cells' slots' (μx' 28 0 0) → GG D Y LB2 A p l e room_1 s m args below meth c 4 Q (mA α' αm) cells' slots' [(3, vi (N : Int)), (2, .ref (αm 30 0)), (1, .ref (αx 0 0)), (0, .ref b)] [] (mM μx' μm') 1227) : GG D Y LB2 A p l e room_1 s m args below meth c 4 Q (mA αx αm) cells slots [(3, vi (N : Int)), (2, .ref (αm 30 0)), (1, .ref (αx 0 0)), (0, .ref b)] [] (mM μx μm) 1056 := by
  obtain ⟨r, μx', μm', hfx, hfm, hR'⟩ := op_end hR (sc_I xs (N + 1)) (sc_I xs (N + 2))
  have h28 : μx' 28 = μx 28 := k_X8_end rfl _ _ hfx
  have hcr := hrm.cr hR.len
  refine g_ald_n C 2 rfl rfl dL_law_1056 ?_
  refine g_arg C S 3 0 1 (by decide) rfl rfl dL_law_1057 dL_law_1058 dL_law_1059 dL_law_1060 dL_law_1061 ?_
  refine g_arg C S 3 0 2 (by decide) rfl rfl dL_law_1062 dL_law_1063 dL_law_1064 dL_law_1065 dL_law_1066 ?_
  refine g_callX C dL_law_1067 cw_X8_end m_3_210 m_3_211 m_3_212 rfl (c_X8_end hfx) rfl rfl (Nat.le_of_ble_eq_true rfl) ⟨Nat.le_of_ble_eq_true rfl, Nat.le_of_ble_eq_true rfl⟩ hcr (fun α' hα => ?_)
  subst hα
  refine g_ald_n C 1 rfl rfl dL_law_1070 ?_
  refine g_arg C S 3 0 1 (by decide) rfl rfl dL_law_1071 dL_law_1072 dL_law_1073 dL_law_1074 dL_law_1075 ?_
  refine g_arg C S 3 0 2 (by decide) rfl rfl dL_law_1076 dL_law_1077 dL_law_1078 dL_law_1079 dL_law_1080 ?_
  refine g_callM C dL_law_1081 cw_X9_end m_5_95 m_5_96 m_5_97 rfl (c_X9_end hfm) rfl rfl (Nat.le_of_ble_eq_true rfl) ⟨Nat.le_of_ble_eq_true rfl, Nat.le_of_ble_eq_true rfl⟩ hcr ?_
  refine g_ic_eq C 1227 (by decide) dL_law_1084 (fun _ => ?_) (fun h => absurd rfl h)
  exact kn α' μx' μm' cells slots rfl hR' (by rw [h28]; exact hrm)
set_option maxRecDepth 100000 in
theorem law_28 (C : CX p s m args meth c cL_law 4 RL ret0 D Y LB2 A) (S : SC s A b L xs N) (hR : Rel μx μm) (hrm : Roo cells slots (μx 28 0 0)) (kn : ∀ (α' : Adr) (μx' μm' : Mem) (cells' slots' : Nat), α' 0 0 = αx 0 0 → Rel μx' μm' → Roo cells' slots' (μx' 28 0 0) → GG D Y LB2 A p l e room_1 s m args below meth c 4 Q (mA α' αm) cells' slots' [(3, vi (N : Int)), (2, .ref (αm 30 0)), (1, .ref (αx 0 0)), (0, .ref b)] [] (mM μx' μm') 1227) : GG D Y LB2 A p l e room_1 s m args below meth c 4 Q (mA αx αm) cells slots [(3, vi (N : Int)), (2, .ref (αm 30 0)), (1, .ref (αx 0 0)), (0, .ref b)] [] (mM μx μm) 1089 := by
  obtain ⟨r, μx', μm', hfx, hfm, hR'⟩ := op_today hR (sc_I xs (N + 1))
  have h28 : μx' 28 = μx 28 := k_X8_today rfl _ _ hfx
  have hcr := hrm.cr hR.len
  refine g_ald_n C 2 rfl rfl dL_law_1089 ?_
  refine g_arg C S 3 0 1 (by decide) rfl rfl dL_law_1090 dL_law_1091 dL_law_1092 dL_law_1093 dL_law_1094 ?_
  refine g_callX C dL_law_1095 cw_X8_today m_3_217 m_3_218 m_3_219 rfl (c_X8_today hfx) rfl rfl (Nat.le_of_ble_eq_true rfl) ⟨Nat.le_of_ble_eq_true rfl, Nat.le_of_ble_eq_true rfl⟩ hcr (fun α' hα => ?_)
  subst hα
  refine g_ald_n C 1 rfl rfl dL_law_1098 ?_
  refine g_arg C S 3 0 1 (by decide) rfl rfl dL_law_1099 dL_law_1100 dL_law_1101 dL_law_1102 dL_law_1103 ?_
  refine g_callM C dL_law_1104 cw_X9_today m_5_99 m_5_100 m_5_101 rfl (c_X9_today hfm) rfl rfl (Nat.le_of_ble_eq_true rfl) ⟨Nat.le_of_ble_eq_true rfl, Nat.le_of_ble_eq_true rfl⟩ hcr ?_
  refine g_ic_eq C 1227 (by decide) dL_law_1107 (fun _ => ?_) (fun h => absurd rfl h)
  exact kn α' μx' μm' cells slots rfl hR' (by rw [h28]; exact hrm)
set_option maxRecDepth 100000 in
theorem law_29 (C : CX p s m args meth c cL_law 4 RL ret0 D Y LB2 A) (S : SC s A b L xs N) (hR : Rel μx μm) (hrm : Roo cells slots (μx 28 0 0)) (kn : ∀ (α' : Adr) (μx' μm' : Mem) (cells' slots' : Nat), α' 0 0 = αx 0 0 → Rel μx' μm' → Roo cells' slots' (μx' 28 0 0) → GG D Y LB2 A p l e room_1 s m args below meth c 4 Q (mA α' αm) cells' slots' [(3, vi (N : Int)), (2, .ref (αm 30 0)), (1, .ref (αx 0 0)), (0, .ref b)] [] (mM μx' μm') 1227) : GG D Y LB2 A p l e room_1 s m args below meth c 4 Q (mA αx αm) cells slots [(3, vi (N : Int)), (2, .ref (αm 30 0)), (1, .ref (αx 0 0)), (0, .ref b)] [] (mM μx μm) 1112 := by
  by_cases hz : w32 (sc xs (N + 3)) = 0
  · obtain ⟨r, μx', μm', hfx, hfm, hR'⟩ := op_telling hR (sc_I xs (N + 1)) (sc_I xs (N + 2)) (show bb 0 from Or.inl rfl)
    have h28 : μx' 28 = μx 28 := k_X8_telling rfl _ _ hfx
    have hcr := hrm.cr hR.len
    refine g_ald_n C 2 rfl rfl dL_law_1112 ?_
    refine g_arg C S 3 0 1 (by decide) rfl rfl dL_law_1113 dL_law_1114 dL_law_1115 dL_law_1116 dL_law_1117 ?_
    refine g_arg C S 3 0 2 (by decide) rfl rfl dL_law_1118 dL_law_1119 dL_law_1120 dL_law_1121 dL_law_1122 ?_
    refine g_arg C S 3 0 3 (by decide) rfl rfl dL_law_1123 dL_law_1124 dL_law_1125 dL_law_1126 dL_law_1127 ?_
    refine g_if_eq C 1135 (by decide) dL_law_1128 (fun _ => ?_) (fun h => absurd hz h)
    refine g_iconst C dL_law_1135 ?_
    refine g_callX C dL_law_1136 cw_X8_telling m_3_221 m_3_222 m_3_223 rfl (c_X8_telling hfx) rfl rfl (Nat.le_of_ble_eq_true rfl) ⟨Nat.le_of_ble_eq_true rfl, Nat.le_of_ble_eq_true rfl⟩ hcr (fun α' hα => ?_)
    subst hα
    refine g_ald_n C 1 rfl rfl dL_law_1139 ?_
    refine g_arg C S 3 0 1 (by decide) rfl rfl dL_law_1140 dL_law_1141 dL_law_1142 dL_law_1143 dL_law_1144 ?_
    refine g_arg C S 3 0 2 (by decide) rfl rfl dL_law_1145 dL_law_1146 dL_law_1147 dL_law_1148 dL_law_1149 ?_
    refine g_arg C S 3 0 3 (by decide) rfl rfl dL_law_1150 dL_law_1151 dL_law_1152 dL_law_1153 dL_law_1154 ?_
    refine g_if_eq C 1162 (by decide) dL_law_1155 (fun _ => ?_) (fun h => absurd hz h)
    refine g_iconst C dL_law_1162 ?_
    refine g_callM C dL_law_1163 cw_X9_telling m_5_103 m_5_104 m_5_105 rfl (c_X9_telling hfm) rfl rfl (Nat.le_of_ble_eq_true rfl) ⟨Nat.le_of_ble_eq_true rfl, Nat.le_of_ble_eq_true rfl⟩ hcr ?_
    refine g_ic_eq C 1227 (by decide) dL_law_1166 (fun _ => ?_) (fun h => absurd rfl h)
    exact kn α' μx' μm' cells slots rfl hR' (by rw [h28]; exact hrm)
  · obtain ⟨r, μx', μm', hfx, hfm, hR'⟩ := op_telling hR (sc_I xs (N + 1)) (sc_I xs (N + 2)) (show bb 1 from Or.inr rfl)
    have h28 : μx' 28 = μx 28 := k_X8_telling rfl _ _ hfx
    have hcr := hrm.cr hR.len
    refine g_ald_n C 2 rfl rfl dL_law_1112 ?_
    refine g_arg C S 3 0 1 (by decide) rfl rfl dL_law_1113 dL_law_1114 dL_law_1115 dL_law_1116 dL_law_1117 ?_
    refine g_arg C S 3 0 2 (by decide) rfl rfl dL_law_1118 dL_law_1119 dL_law_1120 dL_law_1121 dL_law_1122 ?_
    refine g_arg C S 3 0 3 (by decide) rfl rfl dL_law_1123 dL_law_1124 dL_law_1125 dL_law_1126 dL_law_1127 ?_
    refine g_if_eq C 1135 (by decide) dL_law_1128 (fun h => absurd h hz) (fun _ => ?_)
    refine g_iconst C dL_law_1131 ?_
    refine g_goto C 1136 (by decide) dL_law_1132 ?_
    refine g_callX C dL_law_1136 cw_X8_telling m_3_221 m_3_222 m_3_223 rfl (c_X8_telling hfx) rfl rfl (Nat.le_of_ble_eq_true rfl) ⟨Nat.le_of_ble_eq_true rfl, Nat.le_of_ble_eq_true rfl⟩ hcr (fun α' hα => ?_)
    subst hα
    refine g_ald_n C 1 rfl rfl dL_law_1139 ?_
    refine g_arg C S 3 0 1 (by decide) rfl rfl dL_law_1140 dL_law_1141 dL_law_1142 dL_law_1143 dL_law_1144 ?_
    refine g_arg C S 3 0 2 (by decide) rfl rfl dL_law_1145 dL_law_1146 dL_law_1147 dL_law_1148 dL_law_1149 ?_
    refine g_arg C S 3 0 3 (by decide) rfl rfl dL_law_1150 dL_law_1151 dL_law_1152 dL_law_1153 dL_law_1154 ?_
    refine g_if_eq C 1162 (by decide) dL_law_1155 (fun h => absurd h hz) (fun _ => ?_)
    refine g_iconst C dL_law_1158 ?_
    refine g_goto C 1163 (by decide) dL_law_1159 ?_
    refine g_callM C dL_law_1163 cw_X9_telling m_5_103 m_5_104 m_5_105 rfl (c_X9_telling hfm) rfl rfl (Nat.le_of_ble_eq_true rfl) ⟨Nat.le_of_ble_eq_true rfl, Nat.le_of_ble_eq_true rfl⟩ hcr ?_
    refine g_ic_eq C 1227 (by decide) dL_law_1166 (fun _ => ?_) (fun h => absurd rfl h)
    exact kn α' μx' μm' cells slots rfl hR' (by rw [h28]; exact hrm)
set_option maxRecDepth 100000 in
theorem law_30 (C : CX p s m args meth c cL_law 4 RL ret0 D Y LB2 A) (S : SC s A b L xs N) (hR : Rel μx μm) (hrm : Roo cells slots (μx 28 0 0)) (kn : ∀ (α' : Adr) (μx' μm' : Mem) (cells' slots' : Nat), α' 0 0 = αx 0 0 → Rel μx' μm' → Roo cells' slots' (μx' 28 0 0) → GG D Y LB2 A p l e room_1 s m args below meth c 4 Q (mA α' αm) cells' slots' [(3, vi (N : Int)), (2, .ref (αm 30 0)), (1, .ref (αx 0 0)), (0, .ref b)] [] (mM μx' μm') 1227) : GG D Y LB2 A p l e room_1 s m args below meth c 4 Q (mA αx αm) cells slots [(3, vi (N : Int)), (2, .ref (αm 30 0)), (1, .ref (αx 0 0)), (0, .ref b)] [] (mM μx μm) 1171 := by
  obtain ⟨r, μx', μm', hfx, hfm, hR'⟩ := op_judged hR (sc_I xs (N + 1)) (sc_I xs (N + 2))
  have h28 : μx' 28 = μx 28 := k_X8_judged rfl _ _ hfx
  have hcr := hrm.cr hR.len
  refine g_ald_n C 2 rfl rfl dL_law_1171 ?_
  refine g_arg C S 3 0 1 (by decide) rfl rfl dL_law_1172 dL_law_1173 dL_law_1174 dL_law_1175 dL_law_1176 ?_
  refine g_arg C S 3 0 2 (by decide) rfl rfl dL_law_1177 dL_law_1178 dL_law_1179 dL_law_1180 dL_law_1181 ?_
  refine g_callX C dL_law_1182 cw_X8_judged m_3_232 m_3_233 m_3_234 rfl (c_X8_judged hfx) rfl rfl (Nat.le_of_ble_eq_true rfl) ⟨Nat.le_of_ble_eq_true rfl, Nat.le_of_ble_eq_true rfl⟩ hcr (fun α' hα => ?_)
  subst hα
  refine g_ald_n C 1 rfl rfl dL_law_1185 ?_
  refine g_arg C S 3 0 1 (by decide) rfl rfl dL_law_1186 dL_law_1187 dL_law_1188 dL_law_1189 dL_law_1190 ?_
  refine g_arg C S 3 0 2 (by decide) rfl rfl dL_law_1191 dL_law_1192 dL_law_1193 dL_law_1194 dL_law_1195 ?_
  refine g_callM C dL_law_1196 cw_X9_judged m_5_107 m_5_108 m_5_109 rfl (c_X9_judged hfm) rfl rfl (Nat.le_of_ble_eq_true rfl) ⟨Nat.le_of_ble_eq_true rfl, Nat.le_of_ble_eq_true rfl⟩ hcr ?_
  refine g_ic_eq C 1227 (by decide) dL_law_1199 (fun _ => ?_) (fun h => absurd rfl h)
  exact kn α' μx' μm' cells slots rfl hR' (by rw [h28]; exact hrm)
set_option maxRecDepth 100000 in
theorem law_31 (C : CX p s m args meth c cL_law 4 RL ret0 D Y LB2 A) (S : SC s A b L xs N) (hR : Rel μx μm) (hrm : Roo cells slots (μx 28 0 0)) (kn : ∀ (α' : Adr) (μx' μm' : Mem) (cells' slots' : Nat), α' 0 0 = αx 0 0 → Rel μx' μm' → Roo cells' slots' (μx' 28 0 0) → GG D Y LB2 A p l e room_1 s m args below meth c 4 Q (mA α' αm) cells' slots' [(3, vi (N : Int)), (2, .ref (αm 30 0)), (1, .ref (αx 0 0)), (0, .ref b)] [] (mM μx' μm') 1227) : GG D Y LB2 A p l e room_1 s m args below meth c 4 Q (mA αx αm) cells slots [(3, vi (N : Int)), (2, .ref (αm 30 0)), (1, .ref (αx 0 0)), (0, .ref b)] [] (mM μx μm) 1204 := by
  obtain ⟨r, μx', μm', hfx, hfm, hR'⟩ := op_said hR (sc_I xs (N + 1))
  have h28 : μx' 28 = μx 28 := k_X8_said rfl _ _ hfx
  have hcr := hrm.cr hR.len
  refine g_ald_n C 2 rfl rfl dL_law_1204 ?_
  refine g_arg C S 3 0 1 (by decide) rfl rfl dL_law_1205 dL_law_1206 dL_law_1207 dL_law_1208 dL_law_1209 ?_
  refine g_callX C dL_law_1210 cw_X8_said m_3_239 m_4_0 m_4_1 rfl (c_X8_said hfx) rfl rfl (Nat.le_of_ble_eq_true rfl) ⟨Nat.le_of_ble_eq_true rfl, Nat.le_of_ble_eq_true rfl⟩ hcr (fun α' hα => ?_)
  subst hα
  refine g_ald_n C 1 rfl rfl dL_law_1213 ?_
  refine g_arg C S 3 0 1 (by decide) rfl rfl dL_law_1214 dL_law_1215 dL_law_1216 dL_law_1217 dL_law_1218 ?_
  refine g_callM C dL_law_1219 cw_X9_said m_5_114 m_5_115 m_5_116 rfl (c_X9_said hfm) rfl rfl (Nat.le_of_ble_eq_true rfl) ⟨Nat.le_of_ble_eq_true rfl, Nat.le_of_ble_eq_true rfl⟩ hcr ?_
  refine g_ic_eq C 1227 (by decide) dL_law_1222 (fun _ => ?_) (fun h => absurd rfl h)
  exact kn α' μx' μm' cells slots rfl hR' (by rw [h28]; exact hrm)
end CASES
