/-! the law, case by case -/
section CASES
variable {p : Program} {l : Launch} {e : Env} {s : State} {m : MethodId} {below : List Frame} {meth : Method} {c : Code} {D : va_G} {cy : Nat → ClassId} {b L : Nat} {xs : Nat → Int32} {adT adM : Nat → Nat} {σ τ : Mm} {i n : Nat}
theorem lc_type (O : OkL p s m meth c D cy b L xs adT adM) (hR : Rel n σ τ) (hn : n < 512) (hi : i + 4 ≤ L) (kk : ∀ σ' τ', Rel (n + 1) σ' τ' → XL p l e s m below meth c D cy b adT adM σ' τ' 670 i []) : XL p l e s m below meth c D cy b adT adM σ τ 140 i [] := by
  obtain ⟨r, σ', τ', hF, hG, hR'⟩ := b_type hR (xs (i + 1))
  refine l_aT O dL_law_140 ?_
  refine l_arg O 1 (by decide) hi dL_law_141 dL_law_142 dL_law_143 dL_law_144 dL_law_145 ?_
  refine l_callT O (As := [.int (xs (i + 1))]) (k_T_type hF) ca_X9_type gv_X9_type rfl rfl rfl rfl (Nat.le_of_ble_eq_true rfl) ⟨(Nat.le_of_ble_eq_true rfl), (Nat.le_of_ble_eq_true rfl)⟩ dL_law_146 ?_
  refine l_aM O dL_law_149 ?_
  refine l_arg O 1 (by decide) hi dL_law_150 dL_law_151 dL_law_152 dL_law_153 dL_law_154 ?_
  refine l_callM O (As := [.int (xs (i + 1))]) (k_M_type hG) ca_X10_type gv_X10_type rfl rfl rfl rfl (Nat.le_of_ble_eq_true rfl) ⟨(Nat.le_of_ble_eq_true rfl), (Nat.le_of_ble_eq_true rfl)⟩ dL_law_155 ?_
  exact l_eq O dL_law_158 (by decide) (kk σ' τ' hR')
theorem lc_clear (O : OkL p s m meth c D cy b L xs adT adM) (hR : Rel n σ τ) (hn : n < 512) (hi : i + 4 ≤ L) (kk : ∀ σ' τ', Rel (n + 1) σ' τ' → XL p l e s m below meth c D cy b adT adM σ' τ' 670 i []) : XL p l e s m below meth c D cy b adT adM σ τ 163 i [] := by
  obtain ⟨r, σ', τ', hF, hG, hR'⟩ := b_clear hR
  refine l_aT O dL_law_163 ?_
  refine l_callT O (As := []) (k_T_clear hF) ca_X9_clear gv_X9_clear rfl rfl rfl rfl (Nat.le_of_ble_eq_true rfl) ⟨(Nat.le_of_ble_eq_true rfl), (Nat.le_of_ble_eq_true rfl)⟩ dL_law_164 ?_
  refine l_aM O dL_law_167 ?_
  refine l_callM O (As := []) (k_M_clear hG) ca_X10_clear gv_X10_clear rfl rfl rfl rfl (Nat.le_of_ble_eq_true rfl) ⟨(Nat.le_of_ble_eq_true rfl), (Nat.le_of_ble_eq_true rfl)⟩ dL_law_168 ?_
  exact l_eq O dL_law_171 (by decide) (kk σ' τ' hR')
theorem lc_yard (O : OkL p s m meth c D cy b L xs adT adM) (hR : Rel n σ τ) (hn : n < 512) (hi : i + 4 ≤ L) (kk : ∀ σ' τ', Rel (n + 1) σ' τ' → XL p l e s m below meth c D cy b adT adM σ' τ' 670 i []) : XL p l e s m below meth c D cy b adT adM σ τ 176 i [] := by
  obtain ⟨r, σ', τ', hF, hG, hR'⟩ := b_yard hR
  refine l_aT O dL_law_176 ?_
  refine l_callT O (As := []) (k_T_yard hF) ca_X9_yard gv_X9_yard rfl rfl rfl rfl (Nat.le_of_ble_eq_true rfl) ⟨(Nat.le_of_ble_eq_true rfl), (Nat.le_of_ble_eq_true rfl)⟩ dL_law_177 ?_
  refine l_aM O dL_law_180 ?_
  refine l_callM O (As := []) (k_M_yard hG) ca_X10_yard gv_X10_yard rfl rfl rfl rfl (Nat.le_of_ble_eq_true rfl) ⟨(Nat.le_of_ble_eq_true rfl), (Nat.le_of_ble_eq_true rfl)⟩ dL_law_181 ?_
  exact l_eq O dL_law_184 (by decide) (kk σ' τ' hR')
theorem lc_tilt (O : OkL p s m meth c D cy b L xs adT adM) (hR : Rel n σ τ) (hn : n < 512) (hi : i + 4 ≤ L) (kk : ∀ σ' τ', Rel (n + 1) σ' τ' → XL p l e s m below meth c D cy b adT adM σ' τ' 670 i []) : XL p l e s m below meth c D cy b adT adM σ τ 189 i [] := by
  obtain ⟨r, σ', τ', hF, hG, hR'⟩ := b_tilt hR (xs (i + 1)) (xs (i + 2))
  refine l_aT O dL_law_189 ?_
  refine l_arg O 1 (by decide) hi dL_law_190 dL_law_191 dL_law_192 dL_law_193 dL_law_194 ?_
  refine l_arg O 2 (by decide) hi dL_law_195 dL_law_196 dL_law_197 dL_law_198 dL_law_199 ?_
  refine l_callT O (As := [.int (xs (i + 1)), .int (xs (i + 2))]) (k_T_tilt hF) ca_X9_tilt gv_X9_tilt rfl rfl rfl rfl (Nat.le_of_ble_eq_true rfl) ⟨(Nat.le_of_ble_eq_true rfl), (Nat.le_of_ble_eq_true rfl)⟩ dL_law_200 ?_
  refine l_aM O dL_law_203 ?_
  refine l_arg O 1 (by decide) hi dL_law_204 dL_law_205 dL_law_206 dL_law_207 dL_law_208 ?_
  refine l_arg O 2 (by decide) hi dL_law_209 dL_law_210 dL_law_211 dL_law_212 dL_law_213 ?_
  refine l_callM O (As := [.int (xs (i + 1)), .int (xs (i + 2))]) (k_M_tilt hG) ca_X10_tilt gv_X10_tilt rfl rfl rfl rfl (Nat.le_of_ble_eq_true rfl) ⟨(Nat.le_of_ble_eq_true rfl), (Nat.le_of_ble_eq_true rfl)⟩ dL_law_214 ?_
  exact l_eq O dL_law_217 (by decide) (kk σ' τ' hR')
theorem lc_now (O : OkL p s m meth c D cy b L xs adT adM) (hR : Rel n σ τ) (hn : n < 512) (hi : i + 4 ≤ L) (kk : ∀ σ' τ', Rel (n + 1) σ' τ' → XL p l e s m below meth c D cy b adT adM σ' τ' 670 i []) : XL p l e s m below meth c D cy b adT adM σ τ 222 i [] := by
  obtain ⟨r, σ', τ', hF, hG, hR'⟩ := b_now hR (xs (i + 1))
  refine l_aT O dL_law_222 ?_
  refine l_arg O 1 (by decide) hi dL_law_223 dL_law_224 dL_law_225 dL_law_226 dL_law_227 ?_
  refine l_callT O (As := [.int (xs (i + 1))]) (k_T_now hF) ca_X9_now gv_X9_now rfl rfl rfl rfl (Nat.le_of_ble_eq_true rfl) ⟨(Nat.le_of_ble_eq_true rfl), (Nat.le_of_ble_eq_true rfl)⟩ dL_law_228 ?_
  refine l_aM O dL_law_231 ?_
  refine l_arg O 1 (by decide) hi dL_law_232 dL_law_233 dL_law_234 dL_law_235 dL_law_236 ?_
  refine l_callM O (As := [.int (xs (i + 1))]) (k_M_now hG) ca_X10_now gv_X10_now rfl rfl rfl rfl (Nat.le_of_ble_eq_true rfl) ⟨(Nat.le_of_ble_eq_true rfl), (Nat.le_of_ble_eq_true rfl)⟩ dL_law_237 ?_
  exact l_eq O dL_law_240 (by decide) (kk σ' τ' hR')
theorem lc_pushes (O : OkL p s m meth c D cy b L xs adT adM) (hR : Rel n σ τ) (hn : n < 512) (hi : i + 4 ≤ L) (kk : ∀ σ' τ', Rel (n + 1) σ' τ' → XL p l e s m below meth c D cy b adT adM σ' τ' 670 i []) : XL p l e s m below meth c D cy b adT adM σ τ 245 i [] := by
  obtain ⟨r, σ', τ', hF, hG, hR'⟩ := b_pushes hR hn (xs (i + 1))
  refine l_aT O dL_law_245 ?_
  refine l_arg O 1 (by decide) hi dL_law_246 dL_law_247 dL_law_248 dL_law_249 dL_law_250 ?_
  refine l_callT O (As := [.int (xs (i + 1))]) (k_T_pushes hF) ca_X9_pushes gv_X9_pushes rfl rfl rfl rfl (Nat.le_of_ble_eq_true rfl) ⟨(Nat.le_of_ble_eq_true rfl), (Nat.le_of_ble_eq_true rfl)⟩ dL_law_251 ?_
  refine l_aM O dL_law_254 ?_
  refine l_arg O 1 (by decide) hi dL_law_255 dL_law_256 dL_law_257 dL_law_258 dL_law_259 ?_
  refine l_callM O (As := [.int (xs (i + 1))]) (k_M_pushes hG) ca_X10_pushes gv_X10_pushes rfl rfl rfl rfl (Nat.le_of_ble_eq_true rfl) ⟨(Nat.le_of_ble_eq_true rfl), (Nat.le_of_ble_eq_true rfl)⟩ dL_law_260 ?_
  exact l_eq O dL_law_263 (by decide) (kk σ' τ' hR')
theorem lc_objects (O : OkL p s m meth c D cy b L xs adT adM) (hR : Rel n σ τ) (hn : n < 512) (hi : i + 4 ≤ L) (kk : ∀ σ' τ', Rel (n + 1) σ' τ' → XL p l e s m below meth c D cy b adT adM σ' τ' 670 i []) : XL p l e s m below meth c D cy b adT adM σ τ 268 i [] := by
  obtain ⟨r, σ', τ', hF, hG, hR'⟩ := b_objects hR
  refine l_aT O dL_law_268 ?_
  refine l_callT O (As := []) (k_T_objects hF) ca_X9_objects gv_X9_objects rfl rfl rfl rfl (Nat.le_of_ble_eq_true rfl) ⟨(Nat.le_of_ble_eq_true rfl), (Nat.le_of_ble_eq_true rfl)⟩ dL_law_269 ?_
  refine l_aM O dL_law_272 ?_
  refine l_callM O (As := []) (k_M_objects hG) ca_X10_objects gv_X10_objects rfl rfl rfl rfl (Nat.le_of_ble_eq_true rfl) ⟨(Nat.le_of_ble_eq_true rfl), (Nat.le_of_ble_eq_true rfl)⟩ dL_law_273 ?_
  exact l_eq O dL_law_276 (by decide) (kk σ' τ' hR')
theorem lc_evens (O : OkL p s m meth c D cy b L xs adT adM) (hR : Rel n σ τ) (hn : n < 512) (hi : i + 4 ≤ L) (kk : ∀ σ' τ', Rel (n + 1) σ' τ' → XL p l e s m below meth c D cy b adT adM σ' τ' 670 i []) : XL p l e s m below meth c D cy b adT adM σ τ 281 i [] := by
  obtain ⟨r, σ', τ', hF, hG, hR'⟩ := b_evens hR (xs (i + 1)) (xs (i + 2)) (xs (i + 3))
  refine l_aT O dL_law_281 ?_
  refine l_arg O 1 (by decide) hi dL_law_282 dL_law_283 dL_law_284 dL_law_285 dL_law_286 ?_
  refine l_arg O 2 (by decide) hi dL_law_287 dL_law_288 dL_law_289 dL_law_290 dL_law_291 ?_
  refine l_arg O 3 (by decide) hi dL_law_292 dL_law_293 dL_law_294 dL_law_295 dL_law_296 ?_
  refine l_callT O (As := [.int (xs (i + 1)), .int (xs (i + 2)), .int (xs (i + 3))]) (k_T_evens hF) ca_X9_evens gv_X9_evens rfl rfl rfl rfl (Nat.le_of_ble_eq_true rfl) ⟨(Nat.le_of_ble_eq_true rfl), (Nat.le_of_ble_eq_true rfl)⟩ dL_law_297 ?_
  refine l_aM O dL_law_300 ?_
  refine l_arg O 1 (by decide) hi dL_law_301 dL_law_302 dL_law_303 dL_law_304 dL_law_305 ?_
  refine l_arg O 2 (by decide) hi dL_law_306 dL_law_307 dL_law_308 dL_law_309 dL_law_310 ?_
  refine l_arg O 3 (by decide) hi dL_law_311 dL_law_312 dL_law_313 dL_law_314 dL_law_315 ?_
  refine l_callM O (As := [.int (xs (i + 1)), .int (xs (i + 2)), .int (xs (i + 3))]) (k_M_evens hG) ca_X10_evens gv_X10_evens rfl rfl rfl rfl (Nat.le_of_ble_eq_true rfl) ⟨(Nat.le_of_ble_eq_true rfl), (Nat.le_of_ble_eq_true rfl)⟩ dL_law_316 ?_
  exact l_eq O dL_law_319 (by decide) (kk σ' τ' hR')
theorem lc_undo (O : OkL p s m meth c D cy b L xs adT adM) (hR : Rel n σ τ) (hn : n < 512) (hi : i + 4 ≤ L) (kk : ∀ σ' τ', Rel (n + 1) σ' τ' → XL p l e s m below meth c D cy b adT adM σ' τ' 670 i []) : XL p l e s m below meth c D cy b adT adM σ τ 324 i [] := by
  obtain ⟨r, σ', τ', hF, hG, hR'⟩ := b_undo hR
  refine l_aT O dL_law_324 ?_
  refine l_callT O (As := []) (k_T_undo hF) ca_X9_undo gv_X9_undo rfl rfl rfl rfl (Nat.le_of_ble_eq_true rfl) ⟨(Nat.le_of_ble_eq_true rfl), (Nat.le_of_ble_eq_true rfl)⟩ dL_law_325 ?_
  refine l_aM O dL_law_328 ?_
  refine l_callM O (As := []) (k_M_undo hG) ca_X10_undo gv_X10_undo rfl rfl rfl rfl (Nat.le_of_ble_eq_true rfl) ⟨(Nat.le_of_ble_eq_true rfl), (Nat.le_of_ble_eq_true rfl)⟩ dL_law_329 ?_
  exact l_eq O dL_law_332 (by decide) (kk σ' τ' hR')
theorem lc_would (O : OkL p s m meth c D cy b L xs adT adM) (hR : Rel n σ τ) (hn : n < 512) (hi : i + 4 ≤ L) (kk : ∀ σ' τ', Rel (n + 1) σ' τ' → XL p l e s m below meth c D cy b adT adM σ' τ' 670 i []) : XL p l e s m below meth c D cy b adT adM σ τ 337 i [] := by
  obtain ⟨r, σ', τ', hF, hG, hR'⟩ := b_would hR hn (xs (i + 1))
  refine l_aT O dL_law_337 ?_
  refine l_arg O 1 (by decide) hi dL_law_338 dL_law_339 dL_law_340 dL_law_341 dL_law_342 ?_
  refine l_callT O (As := [.int (xs (i + 1))]) (k_T_would hF) ca_X9_would gv_X9_would rfl rfl rfl rfl (Nat.le_of_ble_eq_true rfl) ⟨(Nat.le_of_ble_eq_true rfl), (Nat.le_of_ble_eq_true rfl)⟩ dL_law_343 ?_
  refine l_aM O dL_law_346 ?_
  refine l_arg O 1 (by decide) hi dL_law_347 dL_law_348 dL_law_349 dL_law_350 dL_law_351 ?_
  refine l_callM O (As := [.int (xs (i + 1))]) (k_M_would hG) ca_X10_would gv_X10_would rfl rfl rfl rfl (Nat.le_of_ble_eq_true rfl) ⟨(Nat.le_of_ble_eq_true rfl), (Nat.le_of_ble_eq_true rfl)⟩ dL_law_352 ?_
  exact l_eq O dL_law_355 (by decide) (kk σ' τ' hR')
theorem lc_game (O : OkL p s m meth c D cy b L xs adT adM) (hR : Rel n σ τ) (hn : n < 512) (hi : i + 4 ≤ L) (kk : ∀ σ' τ', Rel (n + 1) σ' τ' → XL p l e s m below meth c D cy b adT adM σ' τ' 670 i []) : XL p l e s m below meth c D cy b adT adM σ τ 360 i [] := by
  obtain ⟨r, σ', τ', hF, hG, hR'⟩ := b_game hR (xs (i + 1))
  refine l_aT O dL_law_360 ?_
  refine l_arg O 1 (by decide) hi dL_law_361 dL_law_362 dL_law_363 dL_law_364 dL_law_365 ?_
  refine l_callT O (As := [.int (xs (i + 1))]) (k_T_game hF) ca_X9_game gv_X9_game rfl rfl rfl rfl (Nat.le_of_ble_eq_true rfl) ⟨(Nat.le_of_ble_eq_true rfl), (Nat.le_of_ble_eq_true rfl)⟩ dL_law_366 ?_
  refine l_aM O dL_law_369 ?_
  refine l_arg O 1 (by decide) hi dL_law_370 dL_law_371 dL_law_372 dL_law_373 dL_law_374 ?_
  refine l_callM O (As := [.int (xs (i + 1))]) (k_M_game hG) ca_X10_game gv_X10_game rfl rfl rfl rfl (Nat.le_of_ble_eq_true rfl) ⟨(Nat.le_of_ble_eq_true rfl), (Nat.le_of_ble_eq_true rfl)⟩ dL_law_375 ?_
  exact l_eq O dL_law_378 (by decide) (kk σ' τ' hR')
theorem lc_advice (O : OkL p s m meth c D cy b L xs adT adM) (hR : Rel n σ τ) (hn : n < 512) (hi : i + 4 ≤ L) (kk : ∀ σ' τ', Rel (n + 1) σ' τ' → XL p l e s m below meth c D cy b adT adM σ' τ' 670 i []) : XL p l e s m below meth c D cy b adT adM σ τ 383 i [] := by
  obtain ⟨r, σ', τ', hF, hG, hR'⟩ := b_advice hR
  refine l_aT O dL_law_383 ?_
  refine l_callT O (As := []) (k_T_advice hF) ca_X9_advice gv_X9_advice rfl rfl rfl rfl (Nat.le_of_ble_eq_true rfl) ⟨(Nat.le_of_ble_eq_true rfl), (Nat.le_of_ble_eq_true rfl)⟩ dL_law_384 ?_
  refine l_aM O dL_law_387 ?_
  refine l_callM O (As := []) (k_M_advice hG) ca_X10_advice gv_X10_advice rfl rfl rfl rfl (Nat.le_of_ble_eq_true rfl) ⟨(Nat.le_of_ble_eq_true rfl), (Nat.le_of_ble_eq_true rfl)⟩ dL_law_388 ?_
  exact l_eq O dL_law_391 (by decide) (kk σ' τ' hR')
theorem lc_soonest (O : OkL p s m meth c D cy b L xs adT adM) (hR : Rel n σ τ) (hn : n < 512) (hi : i + 4 ≤ L) (kk : ∀ σ' τ', Rel (n + 1) σ' τ' → XL p l e s m below meth c D cy b adT adM σ' τ' 670 i []) : XL p l e s m below meth c D cy b adT adM σ τ 396 i [] := by
  obtain ⟨r, σ', τ', hF, hG, hR'⟩ := b_soonest hR (xs (i + 1)) (xs (i + 2))
  refine l_aT O dL_law_396 ?_
  refine l_arg O 1 (by decide) hi dL_law_397 dL_law_398 dL_law_399 dL_law_400 dL_law_401 ?_
  refine l_arg O 2 (by decide) hi dL_law_402 dL_law_403 dL_law_404 dL_law_405 dL_law_406 ?_
  refine l_callT O (As := [.int (xs (i + 1)), .int (xs (i + 2))]) (k_T_soonest hF) ca_X9_soonest gv_X9_soonest rfl rfl rfl rfl (Nat.le_of_ble_eq_true rfl) ⟨(Nat.le_of_ble_eq_true rfl), (Nat.le_of_ble_eq_true rfl)⟩ dL_law_407 ?_
  refine l_aM O dL_law_410 ?_
  refine l_arg O 1 (by decide) hi dL_law_411 dL_law_412 dL_law_413 dL_law_414 dL_law_415 ?_
  refine l_arg O 2 (by decide) hi dL_law_416 dL_law_417 dL_law_418 dL_law_419 dL_law_420 ?_
  refine l_callM O (As := [.int (xs (i + 1)), .int (xs (i + 2))]) (k_M_soonest hG) ca_X10_soonest gv_X10_soonest rfl rfl rfl rfl (Nat.le_of_ble_eq_true rfl) ⟨(Nat.le_of_ble_eq_true rfl), (Nat.le_of_ble_eq_true rfl)⟩ dL_law_421 ?_
  exact l_eq O dL_law_424 (by decide) (kk σ' τ' hR')
theorem lc_odds (O : OkL p s m meth c D cy b L xs adT adM) (hR : Rel n σ τ) (hn : n < 512) (hi : i + 4 ≤ L) (kk : ∀ σ' τ', Rel (n + 1) σ' τ' → XL p l e s m below meth c D cy b adT adM σ' τ' 670 i []) : XL p l e s m below meth c D cy b adT adM σ τ 429 i [] := by
  obtain ⟨r, σ', τ', hF, hG, hR'⟩ := b_odds hR (xs (i + 1)) (xs (i + 2)) (xs (i + 3))
  refine l_aT O dL_law_429 ?_
  refine l_arg O 1 (by decide) hi dL_law_430 dL_law_431 dL_law_432 dL_law_433 dL_law_434 ?_
  refine l_arg O 2 (by decide) hi dL_law_435 dL_law_436 dL_law_437 dL_law_438 dL_law_439 ?_
  refine l_arg O 3 (by decide) hi dL_law_440 dL_law_441 dL_law_442 dL_law_443 dL_law_444 ?_
  refine l_callT O (As := [.int (xs (i + 1)), .int (xs (i + 2)), .int (xs (i + 3))]) (k_T_odds hF) ca_X9_odds gv_X9_odds rfl rfl rfl rfl (Nat.le_of_ble_eq_true rfl) ⟨(Nat.le_of_ble_eq_true rfl), (Nat.le_of_ble_eq_true rfl)⟩ dL_law_445 ?_
  refine l_aM O dL_law_448 ?_
  refine l_arg O 1 (by decide) hi dL_law_449 dL_law_450 dL_law_451 dL_law_452 dL_law_453 ?_
  refine l_arg O 2 (by decide) hi dL_law_454 dL_law_455 dL_law_456 dL_law_457 dL_law_458 ?_
  refine l_arg O 3 (by decide) hi dL_law_459 dL_law_460 dL_law_461 dL_law_462 dL_law_463 ?_
  refine l_callM O (As := [.int (xs (i + 1)), .int (xs (i + 2)), .int (xs (i + 3))]) (k_M_odds hG) ca_X10_odds gv_X10_odds rfl rfl rfl rfl (Nat.le_of_ble_eq_true rfl) ⟨(Nat.le_of_ble_eq_true rfl), (Nat.le_of_ble_eq_true rfl)⟩ dL_law_464 ?_
  exact l_eq O dL_law_467 (by decide) (kk σ' τ' hR')
theorem lc_decides (O : OkL p s m meth c D cy b L xs adT adM) (hR : Rel n σ τ) (hn : n < 512) (hi : i + 4 ≤ L) (kk : ∀ σ' τ', Rel (n + 1) σ' τ' → XL p l e s m below meth c D cy b adT adM σ' τ' 670 i []) : XL p l e s m below meth c D cy b adT adM σ τ 472 i [] := by
  obtain ⟨r, σ', τ', hF, hG, hR'⟩ := b_decides hR
  refine l_aT O dL_law_472 ?_
  refine l_callT O (As := []) (k_T_decides hF) ca_X9_decides gv_X9_decides rfl rfl rfl rfl (Nat.le_of_ble_eq_true rfl) ⟨(Nat.le_of_ble_eq_true rfl), (Nat.le_of_ble_eq_true rfl)⟩ dL_law_473 ?_
  refine l_aM O dL_law_476 ?_
  refine l_callM O (As := []) (k_M_decides hG) ca_X10_decides gv_X10_decides rfl rfl rfl rfl (Nat.le_of_ble_eq_true rfl) ⟨(Nat.le_of_ble_eq_true rfl), (Nat.le_of_ble_eq_true rfl)⟩ dL_law_477 ?_
  exact l_eq O dL_law_480 (by decide) (kk σ' τ' hR')
theorem lc_tells (O : OkL p s m meth c D cy b L xs adT adM) (hR : Rel n σ τ) (hn : n < 512) (hi : i + 4 ≤ L) (kk : ∀ σ' τ', Rel (n + 1) σ' τ' → XL p l e s m below meth c D cy b adT adM σ' τ' 670 i []) : XL p l e s m below meth c D cy b adT adM σ τ 485 i [] := by
  obtain ⟨r, σ', τ', hF, hG, hR'⟩ := b_tells hR (xs (i + 1))
  refine l_aT O dL_law_485 ?_
  refine l_arg O 1 (by decide) hi dL_law_486 dL_law_487 dL_law_488 dL_law_489 dL_law_490 ?_
  refine l_callT O (As := [.int (xs (i + 1))]) (k_T_tells hF) ca_X9_tells gv_X9_tells rfl rfl rfl rfl (Nat.le_of_ble_eq_true rfl) ⟨(Nat.le_of_ble_eq_true rfl), (Nat.le_of_ble_eq_true rfl)⟩ dL_law_491 ?_
  refine l_aM O dL_law_494 ?_
  refine l_arg O 1 (by decide) hi dL_law_495 dL_law_496 dL_law_497 dL_law_498 dL_law_499 ?_
  refine l_callM O (As := [.int (xs (i + 1))]) (k_M_tells hG) ca_X10_tells gv_X10_tells rfl rfl rfl rfl (Nat.le_of_ble_eq_true rfl) ⟨(Nat.le_of_ble_eq_true rfl), (Nat.le_of_ble_eq_true rfl)⟩ dL_law_500 ?_
  exact l_eq O dL_law_503 (by decide) (kk σ' τ' hR')
theorem lc_forget (O : OkL p s m meth c D cy b L xs adT adM) (hR : Rel n σ τ) (hn : n < 512) (hi : i + 4 ≤ L) (kk : ∀ σ' τ', Rel (n + 1) σ' τ' → XL p l e s m below meth c D cy b adT adM σ' τ' 670 i []) : XL p l e s m below meth c D cy b adT adM σ τ 508 i [] := by
  obtain ⟨r, σ', τ', hF, hG, hR'⟩ := b_forget hR
  refine l_aT O dL_law_508 ?_
  refine l_callT O (As := []) (k_T_forget hF) ca_X9_forget gv_X9_forget rfl rfl rfl rfl (Nat.le_of_ble_eq_true rfl) ⟨(Nat.le_of_ble_eq_true rfl), (Nat.le_of_ble_eq_true rfl)⟩ dL_law_509 ?_
  refine l_aM O dL_law_512 ?_
  refine l_callM O (As := []) (k_M_forget hG) ca_X10_forget gv_X10_forget rfl rfl rfl rfl (Nat.le_of_ble_eq_true rfl) ⟨(Nat.le_of_ble_eq_true rfl), (Nat.le_of_ble_eq_true rfl)⟩ dL_law_513 ?_
  exact l_eq O dL_law_516 (by decide) (kk σ' τ' hR')
theorem lc_leanings (O : OkL p s m meth c D cy b L xs adT adM) (hR : Rel n σ τ) (hn : n < 512) (hi : i + 4 ≤ L) (kk : ∀ σ' τ', Rel (n + 1) σ' τ' → XL p l e s m below meth c D cy b adT adM σ' τ' 670 i []) : XL p l e s m below meth c D cy b adT adM σ τ 521 i [] := by
  obtain ⟨r, σ', τ', hF, hG, hR'⟩ := b_leanings hR (xs (i + 1))
  refine l_aT O dL_law_521 ?_
  refine l_arg O 1 (by decide) hi dL_law_522 dL_law_523 dL_law_524 dL_law_525 dL_law_526 ?_
  refine l_callT O (As := [.int (xs (i + 1))]) (k_T_leanings hF) ca_X9_leanings gv_X9_leanings rfl rfl rfl rfl (Nat.le_of_ble_eq_true rfl) ⟨(Nat.le_of_ble_eq_true rfl), (Nat.le_of_ble_eq_true rfl)⟩ dL_law_527 ?_
  refine l_aM O dL_law_530 ?_
  refine l_arg O 1 (by decide) hi dL_law_531 dL_law_532 dL_law_533 dL_law_534 dL_law_535 ?_
  refine l_callM O (As := [.int (xs (i + 1))]) (k_M_leanings hG) ca_X10_leanings gv_X10_leanings rfl rfl rfl rfl (Nat.le_of_ble_eq_true rfl) ⟨(Nat.le_of_ble_eq_true rfl), (Nat.le_of_ble_eq_true rfl)⟩ dL_law_536 ?_
  exact l_eq O dL_law_539 (by decide) (kk σ' τ' hR')
theorem lc_rate (O : OkL p s m meth c D cy b L xs adT adM) (hR : Rel n σ τ) (hn : n < 512) (hi : i + 4 ≤ L) (kk : ∀ σ' τ', Rel (n + 1) σ' τ' → XL p l e s m below meth c D cy b adT adM σ' τ' 670 i []) : XL p l e s m below meth c D cy b adT adM σ τ 544 i [] := by
  obtain ⟨r, σ', τ', hF, hG, hR'⟩ := b_rate hR (xs (i + 1)) (xs (i + 2)) (xs (i + 3))
  refine l_aT O dL_law_544 ?_
  refine l_arg O 1 (by decide) hi dL_law_545 dL_law_546 dL_law_547 dL_law_548 dL_law_549 ?_
  refine l_arg O 2 (by decide) hi dL_law_550 dL_law_551 dL_law_552 dL_law_553 dL_law_554 ?_
  refine l_arg O 3 (by decide) hi dL_law_555 dL_law_556 dL_law_557 dL_law_558 dL_law_559 ?_
  refine l_callT O (As := [.int (xs (i + 1)), .int (xs (i + 2)), .int (xs (i + 3))]) (k_T_rate hF) ca_X9_rate gv_X9_rate rfl rfl rfl rfl (Nat.le_of_ble_eq_true rfl) ⟨(Nat.le_of_ble_eq_true rfl), (Nat.le_of_ble_eq_true rfl)⟩ dL_law_560 ?_
  refine l_aM O dL_law_563 ?_
  refine l_arg O 1 (by decide) hi dL_law_564 dL_law_565 dL_law_566 dL_law_567 dL_law_568 ?_
  refine l_arg O 2 (by decide) hi dL_law_569 dL_law_570 dL_law_571 dL_law_572 dL_law_573 ?_
  refine l_arg O 3 (by decide) hi dL_law_574 dL_law_575 dL_law_576 dL_law_577 dL_law_578 ?_
  refine l_callM O (As := [.int (xs (i + 1)), .int (xs (i + 2)), .int (xs (i + 3))]) (k_M_rate hG) ca_X10_rate gv_X10_rate rfl rfl rfl rfl (Nat.le_of_ble_eq_true rfl) ⟨(Nat.le_of_ble_eq_true rfl), (Nat.le_of_ble_eq_true rfl)⟩ dL_law_579 ?_
  exact l_eq O dL_law_582 (by decide) (kk σ' τ' hR')
theorem lc_keep (O : OkL p s m meth c D cy b L xs adT adM) (hR : Rel n σ τ) (hn : n < 512) (hi : i + 4 ≤ L) (kk : ∀ σ' τ', Rel (n + 1) σ' τ' → XL p l e s m below meth c D cy b adT adM σ' τ' 670 i []) : XL p l e s m below meth c D cy b adT adM σ τ 587 i [] := by
  obtain ⟨r, σ', τ', hF, hG, hR'⟩ := b_keep hR (xs (i + 1))
  refine l_aT O dL_law_587 ?_
  refine l_arg O 1 (by decide) hi dL_law_588 dL_law_589 dL_law_590 dL_law_591 dL_law_592 ?_
  refine l_callT O (As := [.int (xs (i + 1))]) (k_T_keep hF) ca_X9_keep gv_X9_keep rfl rfl rfl rfl (Nat.le_of_ble_eq_true rfl) ⟨(Nat.le_of_ble_eq_true rfl), (Nat.le_of_ble_eq_true rfl)⟩ dL_law_593 ?_
  refine l_aM O dL_law_596 ?_
  refine l_arg O 1 (by decide) hi dL_law_597 dL_law_598 dL_law_599 dL_law_600 dL_law_601 ?_
  refine l_callM O (As := [.int (xs (i + 1))]) (k_M_keep hG) ca_X10_keep gv_X10_keep rfl rfl rfl rfl (Nat.le_of_ble_eq_true rfl) ⟨(Nat.le_of_ble_eq_true rfl), (Nat.le_of_ble_eq_true rfl)⟩ dL_law_602 ?_
  exact l_eq O dL_law_605 (by decide) (kk σ' τ' hR')
theorem lc_back (O : OkL p s m meth c D cy b L xs adT adM) (hR : Rel n σ τ) (hn : n < 512) (hi : i + 4 ≤ L) (kk : ∀ σ' τ', Rel (n + 1) σ' τ' → XL p l e s m below meth c D cy b adT adM σ' τ' 670 i []) : XL p l e s m below meth c D cy b adT adM σ τ 610 i [] := by
  obtain ⟨r, σ', τ', hF, hG, hR'⟩ := b_back hR (xs (i + 1))
  refine l_aT O dL_law_610 ?_
  refine l_arg O 1 (by decide) hi dL_law_611 dL_law_612 dL_law_613 dL_law_614 dL_law_615 ?_
  refine l_callT O (As := [.int (xs (i + 1))]) (k_T_back hF) ca_X9_back gv_X9_back rfl rfl rfl rfl (Nat.le_of_ble_eq_true rfl) ⟨(Nat.le_of_ble_eq_true rfl), (Nat.le_of_ble_eq_true rfl)⟩ dL_law_616 ?_
  refine l_aM O dL_law_619 ?_
  refine l_arg O 1 (by decide) hi dL_law_620 dL_law_621 dL_law_622 dL_law_623 dL_law_624 ?_
  refine l_callM O (As := [.int (xs (i + 1))]) (k_M_back hG) ca_X10_back gv_X10_back rfl rfl rfl rfl (Nat.le_of_ble_eq_true rfl) ⟨(Nat.le_of_ble_eq_true rfl), (Nat.le_of_ble_eq_true rfl)⟩ dL_law_625 ?_
  exact l_eq O dL_law_628 (by decide) (kk σ' τ' hR')
theorem lc_count (O : OkL p s m meth c D cy b L xs adT adM) (hR : Rel n σ τ) (hn : n < 512) (hi : i + 4 ≤ L) (kk : ∀ σ' τ', Rel (n + 1) σ' τ' → XL p l e s m below meth c D cy b adT adM σ' τ' 670 i []) : XL p l e s m below meth c D cy b adT adM σ τ 633 i [] := by
  obtain ⟨r, σ', τ', hF, hG, hR'⟩ := b_count hR (xs (i + 1))
  refine l_aT O dL_law_633 ?_
  refine l_arg O 1 (by decide) hi dL_law_634 dL_law_635 dL_law_636 dL_law_637 dL_law_638 ?_
  refine l_callT O (As := [.int (xs (i + 1))]) (k_T_count hF) ca_X9_count gv_X9_count rfl rfl rfl rfl (Nat.le_of_ble_eq_true rfl) ⟨(Nat.le_of_ble_eq_true rfl), (Nat.le_of_ble_eq_true rfl)⟩ dL_law_639 ?_
  refine l_aM O dL_law_642 ?_
  refine l_arg O 1 (by decide) hi dL_law_643 dL_law_644 dL_law_645 dL_law_646 dL_law_647 ?_
  refine l_callM O (As := [.int (xs (i + 1))]) (k_M_count hG) ca_X10_count gv_X10_count rfl rfl rfl rfl (Nat.le_of_ble_eq_true rfl) ⟨(Nat.le_of_ble_eq_true rfl), (Nat.le_of_ble_eq_true rfl)⟩ dL_law_648 ?_
  exact l_eq O dL_law_651 (by decide) (kk σ' τ' hR')
theorem lc_trace (O : OkL p s m meth c D cy b L xs adT adM) (hR : Rel n σ τ) (hn : n < 512) (hi : i + 4 ≤ L) (kk : ∀ σ' τ', Rel (n + 1) σ' τ' → XL p l e s m below meth c D cy b adT adM σ' τ' 670 i []) : XL p l e s m below meth c D cy b adT adM σ τ 656 i [] := by
  obtain ⟨r, σ', τ', hF, hG, hR'⟩ := b_trace hR
  refine l_aT O dL_law_656 ?_
  refine l_callT O (As := []) (k_T_trace hF) ca_X9_trace gv_X9_trace rfl rfl rfl rfl (Nat.le_of_ble_eq_true rfl) ⟨(Nat.le_of_ble_eq_true rfl), (Nat.le_of_ble_eq_true rfl)⟩ dL_law_657 ?_
  refine l_aM O dL_law_660 ?_
  refine l_callM O (As := []) (k_M_trace hG) ca_X10_trace gv_X10_trace rfl rfl rfl rfl (Nat.le_of_ble_eq_true rfl) ⟨(Nat.le_of_ble_eq_true rfl), (Nat.le_of_ble_eq_true rfl)⟩ dL_law_661 ?_
  exact l_eqJ O dL_law_664 dL_law_665 (by decide) (kk σ' τ' hR')
end CASES
