section CASES
variable {p : Program} {l : Launch} {e : Env} {s : State} {m : MethodId} {below : List Frame} {meth : Method} {c : Code} {b Ln : Nat} {xs : Nat → Int32} {G : mm_G} {cells slots n i : Nat} {pr : Nat → Nat → Prop} {ad : Nat → Nat → Nat → Nat} {g : mm_g}
set_option maxRecDepth 100000 in
set_option maxHeartbeats 4000000 in
theorem lc_row (B : lw_B p s m meth c b Ln xs G) (hw : mm_W pr) (hF : okF pr g) (hr : Rel n g) (hn : n ≤ 512) (hi : i + 5 < Ln) (hL : Ln ≤ 3072) (hc : cells + 120 ≤ 600000) (hs : slots + 960 ≤ 7302249) (K : LK p l e s m below meth c b G cells slots n i) : LV p l e s m below meth c b G cells slots 188 [(0, .ref b), (1, .ref (ad 6 0 0)), (2, .ref (ad 7 0 0)), (3, .int (nI i))] [] pr ad g := by
  obtain ⟨o, o7, o01, o61⟩ := e_row (x1 := xs (i + 1)) (x2 := xs (i + 2)) (x3 := xs (i + 3)) hr
  refine LV_aload_n B dL_law_188 1 rfl ?_
  refine LV_arg (k := 1) B dL_law_189 dL_law_190 dL_law_191 rfl dL_law_192 dL_law_193 (by omega) hL ?_
  refine LV_arg (k := 2) B dL_law_194 dL_law_195 dL_law_196 rfl dL_law_197 dL_law_198 (by omega) hL ?_
  refine LV_arg (k := 3) B dL_law_199 dL_law_200 dL_law_201 rfl dL_law_202 dL_law_203 (by omega) hL ?_
  refine LV_cV B (k_X6_row l G hw g _ _ _) hy_X6_row hi_X6_row hs_X6_row q_104 rfl rfl (W_6 hw) rfl rfl rfl rfl rfl ⟨Nat.le_of_ble_eq_true rfl, Nat.le_of_ble_eq_true rfl⟩ (Nat.le_of_ble_eq_true rfl) ⟨show _ ≤ 600000 by omega, show _ ≤ 7302249 by omega⟩ dL_law_204 (LV_kM ?_)
  have e7 := o.1
  have hF2 := okF_c hF o01 o61
  refine LV_aload_n B dL_law_207 2 rfl ?_
  refine LV_arg (k := 1) B dL_law_208 dL_law_209 dL_law_210 rfl dL_law_211 dL_law_212 (by omega) hL ?_
  refine LV_arg (k := 2) B dL_law_213 dL_law_214 dL_law_215 rfl dL_law_216 dL_law_217 (by omega) hL ?_
  refine LV_arg (k := 3) B dL_law_218 dL_law_219 dL_law_220 rfl dL_law_221 dL_law_222 (by omega) hL ?_
  refine LV_cV B (k_X7_row l G hw _ _ _ _) hy_X7_row hi_X7_row hs_X7_row q_125 rfl rfl (W_7 hw) rfl rfl rfl rfl rfl ⟨Nat.le_of_ble_eq_true rfl, Nat.le_of_ble_eq_true rfl⟩ (Nat.le_of_ble_eq_true rfl) ⟨show _ ≤ 600000 by omega, show _ ≤ 7302249 by omega⟩ dL_law_223 (LV_kM ?_)
  have z := fun c2 s2 h1 h2 => LV_end (ad := ad) (c2 := c2) (s2 := s2) B o K hw hF2 dL_law_226 (by decide) h1 h2
  exact z _ _ (by omega) (by omega)
set_option maxRecDepth 100000 in
set_option maxHeartbeats 4000000 in
theorem lc_set (B : lw_B p s m meth c b Ln xs G) (hw : mm_W pr) (hF : okF pr g) (hr : Rel n g) (hn : n ≤ 512) (hi : i + 5 < Ln) (hL : Ln ≤ 3072) (hc : cells + 120 ≤ 600000) (hs : slots + 960 ≤ 7302249) (K : LK p l e s m below meth c b G cells slots n i) : LV p l e s m below meth c b G cells slots 231 [(0, .ref b), (1, .ref (ad 6 0 0)), (2, .ref (ad 7 0 0)), (3, .int (nI i))] [] pr ad g := by
  obtain ⟨o, o7, o01, o61⟩ := e_set (x1 := xs (i + 1)) (x2 := xs (i + 2)) (x3 := xs (i + 3)) hr
  refine LV_aload_n B dL_law_231 1 rfl ?_
  refine LV_arg (k := 1) B dL_law_232 dL_law_233 dL_law_234 rfl dL_law_235 dL_law_236 (by omega) hL ?_
  refine LV_arg (k := 2) B dL_law_237 dL_law_238 dL_law_239 rfl dL_law_240 dL_law_241 (by omega) hL ?_
  refine LV_arg (k := 3) B dL_law_242 dL_law_243 dL_law_244 rfl dL_law_245 dL_law_246 (by omega) hL ?_
  refine LV_cV B (k_X6_set l G hw g _ _ _ (p_R hr)) hy_X6_set hi_X6_set hs_X6_set q_148 rfl rfl (W_6 hw) rfl rfl rfl rfl rfl ⟨Nat.le_of_ble_eq_true rfl, Nat.le_of_ble_eq_true rfl⟩ (Nat.le_of_ble_eq_true rfl) ⟨show _ ≤ 600000 by omega, show _ ≤ 7302249 by omega⟩ dL_law_247 (LV_kM ?_)
  have e7 := o.1
  have hF2 := okF_c hF o01 o61
  refine LV_aload_n B dL_law_250 2 rfl ?_
  refine LV_arg (k := 1) B dL_law_251 dL_law_252 dL_law_253 rfl dL_law_254 dL_law_255 (by omega) hL ?_
  refine LV_arg (k := 2) B dL_law_256 dL_law_257 dL_law_258 rfl dL_law_259 dL_law_260 (by omega) hL ?_
  refine LV_arg (k := 3) B dL_law_261 dL_law_262 dL_law_263 rfl dL_law_264 dL_law_265 (by omega) hL ?_
  refine LV_cV B (k_X7_set l G hw _ _ _ _ (p_R7 hr e7)) hy_X7_set hi_X7_set hs_X7_set q_169 rfl rfl (W_7 hw) rfl rfl rfl rfl rfl ⟨Nat.le_of_ble_eq_true rfl, Nat.le_of_ble_eq_true rfl⟩ (Nat.le_of_ble_eq_true rfl) ⟨show _ ≤ 600000 by omega, show _ ≤ 7302249 by omega⟩ dL_law_266 (LV_kM ?_)
  have z := fun c2 s2 h1 h2 => LV_end (ad := ad) (c2 := c2) (s2 := s2) B o K hw hF2 dL_law_269 (by decide) h1 h2
  exact z _ _ (by omega) (by omega)
set_option maxRecDepth 100000 in
set_option maxHeartbeats 4000000 in
theorem lc_copy (B : lw_B p s m meth c b Ln xs G) (hw : mm_W pr) (hF : okF pr g) (hr : Rel n g) (hn : n ≤ 512) (hi : i + 5 < Ln) (hL : Ln ≤ 3072) (hc : cells + 120 ≤ 600000) (hs : slots + 960 ≤ 7302249) (K : LK p l e s m below meth c b G cells slots n i) : LV p l e s m below meth c b G cells slots 274 [(0, .ref b), (1, .ref (ad 6 0 0)), (2, .ref (ad 7 0 0)), (3, .int (nI i))] [] pr ad g := by
  obtain ⟨o, o7, o01, o61⟩ := e_copy (x1 := xs (i + 1)) (x2 := xs (i + 2)) (x3 := xs (i + 3)) (x4 := xs (i + 4)) (x5 := xs (i + 5)) hr
  refine LV_aload_n B dL_law_274 1 rfl ?_
  refine LV_arg (k := 1) B dL_law_275 dL_law_276 dL_law_277 rfl dL_law_278 dL_law_279 (by omega) hL ?_
  refine LV_arg (k := 2) B dL_law_280 dL_law_281 dL_law_282 rfl dL_law_283 dL_law_284 (by omega) hL ?_
  refine LV_arg (k := 3) B dL_law_285 dL_law_286 dL_law_287 rfl dL_law_288 dL_law_289 (by omega) hL ?_
  refine LV_arg (k := 4) B dL_law_290 dL_law_291 dL_law_292 rfl dL_law_293 dL_law_294 (by omega) hL ?_
  refine LV_arg (k := 5) B dL_law_295 dL_law_296 dL_law_297 rfl dL_law_298 dL_law_299 (by omega) hL ?_
  refine LV_cV B (k_X6_copy l G hw g _ _ _ _ _ (p_R hr)) hy_X6_copy hi_X6_copy hs_X6_copy q_176 rfl rfl (W_6 hw) rfl rfl rfl rfl rfl ⟨Nat.le_of_ble_eq_true rfl, Nat.le_of_ble_eq_true rfl⟩ (Nat.le_of_ble_eq_true rfl) ⟨show _ ≤ 600000 by omega, show _ ≤ 7302249 by omega⟩ dL_law_300 (LV_kM ?_)
  have e7 := o.1
  have hF2 := okF_c hF o01 o61
  refine LV_aload_n B dL_law_303 2 rfl ?_
  refine LV_arg (k := 1) B dL_law_304 dL_law_305 dL_law_306 rfl dL_law_307 dL_law_308 (by omega) hL ?_
  refine LV_arg (k := 2) B dL_law_309 dL_law_310 dL_law_311 rfl dL_law_312 dL_law_313 (by omega) hL ?_
  refine LV_arg (k := 3) B dL_law_314 dL_law_315 dL_law_316 rfl dL_law_317 dL_law_318 (by omega) hL ?_
  refine LV_arg (k := 4) B dL_law_319 dL_law_320 dL_law_321 rfl dL_law_322 dL_law_323 (by omega) hL ?_
  refine LV_arg (k := 5) B dL_law_324 dL_law_325 dL_law_326 rfl dL_law_327 dL_law_328 (by omega) hL ?_
  refine LV_cV B (k_X7_copy l G hw _ _ _ _ _ _ (p_R7 hr e7)) hy_X7_copy hi_X7_copy hs_X7_copy q_192 rfl rfl (W_7 hw) rfl rfl rfl rfl rfl ⟨Nat.le_of_ble_eq_true rfl, Nat.le_of_ble_eq_true rfl⟩ (Nat.le_of_ble_eq_true rfl) ⟨show _ ≤ 600000 by omega, show _ ≤ 7302249 by omega⟩ dL_law_329 (LV_kM ?_)
  have z := fun c2 s2 h1 h2 => LV_end (ad := ad) (c2 := c2) (s2 := s2) B o K hw hF2 dL_law_332 (by decide) h1 h2
  exact z _ _ (by omega) (by omega)
set_option maxRecDepth 100000 in
set_option maxHeartbeats 4000000 in
theorem lc_drop (B : lw_B p s m meth c b Ln xs G) (hw : mm_W pr) (hF : okF pr g) (hr : Rel n g) (hn : n ≤ 512) (hi : i + 5 < Ln) (hL : Ln ≤ 3072) (hc : cells + 120 ≤ 600000) (hs : slots + 960 ≤ 7302249) (K : LK p l e s m below meth c b G cells slots n i) : LV p l e s m below meth c b G cells slots 337 [(0, .ref b), (1, .ref (ad 6 0 0)), (2, .ref (ad 7 0 0)), (3, .int (nI i))] [] pr ad g := by
  obtain ⟨o, o7, o01, o61⟩ := e_drop (x1 := xs (i + 1)) hr
  refine LV_aload_n B dL_law_337 1 rfl ?_
  refine LV_arg (k := 1) B dL_law_338 dL_law_339 dL_law_340 rfl dL_law_341 dL_law_342 (by omega) hL ?_
  refine LV_cV B (k_X6_drop l G hw g _) hy_X6_drop hi_X6_drop hs_X6_drop q_196 rfl rfl (W_6 hw) rfl rfl rfl rfl rfl ⟨Nat.le_of_ble_eq_true rfl, Nat.le_of_ble_eq_true rfl⟩ (Nat.le_of_ble_eq_true rfl) ⟨show _ ≤ 600000 by omega, show _ ≤ 7302249 by omega⟩ dL_law_343 (LV_kM ?_)
  have e7 := o.1
  have hF2 := okF_c hF o01 o61
  refine LV_aload_n B dL_law_346 2 rfl ?_
  refine LV_arg (k := 1) B dL_law_347 dL_law_348 dL_law_349 rfl dL_law_350 dL_law_351 (by omega) hL ?_
  refine LV_cV B (k_X7_drop l G hw _ _) hy_X7_drop hi_X7_drop hs_X7_drop q_204 rfl rfl (W_7 hw) rfl rfl rfl rfl rfl ⟨Nat.le_of_ble_eq_true rfl, Nat.le_of_ble_eq_true rfl⟩ (Nat.le_of_ble_eq_true rfl) ⟨show _ ≤ 600000 by omega, show _ ≤ 7302249 by omega⟩ dL_law_352 (LV_kM ?_)
  have z := fun c2 s2 h1 h2 => LV_end (ad := ad) (c2 := c2) (s2 := s2) B o K hw hF2 dL_law_355 (by decide) h1 h2
  exact z _ _ (by omega) (by omega)
set_option maxRecDepth 100000 in
set_option maxHeartbeats 4000000 in
theorem lc_feed (B : lw_B p s m meth c b Ln xs G) (hw : mm_W pr) (hF : okF pr g) (hr : Rel n g) (hn : n ≤ 512) (hi : i + 5 < Ln) (hL : Ln ≤ 3072) (hc : cells + 120 ≤ 600000) (hs : slots + 960 ≤ 7302249) (K : LK p l e s m below meth c b G cells slots n i) : LV p l e s m below meth c b G cells slots 360 [(0, .ref b), (1, .ref (ad 6 0 0)), (2, .ref (ad 7 0 0)), (3, .int (nI i))] [] pr ad g := by
  obtain ⟨o, o7, o01, o61⟩ := e_feed (x1 := xs (i + 1)) hr
  refine LV_aload_n B dL_law_360 1 rfl ?_
  refine LV_arg (k := 1) B dL_law_361 dL_law_362 dL_law_363 rfl dL_law_364 dL_law_365 (by omega) hL ?_
  refine LV_cV B (k_X6_feed l G hw g _) hy_X6_feed hi_X6_feed hs_X6_feed q_208 rfl rfl (W_6 hw) rfl rfl rfl rfl rfl ⟨Nat.le_of_ble_eq_true rfl, Nat.le_of_ble_eq_true rfl⟩ (Nat.le_of_ble_eq_true rfl) ⟨show _ ≤ 600000 by omega, show _ ≤ 7302249 by omega⟩ dL_law_366 (LV_kM ?_)
  have e7 := o.1
  have hF2 := okF_c hF o01 o61
  refine LV_aload_n B dL_law_369 2 rfl ?_
  refine LV_arg (k := 1) B dL_law_370 dL_law_371 dL_law_372 rfl dL_law_373 dL_law_374 (by omega) hL ?_
  refine LV_cV B (k_X7_feed l G hw _ _ (p_T hr e7)) hy_X7_feed hi_X7_feed hs_X7_feed q_221 rfl rfl (W_7 hw) rfl rfl rfl rfl rfl ⟨Nat.le_of_ble_eq_true rfl, Nat.le_of_ble_eq_true rfl⟩ (Nat.le_of_ble_eq_true rfl) ⟨show _ ≤ 600000 by omega, show _ ≤ 7302249 by omega⟩ dL_law_375 (LV_kM ?_)
  have z := fun c2 s2 h1 h2 => LV_end (ad := ad) (c2 := c2) (s2 := s2) B o K hw hF2 dL_law_378 (by decide) h1 h2
  exact z _ _ (by omega) (by omega)
set_option maxRecDepth 100000 in
set_option maxHeartbeats 4000000 in
theorem lc_flat (B : lw_B p s m meth c b Ln xs G) (hw : mm_W pr) (hF : okF pr g) (hr : Rel n g) (hn : n ≤ 512) (hi : i + 5 < Ln) (hL : Ln ≤ 3072) (hc : cells + 120 ≤ 600000) (hs : slots + 960 ≤ 7302249) (K : LK p l e s m below meth c b G cells slots n i) : LV p l e s m below meth c b G cells slots 383 [(0, .ref b), (1, .ref (ad 6 0 0)), (2, .ref (ad 7 0 0)), (3, .int (nI i))] [] pr ad g := by
  obtain ⟨o, o7, o01, o61⟩ := e_flat  hr
  refine LV_aload_n B dL_law_383 1 rfl ?_
  refine LV_cV B (k_X6_flat l G hw g) hy_X6_flat hi_X6_flat hs_X6_flat q_228 rfl rfl (W_6 hw) rfl rfl rfl rfl rfl ⟨Nat.le_of_ble_eq_true rfl, Nat.le_of_ble_eq_true rfl⟩ (Nat.le_of_ble_eq_true rfl) ⟨show _ ≤ 600000 by omega, show _ ≤ 7302249 by omega⟩ dL_law_384 (LV_kM ?_)
  have e7 := o.1
  have hF2 := okF_c hF o01 o61
  refine LV_aload_n B dL_law_387 2 rfl ?_
  refine LV_cV B (k_X7_flat l G hw _ (p_T hr e7)) hy_X7_flat hi_X7_flat hs_X7_flat q_301 rfl rfl (W_7 hw) rfl rfl rfl rfl rfl ⟨Nat.le_of_ble_eq_true rfl, Nat.le_of_ble_eq_true rfl⟩ (Nat.le_of_ble_eq_true rfl) ⟨show _ ≤ 600000 by omega, show _ ≤ 7302249 by omega⟩ dL_law_388 (LV_kM ?_)
  have z := fun c2 s2 h1 h2 => LV_end (ad := ad) (c2 := c2) (s2 := s2) B o K hw hF2 dL_law_391 (by decide) h1 h2
  exact z _ _ (by omega) (by omega)
set_option maxRecDepth 100000 in
set_option maxHeartbeats 4000000 in
theorem lc_fault (B : lw_B p s m meth c b Ln xs G) (hw : mm_W pr) (hF : okF pr g) (hr : Rel n g) (hn : n ≤ 512) (hi : i + 5 < Ln) (hL : Ln ≤ 3072) (hc : cells + 120 ≤ 600000) (hs : slots + 960 ≤ 7302249) (K : LK p l e s m below meth c b G cells slots n i) : LV p l e s m below meth c b G cells slots 396 [(0, .ref b), (1, .ref (ad 6 0 0)), (2, .ref (ad 7 0 0)), (3, .int (nI i))] [] pr ad g := by
  obtain ⟨o, o7, o01, o61⟩ := e_fault  hr
  refine LV_aload_n B dL_law_396 1 rfl ?_
  refine LV_cV B (k_X6_fault l G hw g) hy_X6_fault hi_X6_fault hs_X6_fault q_345 rfl rfl (W_6 hw) rfl rfl rfl rfl rfl ⟨Nat.le_of_ble_eq_true rfl, Nat.le_of_ble_eq_true rfl⟩ (Nat.le_of_ble_eq_true rfl) ⟨show _ ≤ 600000 by omega, show _ ≤ 7302249 by omega⟩ dL_law_397 (LV_kM (R := (F_X6_fault g, g)) ?_)
  have e7 := o.1
  have hF2 := okF_c hF o01 o61
  refine LV_aload_n B dL_law_400 2 rfl ?_
  refine LV_cV B (k_X7_fault l G hw _) hy_X7_fault hi_X7_fault hs_X7_fault q_349 rfl rfl (W_7 hw) rfl rfl rfl rfl rfl ⟨Nat.le_of_ble_eq_true rfl, Nat.le_of_ble_eq_true rfl⟩ (Nat.le_of_ble_eq_true rfl) ⟨show _ ≤ 600000 by omega, show _ ≤ 7302249 by omega⟩ dL_law_401 (LV_kM (R := (F_X7_fault _, _)) ?_)
  have z := fun c2 s2 h1 h2 => LV_end (ad := ad) (c2 := c2) (s2 := s2) B o K hw hF2 dL_law_404 (by decide) h1 h2
  exact z _ _ (by omega) (by omega)
set_option maxRecDepth 100000 in
set_option maxHeartbeats 4000000 in
theorem lc_undo (B : lw_B p s m meth c b Ln xs G) (hw : mm_W pr) (hF : okF pr g) (hr : Rel n g) (hn : n ≤ 512) (hi : i + 5 < Ln) (hL : Ln ≤ 3072) (hc : cells + 120 ≤ 600000) (hs : slots + 960 ≤ 7302249) (K : LK p l e s m below meth c b G cells slots n i) : LV p l e s m below meth c b G cells slots 409 [(0, .ref b), (1, .ref (ad 6 0 0)), (2, .ref (ad 7 0 0)), (3, .int (nI i))] [] pr ad g := by
  obtain ⟨o, o7, o01, o61⟩ := e_undo  hr
  refine LV_aload_n B dL_law_409 1 rfl ?_
  refine LV_cV B (k_X6_undo l G hw g (p_hA hF)) hy_X6_undo hi_X6_undo hs_X6_undo q_353 rfl rfl (W_6 hw) rfl rfl rfl rfl rfl ⟨Nat.le_of_ble_eq_true rfl, Nat.le_of_ble_eq_true rfl⟩ (Nat.le_of_ble_eq_true rfl) ⟨show _ ≤ 600000 by omega, show _ ≤ 7302249 by omega⟩ dL_law_410 (LV_kM ?_)
  have e7 := o.1
  have hF2 := okF_c hF o01 o61
  refine LV_aload_n B dL_law_413 2 rfl ?_
  refine LV_cV B (k_X7_undo l G hw _ (p_A hr e7)) hy_X7_undo hi_X7_undo hs_X7_undo q_367 rfl rfl (W_7 hw) rfl rfl rfl rfl rfl ⟨Nat.le_of_ble_eq_true rfl, Nat.le_of_ble_eq_true rfl⟩ (Nat.le_of_ble_eq_true rfl) ⟨show _ ≤ 600000 by omega, show _ ≤ 7302249 by omega⟩ dL_law_414 (LV_kM ?_)
  have z := fun c2 s2 h1 h2 => LV_end (ad := ad) (c2 := c2) (s2 := s2) B o K hw hF2 dL_law_417 (by decide) h1 h2
  exact z _ _ (by omega) (by omega)
set_option maxRecDepth 100000 in
set_option maxHeartbeats 4000000 in
theorem lc_tides (B : lw_B p s m meth c b Ln xs G) (hw : mm_W pr) (hF : okF pr g) (hr : Rel n g) (hn : n ≤ 512) (hi : i + 5 < Ln) (hL : Ln ≤ 3072) (hc : cells + 120 ≤ 600000) (hs : slots + 960 ≤ 7302249) (K : LK p l e s m below meth c b G cells slots n i) : LV p l e s m below meth c b G cells slots 422 [(0, .ref b), (1, .ref (ad 6 0 0)), (2, .ref (ad 7 0 0)), (3, .int (nI i))] [] pr ad g := by
  have o := e_tides (x1 := xs (i + 1)) hr
  refine LV_aload_n B dL_law_422 1 rfl ?_
  refine LV_arg (k := 1) B dL_law_423 dL_law_424 dL_law_425 rfl dL_law_426 dL_law_427 (by omega) hL ?_
  refine LV_cV B (k_X6_tides l G hw g _ hF) hy_X6_tides hi_X6_tides hs_X6_tides q_372 rfl rfl (W_6 hw) rfl rfl rfl rfl rfl ⟨Nat.le_of_ble_eq_true rfl, Nat.le_of_ble_eq_true rfl⟩ (Nat.le_of_ble_eq_true rfl) ⟨show _ ≤ 600000 by omega, show _ ≤ 7302249 by omega⟩ dL_law_428 (LV_kP ?_)
  intro pr2 ad2 hx2 hF2
  have hw2 := mm_xW hx2 hw
  rw [← hx2.2 6 0 0 (W_6 hw), ← hx2.2 7 0 0 (W_7 hw)]
  have e7 := o.1
  refine LV_aload_n B dL_law_431 2 rfl ?_
  refine LV_arg (k := 1) B dL_law_432 dL_law_433 dL_law_434 rfl dL_law_435 dL_law_436 (by omega) hL ?_
  refine LV_cV B (k_X7_tides l G hw2 _ _ (p_B hr e7) (p_A hr e7)) hy_X7_tides hi_X7_tides hs_X7_tides q_429 rfl rfl (W_7 hw2) rfl rfl rfl rfl rfl ⟨Nat.le_of_ble_eq_true rfl, Nat.le_of_ble_eq_true rfl⟩ (Nat.le_of_ble_eq_true rfl) ⟨show _ ≤ 600000 by omega, show _ ≤ 7302249 by omega⟩ dL_law_437 (LV_kM ?_)
  have z := fun c2 s2 h1 h2 => LV_end (ad := ad2) (c2 := c2) (s2 := s2) B o K hw2 hF2 dL_law_440 (by decide) h1 h2
  exact z _ _ (by omega) (by omega)
set_option maxRecDepth 100000 in
set_option maxHeartbeats 4000000 in
theorem lc_rake (B : lw_B p s m meth c b Ln xs G) (hw : mm_W pr) (hF : okF pr g) (hr : Rel n g) (hn : n ≤ 512) (hi : i + 5 < Ln) (hL : Ln ≤ 3072) (hc : cells + 120 ≤ 600000) (hs : slots + 960 ≤ 7302249) (K : LK p l e s m below meth c b G cells slots n i) : LV p l e s m below meth c b G cells slots 445 [(0, .ref b), (1, .ref (ad 6 0 0)), (2, .ref (ad 7 0 0)), (3, .int (nI i))] [] pr ad g := by
  have o := e_rake (x1 := xs (i + 1)) (x2 := xs (i + 2)) (by omega) hr
  refine LV_aload_n B dL_law_445 1 rfl ?_
  refine LV_arg (k := 1) B dL_law_446 dL_law_447 dL_law_448 rfl dL_law_449 dL_law_450 (by omega) hL ?_
  refine LV_arg (k := 2) B dL_law_451 dL_law_452 dL_law_453 rfl dL_law_454 dL_law_455 (by omega) hL ?_
  refine LV_cV B (k_X6_rake l G hw g _ _ hF) hy_X6_rake hi_X6_rake hs_X6_rake q_458 rfl rfl (W_6 hw) rfl rfl rfl rfl rfl ⟨Nat.le_of_ble_eq_true rfl, Nat.le_of_ble_eq_true rfl⟩ (Nat.le_of_ble_eq_true rfl) ⟨show _ ≤ 600000 by omega, show _ ≤ 7302249 by omega⟩ dL_law_456 (LV_kP ?_)
  intro pr2 ad2 hx2 hF2
  have hw2 := mm_xW hx2 hw
  rw [← hx2.2 6 0 0 (W_6 hw), ← hx2.2 7 0 0 (W_7 hw)]
  have e7 := o.1
  refine LV_aload_n B dL_law_459 2 rfl ?_
  refine LV_arg (k := 1) B dL_law_460 dL_law_461 dL_law_462 rfl dL_law_463 dL_law_464 (by omega) hL ?_
  refine LV_arg (k := 2) B dL_law_465 dL_law_466 dL_law_467 rfl dL_law_468 dL_law_469 (by omega) hL ?_
  refine LV_cV B (k_X7_rake l G hw2 _ _ _ (p_B hr e7) (p_A hr e7)) hy_X7_rake hi_X7_rake hs_X7_rake q_475 rfl rfl (W_7 hw2) rfl rfl rfl rfl rfl ⟨Nat.le_of_ble_eq_true rfl, Nat.le_of_ble_eq_true rfl⟩ (Nat.le_of_ble_eq_true rfl) ⟨show _ ≤ 600000 by omega, show _ ≤ 7302249 by omega⟩ dL_law_470 (LV_kM ?_)
  have z := fun c2 s2 h1 h2 => LV_end (ad := ad2) (c2 := c2) (s2 := s2) B o K hw2 hF2 dL_law_473 (by decide) h1 h2
  exact z _ _ (by omega) (by omega)
set_option maxRecDepth 100000 in
set_option maxHeartbeats 4000000 in
theorem lc_rain (B : lw_B p s m meth c b Ln xs G) (hw : mm_W pr) (hF : okF pr g) (hr : Rel n g) (hn : n ≤ 512) (hi : i + 5 < Ln) (hL : Ln ≤ 3072) (hc : cells + 120 ≤ 600000) (hs : slots + 960 ≤ 7302249) (K : LK p l e s m below meth c b G cells slots n i) : LV p l e s m below meth c b G cells slots 478 [(0, .ref b), (1, .ref (ad 6 0 0)), (2, .ref (ad 7 0 0)), (3, .int (nI i))] [] pr ad g := by
  have o := e_rain (x1 := xs (i + 1)) (x2 := xs (i + 2)) hr
  refine LV_aload_n B dL_law_478 1 rfl ?_
  refine LV_arg (k := 1) B dL_law_479 dL_law_480 dL_law_481 rfl dL_law_482 dL_law_483 (by omega) hL ?_
  refine LV_arg (k := 2) B dL_law_484 dL_law_485 dL_law_486 rfl dL_law_487 dL_law_488 (by omega) hL ?_
  refine LV_cV B (k_X6_rain l G hw g _ _ hF) hy_X6_rain hi_X6_rain hs_X6_rain q_495 rfl rfl (W_6 hw) rfl rfl rfl rfl rfl ⟨Nat.le_of_ble_eq_true rfl, Nat.le_of_ble_eq_true rfl⟩ (Nat.le_of_ble_eq_true rfl) ⟨show _ ≤ 600000 by omega, show _ ≤ 7302249 by omega⟩ dL_law_489 (LV_kP ?_)
  intro pr2 ad2 hx2 hF2
  have hw2 := mm_xW hx2 hw
  rw [← hx2.2 6 0 0 (W_6 hw), ← hx2.2 7 0 0 (W_7 hw)]
  have e7 := o.1
  refine LV_aload_n B dL_law_492 2 rfl ?_
  refine LV_arg (k := 1) B dL_law_493 dL_law_494 dL_law_495 rfl dL_law_496 dL_law_497 (by omega) hL ?_
  refine LV_arg (k := 2) B dL_law_498 dL_law_499 dL_law_500 rfl dL_law_501 dL_law_502 (by omega) hL ?_
  refine LV_cV B (k_X7_rain l G hw2 _ _ _ (p_B hr e7) (p_A hr e7)) hy_X7_rain hi_X7_rain hs_X7_rain q_507 rfl rfl (W_7 hw2) rfl rfl rfl rfl rfl ⟨Nat.le_of_ble_eq_true rfl, Nat.le_of_ble_eq_true rfl⟩ (Nat.le_of_ble_eq_true rfl) ⟨show _ ≤ 600000 by omega, show _ ≤ 7302249 by omega⟩ dL_law_503 (LV_kM ?_)
  have z := fun c2 s2 h1 h2 => LV_end (ad := ad2) (c2 := c2) (s2 := s2) B o K hw2 hF2 dL_law_506 (by decide) h1 h2
  exact z _ _ (by omega) (by omega)
set_option maxRecDepth 100000 in
set_option maxHeartbeats 4000000 in
theorem lc_veto (B : lw_B p s m meth c b Ln xs G) (hw : mm_W pr) (hF : okF pr g) (hr : Rel n g) (hn : n ≤ 512) (hi : i + 5 < Ln) (hL : Ln ≤ 3072) (hc : cells + 120 ≤ 600000) (hs : slots + 960 ≤ 7302249) (K : LK p l e s m below meth c b G cells slots n i) : LV p l e s m below meth c b G cells slots 511 [(0, .ref b), (1, .ref (ad 6 0 0)), (2, .ref (ad 7 0 0)), (3, .int (nI i))] [] pr ad g := by
  have o := e_veto (x1 := xs (i + 1)) (x2 := xs (i + 2)) hr
  refine LV_aload_n B dL_law_511 1 rfl ?_
  refine LV_arg (k := 1) B dL_law_512 dL_law_513 dL_law_514 rfl dL_law_515 dL_law_516 (by omega) hL ?_
  refine LV_arg (k := 2) B dL_law_517 dL_law_518 dL_law_519 rfl dL_law_520 dL_law_521 (by omega) hL ?_
  refine LV_cV B (k_X6_veto l G hw g _ _ hF) hy_X6_veto hi_X6_veto hs_X6_veto q_512 rfl rfl (W_6 hw) rfl rfl rfl rfl rfl ⟨Nat.le_of_ble_eq_true rfl, Nat.le_of_ble_eq_true rfl⟩ (Nat.le_of_ble_eq_true rfl) ⟨show _ ≤ 600000 by omega, show _ ≤ 7302249 by omega⟩ dL_law_522 (LV_kP ?_)
  intro pr2 ad2 hx2 hF2
  have hw2 := mm_xW hx2 hw
  rw [← hx2.2 6 0 0 (W_6 hw), ← hx2.2 7 0 0 (W_7 hw)]
  have e7 := o.1
  refine LV_aload_n B dL_law_525 2 rfl ?_
  refine LV_arg (k := 1) B dL_law_526 dL_law_527 dL_law_528 rfl dL_law_529 dL_law_530 (by omega) hL ?_
  refine LV_arg (k := 2) B dL_law_531 dL_law_532 dL_law_533 rfl dL_law_534 dL_law_535 (by omega) hL ?_
  refine LV_cV B (k_X7_veto l G hw2 _ _ _ (p_A hr e7)) hy_X7_veto hi_X7_veto hs_X7_veto q_520 rfl rfl (W_7 hw2) rfl rfl rfl rfl rfl ⟨Nat.le_of_ble_eq_true rfl, Nat.le_of_ble_eq_true rfl⟩ (Nat.le_of_ble_eq_true rfl) ⟨show _ ≤ 600000 by omega, show _ ≤ 7302249 by omega⟩ dL_law_536 (LV_kM ?_)
  have z := fun c2 s2 h1 h2 => LV_end (ad := ad2) (c2 := c2) (s2 := s2) B o K hw2 hF2 dL_law_539 (by decide) h1 h2
  exact z _ _ (by omega) (by omega)
set_option maxRecDepth 100000 in
set_option maxHeartbeats 4000000 in
theorem lc_stand (B : lw_B p s m meth c b Ln xs G) (hw : mm_W pr) (hF : okF pr g) (hr : Rel n g) (hn : n ≤ 512) (hi : i + 5 < Ln) (hL : Ln ≤ 3072) (hc : cells + 120 ≤ 600000) (hs : slots + 960 ≤ 7302249) (K : LK p l e s m below meth c b G cells slots n i) : LV p l e s m below meth c b G cells slots 544 [(0, .ref b), (1, .ref (ad 6 0 0)), (2, .ref (ad 7 0 0)), (3, .int (nI i))] [] pr ad g := by
  have o := e_stand (x1 := xs (i + 1)) (x2 := xs (i + 2)) hr
  refine LV_aload_n B dL_law_544 1 rfl ?_
  refine LV_arg (k := 1) B dL_law_545 dL_law_546 dL_law_547 rfl dL_law_548 dL_law_549 (by omega) hL ?_
  refine LV_arg (k := 2) B dL_law_550 dL_law_551 dL_law_552 rfl dL_law_553 dL_law_554 (by omega) hL ?_
  refine LV_cV B (k_X6_stand l G hw g _ _ hF) hy_X6_stand hi_X6_stand hs_X6_stand q_524 rfl rfl (W_6 hw) rfl rfl rfl rfl rfl ⟨Nat.le_of_ble_eq_true rfl, Nat.le_of_ble_eq_true rfl⟩ (Nat.le_of_ble_eq_true rfl) ⟨show _ ≤ 600000 by omega, show _ ≤ 7302249 by omega⟩ dL_law_555 (LV_kP ?_)
  intro pr2 ad2 hx2 hF2
  have hw2 := mm_xW hx2 hw
  rw [← hx2.2 6 0 0 (W_6 hw), ← hx2.2 7 0 0 (W_7 hw)]
  have e7 := o.1
  refine LV_aload_n B dL_law_558 2 rfl ?_
  refine LV_arg (k := 1) B dL_law_559 dL_law_560 dL_law_561 rfl dL_law_562 dL_law_563 (by omega) hL ?_
  refine LV_arg (k := 2) B dL_law_564 dL_law_565 dL_law_566 rfl dL_law_567 dL_law_568 (by omega) hL ?_
  refine LV_cV B (k_X7_stand l G hw2 _ _ _ (p_A hr e7)) hy_X7_stand hi_X7_stand hs_X7_stand q_535 rfl rfl (W_7 hw2) rfl rfl rfl rfl rfl ⟨Nat.le_of_ble_eq_true rfl, Nat.le_of_ble_eq_true rfl⟩ (Nat.le_of_ble_eq_true rfl) ⟨show _ ≤ 600000 by omega, show _ ≤ 7302249 by omega⟩ dL_law_569 (LV_kM ?_)
  have z := fun c2 s2 h1 h2 => LV_end (ad := ad2) (c2 := c2) (s2 := s2) B o K hw2 hF2 dL_law_572 (by decide) h1 h2
  exact z _ _ (by omega) (by omega)
set_option maxRecDepth 100000 in
set_option maxHeartbeats 4000000 in
theorem lc_bed (B : lw_B p s m meth c b Ln xs G) (hw : mm_W pr) (hF : okF pr g) (hr : Rel n g) (hn : n ≤ 512) (hi : i + 5 < Ln) (hL : Ln ≤ 3072) (hc : cells + 120 ≤ 600000) (hs : slots + 960 ≤ 7302249) (K : LK p l e s m below meth c b G cells slots n i) : LV p l e s m below meth c b G cells slots 577 [(0, .ref b), (1, .ref (ad 6 0 0)), (2, .ref (ad 7 0 0)), (3, .int (nI i))] [] pr ad g := by
  obtain ⟨o, o7, o01, o61⟩ := e_bed (x1 := xs (i + 1)) (x2 := xs (i + 2)) hr
  refine LV_aload_n B dL_law_577 1 rfl ?_
  refine LV_arg (k := 1) B dL_law_578 dL_law_579 dL_law_580 rfl dL_law_581 dL_law_582 (by omega) hL ?_
  refine LV_arg (k := 2) B dL_law_583 dL_law_584 dL_law_585 rfl dL_law_586 dL_law_587 (by omega) hL ?_
  refine LV_cV B (k_X6_bed l G hw g _ _) hy_X6_bed hi_X6_bed hs_X6_bed q_543 rfl rfl (W_6 hw) rfl rfl rfl rfl rfl ⟨Nat.le_of_ble_eq_true rfl, Nat.le_of_ble_eq_true rfl⟩ (Nat.le_of_ble_eq_true rfl) ⟨show _ ≤ 600000 by omega, show _ ≤ 7302249 by omega⟩ dL_law_588 (LV_kM (R := (F_X6_bed g (xs (i + 1)) (xs (i + 2)), g)) ?_)
  have e7 := o.1
  have hF2 := okF_c hF o01 o61
  refine LV_aload_n B dL_law_591 2 rfl ?_
  refine LV_arg (k := 1) B dL_law_592 dL_law_593 dL_law_594 rfl dL_law_595 dL_law_596 (by omega) hL ?_
  refine LV_arg (k := 2) B dL_law_597 dL_law_598 dL_law_599 rfl dL_law_600 dL_law_601 (by omega) hL ?_
  refine LV_cV B (k_X7_bed l G hw _ _ _ (p_B hr e7)) hy_X7_bed hi_X7_bed hs_X7_bed q_552 rfl rfl (W_7 hw) rfl rfl rfl rfl rfl ⟨Nat.le_of_ble_eq_true rfl, Nat.le_of_ble_eq_true rfl⟩ (Nat.le_of_ble_eq_true rfl) ⟨show _ ≤ 600000 by omega, show _ ≤ 7302249 by omega⟩ dL_law_602 (LV_kM (R := (F_X7_bed _ _ _, _)) ?_)
  have z := fun c2 s2 h1 h2 => LV_end (ad := ad) (c2 := c2) (s2 := s2) B o K hw hF2 dL_law_605 (by decide) h1 h2
  exact z _ _ (by omega) (by omega)
set_option maxRecDepth 100000 in
set_option maxHeartbeats 4000000 in
theorem lc_board (B : lw_B p s m meth c b Ln xs G) (hw : mm_W pr) (hF : okF pr g) (hr : Rel n g) (hn : n ≤ 512) (hi : i + 5 < Ln) (hL : Ln ≤ 3072) (hc : cells + 120 ≤ 600000) (hs : slots + 960 ≤ 7302249) (K : LK p l e s m below meth c b G cells slots n i) : LV p l e s m below meth c b G cells slots 610 [(0, .ref b), (1, .ref (ad 6 0 0)), (2, .ref (ad 7 0 0)), (3, .int (nI i))] [] pr ad g := by
  obtain ⟨o, o7, o01, o61⟩ := e_board (x1 := xs (i + 1)) hr
  refine LV_aload_n B dL_law_610 1 rfl ?_
  refine LV_arg (k := 1) B dL_law_611 dL_law_612 dL_law_613 rfl dL_law_614 dL_law_615 (by omega) hL ?_
  refine LV_cV B (k_X6_board l G hw g _) hy_X6_board hi_X6_board hs_X6_board q_561 rfl rfl (W_6 hw) rfl rfl rfl rfl rfl ⟨Nat.le_of_ble_eq_true rfl, Nat.le_of_ble_eq_true rfl⟩ (Nat.le_of_ble_eq_true rfl) ⟨show _ ≤ 600000 by omega, show _ ≤ 7302249 by omega⟩ dL_law_616 (LV_kM (R := (F_X6_board g (xs (i + 1)), g)) ?_)
  have e7 := o.1
  have hF2 := okF_c hF o01 o61
  refine LV_aload_n B dL_law_619 2 rfl ?_
  refine LV_arg (k := 1) B dL_law_620 dL_law_621 dL_law_622 rfl dL_law_623 dL_law_624 (by omega) hL ?_
  refine LV_cV B (k_X7_board l G hw _ _) hy_X7_board hi_X7_board hs_X7_board q_569 rfl rfl (W_7 hw) rfl rfl rfl rfl rfl ⟨Nat.le_of_ble_eq_true rfl, Nat.le_of_ble_eq_true rfl⟩ (Nat.le_of_ble_eq_true rfl) ⟨show _ ≤ 600000 by omega, show _ ≤ 7302249 by omega⟩ dL_law_625 (LV_kM (R := (F_X7_board _ _, _)) ?_)
  have z := fun c2 s2 h1 h2 => LV_end (ad := ad) (c2 := c2) (s2 := s2) B o K hw hF2 dL_law_628 (by decide) h1 h2
  exact z _ _ (by omega) (by omega)
set_option maxRecDepth 100000 in
set_option maxHeartbeats 4000000 in
theorem lc_ahead (B : lw_B p s m meth c b Ln xs G) (hw : mm_W pr) (hF : okF pr g) (hr : Rel n g) (hn : n ≤ 512) (hi : i + 5 < Ln) (hL : Ln ≤ 3072) (hc : cells + 120 ≤ 600000) (hs : slots + 960 ≤ 7302249) (K : LK p l e s m below meth c b G cells slots n i) : LV p l e s m below meth c b G cells slots 633 [(0, .ref b), (1, .ref (ad 6 0 0)), (2, .ref (ad 7 0 0)), (3, .int (nI i))] [] pr ad g := by
  obtain ⟨o, o7, o01, o61⟩ := e_ahead (x1 := xs (i + 1)) (x2 := xs (i + 2)) (x3 := xs (i + 3)) hr
  refine LV_aload_n B dL_law_633 1 rfl ?_
  refine LV_arg (k := 1) B dL_law_634 dL_law_635 dL_law_636 rfl dL_law_637 dL_law_638 (by omega) hL ?_
  refine LV_arg (k := 2) B dL_law_639 dL_law_640 dL_law_641 rfl dL_law_642 dL_law_643 (by omega) hL ?_
  refine LV_arg (k := 3) B dL_law_644 dL_law_645 dL_law_646 rfl dL_law_647 dL_law_648 (by omega) hL ?_
  refine LV_cV B (k_X6_ahead l G hw g _ _ _) hy_X6_ahead hi_X6_ahead hs_X6_ahead q_574 rfl rfl (W_6 hw) rfl rfl rfl rfl rfl ⟨Nat.le_of_ble_eq_true rfl, Nat.le_of_ble_eq_true rfl⟩ (Nat.le_of_ble_eq_true rfl) ⟨show _ ≤ 600000 by omega, show _ ≤ 7302249 by omega⟩ dL_law_649 (LV_kM ?_)
  have e7 := o.1
  have hF2 := okF_c hF o01 o61
  refine LV_aload_n B dL_law_652 2 rfl ?_
  refine LV_arg (k := 1) B dL_law_653 dL_law_654 dL_law_655 rfl dL_law_656 dL_law_657 (by omega) hL ?_
  refine LV_arg (k := 2) B dL_law_658 dL_law_659 dL_law_660 rfl dL_law_661 dL_law_662 (by omega) hL ?_
  refine LV_arg (k := 3) B dL_law_663 dL_law_664 dL_law_665 rfl dL_law_666 dL_law_667 (by omega) hL ?_
  refine LV_cV B (k_X7_ahead l G hw _ _ _ _ (p_B hr e7)) hy_X7_ahead hi_X7_ahead hs_X7_ahead q_584 rfl rfl (W_7 hw) rfl rfl rfl rfl rfl ⟨Nat.le_of_ble_eq_true rfl, Nat.le_of_ble_eq_true rfl⟩ (Nat.le_of_ble_eq_true rfl) ⟨show _ ≤ 600000 by omega, show _ ≤ 7302249 by omega⟩ dL_law_668 (LV_kM ?_)
  have z := fun c2 s2 h1 h2 => LV_end (ad := ad) (c2 := c2) (s2 := s2) B o K hw hF2 dL_law_671 (by decide) h1 h2
  exact z _ _ (by omega) (by omega)
set_option maxRecDepth 100000 in
set_option maxHeartbeats 4000000 in
theorem lc_tally (B : lw_B p s m meth c b Ln xs G) (hw : mm_W pr) (hF : okF pr g) (hr : Rel n g) (hn : n ≤ 512) (hi : i + 5 < Ln) (hL : Ln ≤ 3072) (hc : cells + 120 ≤ 600000) (hs : slots + 960 ≤ 7302249) (K : LK p l e s m below meth c b G cells slots n i) : LV p l e s m below meth c b G cells slots 676 [(0, .ref b), (1, .ref (ad 6 0 0)), (2, .ref (ad 7 0 0)), (3, .int (nI i))] [] pr ad g := by
  obtain ⟨o, o7, o01, o61⟩ := e_tally (x1 := xs (i + 1)) (x2 := xs (i + 2)) hr
  refine LV_aload_n B dL_law_676 1 rfl ?_
  refine LV_arg (k := 1) B dL_law_677 dL_law_678 dL_law_679 rfl dL_law_680 dL_law_681 (by omega) hL ?_
  refine LV_arg (k := 2) B dL_law_682 dL_law_683 dL_law_684 rfl dL_law_685 dL_law_686 (by omega) hL ?_
  refine LV_cV B (k_X6_tally l G hw g _ _) hy_X6_tally hi_X6_tally hs_X6_tally q_601 rfl rfl (W_6 hw) rfl rfl rfl rfl rfl ⟨Nat.le_of_ble_eq_true rfl, Nat.le_of_ble_eq_true rfl⟩ (Nat.le_of_ble_eq_true rfl) ⟨show _ ≤ 600000 by omega, show _ ≤ 7302249 by omega⟩ dL_law_687 (LV_kM ?_)
  have e7 := o.1
  have hF2 := okF_c hF o01 o61
  refine LV_aload_n B dL_law_690 2 rfl ?_
  refine LV_arg (k := 1) B dL_law_691 dL_law_692 dL_law_693 rfl dL_law_694 dL_law_695 (by omega) hL ?_
  refine LV_arg (k := 2) B dL_law_696 dL_law_697 dL_law_698 rfl dL_law_699 dL_law_700 (by omega) hL ?_
  refine LV_cV B (k_X7_tally l G hw _ _ _ (p_B hr e7)) hy_X7_tally hi_X7_tally hs_X7_tally q_611 rfl rfl (W_7 hw) rfl rfl rfl rfl rfl ⟨Nat.le_of_ble_eq_true rfl, Nat.le_of_ble_eq_true rfl⟩ (Nat.le_of_ble_eq_true rfl) ⟨show _ ≤ 600000 by omega, show _ ≤ 7302249 by omega⟩ dL_law_701 (LV_kM ?_)
  have z := fun c2 s2 h1 h2 => LV_end (ad := ad) (c2 := c2) (s2 := s2) B o K hw hF2 dL_law_704 (by decide) h1 h2
  exact z _ _ (by omega) (by omega)
set_option maxRecDepth 100000 in
set_option maxHeartbeats 4000000 in
theorem lc_when (B : lw_B p s m meth c b Ln xs G) (hw : mm_W pr) (hF : okF pr g) (hr : Rel n g) (hn : n ≤ 512) (hi : i + 5 < Ln) (hL : Ln ≤ 3072) (hc : cells + 120 ≤ 600000) (hs : slots + 960 ≤ 7302249) (K : LK p l e s m below meth c b G cells slots n i) : LV p l e s m below meth c b G cells slots 709 [(0, .ref b), (1, .ref (ad 6 0 0)), (2, .ref (ad 7 0 0)), (3, .int (nI i))] [] pr ad g := by
  obtain ⟨o, o7, o01, o61⟩ := e_when (x1 := xs (i + 1)) (x2 := xs (i + 2)) hr
  refine LV_aload_n B dL_law_709 1 rfl ?_
  refine LV_arg (k := 1) B dL_law_710 dL_law_711 dL_law_712 rfl dL_law_713 dL_law_714 (by omega) hL ?_
  refine LV_arg (k := 2) B dL_law_715 dL_law_716 dL_law_717 rfl dL_law_718 dL_law_719 (by omega) hL ?_
  refine LV_cV B (k_X6_when l G hw g _ _) hy_X6_when hi_X6_when hs_X6_when q_623 rfl rfl (W_6 hw) rfl rfl rfl rfl rfl ⟨Nat.le_of_ble_eq_true rfl, Nat.le_of_ble_eq_true rfl⟩ (Nat.le_of_ble_eq_true rfl) ⟨show _ ≤ 600000 by omega, show _ ≤ 7302249 by omega⟩ dL_law_720 (LV_kM ?_)
  have e7 := o.1
  have hF2 := okF_c hF o01 o61
  refine LV_aload_n B dL_law_723 2 rfl ?_
  refine LV_arg (k := 1) B dL_law_724 dL_law_725 dL_law_726 rfl dL_law_727 dL_law_728 (by omega) hL ?_
  refine LV_arg (k := 2) B dL_law_729 dL_law_730 dL_law_731 rfl dL_law_732 dL_law_733 (by omega) hL ?_
  refine LV_cV B (k_X7_when l G hw _ _ _ (p_B hr e7)) hy_X7_when hi_X7_when hs_X7_when q_633 rfl rfl (W_7 hw) rfl rfl rfl rfl rfl ⟨Nat.le_of_ble_eq_true rfl, Nat.le_of_ble_eq_true rfl⟩ (Nat.le_of_ble_eq_true rfl) ⟨show _ ≤ 600000 by omega, show _ ≤ 7302249 by omega⟩ dL_law_734 (LV_kM ?_)
  have z := fun c2 s2 h1 h2 => LV_end (ad := ad) (c2 := c2) (s2 := s2) B o K hw hF2 dL_law_737 (by decide) h1 h2
  exact z _ _ (by omega) (by omega)
set_option maxRecDepth 100000 in
set_option maxHeartbeats 4000000 in
theorem lc_place (B : lw_B p s m meth c b Ln xs G) (hw : mm_W pr) (hF : okF pr g) (hr : Rel n g) (hn : n ≤ 512) (hi : i + 5 < Ln) (hL : Ln ≤ 3072) (hc : cells + 120 ≤ 600000) (hs : slots + 960 ≤ 7302249) (K : LK p l e s m below meth c b G cells slots n i) : LV p l e s m below meth c b G cells slots 742 [(0, .ref b), (1, .ref (ad 6 0 0)), (2, .ref (ad 7 0 0)), (3, .int (nI i))] [] pr ad g := by
  obtain ⟨o, o7, o01, o61⟩ := e_place (x1 := xs (i + 1)) (x2 := xs (i + 2)) hr
  refine LV_aload_n B dL_law_742 1 rfl ?_
  refine LV_arg (k := 1) B dL_law_743 dL_law_744 dL_law_745 rfl dL_law_746 dL_law_747 (by omega) hL ?_
  refine LV_arg (k := 2) B dL_law_748 dL_law_749 dL_law_750 rfl dL_law_751 dL_law_752 (by omega) hL ?_
  refine LV_cV B (k_X6_place l G hw g _ _) hy_X6_place hi_X6_place hs_X6_place q_638 rfl rfl (W_6 hw) rfl rfl rfl rfl rfl ⟨Nat.le_of_ble_eq_true rfl, Nat.le_of_ble_eq_true rfl⟩ (Nat.le_of_ble_eq_true rfl) ⟨show _ ≤ 600000 by omega, show _ ≤ 7302249 by omega⟩ dL_law_753 (LV_kM ?_)
  have e7 := o.1
  have hF2 := okF_c hF o01 o61
  refine LV_aload_n B dL_law_756 2 rfl ?_
  refine LV_arg (k := 1) B dL_law_757 dL_law_758 dL_law_759 rfl dL_law_760 dL_law_761 (by omega) hL ?_
  refine LV_arg (k := 2) B dL_law_762 dL_law_763 dL_law_764 rfl dL_law_765 dL_law_766 (by omega) hL ?_
  refine LV_cV B (k_X7_place l G hw _ _ _ (p_B hr e7)) hy_X7_place hi_X7_place hs_X7_place q_664 rfl rfl (W_7 hw) rfl rfl rfl rfl rfl ⟨Nat.le_of_ble_eq_true rfl, Nat.le_of_ble_eq_true rfl⟩ (Nat.le_of_ble_eq_true rfl) ⟨show _ ≤ 600000 by omega, show _ ≤ 7302249 by omega⟩ dL_law_767 (LV_kM ?_)
  have z := fun c2 s2 h1 h2 => LV_end (ad := ad) (c2 := c2) (s2 := s2) B o K hw hF2 dL_law_770 (by decide) h1 h2
  exact z _ _ (by omega) (by omega)
set_option maxRecDepth 100000 in
set_option maxHeartbeats 4000000 in
theorem lc_rests (B : lw_B p s m meth c b Ln xs G) (hw : mm_W pr) (hF : okF pr g) (hr : Rel n g) (hn : n ≤ 512) (hi : i + 5 < Ln) (hL : Ln ≤ 3072) (hc : cells + 120 ≤ 600000) (hs : slots + 960 ≤ 7302249) (K : LK p l e s m below meth c b G cells slots n i) : LV p l e s m below meth c b G cells slots 775 [(0, .ref b), (1, .ref (ad 6 0 0)), (2, .ref (ad 7 0 0)), (3, .int (nI i))] [] pr ad g := by
  obtain ⟨o, o7, o01, o61⟩ := e_rests (x1 := xs (i + 1)) (by omega) hr
  refine LV_aload_n B dL_law_775 1 rfl ?_
  refine LV_arg (k := 1) B dL_law_776 dL_law_777 dL_law_778 rfl dL_law_779 dL_law_780 (by omega) hL ?_
  refine LV_cV B (k_X6_rests l G hw g _) hy_X6_rests hi_X6_rests hs_X6_rests q_683 rfl rfl (W_6 hw) rfl rfl rfl rfl rfl ⟨Nat.le_of_ble_eq_true rfl, Nat.le_of_ble_eq_true rfl⟩ (Nat.le_of_ble_eq_true rfl) ⟨show _ ≤ 600000 by omega, show _ ≤ 7302249 by omega⟩ dL_law_781 (LV_kM ?_)
  have e7 := o.1
  have hF2 := okF_c hF o01 o61
  refine LV_aload_n B dL_law_784 2 rfl ?_
  refine LV_arg (k := 1) B dL_law_785 dL_law_786 dL_law_787 rfl dL_law_788 dL_law_789 (by omega) hL ?_
  refine LV_cV B (k_X7_rests l G hw _ _ (p_B hr e7)) hy_X7_rests hi_X7_rests hs_X7_rests q_703 rfl rfl (W_7 hw) rfl rfl rfl rfl rfl ⟨Nat.le_of_ble_eq_true rfl, Nat.le_of_ble_eq_true rfl⟩ (Nat.le_of_ble_eq_true rfl) ⟨show _ ≤ 600000 by omega, show _ ≤ 7302249 by omega⟩ dL_law_790 (LV_kM ?_)
  have z := fun c2 s2 h1 h2 => LV_end (ad := ad) (c2 := c2) (s2 := s2) B o K hw hF2 dL_law_793 (by decide) h1 h2
  exact z _ _ (by omega) (by omega)
set_option maxRecDepth 100000 in
set_option maxHeartbeats 4000000 in
theorem lc_rakes (B : lw_B p s m meth c b Ln xs G) (hw : mm_W pr) (hF : okF pr g) (hr : Rel n g) (hn : n ≤ 512) (hi : i + 5 < Ln) (hL : Ln ≤ 3072) (hc : cells + 120 ≤ 600000) (hs : slots + 960 ≤ 7302249) (K : LK p l e s m below meth c b G cells slots n i) : LV p l e s m below meth c b G cells slots 798 [(0, .ref b), (1, .ref (ad 6 0 0)), (2, .ref (ad 7 0 0)), (3, .int (nI i))] [] pr ad g := by
  obtain ⟨o, o7, o01, o61⟩ := e_rakes (x1 := xs (i + 1)) (x2 := xs (i + 2)) hr
  refine LV_aload_n B dL_law_798 1 rfl ?_
  refine LV_arg (k := 1) B dL_law_799 dL_law_800 dL_law_801 rfl dL_law_802 dL_law_803 (by omega) hL ?_
  refine LV_arg (k := 2) B dL_law_804 dL_law_805 dL_law_806 rfl dL_law_807 dL_law_808 (by omega) hL ?_
  refine LV_cV B (k_X6_rakes l G hw g _ _) hy_X6_rakes hi_X6_rakes hs_X6_rakes q_707 rfl rfl (W_6 hw) rfl rfl rfl rfl rfl ⟨Nat.le_of_ble_eq_true rfl, Nat.le_of_ble_eq_true rfl⟩ (Nat.le_of_ble_eq_true rfl) ⟨show _ ≤ 600000 by omega, show _ ≤ 7302249 by omega⟩ dL_law_809 (LV_kM ?_)
  have e7 := o.1
  have hF2 := okF_c hF o01 o61
  refine LV_aload_n B dL_law_812 2 rfl ?_
  refine LV_arg (k := 1) B dL_law_813 dL_law_814 dL_law_815 rfl dL_law_816 dL_law_817 (by omega) hL ?_
  refine LV_arg (k := 2) B dL_law_818 dL_law_819 dL_law_820 rfl dL_law_821 dL_law_822 (by omega) hL ?_
  refine LV_cV B (k_X7_rakes l G hw _ _ _ (p_B hr e7)) hy_X7_rakes hi_X7_rakes hs_X7_rakes q_736 rfl rfl (W_7 hw) rfl rfl rfl rfl rfl ⟨Nat.le_of_ble_eq_true rfl, Nat.le_of_ble_eq_true rfl⟩ (Nat.le_of_ble_eq_true rfl) ⟨show _ ≤ 600000 by omega, show _ ≤ 7302249 by omega⟩ dL_law_823 (LV_kM (R := (F_X7_rakes _ _ _, _)) ?_)
  have z := fun c2 s2 h1 h2 => LV_end (ad := ad) (c2 := c2) (s2 := s2) B o K hw hF2 dL_law_826 (by decide) h1 h2
  exact z _ _ (by omega) (by omega)
set_option maxRecDepth 100000 in
set_option maxHeartbeats 4000000 in
theorem lc_wards (B : lw_B p s m meth c b Ln xs G) (hw : mm_W pr) (hF : okF pr g) (hr : Rel n g) (hn : n ≤ 512) (hi : i + 5 < Ln) (hL : Ln ≤ 3072) (hc : cells + 120 ≤ 600000) (hs : slots + 960 ≤ 7302249) (K : LK p l e s m below meth c b G cells slots n i) : LV p l e s m below meth c b G cells slots 831 [(0, .ref b), (1, .ref (ad 6 0 0)), (2, .ref (ad 7 0 0)), (3, .int (nI i))] [] pr ad g := by
  obtain ⟨o, o7, o01, o61⟩ := e_wards (x1 := xs (i + 1)) (x2 := xs (i + 2)) (x3 := xs (i + 3)) hr
  refine LV_aload_n B dL_law_831 1 rfl ?_
  refine LV_arg (k := 1) B dL_law_832 dL_law_833 dL_law_834 rfl dL_law_835 dL_law_836 (by omega) hL ?_
  refine LV_arg (k := 2) B dL_law_837 dL_law_838 dL_law_839 rfl dL_law_840 dL_law_841 (by omega) hL ?_
  refine LV_arg (k := 3) B dL_law_842 dL_law_843 dL_law_844 rfl dL_law_845 dL_law_846 (by omega) hL ?_
  refine LV_cV B (k_X6_wards l G hw g _ _ _) hy_X6_wards hi_X6_wards hs_X6_wards q_743 rfl rfl (W_6 hw) rfl rfl rfl rfl rfl ⟨Nat.le_of_ble_eq_true rfl, Nat.le_of_ble_eq_true rfl⟩ (Nat.le_of_ble_eq_true rfl) ⟨show _ ≤ 600000 by omega, show _ ≤ 7302249 by omega⟩ dL_law_847 (LV_kM ?_)
  have e7 := o.1
  have hF2 := okF_c hF o01 o61
  refine LV_aload_n B dL_law_850 2 rfl ?_
  refine LV_arg (k := 1) B dL_law_851 dL_law_852 dL_law_853 rfl dL_law_854 dL_law_855 (by omega) hL ?_
  refine LV_arg (k := 2) B dL_law_856 dL_law_857 dL_law_858 rfl dL_law_859 dL_law_860 (by omega) hL ?_
  refine LV_arg (k := 3) B dL_law_861 dL_law_862 dL_law_863 rfl dL_law_864 dL_law_865 (by omega) hL ?_
  refine LV_cV B (k_X7_wards l G hw _ _ _ _ (p_B hr e7)) hy_X7_wards hi_X7_wards hs_X7_wards q_763 rfl rfl (W_7 hw) rfl rfl rfl rfl rfl ⟨Nat.le_of_ble_eq_true rfl, Nat.le_of_ble_eq_true rfl⟩ (Nat.le_of_ble_eq_true rfl) ⟨show _ ≤ 600000 by omega, show _ ≤ 7302249 by omega⟩ dL_law_866 (LV_kM (R := (F_X7_wards _ _ _ _, _)) ?_)
  have z := fun c2 s2 h1 h2 => LV_end (ad := ad) (c2 := c2) (s2 := s2) B o K hw hF2 dL_law_869 (by decide) h1 h2
  exact z _ _ (by omega) (by omega)
set_option maxRecDepth 100000 in
set_option maxHeartbeats 4000000 in
theorem lc_decide (B : lw_B p s m meth c b Ln xs G) (hw : mm_W pr) (hF : okF pr g) (hr : Rel n g) (hn : n ≤ 512) (hi : i + 5 < Ln) (hL : Ln ≤ 3072) (hc : cells + 120 ≤ 600000) (hs : slots + 960 ≤ 7302249) (K : LK p l e s m below meth c b G cells slots n i) : LV p l e s m below meth c b G cells slots 874 [(0, .ref b), (1, .ref (ad 6 0 0)), (2, .ref (ad 7 0 0)), (3, .int (nI i))] [] pr ad g := by
  obtain ⟨o, o7, o01, o61⟩ := e_decide  hr
  refine LV_aload_n B dL_law_874 1 rfl ?_
  refine LV_cV B (k_X6_decide l G hw g) hy_X6_decide hi_X6_decide hs_X6_decide q_771 rfl rfl (W_6 hw) rfl rfl rfl rfl rfl ⟨Nat.le_of_ble_eq_true rfl, Nat.le_of_ble_eq_true rfl⟩ (Nat.le_of_ble_eq_true rfl) ⟨show _ ≤ 600000 by omega, show _ ≤ 7302249 by omega⟩ dL_law_875 (LV_kM (R := (F_X6_decide g, g)) ?_)
  have e7 := o.1
  have hF2 := okF_c hF o01 o61
  refine LV_aload_n B dL_law_878 2 rfl ?_
  refine LV_cV B (k_X7_decide l G hw _ (p_B hr e7)) hy_X7_decide hi_X7_decide hs_X7_decide q_783 rfl rfl (W_7 hw) rfl rfl rfl rfl rfl ⟨Nat.le_of_ble_eq_true rfl, Nat.le_of_ble_eq_true rfl⟩ (Nat.le_of_ble_eq_true rfl) ⟨show _ ≤ 600000 by omega, show _ ≤ 7302249 by omega⟩ dL_law_879 (LV_kM ?_)
  have z := fun c2 s2 h1 h2 => LV_end (ad := ad) (c2 := c2) (s2 := s2) B o K hw hF2 dL_law_882 (by decide) h1 h2
  exact z _ _ (by omega) (by omega)
set_option maxRecDepth 100000 in
set_option maxHeartbeats 4000000 in
theorem lc_grown (B : lw_B p s m meth c b Ln xs G) (hw : mm_W pr) (hF : okF pr g) (hr : Rel n g) (hn : n ≤ 512) (hi : i + 5 < Ln) (hL : Ln ≤ 3072) (hc : cells + 120 ≤ 600000) (hs : slots + 960 ≤ 7302249) (K : LK p l e s m below meth c b G cells slots n i) : LV p l e s m below meth c b G cells slots 887 [(0, .ref b), (1, .ref (ad 6 0 0)), (2, .ref (ad 7 0 0)), (3, .int (nI i))] [] pr ad g := by
  obtain ⟨o, o7, o01, o61⟩ := e_grown (x1 := xs (i + 1)) (x2 := xs (i + 2)) (x3 := xs (i + 3)) (x4 := xs (i + 4)) (x5 := xs (i + 5)) hr
  refine LV_aload_n B dL_law_887 1 rfl ?_
  refine LV_arg (k := 1) B dL_law_888 dL_law_889 dL_law_890 rfl dL_law_891 dL_law_892 (by omega) hL ?_
  refine LV_arg (k := 2) B dL_law_893 dL_law_894 dL_law_895 rfl dL_law_896 dL_law_897 (by omega) hL ?_
  refine LV_arg (k := 3) B dL_law_898 dL_law_899 dL_law_900 rfl dL_law_901 dL_law_902 (by omega) hL ?_
  refine LV_arg (k := 4) B dL_law_903 dL_law_904 dL_law_905 rfl dL_law_906 dL_law_907 (by omega) hL ?_
  refine LV_arg (k := 5) B dL_law_908 dL_law_909 dL_law_910 rfl dL_law_911 dL_law_912 (by omega) hL ?_
  refine LV_cV B (k_X6_grown l G hw g _ _ _ _ _ (p_R hr)) hy_X6_grown hi_X6_grown hs_X6_grown q_790 rfl rfl (W_6 hw) rfl rfl rfl rfl rfl ⟨Nat.le_of_ble_eq_true rfl, Nat.le_of_ble_eq_true rfl⟩ (Nat.le_of_ble_eq_true rfl) ⟨show _ ≤ 600000 by omega, show _ ≤ 7302249 by omega⟩ dL_law_913 (LV_kM ?_)
  have e7 := o.1
  have hF2 := okF_c hF o01 o61
  refine LV_aload_n B dL_law_916 2 rfl ?_
  refine LV_arg (k := 1) B dL_law_917 dL_law_918 dL_law_919 rfl dL_law_920 dL_law_921 (by omega) hL ?_
  refine LV_arg (k := 2) B dL_law_922 dL_law_923 dL_law_924 rfl dL_law_925 dL_law_926 (by omega) hL ?_
  refine LV_arg (k := 3) B dL_law_927 dL_law_928 dL_law_929 rfl dL_law_930 dL_law_931 (by omega) hL ?_
  refine LV_arg (k := 4) B dL_law_932 dL_law_933 dL_law_934 rfl dL_law_935 dL_law_936 (by omega) hL ?_
  refine LV_arg (k := 5) B dL_law_937 dL_law_938 dL_law_939 rfl dL_law_940 dL_law_941 (by omega) hL ?_
  refine LV_cV B (k_X7_grown l G hw _ _ _ _ _ _ (p_B hr e7) (p_R7 hr e7)) hy_X7_grown hi_X7_grown hs_X7_grown q_820 rfl rfl (W_7 hw) rfl rfl rfl rfl rfl ⟨Nat.le_of_ble_eq_true rfl, Nat.le_of_ble_eq_true rfl⟩ (Nat.le_of_ble_eq_true rfl) ⟨show _ ≤ 600000 by omega, show _ ≤ 7302249 by omega⟩ dL_law_942 (LV_kM ?_)
  have z := fun c2 s2 h1 h2 => LV_end (ad := ad) (c2 := c2) (s2 := s2) B o K hw hF2 dL_law_945 (by decide) h1 h2
  exact z _ _ (by omega) (by omega)
set_option maxRecDepth 100000 in
set_option maxHeartbeats 4000000 in
theorem lc_lain (B : lw_B p s m meth c b Ln xs G) (hw : mm_W pr) (hF : okF pr g) (hr : Rel n g) (hn : n ≤ 512) (hi : i + 5 < Ln) (hL : Ln ≤ 3072) (hc : cells + 120 ≤ 600000) (hs : slots + 960 ≤ 7302249) (K : LK p l e s m below meth c b G cells slots n i) : LV p l e s m below meth c b G cells slots 950 [(0, .ref b), (1, .ref (ad 6 0 0)), (2, .ref (ad 7 0 0)), (3, .int (nI i))] [] pr ad g := by
  obtain ⟨o, o7, o01, o61⟩ := e_lain (x1 := xs (i + 1)) (x2 := xs (i + 2)) (x3 := xs (i + 3)) hr
  refine LV_aload_n B dL_law_950 1 rfl ?_
  refine LV_arg (k := 1) B dL_law_951 dL_law_952 dL_law_953 rfl dL_law_954 dL_law_955 (by omega) hL ?_
  refine LV_arg (k := 2) B dL_law_956 dL_law_957 dL_law_958 rfl dL_law_959 dL_law_960 (by omega) hL ?_
  refine LV_arg (k := 3) B dL_law_961 dL_law_962 dL_law_963 rfl dL_law_964 dL_law_965 (by omega) hL ?_
  refine LV_cV B (k_X6_lain l G hw g _ _ _ (p_R hr)) hy_X6_lain hi_X6_lain hs_X6_lain q_833 rfl rfl (W_6 hw) rfl rfl rfl rfl rfl ⟨Nat.le_of_ble_eq_true rfl, Nat.le_of_ble_eq_true rfl⟩ (Nat.le_of_ble_eq_true rfl) ⟨show _ ≤ 600000 by omega, show _ ≤ 7302249 by omega⟩ dL_law_966 (LV_kM ?_)
  have e7 := o.1
  have hF2 := okF_c hF o01 o61
  refine LV_aload_n B dL_law_969 2 rfl ?_
  refine LV_arg (k := 1) B dL_law_970 dL_law_971 dL_law_972 rfl dL_law_973 dL_law_974 (by omega) hL ?_
  refine LV_arg (k := 2) B dL_law_975 dL_law_976 dL_law_977 rfl dL_law_978 dL_law_979 (by omega) hL ?_
  refine LV_arg (k := 3) B dL_law_980 dL_law_981 dL_law_982 rfl dL_law_983 dL_law_984 (by omega) hL ?_
  refine LV_cV B (k_X7_lain l G hw _ _ _ _ (p_B hr e7) (p_R7 hr e7)) hy_X7_lain hi_X7_lain hs_X7_lain q_845 rfl rfl (W_7 hw) rfl rfl rfl rfl rfl ⟨Nat.le_of_ble_eq_true rfl, Nat.le_of_ble_eq_true rfl⟩ (Nat.le_of_ble_eq_true rfl) ⟨show _ ≤ 600000 by omega, show _ ≤ 7302249 by omega⟩ dL_law_985 (LV_kM ?_)
  have z := fun c2 s2 h1 h2 => LV_end (ad := ad) (c2 := c2) (s2 := s2) B o K hw hF2 dL_law_988 (by decide) h1 h2
  exact z _ _ (by omega) (by omega)
set_option maxRecDepth 100000 in
set_option maxHeartbeats 4000000 in
theorem lc_flood (B : lw_B p s m meth c b Ln xs G) (hw : mm_W pr) (hF : okF pr g) (hr : Rel n g) (hn : n ≤ 512) (hi : i + 5 < Ln) (hL : Ln ≤ 3072) (hc : cells + 120 ≤ 600000) (hs : slots + 960 ≤ 7302249) (K : LK p l e s m below meth c b G cells slots n i) : LV p l e s m below meth c b G cells slots 993 [(0, .ref b), (1, .ref (ad 6 0 0)), (2, .ref (ad 7 0 0)), (3, .int (nI i))] [] pr ad g := by
  obtain ⟨o1, o2⟩ := e_flood (x1 := xs (i + 1)) (x2 := xs (i + 2)) (x3 := xs (i + 3)) hr
  refine LV_aload_n B dL_law_993 1 rfl ?_
  refine LV_arg (k := 1) B dL_law_994 dL_law_995 dL_law_996 rfl dL_law_997 dL_law_998 (by omega) hL ?_
  refine LV_arg (k := 2) B dL_law_999 dL_law_1000 dL_law_1001 rfl dL_law_1002 dL_law_1003 (by omega) hL ?_
  refine LV_arg (k := 3) B dL_law_1004 dL_law_1005 dL_law_1006 rfl dL_law_1007 dL_law_1008 (by omega) hL ?_
  refine LV_cV B (k_X6_flood l G hw g _ _ _) hy_X6_flood hi_X6_flood hs_X6_flood q_849 rfl rfl (W_6 hw) rfl rfl rfl rfl rfl ⟨Nat.le_of_ble_eq_true rfl, Nat.le_of_ble_eq_true rfl⟩ (Nat.le_of_ble_eq_true rfl) ⟨show _ ≤ 600000 by omega, show _ ≤ 7302249 by omega⟩ dL_law_1009 (LV_kJ ?_)
  have e7 : ∀ k, (F_X6_flood g (xs (i + 1)) (xs (i + 2)) (xs (i + 3))).2 7 k = g 7 k := fun k => o1 7 k (by omega) (by decide)
  refine LV_aload_n B dL_law_1012 2 rfl ?_
  refine LV_arg (k := 1) B dL_law_1013 dL_law_1014 dL_law_1015 rfl dL_law_1016 dL_law_1017 (by omega) hL ?_
  refine LV_arg (k := 2) B dL_law_1018 dL_law_1019 dL_law_1020 rfl dL_law_1021 dL_law_1022 (by omega) hL ?_
  refine LV_arg (k := 3) B dL_law_1023 dL_law_1024 dL_law_1025 rfl dL_law_1026 dL_law_1027 (by omega) hL ?_
  refine LV_cV B (k_X7_flood l G hw _ _ _ _ (p_B hr e7)) hy_X7_flood hi_X7_flood hs_X7_flood q_870 rfl rfl (W_7 hw) rfl rfl rfl rfl rfl ⟨Nat.le_of_ble_eq_true rfl, Nat.le_of_ble_eq_true rfl⟩ (Nat.le_of_ble_eq_true rfl) ⟨show _ ≤ 600000 by omega, show _ ≤ 7302249 by omega⟩ dL_law_1028 (LV_kJ (R := (F_X7_flood _ _ _ _, _)) ?_)
  refine LV_lcmp B dL_law_1031 ?_
  exact LV_zero B dL_law_1032 (by decide) ((lg_cmp_eq _ _).mpr o2.symm) (K pr ad _ _ _ hw (okF_c hF (o1 0 1 (by decide) (by decide)) (o1 6 1 (by decide) (by decide))) ((hr.sc o1).up (Nat.le_succ n)) (by omega) (by omega))
set_option maxRecDepth 100000 in
set_option maxHeartbeats 4000000 in
theorem lc_drawn (B : lw_B p s m meth c b Ln xs G) (hw : mm_W pr) (hF : okF pr g) (hr : Rel n g) (hn : n ≤ 512) (hi : i + 5 < Ln) (hL : Ln ≤ 3072) (hc : cells + 120 ≤ 600000) (hs : slots + 960 ≤ 7302249) (K : LK p l e s m below meth c b G cells slots n i) : LV p l e s m below meth c b G cells slots 1037 [(0, .ref b), (1, .ref (ad 6 0 0)), (2, .ref (ad 7 0 0)), (3, .int (nI i))] [] pr ad g := by
  obtain ⟨o, o7, o01, o61⟩ := e_drawn (x1 := xs (i + 1)) (x2 := xs (i + 2)) (x3 := xs (i + 3)) hr
  refine LV_aload_n B dL_law_1037 1 rfl ?_
  refine LV_arg (k := 1) B dL_law_1038 dL_law_1039 dL_law_1040 rfl dL_law_1041 dL_law_1042 (by omega) hL ?_
  refine LV_arg (k := 2) B dL_law_1043 dL_law_1044 dL_law_1045 rfl dL_law_1046 dL_law_1047 (by omega) hL ?_
  refine LV_arg (k := 3) B dL_law_1048 dL_law_1049 dL_law_1050 rfl dL_law_1051 dL_law_1052 (by omega) hL ?_
  refine LV_cV B (k_X6_drawn l G hw g _ _ _) hy_X6_drawn hi_X6_drawn hs_X6_drawn q_877 rfl rfl (W_6 hw) rfl rfl rfl rfl rfl ⟨Nat.le_of_ble_eq_true rfl, Nat.le_of_ble_eq_true rfl⟩ (Nat.le_of_ble_eq_true rfl) ⟨show _ ≤ 600000 by omega, show _ ≤ 7302249 by omega⟩ dL_law_1053 (LV_kM ?_)
  have e7 := o.1
  have hF2 := okF_c hF o01 o61
  refine LV_aload_n B dL_law_1056 2 rfl ?_
  refine LV_arg (k := 1) B dL_law_1057 dL_law_1058 dL_law_1059 rfl dL_law_1060 dL_law_1061 (by omega) hL ?_
  refine LV_arg (k := 2) B dL_law_1062 dL_law_1063 dL_law_1064 rfl dL_law_1065 dL_law_1066 (by omega) hL ?_
  refine LV_arg (k := 3) B dL_law_1067 dL_law_1068 dL_law_1069 rfl dL_law_1070 dL_law_1071 (by omega) hL ?_
  refine LV_cV B (k_X7_drawn l G hw _ _ _ _ (p_B hr e7) (p_1 hr e7)) hy_X7_drawn hi_X7_drawn hs_X7_drawn q_892 rfl rfl (W_7 hw) rfl rfl rfl rfl rfl ⟨Nat.le_of_ble_eq_true rfl, Nat.le_of_ble_eq_true rfl⟩ (Nat.le_of_ble_eq_true rfl) ⟨show _ ≤ 600000 by omega, show _ ≤ 7302249 by omega⟩ dL_law_1072 (LV_kM ?_)
  have z := fun c2 s2 h1 h2 => LV_end (ad := ad) (c2 := c2) (s2 := s2) B o K hw hF2 dL_law_1075 (by decide) h1 h2
  exact z _ _ (by omega) (by omega)
set_option maxRecDepth 100000 in
set_option maxHeartbeats 4000000 in
theorem lc_image (B : lw_B p s m meth c b Ln xs G) (hw : mm_W pr) (hF : okF pr g) (hr : Rel n g) (hn : n ≤ 512) (hi : i + 5 < Ln) (hL : Ln ≤ 3072) (hc : cells + 120 ≤ 600000) (hs : slots + 960 ≤ 7302249) (K : LK p l e s m below meth c b G cells slots n i) : LV p l e s m below meth c b G cells slots 1080 [(0, .ref b), (1, .ref (ad 6 0 0)), (2, .ref (ad 7 0 0)), (3, .int (nI i))] [] pr ad g := by
  have o := e_image (x1 := xs (i + 1)) hr
  refine LV_aload_n B dL_law_1080 1 rfl ?_
  refine LV_arg (k := 1) B dL_law_1081 dL_law_1082 dL_law_1083 rfl dL_law_1084 dL_law_1085 (by omega) hL ?_
  refine LV_cV B (k_X6_image l G hw g _ hF) hy_X6_image hi_X6_image hs_X6_image q_899 rfl rfl (W_6 hw) rfl rfl rfl rfl rfl ⟨Nat.le_of_ble_eq_true rfl, Nat.le_of_ble_eq_true rfl⟩ (Nat.le_of_ble_eq_true rfl) ⟨show _ ≤ 600000 by omega, show _ ≤ 7302249 by omega⟩ dL_law_1086 (LV_kP ?_)
  intro pr2 ad2 hx2 hF2
  have hw2 := mm_xW hx2 hw
  rw [← hx2.2 6 0 0 (W_6 hw), ← hx2.2 7 0 0 (W_7 hw)]
  have e7 := o.1
  refine LV_aload_n B dL_law_1089 2 rfl ?_
  refine LV_arg (k := 1) B dL_law_1090 dL_law_1091 dL_law_1092 rfl dL_law_1093 dL_law_1094 (by omega) hL ?_
  refine LV_cV B (k_X7_image l G hw2 _ _) hy_X7_image hi_X7_image hs_X7_image q_903 rfl rfl (W_7 hw2) rfl rfl rfl rfl rfl ⟨Nat.le_of_ble_eq_true rfl, Nat.le_of_ble_eq_true rfl⟩ (Nat.le_of_ble_eq_true rfl) ⟨show _ ≤ 600000 by omega, show _ ≤ 7302249 by omega⟩ dL_law_1095 (LV_kM ?_)
  have z := fun c2 s2 h1 h2 => LV_end (ad := ad2) (c2 := c2) (s2 := s2) B o K hw2 hF2 dL_law_1098 (by decide) h1 h2
  exact z _ _ (by omega) (by omega)
set_option maxRecDepth 100000 in
set_option maxHeartbeats 4000000 in
theorem lc_restore (B : lw_B p s m meth c b Ln xs G) (hw : mm_W pr) (hF : okF pr g) (hr : Rel n g) (hn : n ≤ 512) (hi : i + 5 < Ln) (hL : Ln ≤ 3072) (hc : cells + 120 ≤ 600000) (hs : slots + 960 ≤ 7302249) (K : LK p l e s m below meth c b G cells slots n i) : LV p l e s m below meth c b G cells slots 1103 [(0, .ref b), (1, .ref (ad 6 0 0)), (2, .ref (ad 7 0 0)), (3, .int (nI i))] [] pr ad g := by
  obtain ⟨o, o7, o01, o61⟩ := e_restore (x1 := xs (i + 1)) hr
  refine LV_aload_n B dL_law_1103 1 rfl ?_
  refine LV_arg (k := 1) B dL_law_1104 dL_law_1105 dL_law_1106 rfl dL_law_1107 dL_law_1108 (by omega) hL ?_
  refine LV_cV B (k_X6_restore l G hw g _ (p_hI hF)) hy_X6_restore hi_X6_restore hs_X6_restore q_907 rfl rfl (W_6 hw) rfl rfl rfl rfl rfl ⟨Nat.le_of_ble_eq_true rfl, Nat.le_of_ble_eq_true rfl⟩ (Nat.le_of_ble_eq_true rfl) ⟨show _ ≤ 600000 by omega, show _ ≤ 7302249 by omega⟩ dL_law_1109 (LV_kM ?_)
  have e7 := o.1
  have hF2 := okF_c hF o01 o61
  refine LV_aload_n B dL_law_1112 2 rfl ?_
  refine LV_arg (k := 1) B dL_law_1113 dL_law_1114 dL_law_1115 rfl dL_law_1116 dL_law_1117 (by omega) hL ?_
  refine LV_cV B (k_X7_restore l G hw _ _) hy_X7_restore hi_X7_restore hs_X7_restore q_911 rfl rfl (W_7 hw) rfl rfl rfl rfl rfl ⟨Nat.le_of_ble_eq_true rfl, Nat.le_of_ble_eq_true rfl⟩ (Nat.le_of_ble_eq_true rfl) ⟨show _ ≤ 600000 by omega, show _ ≤ 7302249 by omega⟩ dL_law_1118 (LV_kM ?_)
  have z := fun c2 s2 h1 h2 => LV_end (ad := ad) (c2 := c2) (s2 := s2) B o K hw hF2 dL_law_1121 (by decide) h1 h2
  exact z _ _ (by omega) (by omega)
set_option maxRecDepth 100000 in
set_option maxHeartbeats 4000000 in
theorem lc_kind (B : lw_B p s m meth c b Ln xs G) (hw : mm_W pr) (hF : okF pr g) (hr : Rel n g) (hn : n ≤ 512) (hi : i + 5 < Ln) (hL : Ln ≤ 3072) (hc : cells + 120 ≤ 600000) (hs : slots + 960 ≤ 7302249) (K : LK p l e s m below meth c b G cells slots n i) : LV p l e s m below meth c b G cells slots 1126 [(0, .ref b), (1, .ref (ad 6 0 0)), (2, .ref (ad 7 0 0)), (3, .int (nI i))] [] pr ad g := by
  obtain ⟨o, o7, o01, o61⟩ := e_kind (x1 := xs (i + 1)) hr
  refine LV_aload_n B dL_law_1126 1 rfl ?_
  refine LV_arg (k := 1) B dL_law_1127 dL_law_1128 dL_law_1129 rfl dL_law_1130 dL_law_1131 (by omega) hL ?_
  refine LV_cV B (k_X6_kind l G hw g _) hy_X6_kind hi_X6_kind hs_X6_kind q_915 rfl rfl (W_6 hw) rfl rfl rfl rfl rfl ⟨Nat.le_of_ble_eq_true rfl, Nat.le_of_ble_eq_true rfl⟩ (Nat.le_of_ble_eq_true rfl) ⟨show _ ≤ 600000 by omega, show _ ≤ 7302249 by omega⟩ dL_law_1132 (LV_kM (R := (F_X6_kind g (xs (i + 1)), g)) ?_)
  have e7 := o.1
  have hF2 := okF_c hF o01 o61
  refine LV_aload_n B dL_law_1135 2 rfl ?_
  refine LV_arg (k := 1) B dL_law_1136 dL_law_1137 dL_law_1138 rfl dL_law_1139 dL_law_1140 (by omega) hL ?_
  refine LV_cV B (k_X7_kind l G hw _ _ (p_B hr e7)) hy_X7_kind hi_X7_kind hs_X7_kind q_923 rfl rfl (W_7 hw) rfl rfl rfl rfl rfl ⟨Nat.le_of_ble_eq_true rfl, Nat.le_of_ble_eq_true rfl⟩ (Nat.le_of_ble_eq_true rfl) ⟨show _ ≤ 600000 by omega, show _ ≤ 7302249 by omega⟩ dL_law_1141 (LV_kM (R := (F_X7_kind _ _, _)) ?_)
  have z := fun c2 s2 h1 h2 => LV_end (ad := ad) (c2 := c2) (s2 := s2) B o K hw hF2 dL_law_1144 (by decide) h1 h2
  exact z _ _ (by omega) (by omega)
set_option maxRecDepth 100000 in
set_option maxHeartbeats 4000000 in
theorem lc_as (B : lw_B p s m meth c b Ln xs G) (hw : mm_W pr) (hF : okF pr g) (hr : Rel n g) (hn : n ≤ 512) (hi : i + 5 < Ln) (hL : Ln ≤ 3072) (hc : cells + 120 ≤ 600000) (hs : slots + 960 ≤ 7302249) (K : LK p l e s m below meth c b G cells slots n i) : LV p l e s m below meth c b G cells slots 1149 [(0, .ref b), (1, .ref (ad 6 0 0)), (2, .ref (ad 7 0 0)), (3, .int (nI i))] [] pr ad g := by
  obtain ⟨o, o7, o01, o61⟩ := e_as (x1 := xs (i + 1)) (x2 := xs (i + 2)) hr
  refine LV_aload_n B dL_law_1149 1 rfl ?_
  refine LV_arg (k := 1) B dL_law_1150 dL_law_1151 dL_law_1152 rfl dL_law_1153 dL_law_1154 (by omega) hL ?_
  refine LV_arg (k := 2) B dL_law_1155 dL_law_1156 dL_law_1157 rfl dL_law_1158 dL_law_1159 (by omega) hL ?_
  refine LV_cV B (k_X6_as l G hw g _ _) hy_X6_as hi_X6_as hs_X6_as q_927 rfl rfl (W_6 hw) rfl rfl rfl rfl rfl ⟨Nat.le_of_ble_eq_true rfl, Nat.le_of_ble_eq_true rfl⟩ (Nat.le_of_ble_eq_true rfl) ⟨show _ ≤ 600000 by omega, show _ ≤ 7302249 by omega⟩ dL_law_1160 (LV_kM ?_)
  have e7 := o.1
  have hF2 := okF_c hF o01 o61
  refine LV_aload_n B dL_law_1163 2 rfl ?_
  refine LV_arg (k := 1) B dL_law_1164 dL_law_1165 dL_law_1166 rfl dL_law_1167 dL_law_1168 (by omega) hL ?_
  refine LV_arg (k := 2) B dL_law_1169 dL_law_1170 dL_law_1171 rfl dL_law_1172 dL_law_1173 (by omega) hL ?_
  refine LV_cV B (k_X7_as l G hw _ _ _ (p_B hr e7)) hy_X7_as hi_X7_as hs_X7_as q_935 rfl rfl (W_7 hw) rfl rfl rfl rfl rfl ⟨Nat.le_of_ble_eq_true rfl, Nat.le_of_ble_eq_true rfl⟩ (Nat.le_of_ble_eq_true rfl) ⟨show _ ≤ 600000 by omega, show _ ≤ 7302249 by omega⟩ dL_law_1174 (LV_kM ?_)
  have z := fun c2 s2 h1 h2 => LV_end (ad := ad) (c2 := c2) (s2 := s2) B o K hw hF2 dL_law_1177 (by decide) h1 h2
  exact z _ _ (by omega) (by omega)
set_option maxRecDepth 100000 in
set_option maxHeartbeats 4000000 in
theorem lc_ask (B : lw_B p s m meth c b Ln xs G) (hw : mm_W pr) (hF : okF pr g) (hr : Rel n g) (hn : n ≤ 512) (hi : i + 5 < Ln) (hL : Ln ≤ 3072) (hc : cells + 120 ≤ 600000) (hs : slots + 960 ≤ 7302249) (K : LK p l e s m below meth c b G cells slots n i) : LV p l e s m below meth c b G cells slots 1182 [(0, .ref b), (1, .ref (ad 6 0 0)), (2, .ref (ad 7 0 0)), (3, .int (nI i))] [] pr ad g := by
  obtain ⟨o, o7, o01, o61⟩ := e_ask (x1 := xs (i + 1)) (x2 := xs (i + 2)) hr
  refine LV_aload_n B dL_law_1182 1 rfl ?_
  refine LV_arg (k := 1) B dL_law_1183 dL_law_1184 dL_law_1185 rfl dL_law_1186 dL_law_1187 (by omega) hL ?_
  refine LV_arg (k := 2) B dL_law_1188 dL_law_1189 dL_law_1190 rfl dL_law_1191 dL_law_1192 (by omega) hL ?_
  refine LV_cV B (k_X6_ask l G hw g _ _) hy_X6_ask hi_X6_ask hs_X6_ask q_942 rfl rfl (W_6 hw) rfl rfl rfl rfl rfl ⟨Nat.le_of_ble_eq_true rfl, Nat.le_of_ble_eq_true rfl⟩ (Nat.le_of_ble_eq_true rfl) ⟨show _ ≤ 600000 by omega, show _ ≤ 7302249 by omega⟩ dL_law_1193 (LV_kM ?_)
  have e7 := o.1
  have hF2 := okF_c hF o01 o61
  refine LV_aload_n B dL_law_1196 2 rfl ?_
  refine LV_arg (k := 1) B dL_law_1197 dL_law_1198 dL_law_1199 rfl dL_law_1200 dL_law_1201 (by omega) hL ?_
  refine LV_arg (k := 2) B dL_law_1202 dL_law_1203 dL_law_1204 rfl dL_law_1205 dL_law_1206 (by omega) hL ?_
  refine LV_cV B (k_X7_ask l G hw _ _ _ (p_B hr e7)) hy_X7_ask hi_X7_ask hs_X7_ask q_968 rfl rfl (W_7 hw) rfl rfl rfl rfl rfl ⟨Nat.le_of_ble_eq_true rfl, Nat.le_of_ble_eq_true rfl⟩ (Nat.le_of_ble_eq_true rfl) ⟨show _ ≤ 600000 by omega, show _ ≤ 7302249 by omega⟩ dL_law_1207 (LV_kM ?_)
  have z := fun c2 s2 h1 h2 => LV_end (ad := ad) (c2 := c2) (s2 := s2) B o K hw hF2 dL_law_1210 (by decide) h1 h2
  exact z _ _ (by omega) (by omega)
set_option maxRecDepth 100000 in
set_option maxHeartbeats 4000000 in
theorem lc_trace (B : lw_B p s m meth c b Ln xs G) (hw : mm_W pr) (hF : okF pr g) (hr : Rel n g) (hn : n ≤ 512) (hi : i + 5 < Ln) (hL : Ln ≤ 3072) (hc : cells + 120 ≤ 600000) (hs : slots + 960 ≤ 7302249) (K : LK p l e s m below meth c b G cells slots n i) : LV p l e s m below meth c b G cells slots 1215 [(0, .ref b), (1, .ref (ad 6 0 0)), (2, .ref (ad 7 0 0)), (3, .int (nI i))] [] pr ad g := by
  obtain ⟨o, o7, o01, o61⟩ := e_trace (x1 := xs (i + 1)) hr
  refine LV_aload_n B dL_law_1215 1 rfl ?_
  refine LV_arg (k := 1) B dL_law_1216 dL_law_1217 dL_law_1218 rfl dL_law_1219 dL_law_1220 (by omega) hL ?_
  refine LV_cV B (k_X6_trace l G hw g _) hy_X6_trace hi_X6_trace hs_X6_trace q_1005 rfl rfl (W_6 hw) rfl rfl rfl rfl rfl ⟨Nat.le_of_ble_eq_true rfl, Nat.le_of_ble_eq_true rfl⟩ (Nat.le_of_ble_eq_true rfl) ⟨show _ ≤ 600000 by omega, show _ ≤ 7302249 by omega⟩ dL_law_1221 (LV_kM (R := (F_X6_trace g (xs (i + 1)), g)) ?_)
  have e7 := o.1
  have hF2 := okF_c hF o01 o61
  refine LV_aload_n B dL_law_1224 2 rfl ?_
  refine LV_arg (k := 1) B dL_law_1225 dL_law_1226 dL_law_1227 rfl dL_law_1228 dL_law_1229 (by omega) hL ?_
  refine LV_cV B (k_X7_trace l G hw _ _ (p_T10 hr e7)) hy_X7_trace hi_X7_trace hs_X7_trace q_1014 rfl rfl (W_7 hw) rfl rfl rfl rfl rfl ⟨Nat.le_of_ble_eq_true rfl, Nat.le_of_ble_eq_true rfl⟩ (Nat.le_of_ble_eq_true rfl) ⟨show _ ≤ 600000 by omega, show _ ≤ 7302249 by omega⟩ dL_law_1230 (LV_kM (R := (F_X7_trace _ _, _)) ?_)
  have z := fun c2 s2 h1 h2 => LV_end (ad := ad) (c2 := c2) (s2 := s2) B o K hw hF2 dL_law_1233 (by decide) h1 h2
  exact z _ _ (by omega) (by omega)
set_option maxRecDepth 100000 in
set_option maxHeartbeats 4000000 in
theorem lc_count (B : lw_B p s m meth c b Ln xs G) (hw : mm_W pr) (hF : okF pr g) (hr : Rel n g) (hn : n ≤ 512) (hi : i + 5 < Ln) (hL : Ln ≤ 3072) (hc : cells + 120 ≤ 600000) (hs : slots + 960 ≤ 7302249) (K : LK p l e s m below meth c b G cells slots n i) : LV p l e s m below meth c b G cells slots 1238 [(0, .ref b), (1, .ref (ad 6 0 0)), (2, .ref (ad 7 0 0)), (3, .int (nI i))] [] pr ad g := by
  obtain ⟨o, o7, o01, o61⟩ := e_count (x1 := xs (i + 1)) hr
  refine LV_aload_n B dL_law_1238 1 rfl ?_
  refine LV_arg (k := 1) B dL_law_1239 dL_law_1240 dL_law_1241 rfl dL_law_1242 dL_law_1243 (by omega) hL ?_
  refine LV_cV B (k_X6_count l G hw g _) hy_X6_count hi_X6_count hs_X6_count q_1018 rfl rfl (W_6 hw) rfl rfl rfl rfl rfl ⟨Nat.le_of_ble_eq_true rfl, Nat.le_of_ble_eq_true rfl⟩ (Nat.le_of_ble_eq_true rfl) ⟨show _ ≤ 600000 by omega, show _ ≤ 7302249 by omega⟩ dL_law_1244 (LV_kM (R := (F_X6_count g (xs (i + 1)), g)) ?_)
  have e7 := o.1
  have hF2 := okF_c hF o01 o61
  refine LV_aload_n B dL_law_1247 2 rfl ?_
  refine LV_arg (k := 1) B dL_law_1248 dL_law_1249 dL_law_1250 rfl dL_law_1251 dL_law_1252 (by omega) hL ?_
  refine LV_cV B (k_X7_count l G hw _ _ (p_B hr e7)) hy_X7_count hi_X7_count hs_X7_count q_1030 rfl rfl (W_7 hw) rfl rfl rfl rfl rfl ⟨Nat.le_of_ble_eq_true rfl, Nat.le_of_ble_eq_true rfl⟩ (Nat.le_of_ble_eq_true rfl) ⟨show _ ≤ 600000 by omega, show _ ≤ 7302249 by omega⟩ dL_law_1253 (LV_kM (R := (F_X7_count _ _, _)) ?_)
  have z := fun c2 s2 h1 h2 => LV_end (ad := ad) (c2 := c2) (s2 := s2) B o K hw hF2 dL_law_1256 (by decide) h1 h2
  exact z _ _ (by omega) (by omega)
set_option maxRecDepth 100000 in
set_option maxHeartbeats 4000000 in
theorem lc_status (B : lw_B p s m meth c b Ln xs G) (hw : mm_W pr) (hF : okF pr g) (hr : Rel n g) (hn : n ≤ 512) (hi : i + 5 < Ln) (hL : Ln ≤ 3072) (hc : cells + 120 ≤ 600000) (hs : slots + 960 ≤ 7302249) (K : LK p l e s m below meth c b G cells slots n i) : LV p l e s m below meth c b G cells slots 1261 [(0, .ref b), (1, .ref (ad 6 0 0)), (2, .ref (ad 7 0 0)), (3, .int (nI i))] [] pr ad g := by
  obtain ⟨o, o7, o01, o61⟩ := e_status  hr
  refine LV_aload_n B dL_law_1261 1 rfl ?_
  refine LV_cV B (k_X6_status l G hw g) hy_X6_status hi_X6_status hs_X6_status q_1034 rfl rfl (W_6 hw) rfl rfl rfl rfl rfl ⟨Nat.le_of_ble_eq_true rfl, Nat.le_of_ble_eq_true rfl⟩ (Nat.le_of_ble_eq_true rfl) ⟨show _ ≤ 600000 by omega, show _ ≤ 7302249 by omega⟩ dL_law_1262 (LV_kM (R := (F_X6_status g, g)) ?_)
  have e7 := o.1
  have hF2 := okF_c hF o01 o61
  refine LV_aload_n B dL_law_1265 2 rfl ?_
  refine LV_cV B (k_X7_status l G hw _) hy_X7_status hi_X7_status hs_X7_status q_1038 rfl rfl (W_7 hw) rfl rfl rfl rfl rfl ⟨Nat.le_of_ble_eq_true rfl, Nat.le_of_ble_eq_true rfl⟩ (Nat.le_of_ble_eq_true rfl) ⟨show _ ≤ 600000 by omega, show _ ≤ 7302249 by omega⟩ dL_law_1266 (LV_kM (R := (F_X7_status _, _)) ?_)
  have z := fun c2 s2 h1 h2 => LV_end (ad := ad) (c2 := c2) (s2 := s2) B o K hw hF2 dL_law_1269 (by decide) h1 h2
  exact z _ _ (by omega) (by omega)
end CASES
