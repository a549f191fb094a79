set_option maxRecDepth 20000 in
set_option maxHeartbeats 4000000 in
theorem lwc_0 {Z : qZ} {G : qG} {k n : Nat} {μ : qM} {b Ls i : Nat} {xs : Nat → Int32} (C : qX Z G RL cL_law 4 room_1 ret) (S : lwS Z G b Ls xs) (hn : gn G = 66) (hi : i + 6 ≤ Ls) (hk : k + 1 ≤ 600000 ∧ n + 6 ≤ 7302250) (hR : RI μ) (h1 : ∀ μ', RI μ' → qV Z G 4 (k + 1) (n + 6) μ' 1521 (lwL G b i) []) : qV Z G 4 k n μ 244 (lwL G b i) [] := by
  have h66 : 66 ≤ gn G := by omega
  have h := op_grace (xs (i + 1)) (xs (i + 2)) (xs (i + 3)) μ hR
  refine x_aload_n C 1 dL_law_244 rfl rfl ?_
  refine x_arg C S hi 1 (w := 1) (by decide) dL_law_245 dL_law_246 dL_law_247 (by decide) rfl dL_law_248 dL_law_249 ?_
  refine x_arg C S hi 2 (w := 2) (by decide) dL_law_250 dL_law_251 dL_law_252 (by decide) rfl dL_law_253 dL_law_254 ?_
  refine x_arg C S hi 3 (w := 3) (by decide) dL_law_255 dL_law_256 dL_law_257 (by decide) rfl dL_law_258 dL_law_259 ?_
  refine x_Vi [.int (xs (i + 1)), .int (xs (i + 2)), .int (xs (i + 3))] [] C 0 9 (wp := fun K => w_X10_grace (xs (i + 1)) (xs (i + 2)) (xs (i + 3)) K μ) y_X10_grace (qm_6 _ (List.mem_of_getElem? (i := 13) rfl)) (qm_6 _ (List.mem_of_getElem? (i := 14) rfl)) (qm_6 _ (List.mem_of_getElem? (i := 12) rfl)) (c_X10_grace Z.2.1 G h66) (Nat.lt_of_lt_of_le (by decide) h66) rfl (by decide) rfl rfl rfl ⟨by show k + 0 + 0 ≤ 600000; omega, by show n + 0 + 0 ≤ 7302250; omega⟩ rfl rfl rfl dL_law_260 h (fun r μ1 h => ?_)
  refine x_aload_n C 2 dL_law_263 rfl rfl ?_
  refine x_arg C S hi 1 (w := 1) (by decide) dL_law_264 dL_law_265 dL_law_266 (by decide) rfl dL_law_267 dL_law_268 ?_
  refine x_arg C S hi 2 (w := 2) (by decide) dL_law_269 dL_law_270 dL_law_271 (by decide) rfl dL_law_272 dL_law_273 ?_
  refine x_arg C S hi 3 (w := 3) (by decide) dL_law_274 dL_law_275 dL_law_276 (by decide) rfl dL_law_277 dL_law_278 ?_
  refine x_Vi [.int (xs (i + 1)), .int (xs (i + 2)), .int (xs (i + 3))] [.int r] C 46 10 (wp := fun K => w_X11_grace (xs (i + 1)) (xs (i + 2)) (xs (i + 3)) K μ1) y_X11_grace (qm_8 _ (List.mem_of_getElem? (i := 9) rfl)) (qm_8 _ (List.mem_of_getElem? (i := 10) rfl)) (qm_8 _ (List.mem_of_getElem? (i := 8) rfl)) (c_X11_grace Z.2.1 G h66) (Nat.lt_of_lt_of_le (by decide) h66) rfl (by decide) rfl rfl rfl ⟨by show k + 0 + 0 ≤ 600000; omega, by show n + 0 + 0 ≤ 7302250; omega⟩ rfl rfl rfl dL_law_279 h (fun r' μ2 h => ?_)
  refine x_icmp_eq C dL_law_282 (tgt := 1521) (A := True) (B := False) (by decide) ⟨fun _ => trivial, fun q => q h.1⟩ (fun _ => ?_) (fun q => q.elim)
  exact x_widen (Nat.le_add_right k 1) (Nat.le_add_right n 6) (h1 _ h.2)
set_option maxRecDepth 20000 in
set_option maxHeartbeats 4000000 in
theorem lwc_1 {Z : qZ} {G : qG} {k n : Nat} {μ : qM} {b Ls i : Nat} {xs : Nat → Int32} (C : qX Z G RL cL_law 4 room_1 ret) (S : lwS Z G b Ls xs) (hn : gn G = 66) (hi : i + 6 ≤ Ls) (hk : k + 1 ≤ 600000 ∧ n + 6 ≤ 7302250) (hR : RI μ) (h1 : ∀ μ', RI μ' → qV Z G 4 (k + 1) (n + 6) μ' 1521 (lwL G b i) []) : qV Z G 4 k n μ 287 (lwL G b i) [] := by
  have h66 : 66 ≤ gn G := by omega
  have h := op_build (xs (i + 1)) (xs (i + 2)) (xs (i + 3)) μ hR
  refine x_aload_n C 1 dL_law_287 rfl rfl ?_
  refine x_arg C S hi 1 (w := 1) (by decide) dL_law_288 dL_law_289 dL_law_290 (by decide) rfl dL_law_291 dL_law_292 ?_
  refine x_arg C S hi 2 (w := 2) (by decide) dL_law_293 dL_law_294 dL_law_295 (by decide) rfl dL_law_296 dL_law_297 ?_
  refine x_arg C S hi 3 (w := 3) (by decide) dL_law_298 dL_law_299 dL_law_300 (by decide) rfl dL_law_301 dL_law_302 ?_
  refine x_Vi [.int (xs (i + 1)), .int (xs (i + 2)), .int (xs (i + 3))] [] C 0 9 (wp := fun K => w_X10_build (xs (i + 1)) (xs (i + 2)) (xs (i + 3)) K μ) y_X10_build (qm_9 _ (List.mem_of_getElem? (i := 12) rfl)) (qm_9 _ (List.mem_of_getElem? (i := 13) rfl)) (qm_9 _ (List.mem_of_getElem? (i := 11) rfl)) (c_X10_build Z.2.1 G h66) (Nat.lt_of_lt_of_le (by decide) h66) rfl (by decide) rfl rfl rfl ⟨by show k + 0 + 0 ≤ 600000; omega, by show n + 0 + 0 ≤ 7302250; omega⟩ rfl rfl rfl dL_law_303 h (fun r μ1 h => ?_)
  refine x_aload_n C 2 dL_law_306 rfl rfl ?_
  refine x_arg C S hi 1 (w := 1) (by decide) dL_law_307 dL_law_308 dL_law_309 (by decide) rfl dL_law_310 dL_law_311 ?_
  refine x_arg C S hi 2 (w := 2) (by decide) dL_law_312 dL_law_313 dL_law_314 (by decide) rfl dL_law_315 dL_law_316 ?_
  refine x_arg C S hi 3 (w := 3) (by decide) dL_law_317 dL_law_318 dL_law_319 (by decide) rfl dL_law_320 dL_law_321 ?_
  refine x_Vi [.int (xs (i + 1)), .int (xs (i + 2)), .int (xs (i + 3))] [.int r] C 46 10 (wp := fun K => w_X11_build (xs (i + 1)) (xs (i + 2)) (xs (i + 3)) K μ1) y_X11_build (qm_11 _ (List.mem_of_getElem? (i := 12) rfl)) (qm_11 _ (List.mem_of_getElem? (i := 13) rfl)) (qm_11 _ (List.mem_of_getElem? (i := 11) rfl)) (c_X11_build Z.2.1 G h66) (Nat.lt_of_lt_of_le (by decide) h66) rfl (by decide) rfl rfl rfl ⟨by show k + 0 + 0 ≤ 600000; omega, by show n + 0 + 0 ≤ 7302250; omega⟩ rfl rfl rfl dL_law_322 h (fun r' μ2 h => ?_)
  refine x_icmp_eq C dL_law_325 (tgt := 1521) (A := True) (B := False) (by decide) ⟨fun _ => trivial, fun q => q h.1⟩ (fun _ => ?_) (fun q => q.elim)
  exact x_widen (Nat.le_add_right k 1) (Nat.le_add_right n 6) (h1 _ h.2)
set_option maxRecDepth 20000 in
set_option maxHeartbeats 4000000 in
theorem lwc_2 {Z : qZ} {G : qG} {k n : Nat} {μ : qM} {b Ls i : Nat} {xs : Nat → Int32} (C : qX Z G RL cL_law 4 room_1 ret) (S : lwS Z G b Ls xs) (hn : gn G = 66) (hi : i + 6 ≤ Ls) (hk : k + 1 ≤ 600000 ∧ n + 6 ≤ 7302250) (hR : RI μ) (h1 : ∀ μ', RI μ' → qV Z G 4 (k + 1) (n + 6) μ' 1521 (lwL G b i) []) : qV Z G 4 k n μ 330 (lwL G b i) [] := by
  have h66 : 66 ≤ gn G := by omega
  have h := op_of (xs (i + 1)) (xs (i + 2)) μ hR
  refine x_aload_n C 1 dL_law_330 rfl rfl ?_
  refine x_arg C S hi 1 (w := 1) (by decide) dL_law_331 dL_law_332 dL_law_333 (by decide) rfl dL_law_334 dL_law_335 ?_
  refine x_arg C S hi 2 (w := 2) (by decide) dL_law_336 dL_law_337 dL_law_338 (by decide) rfl dL_law_339 dL_law_340 ?_
  refine x_Vi [.int (xs (i + 1)), .int (xs (i + 2))] [] C 0 9 (wp := fun K => w_X10_of (xs (i + 1)) (xs (i + 2)) K μ) y_X10_of (qm_12 _ (List.mem_of_getElem? (i := 22) rfl)) (qm_12 _ (List.mem_of_getElem? (i := 23) rfl)) (qm_12 _ (List.mem_of_getElem? (i := 21) rfl)) (c_X10_of Z.2.1 G h66) (Nat.lt_of_lt_of_le (by decide) h66) rfl (by decide) rfl rfl rfl ⟨by show k + 0 + 0 ≤ 600000; omega, by show n + 0 + 0 ≤ 7302250; omega⟩ rfl rfl rfl dL_law_341 h (fun r μ1 h => ?_)
  refine x_aload_n C 2 dL_law_344 rfl rfl ?_
  refine x_arg C S hi 1 (w := 1) (by decide) dL_law_345 dL_law_346 dL_law_347 (by decide) rfl dL_law_348 dL_law_349 ?_
  refine x_arg C S hi 2 (w := 2) (by decide) dL_law_350 dL_law_351 dL_law_352 (by decide) rfl dL_law_353 dL_law_354 ?_
  refine x_Vi [.int (xs (i + 1)), .int (xs (i + 2))] [.int r] C 46 10 (wp := fun K => w_X11_of (xs (i + 1)) (xs (i + 2)) K μ1) y_X11_of (qm_14 _ (List.mem_of_getElem? (i := 0) rfl)) (qm_14 _ (List.mem_of_getElem? (i := 1) rfl)) (qm_13 _ (List.mem_of_getElem? (i := 23) rfl)) (c_X11_of Z.2.1 G h66) (Nat.lt_of_lt_of_le (by decide) h66) rfl (by decide) rfl rfl rfl ⟨by show k + 0 + 0 ≤ 600000; omega, by show n + 0 + 0 ≤ 7302250; omega⟩ rfl rfl rfl dL_law_355 h (fun r' μ2 h => ?_)
  refine x_icmp_eq C dL_law_358 (tgt := 1521) (A := True) (B := False) (by decide) ⟨fun _ => trivial, fun q => q h.1⟩ (fun _ => ?_) (fun q => q.elim)
  exact x_widen (Nat.le_add_right k 1) (Nat.le_add_right n 6) (h1 _ h.2)
set_option maxRecDepth 20000 in
set_option maxHeartbeats 4000000 in
theorem lwc_3 {Z : qZ} {G : qG} {k n : Nat} {μ : qM} {b Ls i : Nat} {xs : Nat → Int32} (C : qX Z G RL cL_law 4 room_1 ret) (S : lwS Z G b Ls xs) (hn : gn G = 66) (hi : i + 6 ≤ Ls) (hk : k + 1 ≤ 600000 ∧ n + 6 ≤ 7302250) (hR : RI μ) (h1 : ∀ μ', RI μ' → qV Z G 4 (k + 1) (n + 6) μ' 1521 (lwL G b i) []) : qV Z G 4 k n μ 363 (lwL G b i) [] := by
  have h66 : 66 ≤ gn G := by omega
  have h := op_change (xs (i + 1)) (xs (i + 2)) μ hR
  refine x_aload_n C 1 dL_law_363 rfl rfl ?_
  refine x_arg C S hi 1 (w := 1) (by decide) dL_law_364 dL_law_365 dL_law_366 (by decide) rfl dL_law_367 dL_law_368 ?_
  refine x_arg C S hi 2 (w := 2) (by decide) dL_law_369 dL_law_370 dL_law_371 (by decide) rfl dL_law_372 dL_law_373 ?_
  refine x_Vi [.int (xs (i + 1)), .int (xs (i + 2))] [] C 0 9 (wp := fun K => w_X10_change (xs (i + 1)) (xs (i + 2)) K μ) y_X10_change (qm_14 _ (List.mem_of_getElem? (i := 12) rfl)) (qm_14 _ (List.mem_of_getElem? (i := 13) rfl)) (qm_14 _ (List.mem_of_getElem? (i := 11) rfl)) (c_X10_change Z.2.1 G h66) (Nat.lt_of_lt_of_le (by decide) h66) rfl (by decide) rfl rfl rfl ⟨by show k + 0 + 0 ≤ 600000; omega, by show n + 0 + 0 ≤ 7302250; omega⟩ rfl rfl rfl dL_law_374 h (fun r μ1 h => ?_)
  refine x_aload_n C 2 dL_law_377 rfl rfl ?_
  refine x_arg C S hi 1 (w := 1) (by decide) dL_law_378 dL_law_379 dL_law_380 (by decide) rfl dL_law_381 dL_law_382 ?_
  refine x_arg C S hi 2 (w := 2) (by decide) dL_law_383 dL_law_384 dL_law_385 (by decide) rfl dL_law_386 dL_law_387 ?_
  refine x_Vi [.int (xs (i + 1)), .int (xs (i + 2))] [.int r] C 46 10 (wp := fun K => w_X11_change (xs (i + 1)) (xs (i + 2)) K μ1) y_X11_change (qm_14 _ (List.mem_of_getElem? (i := 20) rfl)) (qm_14 _ (List.mem_of_getElem? (i := 21) rfl)) (qm_14 _ (List.mem_of_getElem? (i := 19) rfl)) (c_X11_change Z.2.1 G h66) (Nat.lt_of_lt_of_le (by decide) h66) rfl (by decide) rfl rfl rfl ⟨by show k + 0 + 0 ≤ 600000; omega, by show n + 0 + 0 ≤ 7302250; omega⟩ rfl rfl rfl dL_law_388 h (fun r' μ2 h => ?_)
  refine x_icmp_eq C dL_law_391 (tgt := 1521) (A := True) (B := False) (by decide) ⟨fun _ => trivial, fun q => q h.1⟩ (fun _ => ?_) (fun q => q.elim)
  exact x_widen (Nat.le_add_right k 1) (Nat.le_add_right n 6) (h1 _ h.2)
set_option maxRecDepth 20000 in
set_option maxHeartbeats 4000000 in
theorem lwc_4 {Z : qZ} {G : qG} {k n : Nat} {μ : qM} {b Ls i : Nat} {xs : Nat → Int32} (C : qX Z G RL cL_law 4 room_1 ret) (S : lwS Z G b Ls xs) (hn : gn G = 66) (hi : i + 6 ≤ Ls) (hk : k + 1 ≤ 600000 ∧ n + 6 ≤ 7302250) (hR : RI μ) (h1 : ∀ μ', RI μ' → qV Z G 4 (k + 1) (n + 6) μ' 1521 (lwL G b i) []) : qV Z G 4 k n μ 396 (lwL G b i) [] := by
  have h66 : 66 ≤ gn G := by omega
  have h := op_fire  μ hR
  refine x_aload_n C 1 dL_law_396 rfl rfl ?_
  refine x_Vi [] [] C 0 9 (wp := fun K => w_X10_fire  K μ) y_X10_fire (qm_15 _ (List.mem_of_getElem? (i := 0) rfl)) (qm_15 _ (List.mem_of_getElem? (i := 1) rfl)) (qm_14 _ (List.mem_of_getElem? (i := 23) rfl)) (c_X10_fire Z.2.1 G h66) (Nat.lt_of_lt_of_le (by decide) h66) rfl (by decide) rfl rfl rfl ⟨by show k + 0 + 0 ≤ 600000; omega, by show n + 0 + 0 ≤ 7302250; omega⟩ rfl rfl rfl dL_law_397 h (fun r μ1 h => ?_)
  refine x_aload_n C 2 dL_law_400 rfl rfl ?_
  refine x_Vi [] [.int r] C 46 10 (wp := fun K => w_X11_fire  K μ1) y_X11_fire (qm_15 _ (List.mem_of_getElem? (i := 9) rfl)) (qm_15 _ (List.mem_of_getElem? (i := 10) rfl)) (qm_15 _ (List.mem_of_getElem? (i := 8) rfl)) (c_X11_fire Z.2.1 G h66) (Nat.lt_of_lt_of_le (by decide) h66) rfl (by decide) rfl rfl rfl ⟨by show k + 0 + 0 ≤ 600000; omega, by show n + 0 + 0 ≤ 7302250; omega⟩ rfl rfl rfl dL_law_401 h (fun r' μ2 h => ?_)
  refine x_icmp_eq C dL_law_404 (tgt := 1521) (A := True) (B := False) (by decide) ⟨fun _ => trivial, fun q => q h.1⟩ (fun _ => ?_) (fun q => q.elim)
  exact x_widen (Nat.le_add_right k 1) (Nat.le_add_right n 6) (h1 _ h.2)
set_option maxRecDepth 20000 in
set_option maxHeartbeats 4000000 in
theorem lwc_5 {Z : qZ} {G : qG} {k n : Nat} {μ : qM} {b Ls i : Nat} {xs : Nat → Int32} (C : qX Z G RL cL_law 4 room_1 ret) (S : lwS Z G b Ls xs) (hn : gn G = 66) (hi : i + 6 ≤ Ls) (hk : k + 1 ≤ 600000 ∧ n + 6 ≤ 7302250) (hR : RI μ) (h1 : ∀ μ', RI μ' → qV Z G 4 (k + 1) (n + 6) μ' 1521 (lwL G b i) []) : qV Z G 4 k n μ 409 (lwL G b i) [] := by
  have h66 : 66 ≤ gn G := by omega
  have h := op_worth (xs (i + 1)) (xs (i + 2)) (xs (i + 3)) μ hR
  refine x_aload_n C 1 dL_law_409 rfl rfl ?_
  refine x_arg C S hi 1 (w := 1) (by decide) dL_law_410 dL_law_411 dL_law_412 (by decide) rfl dL_law_413 dL_law_414 ?_
  refine x_arg C S hi 2 (w := 2) (by decide) dL_law_415 dL_law_416 dL_law_417 (by decide) rfl dL_law_418 dL_law_419 ?_
  refine x_arg C S hi 3 (w := 3) (by decide) dL_law_420 dL_law_421 dL_law_422 (by decide) rfl dL_law_423 dL_law_424 ?_
  refine x_Vi [.int (xs (i + 1)), .int (xs (i + 2)), .int (xs (i + 3))] [] C 0 9 (wp := fun K => w_X10_worth (xs (i + 1)) (xs (i + 2)) (xs (i + 3)) K μ) y_X10_worth (qm_15 _ (List.mem_of_getElem? (i := 13) rfl)) (qm_15 _ (List.mem_of_getElem? (i := 14) rfl)) (qm_15 _ (List.mem_of_getElem? (i := 12) rfl)) (c_X10_worth Z.2.1 G h66) (Nat.lt_of_lt_of_le (by decide) h66) rfl (by decide) rfl rfl rfl ⟨by show k + 0 + 0 ≤ 600000; omega, by show n + 0 + 0 ≤ 7302250; omega⟩ rfl rfl rfl dL_law_425 h (fun r μ1 h => ?_)
  refine x_aload_n C 2 dL_law_428 rfl rfl ?_
  refine x_arg C S hi 1 (w := 1) (by decide) dL_law_429 dL_law_430 dL_law_431 (by decide) rfl dL_law_432 dL_law_433 ?_
  refine x_arg C S hi 2 (w := 2) (by decide) dL_law_434 dL_law_435 dL_law_436 (by decide) rfl dL_law_437 dL_law_438 ?_
  refine x_arg C S hi 3 (w := 3) (by decide) dL_law_439 dL_law_440 dL_law_441 (by decide) rfl dL_law_442 dL_law_443 ?_
  refine x_Vi [.int (xs (i + 1)), .int (xs (i + 2)), .int (xs (i + 3))] [.int r] C 46 10 (wp := fun K => w_X11_worth (xs (i + 1)) (xs (i + 2)) (xs (i + 3)) K μ1) y_X11_worth (qm_15 _ (List.mem_of_getElem? (i := 22) rfl)) (qm_15 _ (List.mem_of_getElem? (i := 23) rfl)) (qm_15 _ (List.mem_of_getElem? (i := 21) rfl)) (c_X11_worth Z.2.1 G h66) (Nat.lt_of_lt_of_le (by decide) h66) rfl (by decide) rfl rfl rfl ⟨by show k + 0 + 0 ≤ 600000; omega, by show n + 0 + 0 ≤ 7302250; omega⟩ rfl rfl rfl dL_law_444 h (fun r' μ2 h => ?_)
  refine x_icmp_eq C dL_law_447 (tgt := 1521) (A := True) (B := False) (by decide) ⟨fun _ => trivial, fun q => q h.1⟩ (fun _ => ?_) (fun q => q.elim)
  exact x_widen (Nat.le_add_right k 1) (Nat.le_add_right n 6) (h1 _ h.2)
set_option maxRecDepth 20000 in
set_option maxHeartbeats 4000000 in
theorem lwc_6 {Z : qZ} {G : qG} {k n : Nat} {μ : qM} {b Ls i : Nat} {xs : Nat → Int32} (C : qX Z G RL cL_law 4 room_1 ret) (S : lwS Z G b Ls xs) (hn : gn G = 66) (hi : i + 6 ≤ Ls) (hk : k + 1 ≤ 600000 ∧ n + 6 ≤ 7302250) (hR : RI μ) (h1 : ∀ μ', RI μ' → qV Z G 4 (k + 1) (n + 6) μ' 1521 (lwL G b i) []) : qV Z G 4 k n μ 452 (lwL G b i) [] := by
  have h66 : 66 ≤ gn G := by omega
  have h := op_coin (xs (i + 1)) μ hR
  refine x_aload_n C 1 dL_law_452 rfl rfl ?_
  refine x_arg C S hi 1 (w := 1) (by decide) dL_law_453 dL_law_454 dL_law_455 (by decide) rfl dL_law_456 dL_law_457 ?_
  refine x_Vi [.int (xs (i + 1))] [] C 0 9 (wp := fun K => w_X10_coin (xs (i + 1)) K μ) y_X10_coin (qm_16 _ (List.mem_of_getElem? (i := 2) rfl)) (qm_16 _ (List.mem_of_getElem? (i := 3) rfl)) (qm_16 _ (List.mem_of_getElem? (i := 1) rfl)) (c_X10_coin Z.2.1 G h66) (Nat.lt_of_lt_of_le (by decide) h66) rfl (by decide) rfl rfl rfl ⟨by show k + 0 + 0 ≤ 600000; omega, by show n + 0 + 0 ≤ 7302250; omega⟩ rfl rfl rfl dL_law_458 h (fun r μ1 h => ?_)
  refine x_aload_n C 2 dL_law_461 rfl rfl ?_
  refine x_arg C S hi 1 (w := 1) (by decide) dL_law_462 dL_law_463 dL_law_464 (by decide) rfl dL_law_465 dL_law_466 ?_
  refine x_Vi [.int (xs (i + 1))] [.int r] C 46 10 (wp := fun K => w_X11_coin (xs (i + 1)) K μ1) y_X11_coin (qm_16 _ (List.mem_of_getElem? (i := 11) rfl)) (qm_16 _ (List.mem_of_getElem? (i := 12) rfl)) (qm_16 _ (List.mem_of_getElem? (i := 10) rfl)) (c_X11_coin Z.2.1 G h66) (Nat.lt_of_lt_of_le (by decide) h66) rfl (by decide) rfl rfl rfl ⟨by show k + 0 + 0 ≤ 600000; omega, by show n + 0 + 0 ≤ 7302250; omega⟩ rfl rfl rfl dL_law_467 h (fun r' μ2 h => ?_)
  refine x_icmp_eq C dL_law_470 (tgt := 1521) (A := True) (B := False) (by decide) ⟨fun _ => trivial, fun q => q h.1⟩ (fun _ => ?_) (fun q => q.elim)
  exact x_widen (Nat.le_add_right k 1) (Nat.le_add_right n 6) (h1 _ h.2)
set_option maxRecDepth 20000 in
set_option maxHeartbeats 4000000 in
theorem lwc_7 {Z : qZ} {G : qG} {k n : Nat} {μ : qM} {b Ls i : Nat} {xs : Nat → Int32} (C : qX Z G RL cL_law 4 room_1 ret) (S : lwS Z G b Ls xs) (hn : gn G = 66) (hi : i + 6 ≤ Ls) (hk : k + 1 ≤ 600000 ∧ n + 6 ≤ 7302250) (hR : RI μ) (h1 : ∀ μ', RI μ' → qV Z G 4 (k + 1) (n + 6) μ' 1521 (lwL G b i) []) : qV Z G 4 k n μ 475 (lwL G b i) [] := by
  have h66 : 66 ≤ gn G := by omega
  have h := op_far (xs (i + 1)) (xs (i + 2)) (xs (i + 3)) μ hR
  refine x_aload_n C 1 dL_law_475 rfl rfl ?_
  refine x_arg C S hi 1 (w := 1) (by decide) dL_law_476 dL_law_477 dL_law_478 (by decide) rfl dL_law_479 dL_law_480 ?_
  refine x_arg C S hi 2 (w := 2) (by decide) dL_law_481 dL_law_482 dL_law_483 (by decide) rfl dL_law_484 dL_law_485 ?_
  refine x_arg C S hi 3 (w := 3) (by decide) dL_law_486 dL_law_487 dL_law_488 (by decide) rfl dL_law_489 dL_law_490 ?_
  refine x_Vi [.int (xs (i + 1)), .int (xs (i + 2)), .int (xs (i + 3))] [] C 0 9 (wp := fun K => w_X10_far (xs (i + 1)) (xs (i + 2)) (xs (i + 3)) K μ) y_X10_far (qm_16 _ (List.mem_of_getElem? (i := 16) rfl)) (qm_16 _ (List.mem_of_getElem? (i := 17) rfl)) (qm_16 _ (List.mem_of_getElem? (i := 15) rfl)) (c_X10_far Z.2.1 G h66) (Nat.lt_of_lt_of_le (by decide) h66) rfl (by decide) rfl rfl rfl ⟨by show k + 0 + 0 ≤ 600000; omega, by show n + 0 + 0 ≤ 7302250; omega⟩ rfl rfl rfl dL_law_491 h (fun r μ1 h => ?_)
  refine x_aload_n C 2 dL_law_494 rfl rfl ?_
  refine x_arg C S hi 1 (w := 1) (by decide) dL_law_495 dL_law_496 dL_law_497 (by decide) rfl dL_law_498 dL_law_499 ?_
  refine x_arg C S hi 2 (w := 2) (by decide) dL_law_500 dL_law_501 dL_law_502 (by decide) rfl dL_law_503 dL_law_504 ?_
  refine x_arg C S hi 3 (w := 3) (by decide) dL_law_505 dL_law_506 dL_law_507 (by decide) rfl dL_law_508 dL_law_509 ?_
  refine x_Vi [.int (xs (i + 1)), .int (xs (i + 2)), .int (xs (i + 3))] [.int r] C 46 10 (wp := fun K => w_X11_far (xs (i + 1)) (xs (i + 2)) (xs (i + 3)) K μ1) y_X11_far (qm_17 _ (List.mem_of_getElem? (i := 0) rfl)) (qm_17 _ (List.mem_of_getElem? (i := 1) rfl)) (qm_16 _ (List.mem_of_getElem? (i := 23) rfl)) (c_X11_far Z.2.1 G h66) (Nat.lt_of_lt_of_le (by decide) h66) rfl (by decide) rfl rfl rfl ⟨by show k + 0 + 0 ≤ 600000; omega, by show n + 0 + 0 ≤ 7302250; omega⟩ rfl rfl rfl dL_law_510 h (fun r' μ2 h => ?_)
  refine x_icmp_eq C dL_law_513 (tgt := 1521) (A := True) (B := False) (by decide) ⟨fun _ => trivial, fun q => q h.1⟩ (fun _ => ?_) (fun q => q.elim)
  exact x_widen (Nat.le_add_right k 1) (Nat.le_add_right n 6) (h1 _ h.2)
set_option maxRecDepth 20000 in
set_option maxHeartbeats 4000000 in
theorem lwc_8 {Z : qZ} {G : qG} {k n : Nat} {μ : qM} {b Ls i : Nat} {xs : Nat → Int32} (C : qX Z G RL cL_law 4 room_1 ret) (S : lwS Z G b Ls xs) (hn : gn G = 66) (hi : i + 6 ≤ Ls) (hk : k + 1 ≤ 600000 ∧ n + 6 ≤ 7302250) (hR : RI μ) (h1 : ∀ μ', RI μ' → qV Z G 4 (k + 1) (n + 6) μ' 1521 (lwL G b i) []) : qV Z G 4 k n μ 518 (lwL G b i) [] := by
  have h66 : 66 ≤ gn G := by omega
  have h := op_pairs (xs (i + 1)) (xs (i + 2)) μ hR
  refine x_aload_n C 1 dL_law_518 rfl rfl ?_
  refine x_arg C S hi 1 (w := 1) (by decide) dL_law_519 dL_law_520 dL_law_521 (by decide) rfl dL_law_522 dL_law_523 ?_
  refine x_arg C S hi 2 (w := 2) (by decide) dL_law_524 dL_law_525 dL_law_526 (by decide) rfl dL_law_527 dL_law_528 ?_
  refine x_Vi [.int (xs (i + 1)), .int (xs (i + 2))] [] C 0 9 (wp := fun K => w_X10_pairs (xs (i + 1)) (xs (i + 2)) K μ) y_X10_pairs (qm_17 _ (List.mem_of_getElem? (i := 4) rfl)) (qm_17 _ (List.mem_of_getElem? (i := 5) rfl)) (qm_17 _ (List.mem_of_getElem? (i := 3) rfl)) (c_X10_pairs Z.2.1 G h66) (Nat.lt_of_lt_of_le (by decide) h66) rfl (by decide) rfl rfl rfl ⟨by show k + 0 + 0 ≤ 600000; omega, by show n + 0 + 0 ≤ 7302250; omega⟩ rfl rfl rfl dL_law_529 h (fun r μ1 h => ?_)
  refine x_aload_n C 2 dL_law_532 rfl rfl ?_
  refine x_arg C S hi 1 (w := 1) (by decide) dL_law_533 dL_law_534 dL_law_535 (by decide) rfl dL_law_536 dL_law_537 ?_
  refine x_arg C S hi 2 (w := 2) (by decide) dL_law_538 dL_law_539 dL_law_540 (by decide) rfl dL_law_541 dL_law_542 ?_
  refine x_Vi [.int (xs (i + 1)), .int (xs (i + 2))] [.int r] C 46 10 (wp := fun K => w_X11_pairs (xs (i + 1)) (xs (i + 2)) K μ1) y_X11_pairs (qm_17 _ (List.mem_of_getElem? (i := 12) rfl)) (qm_17 _ (List.mem_of_getElem? (i := 13) rfl)) (qm_17 _ (List.mem_of_getElem? (i := 11) rfl)) (c_X11_pairs Z.2.1 G h66) (Nat.lt_of_lt_of_le (by decide) h66) rfl (by decide) rfl rfl rfl ⟨by show k + 0 + 0 ≤ 600000; omega, by show n + 0 + 0 ≤ 7302250; omega⟩ rfl rfl rfl dL_law_543 h (fun r' μ2 h => ?_)
  refine x_icmp_eq C dL_law_546 (tgt := 1521) (A := True) (B := False) (by decide) ⟨fun _ => trivial, fun q => q h.1⟩ (fun _ => ?_) (fun q => q.elim)
  exact x_widen (Nat.le_add_right k 1) (Nat.le_add_right n 6) (h1 _ h.2)
set_option maxRecDepth 20000 in
set_option maxHeartbeats 4000000 in
theorem lwc_9 {Z : qZ} {G : qG} {k n : Nat} {μ : qM} {b Ls i : Nat} {xs : Nat → Int32} (C : qX Z G RL cL_law 4 room_1 ret) (S : lwS Z G b Ls xs) (hn : gn G = 66) (hi : i + 6 ≤ Ls) (hk : k + 1 ≤ 600000 ∧ n + 6 ≤ 7302250) (hR : RI μ) (h1 : ∀ μ', RI μ' → qV Z G 4 (k + 1) (n + 6) μ' 1521 (lwL G b i) []) : qV Z G 4 k n μ 551 (lwL G b i) [] := by
  have h66 : 66 ≤ gn G := by omega
  have h := op_pair (xs (i + 1)) (xs (i + 2)) μ hR
  refine x_aload_n C 1 dL_law_551 rfl rfl ?_
  refine x_arg C S hi 1 (w := 1) (by decide) dL_law_552 dL_law_553 dL_law_554 (by decide) rfl dL_law_555 dL_law_556 ?_
  refine x_arg C S hi 2 (w := 2) (by decide) dL_law_557 dL_law_558 dL_law_559 (by decide) rfl dL_law_560 dL_law_561 ?_
  refine x_Vi [.int (xs (i + 1)), .int (xs (i + 2))] [] C 0 9 (wp := fun K => w_X10_pair (xs (i + 1)) (xs (i + 2)) K μ) y_X10_pair (qm_17 _ (List.mem_of_getElem? (i := 20) rfl)) (qm_17 _ (List.mem_of_getElem? (i := 21) rfl)) (qm_17 _ (List.mem_of_getElem? (i := 19) rfl)) (c_X10_pair Z.2.1 G h66) (Nat.lt_of_lt_of_le (by decide) h66) rfl (by decide) rfl rfl rfl ⟨by show k + 0 + 0 ≤ 600000; omega, by show n + 0 + 0 ≤ 7302250; omega⟩ rfl rfl rfl dL_law_562 h (fun r μ1 h => ?_)
  refine x_aload_n C 2 dL_law_565 rfl rfl ?_
  refine x_arg C S hi 1 (w := 1) (by decide) dL_law_566 dL_law_567 dL_law_568 (by decide) rfl dL_law_569 dL_law_570 ?_
  refine x_arg C S hi 2 (w := 2) (by decide) dL_law_571 dL_law_572 dL_law_573 (by decide) rfl dL_law_574 dL_law_575 ?_
  refine x_Vi [.int (xs (i + 1)), .int (xs (i + 2))] [.int r] C 46 10 (wp := fun K => w_X11_pair (xs (i + 1)) (xs (i + 2)) K μ1) y_X11_pair (qm_18 _ (List.mem_of_getElem? (i := 5) rfl)) (qm_18 _ (List.mem_of_getElem? (i := 6) rfl)) (qm_18 _ (List.mem_of_getElem? (i := 4) rfl)) (c_X11_pair Z.2.1 G h66) (Nat.lt_of_lt_of_le (by decide) h66) rfl (by decide) rfl rfl rfl ⟨by show k + 0 + 0 ≤ 600000; omega, by show n + 0 + 0 ≤ 7302250; omega⟩ rfl rfl rfl dL_law_576 h (fun r' μ2 h => ?_)
  refine x_icmp_eq C dL_law_579 (tgt := 1521) (A := True) (B := False) (by decide) ⟨fun _ => trivial, fun q => q h.1⟩ (fun _ => ?_) (fun q => q.elim)
  exact x_widen (Nat.le_add_right k 1) (Nat.le_add_right n 6) (h1 _ h.2)
set_option maxRecDepth 20000 in
set_option maxHeartbeats 4000000 in
theorem lwc_10 {Z : qZ} {G : qG} {k n : Nat} {μ : qM} {b Ls i : Nat} {xs : Nat → Int32} (C : qX Z G RL cL_law 4 room_1 ret) (S : lwS Z G b Ls xs) (hn : gn G = 66) (hi : i + 6 ≤ Ls) (hk : k + 1 ≤ 600000 ∧ n + 6 ≤ 7302250) (hR : RI μ) (h1 : ∀ μ', RI μ' → qV Z G 4 (k + 1) (n + 6) μ' 1521 (lwL G b i) []) : qV Z G 4 k n μ 584 (lwL G b i) [] := by
  have h66 : 66 ≤ gn G := by omega
  have h := op_row (xs (i + 1)) μ hR
  refine x_aload_n C 1 dL_law_584 rfl rfl ?_
  refine x_arg C S hi 1 (w := 1) (by decide) dL_law_585 dL_law_586 dL_law_587 (by decide) rfl dL_law_588 dL_law_589 ?_
  refine x_Vi [.int (xs (i + 1))] [] C 0 9 (wp := fun K => w_X10_row (xs (i + 1)) K μ) y_X10_row (qm_18 _ (List.mem_of_getElem? (i := 9) rfl)) (qm_18 _ (List.mem_of_getElem? (i := 10) rfl)) (qm_18 _ (List.mem_of_getElem? (i := 8) rfl)) (c_X10_row Z.2.1 G h66) (Nat.lt_of_lt_of_le (by decide) h66) rfl (by decide) rfl rfl rfl ⟨by show k + 0 + 0 ≤ 600000; omega, by show n + 0 + 0 ≤ 7302250; omega⟩ rfl rfl rfl dL_law_590 h (fun r μ1 h => ?_)
  refine x_aload_n C 2 dL_law_593 rfl rfl ?_
  refine x_arg C S hi 1 (w := 1) (by decide) dL_law_594 dL_law_595 dL_law_596 (by decide) rfl dL_law_597 dL_law_598 ?_
  refine x_Vi [.int (xs (i + 1))] [.int r] C 46 10 (wp := fun K => w_X11_row (xs (i + 1)) K μ1) y_X11_row (qm_18 _ (List.mem_of_getElem? (i := 13) rfl)) (qm_18 _ (List.mem_of_getElem? (i := 14) rfl)) (qm_18 _ (List.mem_of_getElem? (i := 12) rfl)) (c_X11_row Z.2.1 G h66) (Nat.lt_of_lt_of_le (by decide) h66) rfl (by decide) rfl rfl rfl ⟨by show k + 0 + 0 ≤ 600000; omega, by show n + 0 + 0 ≤ 7302250; omega⟩ rfl rfl rfl dL_law_599 h (fun r' μ2 h => ?_)
  refine x_icmp_eq C dL_law_602 (tgt := 1521) (A := True) (B := False) (by decide) ⟨fun _ => trivial, fun q => q h.1⟩ (fun _ => ?_) (fun q => q.elim)
  exact x_widen (Nat.le_add_right k 1) (Nat.le_add_right n 6) (h1 _ h.2)
set_option maxRecDepth 20000 in
set_option maxHeartbeats 4000000 in
theorem lwc_11 {Z : qZ} {G : qG} {k n : Nat} {μ : qM} {b Ls i : Nat} {xs : Nat → Int32} (C : qX Z G RL cL_law 4 room_1 ret) (S : lwS Z G b Ls xs) (hn : gn G = 66) (hi : i + 6 ≤ Ls) (hk : k + 1 ≤ 600000 ∧ n + 6 ≤ 7302250) (hR : RI μ) (h1 : ∀ μ', RI μ' → qV Z G 4 (k + 1) (n + 6) μ' 1521 (lwL G b i) []) : qV Z G 4 k n μ 607 (lwL G b i) [] := by
  have h66 : 66 ≤ gn G := by omega
  have h := op_lots (xs (i + 1)) μ hR
  refine x_aload_n C 1 dL_law_607 rfl rfl ?_
  refine x_arg C S hi 1 (w := 1) (by decide) dL_law_608 dL_law_609 dL_law_610 (by decide) rfl dL_law_611 dL_law_612 ?_
  refine x_Vi [.int (xs (i + 1))] [] C 0 9 (wp := fun K => w_X10_lots (xs (i + 1)) K μ) y_X10_lots (qm_19 _ (List.mem_of_getElem? (i := 1) rfl)) (qm_19 _ (List.mem_of_getElem? (i := 2) rfl)) (qm_19 _ (List.mem_of_getElem? (i := 0) rfl)) (c_X10_lots Z.2.1 G h66) (Nat.lt_of_lt_of_le (by decide) h66) rfl (by decide) rfl rfl rfl ⟨by show k + 0 + 0 ≤ 600000; omega, by show n + 0 + 0 ≤ 7302250; omega⟩ rfl rfl rfl dL_law_613 h (fun r μ1 h => ?_)
  refine x_aload_n C 2 dL_law_616 rfl rfl ?_
  refine x_arg C S hi 1 (w := 1) (by decide) dL_law_617 dL_law_618 dL_law_619 (by decide) rfl dL_law_620 dL_law_621 ?_
  refine x_Vi [.int (xs (i + 1))] [.int r] C 46 10 (wp := fun K => w_X11_lots (xs (i + 1)) K μ1) y_X11_lots (qm_20 _ (List.mem_of_getElem? (i := 10) rfl)) (qm_20 _ (List.mem_of_getElem? (i := 11) rfl)) (qm_20 _ (List.mem_of_getElem? (i := 9) rfl)) (c_X11_lots Z.2.1 G h66) (Nat.lt_of_lt_of_le (by decide) h66) rfl (by decide) rfl rfl rfl ⟨by show k + 0 + 0 ≤ 600000; omega, by show n + 0 + 0 ≤ 7302250; omega⟩ rfl rfl rfl dL_law_622 h (fun r' μ2 h => ?_)
  refine x_icmp_eq C dL_law_625 (tgt := 1521) (A := True) (B := False) (by decide) ⟨fun _ => trivial, fun q => q h.1⟩ (fun _ => ?_) (fun q => q.elim)
  exact x_widen (Nat.le_add_right k 1) (Nat.le_add_right n 6) (h1 _ h.2)
set_option maxRecDepth 20000 in
set_option maxHeartbeats 4000000 in
theorem lwc_12 {Z : qZ} {G : qG} {k n : Nat} {μ : qM} {b Ls i : Nat} {xs : Nat → Int32} (C : qX Z G RL cL_law 4 room_1 ret) (S : lwS Z G b Ls xs) (hn : gn G = 66) (hi : i + 6 ≤ Ls) (hk : k + 1 ≤ 600000 ∧ n + 6 ≤ 7302250) (hR : RI μ) (h1 : ∀ μ', RI μ' → qV Z G 4 (k + 1) (n + 6) μ' 1521 (lwL G b i) []) : qV Z G 4 k n μ 630 (lwL G b i) [] := by
  have h66 : 66 ≤ gn G := by omega
  have h := op_only (xs (i + 1)) μ hR
  refine x_aload_n C 1 dL_law_630 rfl rfl ?_
  refine x_arg C S hi 1 (w := 1) (by decide) dL_law_631 dL_law_632 dL_law_633 (by decide) rfl dL_law_634 dL_law_635 ?_
  refine x_Vi [.int (xs (i + 1))] [] C 0 9 (wp := fun K => w_X10_only (xs (i + 1)) K μ) y_X10_only (qm_20 _ (List.mem_of_getElem? (i := 18) rfl)) (qm_20 _ (List.mem_of_getElem? (i := 19) rfl)) (qm_20 _ (List.mem_of_getElem? (i := 17) rfl)) (c_X10_only Z.2.1 G h66) (Nat.lt_of_lt_of_le (by decide) h66) rfl (by decide) rfl rfl rfl ⟨by show k + 0 + 0 ≤ 600000; omega, by show n + 0 + 0 ≤ 7302250; omega⟩ rfl rfl rfl dL_law_636 h (fun r μ1 h => ?_)
  refine x_aload_n C 2 dL_law_639 rfl rfl ?_
  refine x_arg C S hi 1 (w := 1) (by decide) dL_law_640 dL_law_641 dL_law_642 (by decide) rfl dL_law_643 dL_law_644 ?_
  refine x_Vi [.int (xs (i + 1))] [.int r] C 46 10 (wp := fun K => w_X11_only (xs (i + 1)) K μ1) y_X11_only (qm_20 _ (List.mem_of_getElem? (i := 22) rfl)) (qm_20 _ (List.mem_of_getElem? (i := 23) rfl)) (qm_20 _ (List.mem_of_getElem? (i := 21) rfl)) (c_X11_only Z.2.1 G h66) (Nat.lt_of_lt_of_le (by decide) h66) rfl (by decide) rfl rfl rfl ⟨by show k + 0 + 0 ≤ 600000; omega, by show n + 0 + 0 ≤ 7302250; omega⟩ rfl rfl rfl dL_law_645 h (fun r' μ2 h => ?_)
  refine x_icmp_eq C dL_law_648 (tgt := 1521) (A := True) (B := False) (by decide) ⟨fun _ => trivial, fun q => q h.1⟩ (fun _ => ?_) (fun q => q.elim)
  exact x_widen (Nat.le_add_right k 1) (Nat.le_add_right n 6) (h1 _ h.2)
set_option maxRecDepth 20000 in
set_option maxHeartbeats 4000000 in
theorem lwc_13 {Z : qZ} {G : qG} {k n : Nat} {μ : qM} {b Ls i : Nat} {xs : Nat → Int32} (C : qX Z G RL cL_law 4 room_1 ret) (S : lwS Z G b Ls xs) (hn : gn G = 66) (hi : i + 6 ≤ Ls) (hk : k + 1 ≤ 600000 ∧ n + 6 ≤ 7302250) (hR : RI μ) (h1 : ∀ μ', RI μ' → qV Z G 4 (k + 1) (n + 6) μ' 1521 (lwL G b i) []) : qV Z G 4 k n μ 653 (lwL G b i) [] := by
  have h66 : 66 ≤ gn G := by omega
  have h := op_ever (xs (i + 1)) μ hR
  refine x_aload_n C 1 dL_law_653 rfl rfl ?_
  refine x_arg C S hi 1 (w := 1) (by decide) dL_law_654 dL_law_655 dL_law_656 (by decide) rfl dL_law_657 dL_law_658 ?_
  refine x_Vi [.int (xs (i + 1))] [] C 0 9 (wp := fun K => w_X10_ever (xs (i + 1)) K μ) y_X10_ever (qm_21 _ (List.mem_of_getElem? (i := 2) rfl)) (qm_21 _ (List.mem_of_getElem? (i := 3) rfl)) (qm_21 _ (List.mem_of_getElem? (i := 1) rfl)) (c_X10_ever Z.2.1 G h66) (Nat.lt_of_lt_of_le (by decide) h66) rfl (by decide) rfl rfl rfl ⟨by show k + 0 + 0 ≤ 600000; omega, by show n + 0 + 0 ≤ 7302250; omega⟩ rfl rfl rfl dL_law_659 h (fun r μ1 h => ?_)
  refine x_aload_n C 2 dL_law_662 rfl rfl ?_
  refine x_arg C S hi 1 (w := 1) (by decide) dL_law_663 dL_law_664 dL_law_665 (by decide) rfl dL_law_666 dL_law_667 ?_
  refine x_Vi [.int (xs (i + 1))] [.int r] C 46 10 (wp := fun K => w_X11_ever (xs (i + 1)) K μ1) y_X11_ever (qm_21 _ (List.mem_of_getElem? (i := 10) rfl)) (qm_21 _ (List.mem_of_getElem? (i := 11) rfl)) (qm_21 _ (List.mem_of_getElem? (i := 9) rfl)) (c_X11_ever Z.2.1 G h66) (Nat.lt_of_lt_of_le (by decide) h66) rfl (by decide) rfl rfl rfl ⟨by show k + 0 + 0 ≤ 600000; omega, by show n + 0 + 0 ≤ 7302250; omega⟩ rfl rfl rfl dL_law_668 h (fun r' μ2 h => ?_)
  refine x_icmp_eq C dL_law_671 (tgt := 1521) (A := True) (B := False) (by decide) ⟨fun _ => trivial, fun q => q h.1⟩ (fun _ => ?_) (fun q => q.elim)
  exact x_widen (Nat.le_add_right k 1) (Nat.le_add_right n 6) (h1 _ h.2)
set_option maxRecDepth 20000 in
set_option maxHeartbeats 4000000 in
theorem lwc_14 {Z : qZ} {G : qG} {k n : Nat} {μ : qM} {b Ls i : Nat} {xs : Nat → Int32} (C : qX Z G RL cL_law 4 room_1 ret) (S : lwS Z G b Ls xs) (hn : gn G = 66) (hi : i + 6 ≤ Ls) (hk : k + 1 ≤ 600000 ∧ n + 6 ≤ 7302250) (hR : RI μ) (h1 : ∀ μ', RI μ' → qV Z G 4 (k + 1) (n + 6) μ' 1521 (lwL G b i) []) : qV Z G 4 k n μ 676 (lwL G b i) [] := by
  have h66 : 66 ≤ gn G := by omega
  have h := op_sum  μ hR
  refine x_aload_n C 1 dL_law_676 rfl rfl ?_
  refine x_Vi [] [] C 0 9 (wp := fun K => w_X10_sum  K μ) y_X10_sum (qm_21 _ (List.mem_of_getElem? (i := 14) rfl)) (qm_21 _ (List.mem_of_getElem? (i := 15) rfl)) (qm_21 _ (List.mem_of_getElem? (i := 13) rfl)) (c_X10_sum Z.2.1 G h66) (Nat.lt_of_lt_of_le (by decide) h66) rfl (by decide) rfl rfl rfl ⟨by show k + 0 + 0 ≤ 600000; omega, by show n + 0 + 0 ≤ 7302250; omega⟩ rfl rfl rfl dL_law_677 h (fun r μ1 h => ?_)
  refine x_aload_n C 2 dL_law_680 rfl rfl ?_
  refine x_Vi [] [.int r] C 46 10 (wp := fun K => w_X11_sum  K μ1) y_X11_sum (qm_21 _ (List.mem_of_getElem? (i := 18) rfl)) (qm_21 _ (List.mem_of_getElem? (i := 19) rfl)) (qm_21 _ (List.mem_of_getElem? (i := 17) rfl)) (c_X11_sum Z.2.1 G h66) (Nat.lt_of_lt_of_le (by decide) h66) rfl (by decide) rfl rfl rfl ⟨by show k + 0 + 0 ≤ 600000; omega, by show n + 0 + 0 ≤ 7302250; omega⟩ rfl rfl rfl dL_law_681 h (fun r' μ2 h => ?_)
  refine x_icmp_eq C dL_law_684 (tgt := 1521) (A := True) (B := False) (by decide) ⟨fun _ => trivial, fun q => q h.1⟩ (fun _ => ?_) (fun q => q.elim)
  exact x_widen (Nat.le_add_right k 1) (Nat.le_add_right n 6) (h1 _ h.2)
set_option maxRecDepth 20000 in
set_option maxHeartbeats 4000000 in
theorem lwc_15 {Z : qZ} {G : qG} {k n : Nat} {μ : qM} {b Ls i : Nat} {xs : Nat → Int32} (C : qX Z G RL cL_law 4 room_1 ret) (S : lwS Z G b Ls xs) (hn : gn G = 66) (hi : i + 6 ≤ Ls) (hk : k + 1 ≤ 600000 ∧ n + 6 ≤ 7302250) (hR : RI μ) (h1 : ∀ μ', RI μ' → qV Z G 4 (k + 1) (n + 6) μ' 1521 (lwL G b i) []) : qV Z G 4 k n μ 689 (lwL G b i) [] := by
  have h66 : 66 ≤ gn G := by omega
  have h := op_best  μ hR
  refine x_aload_n C 1 dL_law_689 rfl rfl ?_
  refine x_Vi [] [] C 0 9 (wp := fun K => w_X10_best  K μ) y_X10_best (qm_21 _ (List.mem_of_getElem? (i := 22) rfl)) (qm_21 _ (List.mem_of_getElem? (i := 23) rfl)) (qm_21 _ (List.mem_of_getElem? (i := 21) rfl)) (c_X10_best Z.2.1 G h66) (Nat.lt_of_lt_of_le (by decide) h66) rfl (by decide) rfl rfl rfl ⟨by show k + 0 + 0 ≤ 600000; omega, by show n + 0 + 0 ≤ 7302250; omega⟩ rfl rfl rfl dL_law_690 h (fun r μ1 h => ?_)
  refine x_aload_n C 2 dL_law_693 rfl rfl ?_
  refine x_Vi [] [.int r] C 46 10 (wp := fun K => w_X11_best  K μ1) y_X11_best (qm_22 _ (List.mem_of_getElem? (i := 2) rfl)) (qm_22 _ (List.mem_of_getElem? (i := 3) rfl)) (qm_22 _ (List.mem_of_getElem? (i := 1) rfl)) (c_X11_best Z.2.1 G h66) (Nat.lt_of_lt_of_le (by decide) h66) rfl (by decide) rfl rfl rfl ⟨by show k + 0 + 0 ≤ 600000; omega, by show n + 0 + 0 ≤ 7302250; omega⟩ rfl rfl rfl dL_law_694 h (fun r' μ2 h => ?_)
  refine x_icmp_eq C dL_law_697 (tgt := 1521) (A := True) (B := False) (by decide) ⟨fun _ => trivial, fun q => q h.1⟩ (fun _ => ?_) (fun q => q.elim)
  exact x_widen (Nat.le_add_right k 1) (Nat.le_add_right n 6) (h1 _ h.2)
set_option maxRecDepth 20000 in
set_option maxHeartbeats 4000000 in
theorem lwc_16 {Z : qZ} {G : qG} {k n : Nat} {μ : qM} {b Ls i : Nat} {xs : Nat → Int32} (C : qX Z G RL cL_law 4 room_1 ret) (S : lwS Z G b Ls xs) (hn : gn G = 66) (hi : i + 6 ≤ Ls) (hk : k + 1 ≤ 600000 ∧ n + 6 ≤ 7302250) (hR : RI μ) (h1 : ∀ μ', RI μ' → qV Z G 4 (k + 1) (n + 6) μ' 1521 (lwL G b i) []) : qV Z G 4 k n μ 702 (lwL G b i) [] := by
  have h66 : 66 ≤ gn G := by omega
  have h := op_loses (xs (i + 1)) μ hR
  refine x_aload_n C 1 dL_law_702 rfl rfl ?_
  refine x_arg C S hi 1 (w := 1) (by decide) dL_law_703 dL_law_704 dL_law_705 (by decide) rfl dL_law_706 dL_law_707 ?_
  refine x_Vi [.int (xs (i + 1))] [] C 0 9 (wp := fun K => w_X10_loses (xs (i + 1)) K μ) y_X10_loses (qm_22 _ (List.mem_of_getElem? (i := 6) rfl)) (qm_22 _ (List.mem_of_getElem? (i := 7) rfl)) (qm_22 _ (List.mem_of_getElem? (i := 5) rfl)) (c_X10_loses Z.2.1 G h66) (Nat.lt_of_lt_of_le (by decide) h66) rfl (by decide) rfl rfl rfl ⟨by show k + 0 + 0 ≤ 600000; omega, by show n + 0 + 0 ≤ 7302250; omega⟩ rfl rfl rfl dL_law_708 h (fun r μ1 h => ?_)
  refine x_aload_n C 2 dL_law_711 rfl rfl ?_
  refine x_arg C S hi 1 (w := 1) (by decide) dL_law_712 dL_law_713 dL_law_714 (by decide) rfl dL_law_715 dL_law_716 ?_
  refine x_Vi [.int (xs (i + 1))] [.int r] C 46 10 (wp := fun K => w_X11_loses (xs (i + 1)) K μ1) y_X11_loses (qm_22 _ (List.mem_of_getElem? (i := 14) rfl)) (qm_22 _ (List.mem_of_getElem? (i := 15) rfl)) (qm_22 _ (List.mem_of_getElem? (i := 13) rfl)) (c_X11_loses Z.2.1 G h66) (Nat.lt_of_lt_of_le (by decide) h66) rfl (by decide) rfl rfl rfl ⟨by show k + 0 + 0 ≤ 600000; omega, by show n + 0 + 0 ≤ 7302250; omega⟩ rfl rfl rfl dL_law_717 h (fun r' μ2 h => ?_)
  refine x_icmp_eq C dL_law_720 (tgt := 1521) (A := True) (B := False) (by decide) ⟨fun _ => trivial, fun q => q h.1⟩ (fun _ => ?_) (fun q => q.elim)
  exact x_widen (Nat.le_add_right k 1) (Nat.le_add_right n 6) (h1 _ h.2)
