/-! BY HAND 27: the law's turns, 1 -/
section Glc0
variable {p : Program} {l : Launch} {e : Env} {s : State} {m : MethodId} {below : List Frame} {meth : Method} {c : Code} {cells slots : Nat} {Q : State → Prop}
variable {D : va_G} {ca : Ca} {ad : Int → Nat} {A : Nat → Prop} {σ : Mem} {b L : Nat} {xs : Nat → Int32} {u : Int}
theorem law_c0 (C : Cx p s m [Value.ref b].toArray c cL_law 8 RL wsLw D ca A) (hX : va_X b L xs s s.heap) (hbl : b < s.heap.size) (hbA : ¬ A b) (hR : Rel σ) (hu : 0 ≤ u ∧ u + 5 < (L : Int)) (hL : L ≤ 384) (hcs : cells ≤ 600000 ∧ slots ≤ 7300000) (kk : ∀ (σ' : Mem) (cells' slots' : Nat), Rel σ' → cells' ≤ cells + 1 → slots' ≤ slots + 6 → G p l e room_1 s m [Value.ref b].toArray below meth c 8 D ca ad A cells' slots' Q σ' 1842 (lvB b ad u) []) : G p l e room_1 s m [Value.ref b].toArray below meth c 8 D ca ad A cells slots Q σ 228 (lvB b ad u) [] := by
  have hj1 : s32 (u + 1) = (((u + 1).toNat : Nat) : Int) := by rw [s32_of (by omega) (by omega)]; omega
  obtain ⟨r, σ1, σ2, h1, h2, hR2⟩ := op_market hR (s32_ti (xs (u + 1).toNat))
  refine g_aload_n (i := 1) C dL_law_228 rfl rfl ?_
  refine g_arg C hX hbl hbA rfl rfl hj1 (by clear hj1; omega) dL_law_229 dL_law_230 dL_law_232 dL_law_233 dL_law_234 ?_
  refine g_callVi C (c_X11_market h1) (cwV 1 C.2.2.2.2.1 (gLift gL_law_X11_market) rfl rfl rfl (by decide +kernel) ⟨Nat.le_of_ble_eq_true rfl, Nat.le_of_ble_eq_true rfl⟩) ob_X11 rfl rfl rfl rfl (Nat.le_of_ble_eq_true rfl) dL_law_235 ⟨Nat.le_trans hcs.1 (Nat.le_of_ble_eq_true rfl), Nat.le_trans hcs.2 (Nat.le_of_ble_eq_true rfl)⟩ ?_
  refine g_aload_n (i := 2) C dL_law_238 rfl rfl ?_
  refine g_arg C hX hbl hbA rfl rfl hj1 (by clear hj1; omega) dL_law_239 dL_law_240 dL_law_242 dL_law_243 dL_law_244 ?_
  refine g_callVi C (c_X12_market h2) (cwV 1 C.2.2.2.2.1 (gLift gL_law_X12_market) rfl rfl rfl (by decide +kernel) ⟨Nat.le_of_ble_eq_true rfl, Nat.le_of_ble_eq_true rfl⟩) ob_X12 rfl rfl rfl rfl (Nat.le_of_ble_eq_true rfl) dL_law_245 ⟨Nat.le_trans hcs.1 (Nat.le_of_ble_eq_true rfl), Nat.le_trans hcs.2 (Nat.le_of_ble_eq_true rfl)⟩ ?_
  exact g_icmp_eq (tgt := 1842) C dL_law_248 (by decide) rfl rfl (fun _ => kk _ _ _ hR2 (Nat.le_succ _) (Nat.le_add_right _ _)) (fun z => absurd rfl z)
theorem law_c1 (C : Cx p s m [Value.ref b].toArray c cL_law 8 RL wsLw D ca A) (hX : va_X b L xs s s.heap) (hbl : b < s.heap.size) (hbA : ¬ A b) (hR : Rel σ) (hu : 0 ≤ u ∧ u + 5 < (L : Int)) (hL : L ≤ 384) (hcs : cells ≤ 600000 ∧ slots ≤ 7300000) (kk : ∀ (σ' : Mem) (cells' slots' : Nat), Rel σ' → cells' ≤ cells + 1 → slots' ≤ slots + 6 → G p l e room_1 s m [Value.ref b].toArray below meth c 8 D ca ad A cells' slots' Q σ' 1842 (lvB b ad u) []) : G p l e room_1 s m [Value.ref b].toArray below meth c 8 D ca ad A cells slots Q σ 253 (lvB b ad u) [] := by
  have hj1 : s32 (u + 1) = (((u + 1).toNat : Nat) : Int) := by rw [s32_of (by omega) (by omega)]; omega
  have hj2 : s32 (u + 2) = (((u + 2).toNat : Nat) : Int) := by rw [s32_of (by omega) (by omega)]; omega
  obtain ⟨r, σ1, σ2, h1, h2, hR2⟩ := op_sort hR (s32_ti (xs (u + 1).toNat)) (s32_ti (xs (u + 2).toNat))
  refine g_aload_n (i := 1) C dL_law_253 rfl rfl ?_
  refine g_arg C hX hbl hbA rfl rfl hj1 (by clear hj1 hj2; omega) dL_law_254 dL_law_255 dL_law_257 dL_law_258 dL_law_259 ?_
  refine g_arg C hX hbl hbA rfl rfl hj2 (by clear hj1 hj2; omega) dL_law_260 dL_law_261 dL_law_263 dL_law_264 dL_law_265 ?_
  refine g_callVi C (c_X11_sort h1) (cwV 2 C.2.2.2.2.1 (gLift gL_law_X11_sort) rfl rfl rfl (by decide +kernel) ⟨Nat.le_of_ble_eq_true rfl, Nat.le_of_ble_eq_true rfl⟩) ob_X11 rfl rfl rfl rfl (Nat.le_of_ble_eq_true rfl) dL_law_266 ⟨Nat.le_trans hcs.1 (Nat.le_of_ble_eq_true rfl), Nat.le_trans hcs.2 (Nat.le_of_ble_eq_true rfl)⟩ ?_
  refine g_aload_n (i := 2) C dL_law_269 rfl rfl ?_
  refine g_arg C hX hbl hbA rfl rfl hj1 (by clear hj1 hj2; omega) dL_law_270 dL_law_271 dL_law_273 dL_law_274 dL_law_275 ?_
  refine g_arg C hX hbl hbA rfl rfl hj2 (by clear hj1 hj2; omega) dL_law_276 dL_law_277 dL_law_279 dL_law_280 dL_law_281 ?_
  refine g_callVi C (c_X12_sort h2) (cwV 2 C.2.2.2.2.1 (gLift gL_law_X12_sort) rfl rfl rfl (by decide +kernel) ⟨Nat.le_of_ble_eq_true rfl, Nat.le_of_ble_eq_true rfl⟩) ob_X12 rfl rfl rfl rfl (Nat.le_of_ble_eq_true rfl) dL_law_282 ⟨Nat.le_trans hcs.1 (Nat.le_of_ble_eq_true rfl), Nat.le_trans hcs.2 (Nat.le_of_ble_eq_true rfl)⟩ ?_
  exact g_icmp_eq (tgt := 1842) C dL_law_285 (by decide) rfl rfl (fun _ => kk _ _ _ hR2 (Nat.le_succ _) (Nat.le_add_right _ _)) (fun z => absurd rfl z)
theorem law_c2 (C : Cx p s m [Value.ref b].toArray c cL_law 8 RL wsLw D ca A) (hX : va_X b L xs s s.heap) (hbl : b < s.heap.size) (hbA : ¬ A b) (hR : Rel σ) (hu : 0 ≤ u ∧ u + 5 < (L : Int)) (hL : L ≤ 384) (hcs : cells ≤ 600000 ∧ slots ≤ 7300000) (kk : ∀ (σ' : Mem) (cells' slots' : Nat), Rel σ' → cells' ≤ cells + 1 → slots' ≤ slots + 6 → G p l e room_1 s m [Value.ref b].toArray below meth c 8 D ca ad A cells' slots' Q σ' 1842 (lvB b ad u) []) : G p l e room_1 s m [Value.ref b].toArray below meth c 8 D ca ad A cells slots Q σ 290 (lvB b ad u) [] := by
  have hj1 : s32 (u + 1) = (((u + 1).toNat : Nat) : Int) := by rw [s32_of (by omega) (by omega)]; omega
  have hj2 : s32 (u + 2) = (((u + 2).toNat : Nat) : Int) := by rw [s32_of (by omega) (by omega)]; omega
  obtain ⟨r, σ1, σ2, h1, h2, hR2⟩ := op_mark hR (s32_ti (xs (u + 1).toNat)) (s32_ti (xs (u + 2).toNat))
  refine g_aload_n (i := 1) C dL_law_290 rfl rfl ?_
  refine g_arg C hX hbl hbA rfl rfl hj1 (by clear hj1 hj2; omega) dL_law_291 dL_law_292 dL_law_294 dL_law_295 dL_law_296 ?_
  refine g_arg C hX hbl hbA rfl rfl hj2 (by clear hj1 hj2; omega) dL_law_297 dL_law_298 dL_law_300 dL_law_301 dL_law_302 ?_
  refine g_callVi C (c_X11_mark h1) (cwV 2 C.2.2.2.2.1 (gLift gL_law_X11_mark) rfl rfl rfl (by decide +kernel) ⟨Nat.le_of_ble_eq_true rfl, Nat.le_of_ble_eq_true rfl⟩) ob_X11 rfl rfl rfl rfl (Nat.le_of_ble_eq_true rfl) dL_law_303 ⟨Nat.le_trans hcs.1 (Nat.le_of_ble_eq_true rfl), Nat.le_trans hcs.2 (Nat.le_of_ble_eq_true rfl)⟩ ?_
  refine g_aload_n (i := 2) C dL_law_306 rfl rfl ?_
  refine g_arg C hX hbl hbA rfl rfl hj1 (by clear hj1 hj2; omega) dL_law_307 dL_law_308 dL_law_310 dL_law_311 dL_law_312 ?_
  refine g_arg C hX hbl hbA rfl rfl hj2 (by clear hj1 hj2; omega) dL_law_313 dL_law_314 dL_law_316 dL_law_317 dL_law_318 ?_
  refine g_callVi C (c_X12_mark h2) (cwV 2 C.2.2.2.2.1 (gLift gL_law_X12_mark) rfl rfl rfl (by decide +kernel) ⟨Nat.le_of_ble_eq_true rfl, Nat.le_of_ble_eq_true rfl⟩) ob_X12 rfl rfl rfl rfl (Nat.le_of_ble_eq_true rfl) dL_law_319 ⟨Nat.le_trans hcs.1 (Nat.le_of_ble_eq_true rfl), Nat.le_trans hcs.2 (Nat.le_of_ble_eq_true rfl)⟩ ?_
  exact g_icmp_eq (tgt := 1842) C dL_law_322 (by decide) rfl rfl (fun _ => kk _ _ _ hR2 (Nat.le_succ _) (Nat.le_add_right _ _)) (fun z => absurd rfl z)
theorem law_c3 (C : Cx p s m [Value.ref b].toArray c cL_law 8 RL wsLw D ca A) (hX : va_X b L xs s s.heap) (hbl : b < s.heap.size) (hbA : ¬ A b) (hR : Rel σ) (hu : 0 ≤ u ∧ u + 5 < (L : Int)) (hL : L ≤ 384) (hcs : cells ≤ 600000 ∧ slots ≤ 7300000) (kk : ∀ (σ' : Mem) (cells' slots' : Nat), Rel σ' → cells' ≤ cells + 1 → slots' ≤ slots + 6 → G p l e room_1 s m [Value.ref b].toArray below meth c 8 D ca ad A cells' slots' Q σ' 1842 (lvB b ad u) []) : G p l e room_1 s m [Value.ref b].toArray below meth c 8 D ca ad A cells slots Q σ 327 (lvB b ad u) [] := by
  have hj1 : s32 (u + 1) = (((u + 1).toNat : Nat) : Int) := by rw [s32_of (by omega) (by omega)]; omega
  have hj2 : s32 (u + 2) = (((u + 2).toNat : Nat) : Int) := by rw [s32_of (by omega) (by omega)]; omega
  have hj3 : s32 (u + 3) = (((u + 3).toNat : Nat) : Int) := by rw [s32_of (by omega) (by omega)]; omega
  obtain ⟨r, σ1, σ2, h1, h2, hR2⟩ := op_change hR (s32_ti (xs (u + 1).toNat)) (s32_ti (xs (u + 2).toNat)) (s32_ti (xs (u + 3).toNat))
  refine g_aload_n (i := 1) C dL_law_327 rfl rfl ?_
  refine g_arg C hX hbl hbA rfl rfl hj1 (by clear hj1 hj2 hj3; omega) dL_law_328 dL_law_329 dL_law_331 dL_law_332 dL_law_333 ?_
  refine g_arg C hX hbl hbA rfl rfl hj2 (by clear hj1 hj2 hj3; omega) dL_law_334 dL_law_335 dL_law_337 dL_law_338 dL_law_339 ?_
  refine g_arg C hX hbl hbA rfl rfl hj3 (by clear hj1 hj2 hj3; omega) dL_law_340 dL_law_341 dL_law_343 dL_law_344 dL_law_345 ?_
  refine g_callVi C (c_X11_change h1) (cwV 3 C.2.2.2.2.1 (gLift gL_law_X11_change) rfl rfl rfl (by decide +kernel) ⟨Nat.le_of_ble_eq_true rfl, Nat.le_of_ble_eq_true rfl⟩) ob_X11 rfl rfl rfl rfl (Nat.le_of_ble_eq_true rfl) dL_law_346 ⟨Nat.le_trans hcs.1 (Nat.le_of_ble_eq_true rfl), Nat.le_trans hcs.2 (Nat.le_of_ble_eq_true rfl)⟩ ?_
  refine g_aload_n (i := 2) C dL_law_349 rfl rfl ?_
  refine g_arg C hX hbl hbA rfl rfl hj1 (by clear hj1 hj2 hj3; omega) dL_law_350 dL_law_351 dL_law_353 dL_law_354 dL_law_355 ?_
  refine g_arg C hX hbl hbA rfl rfl hj2 (by clear hj1 hj2 hj3; omega) dL_law_356 dL_law_357 dL_law_359 dL_law_360 dL_law_361 ?_
  refine g_arg C hX hbl hbA rfl rfl hj3 (by clear hj1 hj2 hj3; omega) dL_law_362 dL_law_363 dL_law_365 dL_law_366 dL_law_367 ?_
  refine g_callVi C (c_X12_change h2) (cwV 3 C.2.2.2.2.1 (gLift gL_law_X12_change) rfl rfl rfl (by decide +kernel) ⟨Nat.le_of_ble_eq_true rfl, Nat.le_of_ble_eq_true rfl⟩) ob_X12 rfl rfl rfl rfl (Nat.le_of_ble_eq_true rfl) dL_law_368 ⟨Nat.le_trans hcs.1 (Nat.le_of_ble_eq_true rfl), Nat.le_trans hcs.2 (Nat.le_of_ble_eq_true rfl)⟩ ?_
  exact g_icmp_eq (tgt := 1842) C dL_law_371 (by decide) rfl rfl (fun _ => kk _ _ _ hR2 (Nat.le_succ _) (Nat.le_add_right _ _)) (fun z => absurd rfl z)
theorem law_c4 (C : Cx p s m [Value.ref b].toArray c cL_law 8 RL wsLw D ca A) (hX : va_X b L xs s s.heap) (hbl : b < s.heap.size) (hbA : ¬ A b) (hR : Rel σ) (hu : 0 ≤ u ∧ u + 5 < (L : Int)) (hL : L ≤ 384) (hcs : cells ≤ 600000 ∧ slots ≤ 7300000) (kk : ∀ (σ' : Mem) (cells' slots' : Nat), Rel σ' → cells' ≤ cells + 1 → slots' ≤ slots + 6 → G p l e room_1 s m [Value.ref b].toArray below meth c 8 D ca ad A cells' slots' Q σ' 1842 (lvB b ad u) []) : G p l e room_1 s m [Value.ref b].toArray below meth c 8 D ca ad A cells slots Q σ 376 (lvB b ad u) [] := by
  have hj1 : s32 (u + 1) = (((u + 1).toNat : Nat) : Int) := by rw [s32_of (by omega) (by omega)]; omega
  have hj2 : s32 (u + 2) = (((u + 2).toNat : Nat) : Int) := by rw [s32_of (by omega) (by omega)]; omega
  have hj3 : s32 (u + 3) = (((u + 3).toNat : Nat) : Int) := by rw [s32_of (by omega) (by omega)]; omega
  obtain ⟨r, σ1, σ2, h1, h2, hR2⟩ := op_cost hR (s32_ti (xs (u + 1).toNat)) (s32_ti (xs (u + 2).toNat)) (s32_ti (xs (u + 3).toNat))
  refine g_aload_n (i := 1) C dL_law_376 rfl rfl ?_
  refine g_arg C hX hbl hbA rfl rfl hj1 (by clear hj1 hj2 hj3; omega) dL_law_377 dL_law_378 dL_law_380 dL_law_381 dL_law_382 ?_
  refine g_arg C hX hbl hbA rfl rfl hj2 (by clear hj1 hj2 hj3; omega) dL_law_383 dL_law_384 dL_law_386 dL_law_387 dL_law_388 ?_
  refine g_arg C hX hbl hbA rfl rfl hj3 (by clear hj1 hj2 hj3; omega) dL_law_389 dL_law_390 dL_law_392 dL_law_393 dL_law_394 ?_
  refine g_callVi C (c_X11_cost h1) (cwV 3 C.2.2.2.2.1 (gLift gL_law_X11_cost) rfl rfl rfl (by decide +kernel) ⟨Nat.le_of_ble_eq_true rfl, Nat.le_of_ble_eq_true rfl⟩) ob_X11 rfl rfl rfl rfl (Nat.le_of_ble_eq_true rfl) dL_law_395 ⟨Nat.le_trans hcs.1 (Nat.le_of_ble_eq_true rfl), Nat.le_trans hcs.2 (Nat.le_of_ble_eq_true rfl)⟩ ?_
  refine g_aload_n (i := 2) C dL_law_398 rfl rfl ?_
  refine g_arg C hX hbl hbA rfl rfl hj1 (by clear hj1 hj2 hj3; omega) dL_law_399 dL_law_400 dL_law_402 dL_law_403 dL_law_404 ?_
  refine g_arg C hX hbl hbA rfl rfl hj2 (by clear hj1 hj2 hj3; omega) dL_law_405 dL_law_406 dL_law_408 dL_law_409 dL_law_410 ?_
  refine g_arg C hX hbl hbA rfl rfl hj3 (by clear hj1 hj2 hj3; omega) dL_law_411 dL_law_412 dL_law_414 dL_law_415 dL_law_416 ?_
  refine g_callVi C (c_X12_cost h2) (cwV 3 C.2.2.2.2.1 (gLift gL_law_X12_cost) rfl rfl rfl (by decide +kernel) ⟨Nat.le_of_ble_eq_true rfl, Nat.le_of_ble_eq_true rfl⟩) ob_X12 rfl rfl rfl rfl (Nat.le_of_ble_eq_true rfl) dL_law_417 ⟨Nat.le_trans hcs.1 (Nat.le_of_ble_eq_true rfl), Nat.le_trans hcs.2 (Nat.le_of_ble_eq_true rfl)⟩ ?_
  exact g_icmp_eq (tgt := 1842) C dL_law_420 (by decide) rfl rfl (fun _ => kk _ _ _ hR2 (Nat.le_succ _) (Nat.le_add_right _ _)) (fun z => absurd rfl z)
theorem law_c5 (C : Cx p s m [Value.ref b].toArray c cL_law 8 RL wsLw D ca A) (hX : va_X b L xs s s.heap) (hbl : b < s.heap.size) (hbA : ¬ A b) (hR : Rel σ) (hu : 0 ≤ u ∧ u + 5 < (L : Int)) (hL : L ≤ 384) (hcs : cells ≤ 600000 ∧ slots ≤ 7300000) (kk : ∀ (σ' : Mem) (cells' slots' : Nat), Rel σ' → cells' ≤ cells + 1 → slots' ≤ slots + 6 → G p l e room_1 s m [Value.ref b].toArray below meth c 8 D ca ad A cells' slots' Q σ' 1842 (lvB b ad u) []) : G p l e room_1 s m [Value.ref b].toArray below meth c 8 D ca ad A cells slots Q σ 425 (lvB b ad u) [] := by
  have hj1 : s32 (u + 1) = (((u + 1).toNat : Nat) : Int) := by rw [s32_of (by omega) (by omega)]; omega
  have hj2 : s32 (u + 2) = (((u + 2).toNat : Nat) : Int) := by rw [s32_of (by omega) (by omega)]; omega
  obtain ⟨r, σ1, σ2, h1, h2, hR2⟩ := op_think hR (s32_ti (xs (u + 1).toNat)) (s32_ti (xs (u + 2).toNat))
  refine g_aload_n (i := 1) C dL_law_425 rfl rfl ?_
  refine g_arg C hX hbl hbA rfl rfl hj1 (by clear hj1 hj2; omega) dL_law_426 dL_law_427 dL_law_429 dL_law_430 dL_law_431 ?_
  refine g_arg C hX hbl hbA rfl rfl hj2 (by clear hj1 hj2; omega) dL_law_432 dL_law_433 dL_law_435 dL_law_436 dL_law_437 ?_
  refine g_callVi C (c_X11_think h1) (cwV 2 C.2.2.2.2.1 (gLift gL_law_X11_think) rfl rfl rfl (by decide +kernel) ⟨Nat.le_of_ble_eq_true rfl, Nat.le_of_ble_eq_true rfl⟩) ob_X11 rfl rfl rfl rfl (Nat.le_of_ble_eq_true rfl) dL_law_438 ⟨Nat.le_trans hcs.1 (Nat.le_of_ble_eq_true rfl), Nat.le_trans hcs.2 (Nat.le_of_ble_eq_true rfl)⟩ ?_
  refine g_aload_n (i := 2) C dL_law_441 rfl rfl ?_
  refine g_arg C hX hbl hbA rfl rfl hj1 (by clear hj1 hj2; omega) dL_law_442 dL_law_443 dL_law_445 dL_law_446 dL_law_447 ?_
  refine g_arg C hX hbl hbA rfl rfl hj2 (by clear hj1 hj2; omega) dL_law_448 dL_law_449 dL_law_451 dL_law_452 dL_law_453 ?_
  refine g_callVi C (c_X12_think h2) (cwV 2 C.2.2.2.2.1 (gLift gL_law_X12_think) rfl rfl rfl (by decide +kernel) ⟨Nat.le_of_ble_eq_true rfl, Nat.le_of_ble_eq_true rfl⟩) ob_X12 rfl rfl rfl rfl (Nat.le_of_ble_eq_true rfl) dL_law_454 ⟨Nat.le_trans hcs.1 (Nat.le_of_ble_eq_true rfl), Nat.le_trans hcs.2 (Nat.le_of_ble_eq_true rfl)⟩ ?_
  exact g_icmp_eq (tgt := 1842) C dL_law_457 (by decide) rfl rfl (fun _ => kk _ _ _ hR2 (Nat.le_succ _) (Nat.le_add_right _ _)) (fun z => absurd rfl z)
theorem law_c6 (C : Cx p s m [Value.ref b].toArray c cL_law 8 RL wsLw D ca A) (hX : va_X b L xs s s.heap) (hbl : b < s.heap.size) (hbA : ¬ A b) (hR : Rel σ) (hu : 0 ≤ u ∧ u + 5 < (L : Int)) (hL : L ≤ 384) (hcs : cells ≤ 600000 ∧ slots ≤ 7300000) (kk : ∀ (σ' : Mem) (cells' slots' : Nat), Rel σ' → cells' ≤ cells + 1 → slots' ≤ slots + 6 → G p l e room_1 s m [Value.ref b].toArray below meth c 8 D ca ad A cells' slots' Q σ' 1842 (lvB b ad u) []) : G p l e room_1 s m [Value.ref b].toArray below meth c 8 D ca ad A cells slots Q σ 462 (lvB b ad u) [] := by
  have hj1 : s32 (u + 1) = (((u + 1).toNat : Nat) : Int) := by rw [s32_of (by omega) (by omega)]; omega
  have hj2 : s32 (u + 2) = (((u + 2).toNat : Nat) : Int) := by rw [s32_of (by omega) (by omega)]; omega
  have hj3 : s32 (u + 3) = (((u + 3).toNat : Nat) : Int) := by rw [s32_of (by omega) (by omega)]; omega
  obtain ⟨r, σ1, σ2, h1, h2, hR2⟩ := op_pay hR (s32_ti (xs (u + 1).toNat)) (s32_ti (xs (u + 2).toNat)) (s32_ti (xs (u + 3).toNat))
  refine g_aload_n (i := 1) C dL_law_462 rfl rfl ?_
  refine g_arg C hX hbl hbA rfl rfl hj1 (by clear hj1 hj2 hj3; omega) dL_law_463 dL_law_464 dL_law_466 dL_law_467 dL_law_468 ?_
  refine g_arg C hX hbl hbA rfl rfl hj2 (by clear hj1 hj2 hj3; omega) dL_law_469 dL_law_470 dL_law_472 dL_law_473 dL_law_474 ?_
  refine g_arg C hX hbl hbA rfl rfl hj3 (by clear hj1 hj2 hj3; omega) dL_law_475 dL_law_476 dL_law_478 dL_law_479 dL_law_480 ?_
  refine g_callVl C (c_X11_pay h1) (cwV 3 C.2.2.2.2.1 (gLift gL_law_X11_pay) rfl rfl rfl (by decide +kernel) ⟨Nat.le_of_ble_eq_true rfl, Nat.le_of_ble_eq_true rfl⟩) ob_X11 rfl rfl rfl rfl (Nat.le_of_ble_eq_true rfl) dL_law_481 ⟨Nat.le_trans hcs.1 (Nat.le_of_ble_eq_true rfl), Nat.le_trans hcs.2 (Nat.le_of_ble_eq_true rfl)⟩ ?_
  refine g_aload_n (i := 2) C dL_law_484 rfl rfl ?_
  refine g_arg C hX hbl hbA rfl rfl hj1 (by clear hj1 hj2 hj3; omega) dL_law_485 dL_law_486 dL_law_488 dL_law_489 dL_law_490 ?_
  refine g_arg C hX hbl hbA rfl rfl hj2 (by clear hj1 hj2 hj3; omega) dL_law_491 dL_law_492 dL_law_494 dL_law_495 dL_law_496 ?_
  refine g_arg C hX hbl hbA rfl rfl hj3 (by clear hj1 hj2 hj3; omega) dL_law_497 dL_law_498 dL_law_500 dL_law_501 dL_law_502 ?_
  refine g_callVl C (c_X12_pay h2) (cwV 3 C.2.2.2.2.1 (gLift gL_law_X12_pay) rfl rfl rfl (by decide +kernel) ⟨Nat.le_of_ble_eq_true rfl, Nat.le_of_ble_eq_true rfl⟩) ob_X12 rfl rfl rfl rfl (Nat.le_of_ble_eq_true rfl) dL_law_503 ⟨Nat.le_trans hcs.1 (Nat.le_of_ble_eq_true rfl), Nat.le_trans hcs.2 (Nat.le_of_ble_eq_true rfl)⟩ ?_
  exact g_lcmp_eq (tgt := 1842) C dL_law_506 dL_law_507 (by decide) rfl rfl (fun _ => kk _ _ _ hR2 (Nat.le_succ _) (Nat.le_add_right _ _)) (fun z => absurd rfl z)
theorem law_c7 (C : Cx p s m [Value.ref b].toArray c cL_law 8 RL wsLw D ca A) (hX : va_X b L xs s s.heap) (hbl : b < s.heap.size) (hbA : ¬ A b) (hR : Rel σ) (hu : 0 ≤ u ∧ u + 5 < (L : Int)) (hL : L ≤ 384) (hcs : cells ≤ 600000 ∧ slots ≤ 7300000) (kk : ∀ (σ' : Mem) (cells' slots' : Nat), Rel σ' → cells' ≤ cells + 1 → slots' ≤ slots + 6 → G p l e room_1 s m [Value.ref b].toArray below meth c 8 D ca ad A cells' slots' Q σ' 1842 (lvB b ad u) []) : G p l e room_1 s m [Value.ref b].toArray below meth c 8 D ca ad A cells slots Q σ 512 (lvB b ad u) [] := by
  have hj1 : s32 (u + 1) = (((u + 1).toNat : Nat) : Int) := by rw [s32_of (by omega) (by omega)]; omega
  have hj2 : s32 (u + 2) = (((u + 2).toNat : Nat) : Int) := by rw [s32_of (by omega) (by omega)]; omega
  have hj3 : s32 (u + 3) = (((u + 3).toNat : Nat) : Int) := by rw [s32_of (by omega) (by omega)]; omega
  obtain ⟨r, σ1, σ2, h1, h2, hR2⟩ := op_gets hR (s32_ti (xs (u + 1).toNat)) (s32_ti (xs (u + 2).toNat)) (s32_ti (xs (u + 3).toNat))
  refine g_aload_n (i := 1) C dL_law_512 rfl rfl ?_
  refine g_arg C hX hbl hbA rfl rfl hj1 (by clear hj1 hj2 hj3; omega) dL_law_513 dL_law_514 dL_law_516 dL_law_517 dL_law_518 ?_
  refine g_arg C hX hbl hbA rfl rfl hj2 (by clear hj1 hj2 hj3; omega) dL_law_519 dL_law_520 dL_law_522 dL_law_523 dL_law_524 ?_
  refine g_arg C hX hbl hbA rfl rfl hj3 (by clear hj1 hj2 hj3; omega) dL_law_525 dL_law_526 dL_law_528 dL_law_529 dL_law_530 ?_
  refine g_callVl C (c_X11_gets h1) (cwV 3 C.2.2.2.2.1 (gLift gL_law_X11_gets) rfl rfl rfl (by decide +kernel) ⟨Nat.le_of_ble_eq_true rfl, Nat.le_of_ble_eq_true rfl⟩) ob_X11 rfl rfl rfl rfl (Nat.le_of_ble_eq_true rfl) dL_law_531 ⟨Nat.le_trans hcs.1 (Nat.le_of_ble_eq_true rfl), Nat.le_trans hcs.2 (Nat.le_of_ble_eq_true rfl)⟩ ?_
  refine g_aload_n (i := 2) C dL_law_534 rfl rfl ?_
  refine g_arg C hX hbl hbA rfl rfl hj1 (by clear hj1 hj2 hj3; omega) dL_law_535 dL_law_536 dL_law_538 dL_law_539 dL_law_540 ?_
  refine g_arg C hX hbl hbA rfl rfl hj2 (by clear hj1 hj2 hj3; omega) dL_law_541 dL_law_542 dL_law_544 dL_law_545 dL_law_546 ?_
  refine g_arg C hX hbl hbA rfl rfl hj3 (by clear hj1 hj2 hj3; omega) dL_law_547 dL_law_548 dL_law_550 dL_law_551 dL_law_552 ?_
  refine g_callVl C (c_X12_gets h2) (cwV 3 C.2.2.2.2.1 (gLift gL_law_X12_gets) rfl rfl rfl (by decide +kernel) ⟨Nat.le_of_ble_eq_true rfl, Nat.le_of_ble_eq_true rfl⟩) ob_X12 rfl rfl rfl rfl (Nat.le_of_ble_eq_true rfl) dL_law_553 ⟨Nat.le_trans hcs.1 (Nat.le_of_ble_eq_true rfl), Nat.le_trans hcs.2 (Nat.le_of_ble_eq_true rfl)⟩ ?_
  exact g_lcmp_eq (tgt := 1842) C dL_law_556 dL_law_557 (by decide) rfl rfl (fun _ => kk _ _ _ hR2 (Nat.le_succ _) (Nat.le_add_right _ _)) (fun z => absurd rfl z)
theorem law_c8 (C : Cx p s m [Value.ref b].toArray c cL_law 8 RL wsLw D ca A) (hX : va_X b L xs s s.heap) (hbl : b < s.heap.size) (hbA : ¬ A b) (hR : Rel σ) (hu : 0 ≤ u ∧ u + 5 < (L : Int)) (hL : L ≤ 384) (hcs : cells ≤ 600000 ∧ slots ≤ 7300000) (kk : ∀ (σ' : Mem) (cells' slots' : Nat), Rel σ' → cells' ≤ cells + 1 → slots' ≤ slots + 6 → G p l e room_1 s m [Value.ref b].toArray below meth c 8 D ca ad A cells' slots' Q σ' 1842 (lvB b ad u) []) : G p l e room_1 s m [Value.ref b].toArray below meth c 8 D ca ad A cells slots Q σ 562 (lvB b ad u) [] := by
  have hj1 : s32 (u + 1) = (((u + 1).toNat : Nat) : Int) := by rw [s32_of (by omega) (by omega)]; omega
  obtain ⟨r, σ1, σ2, h1, h2, hR2⟩ := op_rather hR (s32_ti (xs (u + 1).toNat))
  refine g_aload_n (i := 1) C dL_law_562 rfl rfl ?_
  refine g_arg C hX hbl hbA rfl rfl hj1 (by clear hj1; omega) dL_law_563 dL_law_564 dL_law_566 dL_law_567 dL_law_568 ?_
  refine g_callVi C (c_X11_rather h1) (cwV 1 C.2.2.2.2.1 (gLift gL_law_X11_rather) rfl rfl rfl (by decide +kernel) ⟨Nat.le_of_ble_eq_true rfl, Nat.le_of_ble_eq_true rfl⟩) ob_X11 rfl rfl rfl rfl (Nat.le_of_ble_eq_true rfl) dL_law_569 ⟨Nat.le_trans hcs.1 (Nat.le_of_ble_eq_true rfl), Nat.le_trans hcs.2 (Nat.le_of_ble_eq_true rfl)⟩ ?_
  refine g_aload_n (i := 2) C dL_law_572 rfl rfl ?_
  refine g_arg C hX hbl hbA rfl rfl hj1 (by clear hj1; omega) dL_law_573 dL_law_574 dL_law_576 dL_law_577 dL_law_578 ?_
  refine g_callVi C (c_X12_rather h2) (cwV 1 C.2.2.2.2.1 (gLift gL_law_X12_rather) rfl rfl rfl (by decide +kernel) ⟨Nat.le_of_ble_eq_true rfl, Nat.le_of_ble_eq_true rfl⟩) ob_X12 rfl rfl rfl rfl (Nat.le_of_ble_eq_true rfl) dL_law_579 ⟨Nat.le_trans hcs.1 (Nat.le_of_ble_eq_true rfl), Nat.le_trans hcs.2 (Nat.le_of_ble_eq_true rfl)⟩ ?_
  exact g_icmp_eq (tgt := 1842) C dL_law_582 (by decide) rfl rfl (fun _ => kk _ _ _ hR2 (Nat.le_succ _) (Nat.le_add_right _ _)) (fun z => absurd rfl z)
theorem law_c9 (C : Cx p s m [Value.ref b].toArray c cL_law 8 RL wsLw D ca A) (hX : va_X b L xs s s.heap) (hbl : b < s.heap.size) (hbA : ¬ A b) (hR : Rel σ) (hu : 0 ≤ u ∧ u + 5 < (L : Int)) (hL : L ≤ 384) (hcs : cells ≤ 600000 ∧ slots ≤ 7300000) (kk : ∀ (σ' : Mem) (cells' slots' : Nat), Rel σ' → cells' ≤ cells + 1 → slots' ≤ slots + 6 → G p l e room_1 s m [Value.ref b].toArray below meth c 8 D ca ad A cells' slots' Q σ' 1842 (lvB b ad u) []) : G p l e room_1 s m [Value.ref b].toArray below meth c 8 D ca ad A cells slots Q σ 587 (lvB b ad u) [] := by
  have hj1 : s32 (u + 1) = (((u + 1).toNat : Nat) : Int) := by rw [s32_of (by omega) (by omega)]; omega
  obtain ⟨r, σ1, σ2, h1, h2, hR2⟩ := op_next hR (s32_ti (xs (u + 1).toNat))
  refine g_aload_n (i := 1) C dL_law_587 rfl rfl ?_
  refine g_arg C hX hbl hbA rfl rfl hj1 (by clear hj1; omega) dL_law_588 dL_law_589 dL_law_591 dL_law_592 dL_law_593 ?_
  refine g_callVi C (c_X11_next h1) (cwV 1 C.2.2.2.2.1 (gLift gL_law_X11_next) rfl rfl rfl (by decide +kernel) ⟨Nat.le_of_ble_eq_true rfl, Nat.le_of_ble_eq_true rfl⟩) ob_X11 rfl rfl rfl rfl (Nat.le_of_ble_eq_true rfl) dL_law_594 ⟨Nat.le_trans hcs.1 (Nat.le_of_ble_eq_true rfl), Nat.le_trans hcs.2 (Nat.le_of_ble_eq_true rfl)⟩ ?_
  refine g_aload_n (i := 2) C dL_law_597 rfl rfl ?_
  refine g_arg C hX hbl hbA rfl rfl hj1 (by clear hj1; omega) dL_law_598 dL_law_599 dL_law_601 dL_law_602 dL_law_603 ?_
  refine g_callVi C (c_X12_next h2) (cwV 1 C.2.2.2.2.1 (gLift gL_law_X12_next) rfl rfl rfl (by decide +kernel) ⟨Nat.le_of_ble_eq_true rfl, Nat.le_of_ble_eq_true rfl⟩) ob_X12 rfl rfl rfl rfl (Nat.le_of_ble_eq_true rfl) dL_law_604 ⟨Nat.le_trans hcs.1 (Nat.le_of_ble_eq_true rfl), Nat.le_trans hcs.2 (Nat.le_of_ble_eq_true rfl)⟩ ?_
  exact g_icmp_eq (tgt := 1842) C dL_law_607 (by decide) rfl rfl (fun _ => kk _ _ _ hR2 (Nat.le_succ _) (Nat.le_add_right _ _)) (fun z => absurd rfl z)
theorem law_c10 (C : Cx p s m [Value.ref b].toArray c cL_law 8 RL wsLw D ca A) (hX : va_X b L xs s s.heap) (hbl : b < s.heap.size) (hbA : ¬ A b) (hR : Rel σ) (hu : 0 ≤ u ∧ u + 5 < (L : Int)) (hL : L ≤ 384) (hcs : cells ≤ 600000 ∧ slots ≤ 7300000) (kk : ∀ (σ' : Mem) (cells' slots' : Nat), Rel σ' → cells' ≤ cells + 1 → slots' ≤ slots + 6 → G p l e room_1 s m [Value.ref b].toArray below meth c 8 D ca ad A cells' slots' Q σ' 1842 (lvB b ad u) []) : G p l e room_1 s m [Value.ref b].toArray below meth c 8 D ca ad A cells slots Q σ 612 (lvB b ad u) [] := by
  have hj1 : s32 (u + 1) = (((u + 1).toNat : Nat) : Int) := by rw [s32_of (by omega) (by omega)]; omega
  obtain ⟨r, σ1, σ2, h1, h2, hR2⟩ := op_all hR (s32_ti (xs (u + 1).toNat))
  refine g_aload_n (i := 1) C dL_law_612 rfl rfl ?_
  refine g_arg C hX hbl hbA rfl rfl hj1 (by clear hj1; omega) dL_law_613 dL_law_614 dL_law_616 dL_law_617 dL_law_618 ?_
  refine g_callVi C (c_X11_all h1) (cwV 1 C.2.2.2.2.1 (gLift gL_law_X11_all) rfl rfl rfl (by decide +kernel) ⟨Nat.le_of_ble_eq_true rfl, Nat.le_of_ble_eq_true rfl⟩) ob_X11 rfl rfl rfl rfl (Nat.le_of_ble_eq_true rfl) dL_law_619 ⟨Nat.le_trans hcs.1 (Nat.le_of_ble_eq_true rfl), Nat.le_trans hcs.2 (Nat.le_of_ble_eq_true rfl)⟩ ?_
  refine g_aload_n (i := 2) C dL_law_622 rfl rfl ?_
  refine g_arg C hX hbl hbA rfl rfl hj1 (by clear hj1; omega) dL_law_623 dL_law_624 dL_law_626 dL_law_627 dL_law_628 ?_
  refine g_callVi C (c_X12_all h2) (cwV 1 C.2.2.2.2.1 (gLift gL_law_X12_all) rfl rfl rfl (by decide +kernel) ⟨Nat.le_of_ble_eq_true rfl, Nat.le_of_ble_eq_true rfl⟩) ob_X12 rfl rfl rfl rfl (Nat.le_of_ble_eq_true rfl) dL_law_629 ⟨Nat.le_trans hcs.1 (Nat.le_of_ble_eq_true rfl), Nat.le_trans hcs.2 (Nat.le_of_ble_eq_true rfl)⟩ ?_
  exact g_icmp_eq (tgt := 1842) C dL_law_632 (by decide) rfl rfl (fun _ => kk _ _ _ hR2 (Nat.le_succ _) (Nat.le_add_right _ _)) (fun z => absurd rfl z)
theorem law_c11 (C : Cx p s m [Value.ref b].toArray c cL_law 8 RL wsLw D ca A) (hX : va_X b L xs s s.heap) (hbl : b < s.heap.size) (hbA : ¬ A b) (hR : Rel σ) (hu : 0 ≤ u ∧ u + 5 < (L : Int)) (hL : L ≤ 384) (hcs : cells ≤ 600000 ∧ slots ≤ 7300000) (kk : ∀ (σ' : Mem) (cells' slots' : Nat), Rel σ' → cells' ≤ cells + 1 → slots' ≤ slots + 6 → G p l e room_1 s m [Value.ref b].toArray below meth c 8 D ca ad A cells' slots' Q σ' 1842 (lvB b ad u) []) : G p l e room_1 s m [Value.ref b].toArray below meth c 8 D ca ad A cells slots Q σ 637 (lvB b ad u) [] := by
  have hj1 : s32 (u + 1) = (((u + 1).toNat : Nat) : Int) := by rw [s32_of (by omega) (by omega)]; omega
  obtain ⟨r, σ1, σ2, h1, h2, hR2⟩ := op_falls hR (s32_ti (xs (u + 1).toNat))
  refine g_aload_n (i := 1) C dL_law_637 rfl rfl ?_
  refine g_arg C hX hbl hbA rfl rfl hj1 (by clear hj1; omega) dL_law_638 dL_law_639 dL_law_641 dL_law_642 dL_law_643 ?_
  refine g_callVi C (c_X11_falls h1) (cwV 1 C.2.2.2.2.1 (gLift gL_law_X11_falls) rfl rfl rfl (by decide +kernel) ⟨Nat.le_of_ble_eq_true rfl, Nat.le_of_ble_eq_true rfl⟩) ob_X11 rfl rfl rfl rfl (Nat.le_of_ble_eq_true rfl) dL_law_644 ⟨Nat.le_trans hcs.1 (Nat.le_of_ble_eq_true rfl), Nat.le_trans hcs.2 (Nat.le_of_ble_eq_true rfl)⟩ ?_
  refine g_aload_n (i := 2) C dL_law_647 rfl rfl ?_
  refine g_arg C hX hbl hbA rfl rfl hj1 (by clear hj1; omega) dL_law_648 dL_law_649 dL_law_651 dL_law_652 dL_law_653 ?_
  refine g_callVi C (c_X12_falls h2) (cwV 1 C.2.2.2.2.1 (gLift gL_law_X12_falls) rfl rfl rfl (by decide +kernel) ⟨Nat.le_of_ble_eq_true rfl, Nat.le_of_ble_eq_true rfl⟩) ob_X12 rfl rfl rfl rfl (Nat.le_of_ble_eq_true rfl) dL_law_654 ⟨Nat.le_trans hcs.1 (Nat.le_of_ble_eq_true rfl), Nat.le_trans hcs.2 (Nat.le_of_ble_eq_true rfl)⟩ ?_
  exact g_icmp_eq (tgt := 1842) C dL_law_657 (by decide) rfl rfl (fun _ => kk _ _ _ hR2 (Nat.le_succ _) (Nat.le_add_right _ _)) (fun z => absurd rfl z)
end Glc0
