/-! THE LAW: its cases, one for each call (by gen82.py) -/
abbrev kl_Q : Option kq_V → kq_M → Prop := fun r _ => r = some (kq_I 1)
def kl_I (L : Nat) (xs : Nat → Int32) (μ : kq_M) (z : kz_S) : Prop := kK_at μ z ∧ kM_at μ z ∧ kz_ok z ∧ kq_sc μ = (L, xs)
theorem kl_x1 {i : Nat} : nI i + 1 = nI (i + 1) := nI_add i 1
theorem kl_x2 {i : Nat} : nI i + 2 = nI (i + 2) := nI_add i 2
theorem kl_x3 {i : Nat} : nI i + 3 = nI (i + 3) := nI_add i 3
theorem kl_x4 {i : Nat} : nI i + 4 = nI (i + 4) := nI_add i 4
theorem kl_x5 {i : Nat} : nI i + 5 = nI (i + 5) := nI_add i 5
theorem kl_x6 {i : Nat} : nI i + 6 = nI (i + 6) := nI_add i 6
section KL
variable {L i : Nat} {xs : Nat → Int32} {μ μ' : kq_M} {z : kz_S}
theorem kM_at.frK (h : kM_at μ z) (hf : kq_fr kK_P μ μ') : kM_at μ' z := by
  have n : ∀ a b, 20 ≤ b → ¬ kK_P a b := fun a b hb q => by have q' : b ≤ 11 := q; omega
  refine ⟨h.h.fr hf (n 0 21 (by decide)), ?_, fun hb => (h.k hb).fr hf (n 0 30 (by decide)), ?_, fun j hj => ?_, fun s hs => ?_, fun s hs => ?_, fun s hs j hj => ?_, fun k hk => ?_⟩
  · rw [hf.1 _ _ _ (n 0 20 (by decide))]; exact h.b
  · rw [hf.1 _ _ _ (n 0 20 (by decide))]; exact h.n
  · rw [hf.1 _ _ _ (n 0 25 (by decide))]; exact h.t j hj
  · rw [hf.1 _ _ _ (n 0 26 (by decide))]; exact h.B s hs
  · rw [hf.1 _ _ _ (n 0 27 (by decide))]; exact h.L s hs
  · rw [hf.2.1 _ _ _ (n 0 28 (by decide))]; exact h.N s hs j hj
  · rw [hf.1 _ _ _ (n 0 22 (by decide))]; exact h.f k hk
theorem kK_at.frM (h : kK_at μ z) (hf : kq_fr kM_P μ μ') : kK_at μ' z := by
  have n : ∀ a b, b ≤ 11 → ¬ kM_P a b := fun a b hb q => by have q' : 20 ≤ b := q; omega
  refine ⟨h.h.fr hf (fun b _ _ => n _ _ (by omega)), ?_, fun hb => (h.k hb).fr hf (fun b _ _ => n _ _ (by omega)), ?_, fun j hj => ?_, fun s hs => ?_, fun s hs => ?_, fun s hs j hj => ?_, fun k hk => ?_⟩
  · rw [hf.1 _ _ _ (n 0 0 (by decide))]; exact h.b
  · rw [hf.1 _ _ _ (n 0 6 (by decide))]; exact h.n
  · rw [hf.1 _ _ _ (n 0 7 (by decide))]; exact h.t j hj
  · rw [hf.1 _ _ _ (n s 8 (by decide))]; exact h.B s hs
  · rw [hf.1 _ _ _ (n s 8 (by decide))]; exact h.L s hs
  · rw [hf.2.1 _ _ _ (n s 9 (by decide))]; exact h.N s hs j hj
  · rw [hf.1 _ _ _ (n 0 11 (by decide))]; exact h.f k hk
theorem kl_truth (hL : L ≤ 3072) (hi : i + 6 ≤ L) (I : kl_I L xs μ z) (k : ∀ μ' z', kl_I L xs μ' z' → kq_S km_law 12 1278 [some (kq_R 0 40), some (kq_R 0 0), some (kq_R 0 20), some (kq_I (nI i))] [] μ' kl_Q) : kq_S km_law 12 196 [some (kq_R 0 40), some (kq_R 0 0), some (kq_R 0 20), some (kq_I (nI i))] [] μ kl_Q := by
  obtain ⟨aK, aM, hz, hs⟩ := I
  have hj : ∀ k, k < 6 → i + k < (kq_sc μ).1 := fun k hk => by rw [hs]; show i + k < L; omega
  have hb : (kq_sc μ).1 < 2 ^ 31 := by rw [hs]; show L < 2 ^ 31; omega
  refine ks_law_196 <| ks_law_197 <| ks_law_198 <| ks_law_199 <| ks_law_200 <| ks_law_201 (i + 1) kl_x1 (hj 1 (by decide)) hb <| ks_law_202 (Nat.le_of_ble_eq_true rfl) ?_
  refine ko_K_truth μ _ aK (fun μ1 a1 f1 => ?_)
  have m1 := aM.frK f1
  have e1 : kq_sc μ1 = kq_sc μ := f1.2.2
  rw [← e1] at hj hb
  refine ks_law_205 <| ks_law_206 <| ks_law_207 <| ks_law_208 <| ks_law_209 <| ks_law_210 (i + 1) kl_x1 (hj 1 (by decide)) hb <| ks_law_211 (Nat.le_of_ble_eq_true rfl) ?_
  rw [e1]
  refine ko_M_truth μ1 _ m1 (fun μ2 a2 f2 => ?_)
  refine ks_law_214 (fun h214 => ?_) (fun h214 => ?_)
  · exact k μ2 _ ⟨a1.frM f2, a2, kp_truth hz, f2.2.2.trans (e1.trans hs)⟩
  · exact absurd rfl h214
theorem kl_kettle (hL : L ≤ 3072) (hi : i + 6 ≤ L) (I : kl_I L xs μ z) (k : ∀ μ' z', kl_I L xs μ' z' → kq_S km_law 12 1278 [some (kq_R 0 40), some (kq_R 0 0), some (kq_R 0 20), some (kq_I (nI i))] [] μ' kl_Q) : kq_S km_law 12 219 [some (kq_R 0 40), some (kq_R 0 0), some (kq_R 0 20), some (kq_I (nI i))] [] μ kl_Q := by
  obtain ⟨aK, aM, hz, hs⟩ := I
  have hj : ∀ k, k < 6 → i + k < (kq_sc μ).1 := fun k hk => by rw [hs]; show i + k < L; omega
  have hb : (kq_sc μ).1 < 2 ^ 31 := by rw [hs]; show L < 2 ^ 31; omega
  refine ks_law_219 <| ks_law_220 <| ks_law_221 <| ks_law_222 <| ks_law_223 <| ks_law_224 (i + 1) kl_x1 (hj 1 (by decide)) hb <| ks_law_225 <| ks_law_226 <| ks_law_227 <| ks_law_228 <| ks_law_229 (i + 2) kl_x2 (hj 2 (by decide)) hb <| ks_law_230 (Nat.le_of_ble_eq_true rfl) ?_
  refine ko_K_kettle μ _ aK (fun μ1 a1 f1 => ?_)
  have m1 := aM.frK f1
  have e1 : kq_sc μ1 = kq_sc μ := f1.2.2
  rw [← e1] at hj hb
  refine ks_law_233 <| ks_law_234 <| ks_law_235 <| ks_law_236 <| ks_law_237 <| ks_law_238 (i + 1) kl_x1 (hj 1 (by decide)) hb <| ks_law_239 <| ks_law_240 <| ks_law_241 <| ks_law_242 <| ks_law_243 (i + 2) kl_x2 (hj 2 (by decide)) hb <| ks_law_244 (Nat.le_of_ble_eq_true rfl) ?_
  rw [e1]
  refine ko_M_kettle μ1 _ m1 (fun μ2 a2 f2 => ?_)
  refine ks_law_247 (fun h247 => ?_) (fun h247 => ?_)
  · exact k μ2 _ ⟨a1.frM f2, a2, kp_kettle hz, f2.2.2.trans (e1.trans hs)⟩
  · exact absurd rfl h247
theorem kl_witness (hL : L ≤ 3072) (hi : i + 6 ≤ L) (I : kl_I L xs μ z) (k : ∀ μ' z', kl_I L xs μ' z' → kq_S km_law 12 1278 [some (kq_R 0 40), some (kq_R 0 0), some (kq_R 0 20), some (kq_I (nI i))] [] μ' kl_Q) : kq_S km_law 12 252 [some (kq_R 0 40), some (kq_R 0 0), some (kq_R 0 20), some (kq_I (nI i))] [] μ kl_Q := by
  obtain ⟨aK, aM, hz, hs⟩ := I
  have hj : ∀ k, k < 6 → i + k < (kq_sc μ).1 := fun k hk => by rw [hs]; show i + k < L; omega
  have hb : (kq_sc μ).1 < 2 ^ 31 := by rw [hs]; show L < 2 ^ 31; omega
  refine ks_law_252 <| ks_law_253 <| ks_law_254 <| ks_law_255 <| ks_law_256 <| ks_law_257 (i + 1) kl_x1 (hj 1 (by decide)) hb <| ks_law_258 (Nat.le_of_ble_eq_true rfl) ?_
  refine ko_K_witness hz μ _ aK (fun μ1 a1 f1 => ?_)
  have m1 := aM.frK f1
  have e1 : kq_sc μ1 = kq_sc μ := f1.2.2
  rw [← e1] at hj hb
  refine ks_law_261 <| ks_law_262 <| ks_law_263 <| ks_law_264 <| ks_law_265 <| ks_law_266 (i + 1) kl_x1 (hj 1 (by decide)) hb <| ks_law_267 (Nat.le_of_ble_eq_true rfl) ?_
  rw [e1]
  refine ko_M_witness hz μ1 _ m1 (fun μ2 a2 f2 => ?_)
  refine ks_law_270 (fun h270 => ?_) (fun h270 => ?_)
  · exact k μ2 _ ⟨a1.frM f2, a2, kp_witness hz, f2.2.2.trans (e1.trans hs)⟩
  · exact absurd rfl h270
theorem kl_of (hL : L ≤ 3072) (hi : i + 6 ≤ L) (I : kl_I L xs μ z) (k : ∀ μ' z', kl_I L xs μ' z' → kq_S km_law 12 1278 [some (kq_R 0 40), some (kq_R 0 0), some (kq_R 0 20), some (kq_I (nI i))] [] μ' kl_Q) : kq_S km_law 12 275 [some (kq_R 0 40), some (kq_R 0 0), some (kq_R 0 20), some (kq_I (nI i))] [] μ kl_Q := by
  obtain ⟨aK, aM, hz, hs⟩ := I
  have hj : ∀ k, k < 6 → i + k < (kq_sc μ).1 := fun k hk => by rw [hs]; show i + k < L; omega
  have hb : (kq_sc μ).1 < 2 ^ 31 := by rw [hs]; show L < 2 ^ 31; omega
  refine ks_law_275 <| ks_law_276 <| ks_law_277 <| ks_law_278 <| ks_law_279 <| ks_law_280 (i + 1) kl_x1 (hj 1 (by decide)) hb <| ks_law_281 <| ks_law_282 <| ks_law_283 <| ks_law_284 <| ks_law_285 (i + 2) kl_x2 (hj 2 (by decide)) hb <| ks_law_286 (Nat.le_of_ble_eq_true rfl) ?_
  refine ko_K_of hz μ _ aK (fun μ1 a1 f1 => ?_)
  have m1 := aM.frK f1
  have e1 : kq_sc μ1 = kq_sc μ := f1.2.2
  rw [← e1] at hj hb
  refine ks_law_289 <| ks_law_290 <| ks_law_291 <| ks_law_292 <| ks_law_293 <| ks_law_294 (i + 1) kl_x1 (hj 1 (by decide)) hb <| ks_law_295 <| ks_law_296 <| ks_law_297 <| ks_law_298 <| ks_law_299 (i + 2) kl_x2 (hj 2 (by decide)) hb <| ks_law_300 (Nat.le_of_ble_eq_true rfl) ?_
  rw [e1]
  refine ko_M_of hz μ1 _ m1 (fun μ2 a2 f2 => ?_)
  refine ks_law_303 (fun h303 => ?_) (fun h303 => ?_)
  · exact k μ2 _ ⟨a1.frM f2, a2, kp_of hz, f2.2.2.trans (e1.trans hs)⟩
  · exact absurd rfl h303
theorem kl_set (hL : L ≤ 3072) (hi : i + 6 ≤ L) (I : kl_I L xs μ z) (k : ∀ μ' z', kl_I L xs μ' z' → kq_S km_law 12 1278 [some (kq_R 0 40), some (kq_R 0 0), some (kq_R 0 20), some (kq_I (nI i))] [] μ' kl_Q) : kq_S km_law 12 308 [some (kq_R 0 40), some (kq_R 0 0), some (kq_R 0 20), some (kq_I (nI i))] [] μ kl_Q := by
  obtain ⟨aK, aM, hz, hs⟩ := I
  have hj : ∀ k, k < 6 → i + k < (kq_sc μ).1 := fun k hk => by rw [hs]; show i + k < L; omega
  have hb : (kq_sc μ).1 < 2 ^ 31 := by rw [hs]; show L < 2 ^ 31; omega
  refine ks_law_308 <| ks_law_309 <| ks_law_310 <| ks_law_311 <| ks_law_312 <| ks_law_313 (i + 1) kl_x1 (hj 1 (by decide)) hb <| ks_law_314 <| ks_law_315 <| ks_law_316 <| ks_law_317 <| ks_law_318 (i + 2) kl_x2 (hj 2 (by decide)) hb <| ks_law_319 <| ks_law_320 <| ks_law_321 <| ks_law_322 <| ks_law_323 (i + 3) kl_x3 (hj 3 (by decide)) hb <| ks_law_324 (Nat.le_of_ble_eq_true rfl) ?_
  refine ko_K_set hz μ _ aK (fun μ1 a1 f1 => ?_)
  have m1 := aM.frK f1
  have e1 : kq_sc μ1 = kq_sc μ := f1.2.2
  rw [← e1] at hj hb
  refine ks_law_327 <| ks_law_328 <| ks_law_329 <| ks_law_330 <| ks_law_331 <| ks_law_332 (i + 1) kl_x1 (hj 1 (by decide)) hb <| ks_law_333 <| ks_law_334 <| ks_law_335 <| ks_law_336 <| ks_law_337 (i + 2) kl_x2 (hj 2 (by decide)) hb <| ks_law_338 <| ks_law_339 <| ks_law_340 <| ks_law_341 <| ks_law_342 (i + 3) kl_x3 (hj 3 (by decide)) hb <| ks_law_343 (Nat.le_of_ble_eq_true rfl) ?_
  rw [e1]
  refine ko_M_set hz μ1 _ m1 (fun μ2 a2 f2 => ?_)
  refine ks_law_346 (fun h346 => ?_) (fun h346 => ?_)
  · exact k μ2 _ ⟨a1.frM f2, a2, kp_set hz, f2.2.2.trans (e1.trans hs)⟩
  · exact absurd rfl h346
theorem kl_turn (hL : L ≤ 3072) (hi : i + 6 ≤ L) (I : kl_I L xs μ z) (k : ∀ μ' z', kl_I L xs μ' z' → kq_S km_law 12 1278 [some (kq_R 0 40), some (kq_R 0 0), some (kq_R 0 20), some (kq_I (nI i))] [] μ' kl_Q) : kq_S km_law 12 351 [some (kq_R 0 40), some (kq_R 0 0), some (kq_R 0 20), some (kq_I (nI i))] [] μ kl_Q := by
  obtain ⟨aK, aM, hz, hs⟩ := I
  have hj : ∀ k, k < 6 → i + k < (kq_sc μ).1 := fun k hk => by rw [hs]; show i + k < L; omega
  have hb : (kq_sc μ).1 < 2 ^ 31 := by rw [hs]; show L < 2 ^ 31; omega
  refine ks_law_351 <| ks_law_352 <| ks_law_353 <| ks_law_354 <| ks_law_355 <| ks_law_356 (i + 1) kl_x1 (hj 1 (by decide)) hb <| ks_law_357 <| ks_law_358 <| ks_law_359 <| ks_law_360 <| ks_law_361 (i + 2) kl_x2 (hj 2 (by decide)) hb <| ks_law_362 (Nat.le_of_ble_eq_true rfl) ?_
  refine ko_K_turn hz μ _ aK (fun μ1 a1 f1 => ?_)
  have m1 := aM.frK f1
  have e1 : kq_sc μ1 = kq_sc μ := f1.2.2
  rw [← e1] at hj hb
  refine ks_law_365 <| ks_law_366 <| ks_law_367 <| ks_law_368 <| ks_law_369 <| ks_law_370 (i + 1) kl_x1 (hj 1 (by decide)) hb <| ks_law_371 <| ks_law_372 <| ks_law_373 <| ks_law_374 <| ks_law_375 (i + 2) kl_x2 (hj 2 (by decide)) hb <| ks_law_376 (Nat.le_of_ble_eq_true rfl) ?_
  rw [e1]
  refine ko_M_turn hz μ1 _ m1 (fun μ2 a2 f2 => ?_)
  refine ks_law_379 (fun h379 => ?_) (fun h379 => ?_)
  · exact k μ2 _ ⟨a1.frM f2, a2, kp_turn hz, f2.2.2.trans (e1.trans hs)⟩
  · exact absurd rfl h379
theorem kl_as (hL : L ≤ 3072) (hi : i + 6 ≤ L) (I : kl_I L xs μ z) (k : ∀ μ' z', kl_I L xs μ' z' → kq_S km_law 12 1278 [some (kq_R 0 40), some (kq_R 0 0), some (kq_R 0 20), some (kq_I (nI i))] [] μ' kl_Q) : kq_S km_law 12 384 [some (kq_R 0 40), some (kq_R 0 0), some (kq_R 0 20), some (kq_I (nI i))] [] μ kl_Q := by
  obtain ⟨aK, aM, hz, hs⟩ := I
  have hj : ∀ k, k < 6 → i + k < (kq_sc μ).1 := fun k hk => by rw [hs]; show i + k < L; omega
  have hb : (kq_sc μ).1 < 2 ^ 31 := by rw [hs]; show L < 2 ^ 31; omega
  refine ks_law_384 <| ks_law_385 <| ks_law_386 <| ks_law_387 <| ks_law_388 <| ks_law_389 (i + 1) kl_x1 (hj 1 (by decide)) hb <| ks_law_390 <| ks_law_391 <| ks_law_392 <| ks_law_393 <| ks_law_394 (i + 2) kl_x2 (hj 2 (by decide)) hb <| ks_law_395 (Nat.le_of_ble_eq_true rfl) ?_
  refine ko_K_as hz μ _ aK (fun μ1 a1 f1 => ?_)
  have m1 := aM.frK f1
  have e1 : kq_sc μ1 = kq_sc μ := f1.2.2
  rw [← e1] at hj hb
  refine ks_law_398 <| ks_law_399 <| ks_law_400 <| ks_law_401 <| ks_law_402 <| ks_law_403 (i + 1) kl_x1 (hj 1 (by decide)) hb <| ks_law_404 <| ks_law_405 <| ks_law_406 <| ks_law_407 <| ks_law_408 (i + 2) kl_x2 (hj 2 (by decide)) hb <| ks_law_409 (Nat.le_of_ble_eq_true rfl) ?_
  rw [e1]
  refine ko_M_as hz μ1 _ m1 (fun μ2 a2 f2 => ?_)
  refine ks_law_412 (fun h412 => ?_) (fun h412 => ?_)
  · exact k μ2 _ ⟨a1.frM f2, a2, kp_as hz, f2.2.2.trans (e1.trans hs)⟩
  · exact absurd rfl h412
theorem kl_heats (hL : L ≤ 3072) (hi : i + 6 ≤ L) (I : kl_I L xs μ z) (k : ∀ μ' z', kl_I L xs μ' z' → kq_S km_law 12 1278 [some (kq_R 0 40), some (kq_R 0 0), some (kq_R 0 20), some (kq_I (nI i))] [] μ' kl_Q) : kq_S km_law 12 417 [some (kq_R 0 40), some (kq_R 0 0), some (kq_R 0 20), some (kq_I (nI i))] [] μ kl_Q := by
  obtain ⟨aK, aM, hz, hs⟩ := I
  have hj : ∀ k, k < 6 → i + k < (kq_sc μ).1 := fun k hk => by rw [hs]; show i + k < L; omega
  have hb : (kq_sc μ).1 < 2 ^ 31 := by rw [hs]; show L < 2 ^ 31; omega
  refine ks_law_417 <| ks_law_418 <| ks_law_419 <| ks_law_420 <| ks_law_421 <| ks_law_422 (i + 1) kl_x1 (hj 1 (by decide)) hb <| ks_law_423 <| ks_law_424 <| ks_law_425 <| ks_law_426 <| ks_law_427 (i + 2) kl_x2 (hj 2 (by decide)) hb <| ks_law_428 (Nat.le_of_ble_eq_true rfl) ?_
  refine ko_K_heats hz μ _ aK (fun μ1 a1 f1 => ?_)
  have m1 := aM.frK f1
  have e1 : kq_sc μ1 = kq_sc μ := f1.2.2
  rw [← e1] at hj hb
  refine ks_law_431 <| ks_law_432 <| ks_law_433 <| ks_law_434 <| ks_law_435 <| ks_law_436 (i + 1) kl_x1 (hj 1 (by decide)) hb <| ks_law_437 <| ks_law_438 <| ks_law_439 <| ks_law_440 <| ks_law_441 (i + 2) kl_x2 (hj 2 (by decide)) hb <| ks_law_442 (Nat.le_of_ble_eq_true rfl) ?_
  rw [e1]
  refine ko_M_heats hz μ1 _ m1 (fun μ2 a2 f2 => ?_)
  refine ks_law_445 (fun h445 => ?_) (fun h445 => ?_)
  · exact k μ2 _ ⟨a1.frM f2, a2, kp_heats hz, f2.2.2.trans (e1.trans hs)⟩
  · exact absurd rfl h445
theorem kl_ask (hL : L ≤ 3072) (hi : i + 6 ≤ L) (I : kl_I L xs μ z) (k : ∀ μ' z', kl_I L xs μ' z' → kq_S km_law 12 1278 [some (kq_R 0 40), some (kq_R 0 0), some (kq_R 0 20), some (kq_I (nI i))] [] μ' kl_Q) : kq_S km_law 12 450 [some (kq_R 0 40), some (kq_R 0 0), some (kq_R 0 20), some (kq_I (nI i))] [] μ kl_Q := by
  obtain ⟨aK, aM, hz, hs⟩ := I
  have hj : ∀ k, k < 6 → i + k < (kq_sc μ).1 := fun k hk => by rw [hs]; show i + k < L; omega
  have hb : (kq_sc μ).1 < 2 ^ 31 := by rw [hs]; show L < 2 ^ 31; omega
  refine ks_law_450 <| ks_law_451 <| ks_law_452 <| ks_law_453 <| ks_law_454 <| ks_law_455 (i + 1) kl_x1 (hj 1 (by decide)) hb <| ks_law_456 <| ks_law_457 <| ks_law_458 <| ks_law_459 <| ks_law_460 (i + 2) kl_x2 (hj 2 (by decide)) hb <| ks_law_461 (Nat.le_of_ble_eq_true rfl) ?_
  refine ko_K_ask hz μ _ aK (fun μ1 a1 f1 => ?_)
  have m1 := aM.frK f1
  have e1 : kq_sc μ1 = kq_sc μ := f1.2.2
  rw [← e1] at hj hb
  refine ks_law_464 <| ks_law_465 <| ks_law_466 <| ks_law_467 <| ks_law_468 <| ks_law_469 (i + 1) kl_x1 (hj 1 (by decide)) hb <| ks_law_470 <| ks_law_471 <| ks_law_472 <| ks_law_473 <| ks_law_474 (i + 2) kl_x2 (hj 2 (by decide)) hb <| ks_law_475 (Nat.le_of_ble_eq_true rfl) ?_
  rw [e1]
  refine ko_M_ask hz μ1 _ m1 (fun μ2 a2 f2 => ?_)
  refine ks_law_478 (fun h478 => ?_) (fun h478 => ?_)
  · exact k μ2 _ ⟨a1.frM f2, a2, kp_ask hz, f2.2.2.trans (e1.trans hs)⟩
  · exact absurd rfl h478
theorem kl_swap (hL : L ≤ 3072) (hi : i + 6 ≤ L) (I : kl_I L xs μ z) (k : ∀ μ' z', kl_I L xs μ' z' → kq_S km_law 12 1278 [some (kq_R 0 40), some (kq_R 0 0), some (kq_R 0 20), some (kq_I (nI i))] [] μ' kl_Q) : kq_S km_law 12 483 [some (kq_R 0 40), some (kq_R 0 0), some (kq_R 0 20), some (kq_I (nI i))] [] μ kl_Q := by
  obtain ⟨aK, aM, hz, hs⟩ := I
  have hj : ∀ k, k < 6 → i + k < (kq_sc μ).1 := fun k hk => by rw [hs]; show i + k < L; omega
  have hb : (kq_sc μ).1 < 2 ^ 31 := by rw [hs]; show L < 2 ^ 31; omega
  refine ks_law_483 <| ks_law_484 <| ks_law_485 <| ks_law_486 <| ks_law_487 <| ks_law_488 (i + 1) kl_x1 (hj 1 (by decide)) hb <| ks_law_489 <| ks_law_490 <| ks_law_491 <| ks_law_492 <| ks_law_493 (i + 2) kl_x2 (hj 2 (by decide)) hb <| ks_law_494 (Nat.le_of_ble_eq_true rfl) ?_
  refine ko_K_swap hz μ _ aK (fun μ1 a1 f1 => ?_)
  have m1 := aM.frK f1
  have e1 : kq_sc μ1 = kq_sc μ := f1.2.2
  rw [← e1] at hj hb
  refine ks_law_497 <| ks_law_498 <| ks_law_499 <| ks_law_500 <| ks_law_501 <| ks_law_502 (i + 1) kl_x1 (hj 1 (by decide)) hb <| ks_law_503 <| ks_law_504 <| ks_law_505 <| ks_law_506 <| ks_law_507 (i + 2) kl_x2 (hj 2 (by decide)) hb <| ks_law_508 (Nat.le_of_ble_eq_true rfl) ?_
  rw [e1]
  refine ko_M_swap hz μ1 _ m1 (fun μ2 a2 f2 => ?_)
  refine ks_law_511 (fun h511 => ?_) (fun h511 => ?_)
  · exact k μ2 _ ⟨a1.frM f2, a2, kp_swap hz, f2.2.2.trans (e1.trans hs)⟩
  · exact absurd rfl h511
theorem kl_minutes (hL : L ≤ 3072) (hi : i + 6 ≤ L) (I : kl_I L xs μ z) (k : ∀ μ' z', kl_I L xs μ' z' → kq_S km_law 12 1278 [some (kq_R 0 40), some (kq_R 0 0), some (kq_R 0 20), some (kq_I (nI i))] [] μ' kl_Q) : kq_S km_law 12 516 [some (kq_R 0 40), some (kq_R 0 0), some (kq_R 0 20), some (kq_I (nI i))] [] μ kl_Q := by
  obtain ⟨aK, aM, hz, hs⟩ := I
  have hj : ∀ k, k < 6 → i + k < (kq_sc μ).1 := fun k hk => by rw [hs]; show i + k < L; omega
  have hb : (kq_sc μ).1 < 2 ^ 31 := by rw [hs]; show L < 2 ^ 31; omega
  refine ks_law_516 <| ks_law_517 <| ks_law_518 <| ks_law_519 <| ks_law_520 <| ks_law_521 (i + 1) kl_x1 (hj 1 (by decide)) hb <| ks_law_522 (Nat.le_of_ble_eq_true rfl) ?_
  refine ko_K_minutes hz μ _ aK (fun μ1 a1 f1 => ?_)
  have m1 := aM.frK f1
  have e1 : kq_sc μ1 = kq_sc μ := f1.2.2
  rw [← e1] at hj hb
  refine ks_law_525 <| ks_law_526 <| ks_law_527 <| ks_law_528 <| ks_law_529 <| ks_law_530 (i + 1) kl_x1 (hj 1 (by decide)) hb <| ks_law_531 (Nat.le_of_ble_eq_true rfl) ?_
  rw [e1]
  refine ko_M_minutes hz μ1 _ m1 (fun μ2 a2 f2 => ?_)
  refine ks_law_534 (fun h534 => ?_) (fun h534 => ?_)
  · exact k μ2 _ ⟨a1.frM f2, a2, kp_minutes hz, f2.2.2.trans (e1.trans hs)⟩
  · exact absurd rfl h534
theorem kl_now (hL : L ≤ 3072) (hi : i + 6 ≤ L) (I : kl_I L xs μ z) (k : ∀ μ' z', kl_I L xs μ' z' → kq_S km_law 12 1278 [some (kq_R 0 40), some (kq_R 0 0), some (kq_R 0 20), some (kq_I (nI i))] [] μ' kl_Q) : kq_S km_law 12 539 [some (kq_R 0 40), some (kq_R 0 0), some (kq_R 0 20), some (kq_I (nI i))] [] μ kl_Q := by
  obtain ⟨aK, aM, hz, hs⟩ := I
  have hj : ∀ k, k < 6 → i + k < (kq_sc μ).1 := fun k hk => by rw [hs]; show i + k < L; omega
  have hb : (kq_sc μ).1 < 2 ^ 31 := by rw [hs]; show L < 2 ^ 31; omega
  refine ks_law_539 <| ks_law_540 <| ks_law_541 <| ks_law_542 <| ks_law_543 <| ks_law_544 (i + 1) kl_x1 (hj 1 (by decide)) hb <| ks_law_545 (Nat.le_of_ble_eq_true rfl) ?_
  refine ko_K_now hz μ _ aK (fun μ1 a1 f1 => ?_)
  have m1 := aM.frK f1
  have e1 : kq_sc μ1 = kq_sc μ := f1.2.2
  rw [← e1] at hj hb
  refine ks_law_548 <| ks_law_549 <| ks_law_550 <| ks_law_551 <| ks_law_552 <| ks_law_553 (i + 1) kl_x1 (hj 1 (by decide)) hb <| ks_law_554 (Nat.le_of_ble_eq_true rfl) ?_
  rw [e1]
  refine ko_M_now hz μ1 _ m1 (fun μ2 a2 f2 => ?_)
  refine ks_law_557 (fun h557 => ?_) (fun h557 => ?_)
  · exact k μ2 _ ⟨a1.frM f2, a2, kp_now hz, f2.2.2.trans (e1.trans hs)⟩
  · exact absurd rfl h557
theorem kl_on (hL : L ≤ 3072) (hi : i + 6 ≤ L) (I : kl_I L xs μ z) (k : ∀ μ' z', kl_I L xs μ' z' → kq_S km_law 12 1278 [some (kq_R 0 40), some (kq_R 0 0), some (kq_R 0 20), some (kq_I (nI i))] [] μ' kl_Q) : kq_S km_law 12 562 [some (kq_R 0 40), some (kq_R 0 0), some (kq_R 0 20), some (kq_I (nI i))] [] μ kl_Q := by
  obtain ⟨aK, aM, hz, hs⟩ := I
  have hj : ∀ k, k < 6 → i + k < (kq_sc μ).1 := fun k hk => by rw [hs]; show i + k < L; omega
  have hb : (kq_sc μ).1 < 2 ^ 31 := by rw [hs]; show L < 2 ^ 31; omega
  refine ks_law_562 <| ks_law_563 <| ks_law_564 <| ks_law_565 <| ks_law_566 <| ks_law_567 (i + 1) kl_x1 (hj 1 (by decide)) hb <| ks_law_568 <| ks_law_569 <| ks_law_570 <| ks_law_571 <| ks_law_572 (i + 2) kl_x2 (hj 2 (by decide)) hb <| ks_law_573 (Nat.le_of_ble_eq_true rfl) ?_
  refine ko_K_on hz μ _ aK (fun μ1 a1 f1 => ?_)
  have m1 := aM.frK f1
  have e1 : kq_sc μ1 = kq_sc μ := f1.2.2
  rw [← e1] at hj hb
  refine ks_law_576 <| ks_law_577 <| ks_law_578 <| ks_law_579 <| ks_law_580 <| ks_law_581 (i + 1) kl_x1 (hj 1 (by decide)) hb <| ks_law_582 <| ks_law_583 <| ks_law_584 <| ks_law_585 <| ks_law_586 (i + 2) kl_x2 (hj 2 (by decide)) hb <| ks_law_587 (Nat.le_of_ble_eq_true rfl) ?_
  rw [e1]
  refine ko_M_on hz μ1 _ m1 (fun μ2 a2 f2 => ?_)
  refine ks_law_590 (fun h590 => ?_) (fun h590 => ?_)
  · exact k μ2 _ ⟨a1.frM f2, a2, kp_on hz, f2.2.2.trans (e1.trans hs)⟩
  · exact absurd rfl h590
theorem kl_then (hL : L ≤ 3072) (hi : i + 6 ≤ L) (I : kl_I L xs μ z) (k : ∀ μ' z', kl_I L xs μ' z' → kq_S km_law 12 1278 [some (kq_R 0 40), some (kq_R 0 0), some (kq_R 0 20), some (kq_I (nI i))] [] μ' kl_Q) : kq_S km_law 12 595 [some (kq_R 0 40), some (kq_R 0 0), some (kq_R 0 20), some (kq_I (nI i))] [] μ kl_Q := by
  obtain ⟨aK, aM, hz, hs⟩ := I
  have hj : ∀ k, k < 6 → i + k < (kq_sc μ).1 := fun k hk => by rw [hs]; show i + k < L; omega
  have hb : (kq_sc μ).1 < 2 ^ 31 := by rw [hs]; show L < 2 ^ 31; omega
  refine ks_law_595 <| ks_law_596 <| ks_law_597 <| ks_law_598 <| ks_law_599 <| ks_law_600 (i + 1) kl_x1 (hj 1 (by decide)) hb <| ks_law_601 <| ks_law_602 <| ks_law_603 <| ks_law_604 <| ks_law_605 (i + 2) kl_x2 (hj 2 (by decide)) hb <| ks_law_606 <| ks_law_607 <| ks_law_608 <| ks_law_609 <| ks_law_610 (i + 3) kl_x3 (hj 3 (by decide)) hb <| ks_law_611 (Nat.le_of_ble_eq_true rfl) ?_
  refine ko_K_then hz μ _ aK (fun μ1 a1 f1 => ?_)
  have m1 := aM.frK f1
  have e1 : kq_sc μ1 = kq_sc μ := f1.2.2
  rw [← e1] at hj hb
  refine ks_law_614 <| ks_law_615 <| ks_law_616 <| ks_law_617 <| ks_law_618 <| ks_law_619 (i + 1) kl_x1 (hj 1 (by decide)) hb <| ks_law_620 <| ks_law_621 <| ks_law_622 <| ks_law_623 <| ks_law_624 (i + 2) kl_x2 (hj 2 (by decide)) hb <| ks_law_625 <| ks_law_626 <| ks_law_627 <| ks_law_628 <| ks_law_629 (i + 3) kl_x3 (hj 3 (by decide)) hb <| ks_law_630 (Nat.le_of_ble_eq_true rfl) ?_
  rw [e1]
  refine ko_M_then hz μ1 _ m1 (fun μ2 a2 f2 => ?_)
  refine ks_law_633 (fun h633 => ?_) (fun h633 => ?_)
  · exact k μ2 _ ⟨a1.frM f2, a2, kp_then hz, f2.2.2.trans (e1.trans hs)⟩
  · exact absurd rfl h633
theorem kl_boils (hL : L ≤ 3072) (hi : i + 6 ≤ L) (I : kl_I L xs μ z) (k : ∀ μ' z', kl_I L xs μ' z' → kq_S km_law 12 1278 [some (kq_R 0 40), some (kq_R 0 0), some (kq_R 0 20), some (kq_I (nI i))] [] μ' kl_Q) : kq_S km_law 12 638 [some (kq_R 0 40), some (kq_R 0 0), some (kq_R 0 20), some (kq_I (nI i))] [] μ kl_Q := by
  obtain ⟨aK, aM, hz, hs⟩ := I
  refine ks_law_638 <| ks_law_639 (Nat.le_of_ble_eq_true rfl) ?_
  refine ko_K_boils hz μ _ aK (fun μ1 a1 f1 => ?_)
  have m1 := aM.frK f1
  have e1 : kq_sc μ1 = kq_sc μ := f1.2.2
  refine ks_law_642 <| ks_law_643 (Nat.le_of_ble_eq_true rfl) ?_
  refine ko_M_boils hz μ1 _ m1 (fun μ2 a2 f2 => ?_)
  refine ks_law_646 (fun h646 => ?_) (fun h646 => ?_)
  · exact k μ2 _ ⟨a1.frM f2, a2, kp_boils hz, f2.2.2.trans (e1.trans hs)⟩
  · exact absurd rfl h646
theorem kl_doubts (hL : L ≤ 3072) (hi : i + 6 ≤ L) (I : kl_I L xs μ z) (k : ∀ μ' z', kl_I L xs μ' z' → kq_S km_law 12 1278 [some (kq_R 0 40), some (kq_R 0 0), some (kq_R 0 20), some (kq_I (nI i))] [] μ' kl_Q) : kq_S km_law 12 651 [some (kq_R 0 40), some (kq_R 0 0), some (kq_R 0 20), some (kq_I (nI i))] [] μ kl_Q := by
  obtain ⟨aK, aM, hz, hs⟩ := I
  have hj : ∀ k, k < 6 → i + k < (kq_sc μ).1 := fun k hk => by rw [hs]; show i + k < L; omega
  have hb : (kq_sc μ).1 < 2 ^ 31 := by rw [hs]; show L < 2 ^ 31; omega
  refine ks_law_651 <| ks_law_652 <| ks_law_653 <| ks_law_654 <| ks_law_655 <| ks_law_656 (i + 1) kl_x1 (hj 1 (by decide)) hb <| ks_law_657 (Nat.le_of_ble_eq_true rfl) ?_
  refine ko_K_doubts hz μ _ aK (fun μ1 a1 f1 => ?_)
  have m1 := aM.frK f1
  have e1 : kq_sc μ1 = kq_sc μ := f1.2.2
  rw [← e1] at hj hb
  refine ks_law_660 <| ks_law_661 <| ks_law_662 <| ks_law_663 <| ks_law_664 <| ks_law_665 (i + 1) kl_x1 (hj 1 (by decide)) hb <| ks_law_666 (Nat.le_of_ble_eq_true rfl) ?_
  rw [e1]
  refine ko_M_doubts hz μ1 _ m1 (fun μ2 a2 f2 => ?_)
  refine ks_law_669 (fun h669 => ?_) (fun h669 => ?_)
  · exact k μ2 _ ⟨a1.frM f2, a2, kp_doubts hz, f2.2.2.trans (e1.trans hs)⟩
  · exact absurd rfl h669
theorem kl_worst (hL : L ≤ 3072) (hi : i + 6 ≤ L) (I : kl_I L xs μ z) (k : ∀ μ' z', kl_I L xs μ' z' → kq_S km_law 12 1278 [some (kq_R 0 40), some (kq_R 0 0), some (kq_R 0 20), some (kq_I (nI i))] [] μ' kl_Q) : kq_S km_law 12 674 [some (kq_R 0 40), some (kq_R 0 0), some (kq_R 0 20), some (kq_I (nI i))] [] μ kl_Q := by
  obtain ⟨aK, aM, hz, hs⟩ := I
  have hj : ∀ k, k < 6 → i + k < (kq_sc μ).1 := fun k hk => by rw [hs]; show i + k < L; omega
  have hb : (kq_sc μ).1 < 2 ^ 31 := by rw [hs]; show L < 2 ^ 31; omega
  refine ks_law_674 <| ks_law_675 <| ks_law_676 <| ks_law_677 <| ks_law_678 <| ks_law_679 (i + 1) kl_x1 (hj 1 (by decide)) hb <| ks_law_680 (Nat.le_of_ble_eq_true rfl) ?_
  refine ko_K_worst hz μ _ aK (fun μ1 a1 f1 => ?_)
  have m1 := aM.frK f1
  have e1 : kq_sc μ1 = kq_sc μ := f1.2.2
  rw [← e1] at hj hb
  refine ks_law_683 <| ks_law_684 <| ks_law_685 <| ks_law_686 <| ks_law_687 <| ks_law_688 (i + 1) kl_x1 (hj 1 (by decide)) hb <| ks_law_689 (Nat.le_of_ble_eq_true rfl) ?_
  rw [e1]
  refine ko_M_worst hz μ1 _ m1 (fun μ2 a2 f2 => ?_)
  refine ks_law_692 (fun h692 => ?_) (fun h692 => ?_)
  · exact k μ2 _ ⟨a1.frM f2, a2, kp_worst hz, f2.2.2.trans (e1.trans hs)⟩
  · exact absurd rfl h692
theorem kl_turns (hL : L ≤ 3072) (hi : i + 6 ≤ L) (I : kl_I L xs μ z) (k : ∀ μ' z', kl_I L xs μ' z' → kq_S km_law 12 1278 [some (kq_R 0 40), some (kq_R 0 0), some (kq_R 0 20), some (kq_I (nI i))] [] μ' kl_Q) : kq_S km_law 12 697 [some (kq_R 0 40), some (kq_R 0 0), some (kq_R 0 20), some (kq_I (nI i))] [] μ kl_Q := by
  obtain ⟨aK, aM, hz, hs⟩ := I
  have hj : ∀ k, k < 6 → i + k < (kq_sc μ).1 := fun k hk => by rw [hs]; show i + k < L; omega
  have hb : (kq_sc μ).1 < 2 ^ 31 := by rw [hs]; show L < 2 ^ 31; omega
  refine ks_law_697 <| ks_law_698 <| ks_law_699 <| ks_law_700 <| ks_law_701 <| ks_law_702 (i + 1) kl_x1 (hj 1 (by decide)) hb <| ks_law_703 (Nat.le_of_ble_eq_true rfl) ?_
  refine ko_K_turns hz μ _ aK (fun μ1 a1 f1 => ?_)
  have m1 := aM.frK f1
  have e1 : kq_sc μ1 = kq_sc μ := f1.2.2
  rw [← e1] at hj hb
  refine ks_law_706 <| ks_law_707 <| ks_law_708 <| ks_law_709 <| ks_law_710 <| ks_law_711 (i + 1) kl_x1 (hj 1 (by decide)) hb <| ks_law_712 (Nat.le_of_ble_eq_true rfl) ?_
  rw [e1]
  refine ko_M_turns hz μ1 _ m1 (fun μ2 a2 f2 => ?_)
  refine ks_law_715 (fun h715 => ?_) (fun h715 => ?_)
  · exact k μ2 _ ⟨a1.frM f2, a2, kp_turns hz, f2.2.2.trans (e1.trans hs)⟩
  · exact absurd rfl h715
theorem kl_sure (hL : L ≤ 3072) (hi : i + 6 ≤ L) (I : kl_I L xs μ z) (k : ∀ μ' z', kl_I L xs μ' z' → kq_S km_law 12 1278 [some (kq_R 0 40), some (kq_R 0 0), some (kq_R 0 20), some (kq_I (nI i))] [] μ' kl_Q) : kq_S km_law 12 720 [some (kq_R 0 40), some (kq_R 0 0), some (kq_R 0 20), some (kq_I (nI i))] [] μ kl_Q := by
  obtain ⟨aK, aM, hz, hs⟩ := I
  have hj : ∀ k, k < 6 → i + k < (kq_sc μ).1 := fun k hk => by rw [hs]; show i + k < L; omega
  have hb : (kq_sc μ).1 < 2 ^ 31 := by rw [hs]; show L < 2 ^ 31; omega
  refine ks_law_720 <| ks_law_721 <| ks_law_722 <| ks_law_723 <| ks_law_724 <| ks_law_725 (i + 1) kl_x1 (hj 1 (by decide)) hb <| ks_law_726 <| ks_law_727 <| ks_law_728 <| ks_law_729 <| ks_law_730 (i + 2) kl_x2 (hj 2 (by decide)) hb <| ks_law_731 (Nat.le_of_ble_eq_true rfl) ?_
  refine ko_K_sure hz μ _ aK (fun μ1 a1 f1 => ?_)
  have m1 := aM.frK f1
  have e1 : kq_sc μ1 = kq_sc μ := f1.2.2
  rw [← e1] at hj hb
  refine ks_law_734 <| ks_law_735 <| ks_law_736 <| ks_law_737 <| ks_law_738 <| ks_law_739 (i + 1) kl_x1 (hj 1 (by decide)) hb <| ks_law_740 <| ks_law_741 <| ks_law_742 <| ks_law_743 <| ks_law_744 (i + 2) kl_x2 (hj 2 (by decide)) hb <| ks_law_745 (Nat.le_of_ble_eq_true rfl) ?_
  rw [e1]
  refine ko_M_sure hz μ1 _ m1 (fun μ2 a2 f2 => ?_)
  refine ks_law_748 (fun h748 => ?_) (fun h748 => ?_)
  · exact k μ2 _ ⟨a1.frM f2, a2, kp_sure hz, f2.2.2.trans (e1.trans hs)⟩
  · exact absurd rfl h748
theorem kl_water (hL : L ≤ 3072) (hi : i + 6 ≤ L) (I : kl_I L xs μ z) (k : ∀ μ' z', kl_I L xs μ' z' → kq_S km_law 12 1278 [some (kq_R 0 40), some (kq_R 0 0), some (kq_R 0 20), some (kq_I (nI i))] [] μ' kl_Q) : kq_S km_law 12 753 [some (kq_R 0 40), some (kq_R 0 0), some (kq_R 0 20), some (kq_I (nI i))] [] μ kl_Q := by
  obtain ⟨aK, aM, hz, hs⟩ := I
  have hj : ∀ k, k < 6 → i + k < (kq_sc μ).1 := fun k hk => by rw [hs]; show i + k < L; omega
  have hb : (kq_sc μ).1 < 2 ^ 31 := by rw [hs]; show L < 2 ^ 31; omega
  refine ks_law_753 <| ks_law_754 <| ks_law_755 <| ks_law_756 <| ks_law_757 <| ks_law_758 (i + 1) kl_x1 (hj 1 (by decide)) hb <| ks_law_759 <| ks_law_760 <| ks_law_761 <| ks_law_762 <| ks_law_763 (i + 2) kl_x2 (hj 2 (by decide)) hb <| ks_law_764 (Nat.le_of_ble_eq_true rfl) ?_
  refine ko_K_water hz μ _ aK (fun μ1 a1 f1 => ?_)
  have m1 := aM.frK f1
  have e1 : kq_sc μ1 = kq_sc μ := f1.2.2
  rw [← e1] at hj hb
  refine ks_law_767 <| ks_law_768 <| ks_law_769 <| ks_law_770 <| ks_law_771 <| ks_law_772 (i + 1) kl_x1 (hj 1 (by decide)) hb <| ks_law_773 <| ks_law_774 <| ks_law_775 <| ks_law_776 <| ks_law_777 (i + 2) kl_x2 (hj 2 (by decide)) hb <| ks_law_778 (Nat.le_of_ble_eq_true rfl) ?_
  rw [e1]
  refine ko_M_water hz μ1 _ m1 (fun μ2 a2 f2 => ?_)
  refine ks_law_781 (fun h781 => ?_) (fun h781 => ?_)
  · exact k μ2 _ ⟨a1.frM f2, a2, kp_water hz, f2.2.2.trans (e1.trans hs)⟩
  · exact absurd rfl h781
theorem kl_kind (hL : L ≤ 3072) (hi : i + 6 ≤ L) (I : kl_I L xs μ z) (k : ∀ μ' z', kl_I L xs μ' z' → kq_S km_law 12 1278 [some (kq_R 0 40), some (kq_R 0 0), some (kq_R 0 20), some (kq_I (nI i))] [] μ' kl_Q) : kq_S km_law 12 786 [some (kq_R 0 40), some (kq_R 0 0), some (kq_R 0 20), some (kq_I (nI i))] [] μ kl_Q := by
  obtain ⟨aK, aM, hz, hs⟩ := I
  have hj : ∀ k, k < 6 → i + k < (kq_sc μ).1 := fun k hk => by rw [hs]; show i + k < L; omega
  have hb : (kq_sc μ).1 < 2 ^ 31 := by rw [hs]; show L < 2 ^ 31; omega
  refine ks_law_786 <| ks_law_787 <| ks_law_788 <| ks_law_789 <| ks_law_790 <| ks_law_791 (i + 1) kl_x1 (hj 1 (by decide)) hb <| ks_law_792 <| ks_law_793 <| ks_law_794 <| ks_law_795 <| ks_law_796 (i + 2) kl_x2 (hj 2 (by decide)) hb <| ks_law_797 (Nat.le_of_ble_eq_true rfl) ?_
  refine ko_K_kind hz μ _ aK (fun μ1 a1 f1 => ?_)
  have m1 := aM.frK f1
  have e1 : kq_sc μ1 = kq_sc μ := f1.2.2
  rw [← e1] at hj hb
  refine ks_law_800 <| ks_law_801 <| ks_law_802 <| ks_law_803 <| ks_law_804 <| ks_law_805 (i + 1) kl_x1 (hj 1 (by decide)) hb <| ks_law_806 <| ks_law_807 <| ks_law_808 <| ks_law_809 <| ks_law_810 (i + 2) kl_x2 (hj 2 (by decide)) hb <| ks_law_811 (Nat.le_of_ble_eq_true rfl) ?_
  rw [e1]
  refine ko_M_kind hz μ1 _ m1 (fun μ2 a2 f2 => ?_)
  refine ks_law_814 (fun h814 => ?_) (fun h814 => ?_)
  · exact k μ2 _ ⟨a1.frM f2, a2, kp_kind hz, f2.2.2.trans (e1.trans hs)⟩
  · exact absurd rfl h814
theorem kl_says (hL : L ≤ 3072) (hi : i + 6 ≤ L) (I : kl_I L xs μ z) (k : ∀ μ' z', kl_I L xs μ' z' → kq_S km_law 12 1278 [some (kq_R 0 40), some (kq_R 0 0), some (kq_R 0 20), some (kq_I (nI i))] [] μ' kl_Q) : kq_S km_law 12 819 [some (kq_R 0 40), some (kq_R 0 0), some (kq_R 0 20), some (kq_I (nI i))] [] μ kl_Q := by
  obtain ⟨aK, aM, hz, hs⟩ := I
  have hj : ∀ k, k < 6 → i + k < (kq_sc μ).1 := fun k hk => by rw [hs]; show i + k < L; omega
  have hb : (kq_sc μ).1 < 2 ^ 31 := by rw [hs]; show L < 2 ^ 31; omega
  refine ks_law_819 <| ks_law_820 <| ks_law_821 <| ks_law_822 <| ks_law_823 <| ks_law_824 (i + 1) kl_x1 (hj 1 (by decide)) hb <| ks_law_825 <| ks_law_826 <| ks_law_827 <| ks_law_828 <| ks_law_829 (i + 2) kl_x2 (hj 2 (by decide)) hb <| ks_law_830 (Nat.le_of_ble_eq_true rfl) ?_
  refine ko_K_says hz μ _ aK (fun μ1 a1 f1 => ?_)
  have m1 := aM.frK f1
  have e1 : kq_sc μ1 = kq_sc μ := f1.2.2
  rw [← e1] at hj hb
  refine ks_law_833 <| ks_law_834 <| ks_law_835 <| ks_law_836 <| ks_law_837 <| ks_law_838 (i + 1) kl_x1 (hj 1 (by decide)) hb <| ks_law_839 <| ks_law_840 <| ks_law_841 <| ks_law_842 <| ks_law_843 (i + 2) kl_x2 (hj 2 (by decide)) hb <| ks_law_844 (Nat.le_of_ble_eq_true rfl) ?_
  rw [e1]
  refine ko_M_says hz μ1 _ m1 (fun μ2 a2 f2 => ?_)
  refine ks_law_847 (fun h847 => ?_) (fun h847 => ?_)
  · exact k μ2 _ ⟨a1.frM f2, a2, kp_says hz, f2.2.2.trans (e1.trans hs)⟩
  · exact absurd rfl h847
theorem kl_fact (hL : L ≤ 3072) (hi : i + 6 ≤ L) (I : kl_I L xs μ z) (k : ∀ μ' z', kl_I L xs μ' z' → kq_S km_law 12 1278 [some (kq_R 0 40), some (kq_R 0 0), some (kq_R 0 20), some (kq_I (nI i))] [] μ' kl_Q) : kq_S km_law 12 852 [some (kq_R 0 40), some (kq_R 0 0), some (kq_R 0 20), some (kq_I (nI i))] [] μ kl_Q := by
  obtain ⟨aK, aM, hz, hs⟩ := I
  have hj : ∀ k, k < 6 → i + k < (kq_sc μ).1 := fun k hk => by rw [hs]; show i + k < L; omega
  have hb : (kq_sc μ).1 < 2 ^ 31 := by rw [hs]; show L < 2 ^ 31; omega
  refine ks_law_852 <| ks_law_853 <| ks_law_854 <| ks_law_855 <| ks_law_856 <| ks_law_857 (i + 1) kl_x1 (hj 1 (by decide)) hb <| ks_law_858 (Nat.le_of_ble_eq_true rfl) ?_
  refine ko_K_fact hz μ _ aK (fun μ1 a1 f1 => ?_)
  have m1 := aM.frK f1
  have e1 : kq_sc μ1 = kq_sc μ := f1.2.2
  rw [← e1] at hj hb
  refine ks_law_861 <| ks_law_862 <| ks_law_863 <| ks_law_864 <| ks_law_865 <| ks_law_866 (i + 1) kl_x1 (hj 1 (by decide)) hb <| ks_law_867 (Nat.le_of_ble_eq_true rfl) ?_
  rw [e1]
  refine ko_M_fact hz μ1 _ m1 (fun μ2 a2 f2 => ?_)
  refine ks_law_870 (fun h870 => ?_) (fun h870 => ?_)
  · exact k μ2 _ ⟨a1.frM f2, a2, kp_fact hz, f2.2.2.trans (e1.trans hs)⟩
  · exact absurd rfl h870
theorem kl_feed (hL : L ≤ 3072) (hi : i + 6 ≤ L) (I : kl_I L xs μ z) (k : ∀ μ' z', kl_I L xs μ' z' → kq_S km_law 12 1278 [some (kq_R 0 40), some (kq_R 0 0), some (kq_R 0 20), some (kq_I (nI i))] [] μ' kl_Q) : kq_S km_law 12 875 [some (kq_R 0 40), some (kq_R 0 0), some (kq_R 0 20), some (kq_I (nI i))] [] μ kl_Q := by
  obtain ⟨aK, aM, hz, hs⟩ := I
  have hj : ∀ k, k < 6 → i + k < (kq_sc μ).1 := fun k hk => by rw [hs]; show i + k < L; omega
  have hb : (kq_sc μ).1 < 2 ^ 31 := by rw [hs]; show L < 2 ^ 31; omega
  refine ks_law_875 <| ks_law_876 <| ks_law_877 <| ks_law_878 <| ks_law_879 <| ks_law_880 (i + 1) kl_x1 (hj 1 (by decide)) hb <| ks_law_881 <| ks_law_882 <| ks_law_883 <| ks_law_884 <| ks_law_885 (i + 2) kl_x2 (hj 2 (by decide)) hb <| ks_law_886 (Nat.le_of_ble_eq_true rfl) ?_
  refine ko_K_feed hz μ _ aK (fun μ1 a1 f1 => ?_)
  have m1 := aM.frK f1
  have e1 : kq_sc μ1 = kq_sc μ := f1.2.2
  rw [← e1] at hj hb
  refine ks_law_889 <| ks_law_890 <| ks_law_891 <| ks_law_892 <| ks_law_893 <| ks_law_894 (i + 1) kl_x1 (hj 1 (by decide)) hb <| ks_law_895 <| ks_law_896 <| ks_law_897 <| ks_law_898 <| ks_law_899 (i + 2) kl_x2 (hj 2 (by decide)) hb <| ks_law_900 (Nat.le_of_ble_eq_true rfl) ?_
  rw [e1]
  refine ko_M_feed hz μ1 _ m1 (fun μ2 a2 f2 => ?_)
  refine ks_law_903 (fun h903 => ?_) (fun h903 => ?_)
  · exact k μ2 _ ⟨a1.frM f2, a2, kp_feed hz, f2.2.2.trans (e1.trans hs)⟩
  · exact absurd rfl h903
theorem kl_wipe (hL : L ≤ 3072) (hi : i + 6 ≤ L) (I : kl_I L xs μ z) (k : ∀ μ' z', kl_I L xs μ' z' → kq_S km_law 12 1278 [some (kq_R 0 40), some (kq_R 0 0), some (kq_R 0 20), some (kq_I (nI i))] [] μ' kl_Q) : kq_S km_law 12 908 [some (kq_R 0 40), some (kq_R 0 0), some (kq_R 0 20), some (kq_I (nI i))] [] μ kl_Q := by
  obtain ⟨aK, aM, hz, hs⟩ := I
  refine ks_law_908 <| ks_law_909 (Nat.le_of_ble_eq_true rfl) ?_
  refine ko_K_wipe μ _ aK (fun μ1 a1 f1 => ?_)
  have m1 := aM.frK f1
  have e1 : kq_sc μ1 = kq_sc μ := f1.2.2
  refine ks_law_912 <| ks_law_913 (Nat.le_of_ble_eq_true rfl) ?_
  refine ko_M_wipe μ1 _ m1 (fun μ2 a2 f2 => ?_)
  refine ks_law_916 (fun h916 => ?_) (fun h916 => ?_)
  · exact k μ2 _ ⟨a1.frM f2, a2, kp_wipe hz, f2.2.2.trans (e1.trans hs)⟩
  · exact absurd rfl h916
theorem kl_inquest (hL : L ≤ 3072) (hi : i + 6 ≤ L) (I : kl_I L xs μ z) (k : ∀ μ' z', kl_I L xs μ' z' → kq_S km_law 12 1278 [some (kq_R 0 40), some (kq_R 0 0), some (kq_R 0 20), some (kq_I (nI i))] [] μ' kl_Q) : kq_S km_law 12 921 [some (kq_R 0 40), some (kq_R 0 0), some (kq_R 0 20), some (kq_I (nI i))] [] μ kl_Q := by
  obtain ⟨aK, aM, hz, hs⟩ := I
  refine ks_law_921 <| ks_law_922 (Nat.le_of_ble_eq_true rfl) ?_
  refine ko_K_inquest hz μ _ aK (fun μ1 a1 f1 => ?_)
  have m1 := aM.frK f1
  have e1 : kq_sc μ1 = kq_sc μ := f1.2.2
  refine ks_law_925 <| ks_law_926 (Nat.le_of_ble_eq_true rfl) ?_
  refine ko_M_inquest hz μ1 _ m1 (fun μ2 a2 f2 => ?_)
  refine ks_law_929 (fun h929 => ?_) (fun h929 => ?_)
  · exact k μ2 _ ⟨a1.frM f2, a2, kp_inquest hz, f2.2.2.trans (e1.trans hs)⟩
  · exact absurd rfl h929
theorem kl_sheet (hL : L ≤ 3072) (hi : i + 6 ≤ L) (I : kl_I L xs μ z) (k : ∀ μ' z', kl_I L xs μ' z' → kq_S km_law 12 1278 [some (kq_R 0 40), some (kq_R 0 0), some (kq_R 0 20), some (kq_I (nI i))] [] μ' kl_Q) : kq_S km_law 12 934 [some (kq_R 0 40), some (kq_R 0 0), some (kq_R 0 20), some (kq_I (nI i))] [] μ kl_Q := by
  obtain ⟨aK, aM, hz, hs⟩ := I
  have hj : ∀ k, k < 6 → i + k < (kq_sc μ).1 := fun k hk => by rw [hs]; show i + k < L; omega
  have hb : (kq_sc μ).1 < 2 ^ 31 := by rw [hs]; show L < 2 ^ 31; omega
  refine ks_law_934 <| ks_law_935 <| ks_law_936 <| ks_law_937 <| ks_law_938 <| ks_law_939 (i + 1) kl_x1 (hj 1 (by decide)) hb <| ks_law_940 <| ks_law_941 <| ks_law_942 <| ks_law_943 <| ks_law_944 (i + 2) kl_x2 (hj 2 (by decide)) hb <| ks_law_945 <| ks_law_946 <| ks_law_947 <| ks_law_948 <| ks_law_949 (i + 3) kl_x3 (hj 3 (by decide)) hb <| ks_law_950 (Nat.le_of_ble_eq_true rfl) ?_
  refine ko_K_sheet hz μ _ aK (fun μ1 a1 f1 => ?_)
  have m1 := aM.frK f1
  have e1 : kq_sc μ1 = kq_sc μ := f1.2.2
  rw [← e1] at hj hb
  refine ks_law_953 <| ks_law_954 <| ks_law_955 <| ks_law_956 <| ks_law_957 <| ks_law_958 (i + 1) kl_x1 (hj 1 (by decide)) hb <| ks_law_959 <| ks_law_960 <| ks_law_961 <| ks_law_962 <| ks_law_963 (i + 2) kl_x2 (hj 2 (by decide)) hb <| ks_law_964 <| ks_law_965 <| ks_law_966 <| ks_law_967 <| ks_law_968 (i + 3) kl_x3 (hj 3 (by decide)) hb <| ks_law_969 (Nat.le_of_ble_eq_true rfl) ?_
  rw [e1]
  refine ko_M_sheet μ1 _ m1 (fun μ2 a2 f2 => ?_)
  refine ks_law_972 (fun h972 => ?_) (fun h972 => ?_)
  · exact k μ2 _ ⟨a1.frM f2, a2, kp_sheet hz, f2.2.2.trans (e1.trans hs)⟩
  · exact absurd rfl h972
theorem kl_write (hL : L ≤ 3072) (hi : i + 6 ≤ L) (I : kl_I L xs μ z) (k : ∀ μ' z', kl_I L xs μ' z' → kq_S km_law 12 1278 [some (kq_R 0 40), some (kq_R 0 0), some (kq_R 0 20), some (kq_I (nI i))] [] μ' kl_Q) : kq_S km_law 12 977 [some (kq_R 0 40), some (kq_R 0 0), some (kq_R 0 20), some (kq_I (nI i))] [] μ kl_Q := by
  obtain ⟨aK, aM, hz, hs⟩ := I
  have hj : ∀ k, k < 6 → i + k < (kq_sc μ).1 := fun k hk => by rw [hs]; show i + k < L; omega
  have hb : (kq_sc μ).1 < 2 ^ 31 := by rw [hs]; show L < 2 ^ 31; omega
  refine ks_law_977 <| ks_law_978 <| ks_law_979 <| ks_law_980 <| ks_law_981 <| ks_law_982 (i + 1) kl_x1 (hj 1 (by decide)) hb <| ks_law_983 <| ks_law_984 <| ks_law_985 <| ks_law_986 <| ks_law_987 (i + 2) kl_x2 (hj 2 (by decide)) hb <| ks_law_988 <| ks_law_989 <| ks_law_990 <| ks_law_991 <| ks_law_992 (i + 3) kl_x3 (hj 3 (by decide)) hb <| ks_law_993 <| ks_law_994 <| ks_law_996 <| ks_law_997 <| ks_law_998 <| ks_law_999 <| ks_law_1000 <| ks_law_1001 (i + 4) kl_x4 (hj 4 (by decide)) hb <| ks_law_1002 <| ks_law_1003 <| ks_law_1006 <| ks_law_1007 <| ks_law_1008 (Nat.le_of_ble_eq_true rfl) ?_
  refine ko_K_write hz μ _ aK (fun μ1 a1 f1 => ?_)
  have m1 := aM.frK f1
  have e1 : kq_sc μ1 = kq_sc μ := f1.2.2
  rw [← e1] at hj hb
  refine ks_law_1011 <| ks_law_1012 <| ks_law_1013 <| ks_law_1014 <| ks_law_1015 <| ks_law_1016 (i + 1) kl_x1 (hj 1 (by decide)) hb <| ks_law_1017 <| ks_law_1018 <| ks_law_1019 <| ks_law_1020 <| ks_law_1021 (i + 2) kl_x2 (hj 2 (by decide)) hb <| ks_law_1022 <| ks_law_1023 <| ks_law_1024 <| ks_law_1025 <| ks_law_1026 (i + 3) kl_x3 (hj 3 (by decide)) hb <| ks_law_1027 <| ks_law_1028 <| ks_law_1030 <| ks_law_1031 <| ks_law_1032 <| ks_law_1033 <| ks_law_1034 <| ks_law_1035 (i + 4) kl_x4 (hj 4 (by decide)) hb <| ks_law_1036 <| ks_law_1037 <| ks_law_1040 <| ks_law_1041 <| ks_law_1042 (Nat.le_of_ble_eq_true rfl) ?_
  rw [e1]
  refine ko_M_write hz μ1 _ m1 (fun μ2 a2 f2 => ?_)
  refine ks_law_1045 <| ks_law_1046 (fun h1046 => ?_) (fun h1046 => ?_)
  · exact k μ2 _ ⟨a1.frM f2, a2, kp_write hz, f2.2.2.trans (e1.trans hs)⟩
  · exact absurd (lc_eq.mpr rfl) h1046
theorem kl_copy (hL : L ≤ 3072) (hi : i + 6 ≤ L) (I : kl_I L xs μ z) (k : ∀ μ' z', kl_I L xs μ' z' → kq_S km_law 12 1278 [some (kq_R 0 40), some (kq_R 0 0), some (kq_R 0 20), some (kq_I (nI i))] [] μ' kl_Q) : kq_S km_law 12 1051 [some (kq_R 0 40), some (kq_R 0 0), some (kq_R 0 20), some (kq_I (nI i))] [] μ kl_Q := by
  obtain ⟨aK, aM, hz, hs⟩ := I
  have hj : ∀ k, k < 6 → i + k < (kq_sc μ).1 := fun k hk => by rw [hs]; show i + k < L; omega
  have hb : (kq_sc μ).1 < 2 ^ 31 := by rw [hs]; show L < 2 ^ 31; omega
  refine ks_law_1051 <| ks_law_1052 <| ks_law_1053 <| ks_law_1054 <| ks_law_1055 <| ks_law_1056 (i + 1) kl_x1 (hj 1 (by decide)) hb <| ks_law_1057 <| ks_law_1058 <| ks_law_1059 <| ks_law_1060 <| ks_law_1061 (i + 2) kl_x2 (hj 2 (by decide)) hb <| ks_law_1062 <| ks_law_1063 <| ks_law_1064 <| ks_law_1065 <| ks_law_1066 (i + 3) kl_x3 (hj 3 (by decide)) hb <| ks_law_1067 <| ks_law_1068 <| ks_law_1069 <| ks_law_1070 <| ks_law_1071 (i + 4) kl_x4 (hj 4 (by decide)) hb <| ks_law_1072 <| ks_law_1073 <| ks_law_1074 <| ks_law_1075 <| ks_law_1076 (i + 5) kl_x5 (hj 5 (by decide)) hb <| ks_law_1077 (Nat.le_of_ble_eq_true rfl) ?_
  refine ko_K_copy hz μ _ aK (fun μ1 a1 f1 => ?_)
  have m1 := aM.frK f1
  have e1 : kq_sc μ1 = kq_sc μ := f1.2.2
  rw [← e1] at hj hb
  refine ks_law_1080 <| ks_law_1081 <| ks_law_1082 <| ks_law_1083 <| ks_law_1084 <| ks_law_1085 (i + 1) kl_x1 (hj 1 (by decide)) hb <| ks_law_1086 <| ks_law_1087 <| ks_law_1088 <| ks_law_1089 <| ks_law_1090 (i + 2) kl_x2 (hj 2 (by decide)) hb <| ks_law_1091 <| ks_law_1092 <| ks_law_1093 <| ks_law_1094 <| ks_law_1095 (i + 3) kl_x3 (hj 3 (by decide)) hb <| ks_law_1096 <| ks_law_1097 <| ks_law_1098 <| ks_law_1099 <| ks_law_1100 (i + 4) kl_x4 (hj 4 (by decide)) hb <| ks_law_1101 <| ks_law_1102 <| ks_law_1103 <| ks_law_1104 <| ks_law_1105 (i + 5) kl_x5 (hj 5 (by decide)) hb <| ks_law_1106 (Nat.le_of_ble_eq_true rfl) ?_
  rw [e1]
  refine ko_M_copy hz μ1 _ m1 (fun μ2 a2 f2 => ?_)
  refine ks_law_1109 (fun h1109 => ?_) (fun h1109 => ?_)
  · exact k μ2 _ ⟨a1.frM f2, a2, kp_copy hz, f2.2.2.trans (e1.trans hs)⟩
  · exact absurd rfl h1109
theorem kl_lays (hL : L ≤ 3072) (hi : i + 6 ≤ L) (I : kl_I L xs μ z) (k : ∀ μ' z', kl_I L xs μ' z' → kq_S km_law 12 1278 [some (kq_R 0 40), some (kq_R 0 0), some (kq_R 0 20), some (kq_I (nI i))] [] μ' kl_Q) : kq_S km_law 12 1114 [some (kq_R 0 40), some (kq_R 0 0), some (kq_R 0 20), some (kq_I (nI i))] [] μ kl_Q := by
  obtain ⟨aK, aM, hz, hs⟩ := I
  have hj : ∀ k, k < 6 → i + k < (kq_sc μ).1 := fun k hk => by rw [hs]; show i + k < L; omega
  have hb : (kq_sc μ).1 < 2 ^ 31 := by rw [hs]; show L < 2 ^ 31; omega
  refine ks_law_1114 <| ks_law_1115 <| ks_law_1116 <| ks_law_1117 <| ks_law_1118 <| ks_law_1119 (i + 1) kl_x1 (hj 1 (by decide)) hb <| ks_law_1120 (Nat.le_of_ble_eq_true rfl) ?_
  refine ko_K_lays hz μ _ aK (fun μ1 a1 f1 => ?_)
  have m1 := aM.frK f1
  have e1 : kq_sc μ1 = kq_sc μ := f1.2.2
  rw [← e1] at hj hb
  refine ks_law_1123 <| ks_law_1124 <| ks_law_1125 <| ks_law_1126 <| ks_law_1127 <| ks_law_1128 (i + 1) kl_x1 (hj 1 (by decide)) hb <| ks_law_1129 (Nat.le_of_ble_eq_true rfl) ?_
  rw [e1]
  refine ko_M_lays hz μ1 _ m1 (fun μ2 a2 f2 => ?_)
  refine ks_law_1132 (fun h1132 => ?_) (fun h1132 => ?_)
  · exact k μ2 _ ⟨a1.frM f2, a2, kp_lays hz, f2.2.2.trans (e1.trans hs)⟩
  · exact absurd rfl h1132
theorem kl_book (hL : L ≤ 3072) (hi : i + 6 ≤ L) (I : kl_I L xs μ z) (k : ∀ μ' z', kl_I L xs μ' z' → kq_S km_law 12 1278 [some (kq_R 0 40), some (kq_R 0 0), some (kq_R 0 20), some (kq_I (nI i))] [] μ' kl_Q) : kq_S km_law 12 1137 [some (kq_R 0 40), some (kq_R 0 0), some (kq_R 0 20), some (kq_I (nI i))] [] μ kl_Q := by
  obtain ⟨aK, aM, hz, hs⟩ := I
  have hj : ∀ k, k < 6 → i + k < (kq_sc μ).1 := fun k hk => by rw [hs]; show i + k < L; omega
  have hb : (kq_sc μ).1 < 2 ^ 31 := by rw [hs]; show L < 2 ^ 31; omega
  refine ks_law_1137 <| ks_law_1138 <| ks_law_1139 <| ks_law_1140 <| ks_law_1141 <| ks_law_1142 (i + 1) kl_x1 (hj 1 (by decide)) hb <| ks_law_1143 (Nat.le_of_ble_eq_true rfl) ?_
  refine ko_K_book hz μ _ aK (fun μ1 a1 f1 => ?_)
  have m1 := aM.frK f1
  have e1 : kq_sc μ1 = kq_sc μ := f1.2.2
  rw [← e1] at hj hb
  refine ks_law_1146 <| ks_law_1147 <| ks_law_1148 <| ks_law_1149 <| ks_law_1150 <| ks_law_1151 (i + 1) kl_x1 (hj 1 (by decide)) hb <| ks_law_1152 (Nat.le_of_ble_eq_true rfl) ?_
  rw [e1]
  refine ko_M_book hz μ1 _ m1 (fun μ2 a2 f2 => ?_)
  refine ks_law_1155 (fun h1155 => ?_) (fun h1155 => ?_)
  · exact k μ2 _ ⟨a1.frM f2, a2, kp_book hz, f2.2.2.trans (e1.trans hs)⟩
  · exact absurd rfl h1155
theorem kl_read (hL : L ≤ 3072) (hi : i + 6 ≤ L) (I : kl_I L xs μ z) (k : ∀ μ' z', kl_I L xs μ' z' → kq_S km_law 12 1278 [some (kq_R 0 40), some (kq_R 0 0), some (kq_R 0 20), some (kq_I (nI i))] [] μ' kl_Q) : kq_S km_law 12 1160 [some (kq_R 0 40), some (kq_R 0 0), some (kq_R 0 20), some (kq_I (nI i))] [] μ kl_Q := by
  obtain ⟨aK, aM, hz, hs⟩ := I
  have hj : ∀ k, k < 6 → i + k < (kq_sc μ).1 := fun k hk => by rw [hs]; show i + k < L; omega
  have hb : (kq_sc μ).1 < 2 ^ 31 := by rw [hs]; show L < 2 ^ 31; omega
  refine ks_law_1160 <| ks_law_1161 <| ks_law_1162 <| ks_law_1163 <| ks_law_1164 <| ks_law_1165 (i + 1) kl_x1 (hj 1 (by decide)) hb <| ks_law_1166 <| ks_law_1167 <| ks_law_1168 <| ks_law_1169 <| ks_law_1170 (i + 2) kl_x2 (hj 2 (by decide)) hb <| ks_law_1171 (Nat.le_of_ble_eq_true rfl) ?_
  refine ko_K_read hz μ _ aK (fun μ1 a1 f1 => ?_)
  have m1 := aM.frK f1
  have e1 : kq_sc μ1 = kq_sc μ := f1.2.2
  rw [← e1] at hj hb
  refine ks_law_1174 <| ks_law_1175 <| ks_law_1176 <| ks_law_1177 <| ks_law_1178 <| ks_law_1179 (i + 1) kl_x1 (hj 1 (by decide)) hb <| ks_law_1180 <| ks_law_1181 <| ks_law_1182 <| ks_law_1183 <| ks_law_1184 (i + 2) kl_x2 (hj 2 (by decide)) hb <| ks_law_1185 (Nat.le_of_ble_eq_true rfl) ?_
  rw [e1]
  refine ko_M_read hz μ1 _ m1 (fun μ2 a2 f2 => ?_)
  refine ks_law_1188 (fun h1188 => ?_) (fun h1188 => ?_)
  · exact k μ2 _ ⟨a1.frM f2, a2, kp_read hz, f2.2.2.trans (e1.trans hs)⟩
  · exact absurd rfl h1188
theorem kl_image (hL : L ≤ 3072) (hi : i + 6 ≤ L) (I : kl_I L xs μ z) (k : ∀ μ' z', kl_I L xs μ' z' → kq_S km_law 12 1278 [some (kq_R 0 40), some (kq_R 0 0), some (kq_R 0 20), some (kq_I (nI i))] [] μ' kl_Q) : kq_S km_law 12 1193 [some (kq_R 0 40), some (kq_R 0 0), some (kq_R 0 20), some (kq_I (nI i))] [] μ kl_Q := by
  obtain ⟨aK, aM, hz, hs⟩ := I
  refine ks_law_1193 <| ks_law_1194 (Nat.le_of_ble_eq_true rfl) ?_
  refine ko_K_image hz μ _ aK (fun μ1 a1 f1 => ?_)
  have m1 := aM.frK f1
  have e1 : kq_sc μ1 = kq_sc μ := f1.2.2
  refine ks_law_1197 <| ks_law_1198 (Nat.le_of_ble_eq_true rfl) ?_
  refine ko_M_image hz μ1 _ m1 (fun μ2 a2 f2 => ?_)
  refine ks_law_1201 (fun h1201 => ?_) (fun h1201 => ?_)
  · exact k μ2 _ ⟨a1.frM f2, a2, kp_image hz, f2.2.2.trans (e1.trans hs)⟩
  · exact absurd rfl h1201
theorem kl_undo (hL : L ≤ 3072) (hi : i + 6 ≤ L) (I : kl_I L xs μ z) (k : ∀ μ' z', kl_I L xs μ' z' → kq_S km_law 12 1278 [some (kq_R 0 40), some (kq_R 0 0), some (kq_R 0 20), some (kq_I (nI i))] [] μ' kl_Q) : kq_S km_law 12 1206 [some (kq_R 0 40), some (kq_R 0 0), some (kq_R 0 20), some (kq_I (nI i))] [] μ kl_Q := by
  obtain ⟨aK, aM, hz, hs⟩ := I
  refine ks_law_1206 <| ks_law_1207 (Nat.le_of_ble_eq_true rfl) ?_
  refine ko_K_undo hz μ _ aK (fun μ1 a1 f1 => ?_)
  have m1 := aM.frK f1
  have e1 : kq_sc μ1 = kq_sc μ := f1.2.2
  refine ks_law_1210 <| ks_law_1211 (Nat.le_of_ble_eq_true rfl) ?_
  refine ko_M_undo hz μ1 _ m1 (fun μ2 a2 f2 => ?_)
  refine ks_law_1214 (fun h1214 => ?_) (fun h1214 => ?_)
  · exact k μ2 _ ⟨a1.frM f2, a2, kp_undo hz, f2.2.2.trans (e1.trans hs)⟩
  · exact absurd rfl h1214
theorem kl_tear (hL : L ≤ 3072) (hi : i + 6 ≤ L) (I : kl_I L xs μ z) (k : ∀ μ' z', kl_I L xs μ' z' → kq_S km_law 12 1278 [some (kq_R 0 40), some (kq_R 0 0), some (kq_R 0 20), some (kq_I (nI i))] [] μ' kl_Q) : kq_S km_law 12 1219 [some (kq_R 0 40), some (kq_R 0 0), some (kq_R 0 20), some (kq_I (nI i))] [] μ kl_Q := by
  obtain ⟨aK, aM, hz, hs⟩ := I
  refine ks_law_1219 <| ks_law_1220 (Nat.le_of_ble_eq_true rfl) ?_
  refine ko_K_tear μ _ aK (fun μ1 a1 f1 => ?_)
  have m1 := aM.frK f1
  have e1 : kq_sc μ1 = kq_sc μ := f1.2.2
  refine ks_law_1223 <| ks_law_1224 (Nat.le_of_ble_eq_true rfl) ?_
  refine ko_M_tear μ1 _ m1 (fun μ2 a2 f2 => ?_)
  refine ks_law_1227 (fun h1227 => ?_) (fun h1227 => ?_)
  · exact k μ2 _ ⟨a1.frM f2, a2, kp_tear hz, f2.2.2.trans (e1.trans hs)⟩
  · exact absurd rfl h1227
theorem kl_count (hL : L ≤ 3072) (hi : i + 6 ≤ L) (I : kl_I L xs μ z) (k : ∀ μ' z', kl_I L xs μ' z' → kq_S km_law 12 1278 [some (kq_R 0 40), some (kq_R 0 0), some (kq_R 0 20), some (kq_I (nI i))] [] μ' kl_Q) : kq_S km_law 12 1232 [some (kq_R 0 40), some (kq_R 0 0), some (kq_R 0 20), some (kq_I (nI i))] [] μ kl_Q := by
  obtain ⟨aK, aM, hz, hs⟩ := I
  have hj : ∀ k, k < 6 → i + k < (kq_sc μ).1 := fun k hk => by rw [hs]; show i + k < L; omega
  have hb : (kq_sc μ).1 < 2 ^ 31 := by rw [hs]; show L < 2 ^ 31; omega
  refine ks_law_1232 <| ks_law_1233 <| ks_law_1234 <| ks_law_1235 <| ks_law_1236 <| ks_law_1237 (i + 1) kl_x1 (hj 1 (by decide)) hb <| ks_law_1238 (Nat.le_of_ble_eq_true rfl) ?_
  refine ko_K_count hz μ _ aK (fun μ1 a1 f1 => ?_)
  have m1 := aM.frK f1
  have e1 : kq_sc μ1 = kq_sc μ := f1.2.2
  rw [← e1] at hj hb
  refine ks_law_1241 <| ks_law_1242 <| ks_law_1243 <| ks_law_1244 <| ks_law_1245 <| ks_law_1246 (i + 1) kl_x1 (hj 1 (by decide)) hb <| ks_law_1247 (Nat.le_of_ble_eq_true rfl) ?_
  rw [e1]
  refine ko_M_count hz μ1 _ m1 (fun μ2 a2 f2 => ?_)
  refine ks_law_1250 (fun h1250 => ?_) (fun h1250 => ?_)
  · exact k μ2 _ ⟨a1.frM f2, a2, kp_count hz, f2.2.2.trans (e1.trans hs)⟩
  · exact absurd rfl h1250
theorem kl_status (hL : L ≤ 3072) (hi : i + 6 ≤ L) (I : kl_I L xs μ z) (k : ∀ μ' z', kl_I L xs μ' z' → kq_S km_law 12 1278 [some (kq_R 0 40), some (kq_R 0 0), some (kq_R 0 20), some (kq_I (nI i))] [] μ' kl_Q) : kq_S km_law 12 1255 [some (kq_R 0 40), some (kq_R 0 0), some (kq_R 0 20), some (kq_I (nI i))] [] μ kl_Q := by
  obtain ⟨aK, aM, hz, hs⟩ := I
  have hj : ∀ k, k < 6 → i + k < (kq_sc μ).1 := fun k hk => by rw [hs]; show i + k < L; omega
  have hb : (kq_sc μ).1 < 2 ^ 31 := by rw [hs]; show L < 2 ^ 31; omega
  refine ks_law_1255 <| ks_law_1256 <| ks_law_1257 <| ks_law_1258 <| ks_law_1259 <| ks_law_1260 (i + 1) kl_x1 (hj 1 (by decide)) hb <| ks_law_1261 (Nat.le_of_ble_eq_true rfl) ?_
  refine ko_K_status μ _ aK (fun μ1 a1 f1 => ?_)
  have m1 := aM.frK f1
  have e1 : kq_sc μ1 = kq_sc μ := f1.2.2
  rw [← e1] at hj hb
  refine ks_law_1264 <| ks_law_1265 <| ks_law_1266 <| ks_law_1267 <| ks_law_1268 <| ks_law_1269 (i + 1) kl_x1 (hj 1 (by decide)) hb <| ks_law_1270 (Nat.le_of_ble_eq_true rfl) ?_
  rw [e1]
  refine ko_M_status μ1 _ m1 (fun μ2 a2 f2 => ?_)
  refine ks_law_1273 (fun h1273 => ?_) (fun h1273 => ?_)
  · exact k μ2 _ ⟨a1.frM f2, a2, kp_status hz, f2.2.2.trans (e1.trans hs)⟩
  · exact absurd rfl h1273
end KL
