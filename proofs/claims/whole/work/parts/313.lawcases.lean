-- the law's cases
section LC
variable {X : Cx} {Qf : Unit → State → Prop} {h : Hp} {b L q0 a1 a2 i : Nat} {xs : Nat → Int32} {f : Nat → Int64}
set_option maxRecDepth 100000 in
theorem la_0 (Z : LawX X b L xs q0 a1 a2) (hi : i + 6 ≤ L) (j : JI h) (K : ∀ f h', JI h' → Wt (bump X) Qf [oc (xG X) q0 f] 1520 (lvL X b q0 i) [] h' (some ())) : Wt X Qf [oc (xG X) q0 f] 200 (lvL X b q0 i) [] h (some ()) := by
  have F := Z.1.1
  obtain ⟨a, g, g', e1, e2, j'⟩ := b_feed (N := 1000) (Nat.le_refl _) j (xs (i + 1)) (xs (i + 2)) (xs (i + 3)) (xs (i + 4)) (xs (i + 5))
  refine r_aload_n F 1 rfl dL_law_200 rfl ?_
  refine r_arg Z rfl rfl 1 (by decide) hi dL_law_201 dL_law_202 dL_law_204 dL_law_205 dL_law_206 ?_
  refine r_arg Z rfl rfl 2 (by decide) hi dL_law_207 dL_law_208 dL_law_210 dL_law_211 dL_law_212 ?_
  refine r_arg Z rfl rfl 3 (by decide) hi dL_law_213 dL_law_214 dL_law_216 dL_law_217 dL_law_218 ?_
  refine r_arg Z rfl rfl 4 (by decide) hi dL_law_219 dL_law_220 dL_law_222 dL_law_223 dL_law_224 ?_
  refine r_arg Z rfl rfl 5 (by decide) hi dL_law_225 dL_law_226 dL_law_228 dL_law_229 dL_law_230 ?_
  refine run_known (run_V F cvL_21 (by decide) (c_X7_feed (xG X) _ 1000 h (xs (i + 1)) (xs (i + 2)) (xs (i + 3)) (xs (i + 4)) (xs (i + 5))) rfl rfl ⟨⟨rfl, rfl⟩, Nat.le_of_ble_eq_true rfl, Nat.le_of_ble_eq_true rfl⟩ (Nat.le_of_ble_eq_true rfl) dL_law_231) e1 rfl ?_
  refine r_aload_n F 2 rfl dL_law_234 rfl ?_
  refine r_arg Z rfl rfl 1 (by decide) hi dL_law_235 dL_law_236 dL_law_238 dL_law_239 dL_law_240 ?_
  refine r_arg Z rfl rfl 2 (by decide) hi dL_law_241 dL_law_242 dL_law_244 dL_law_245 dL_law_246 ?_
  refine r_arg Z rfl rfl 3 (by decide) hi dL_law_247 dL_law_248 dL_law_250 dL_law_251 dL_law_252 ?_
  refine r_arg Z rfl rfl 4 (by decide) hi dL_law_253 dL_law_254 dL_law_256 dL_law_257 dL_law_258 ?_
  refine r_arg Z rfl rfl 5 (by decide) hi dL_law_259 dL_law_260 dL_law_262 dL_law_263 dL_law_264 ?_
  refine run_known (run_V F cvL_25 (by decide) (c_X8_feed (xG X) _ 1000 g (xs (i + 1)) (xs (i + 2)) (xs (i + 3)) (xs (i + 4)) (xs (i + 5))) rfl rfl ⟨⟨rfl, rfl⟩, Nat.le_of_ble_eq_true rfl, Nat.le_of_ble_eq_true rfl⟩ (Nat.le_of_ble_eq_true rfl) dL_law_265) e2 rfl ?_
  refine r_same F (tgt := 1520) dL_law_268 (by decide) ?_
  exact Wt_bump (K f g' j')
set_option maxRecDepth 100000 in
theorem la_1 (Z : LawX X b L xs q0 a1 a2) (hi : i + 6 ≤ L) (j : JI h) (K : ∀ f h', JI h' → Wt (bump X) Qf [oc (xG X) q0 f] 1520 (lvL X b q0 i) [] h' (some ())) : Wt X Qf [oc (xG X) q0 f] 273 (lvL X b q0 i) [] h (some ()) := by
  have F := Z.1.1
  obtain ⟨a, g, g', e1, e2, j'⟩ := b_text (N := 1000) (Nat.le_refl _) j (xs (i + 1))
  refine r_aload_n F 1 rfl dL_law_273 rfl ?_
  refine r_arg Z rfl rfl 1 (by decide) hi dL_law_274 dL_law_275 dL_law_277 dL_law_278 dL_law_279 ?_
  refine run_known (run_V F cvL_26 (by decide) (c_X7_text (xG X) _ 1000 h (xs (i + 1))) rfl rfl ⟨⟨rfl, rfl⟩, Nat.le_of_ble_eq_true rfl, Nat.le_of_ble_eq_true rfl⟩ (Nat.le_of_ble_eq_true rfl) dL_law_280) e1 rfl ?_
  refine r_aload_n F 2 rfl dL_law_283 rfl ?_
  refine r_arg Z rfl rfl 1 (by decide) hi dL_law_284 dL_law_285 dL_law_287 dL_law_288 dL_law_289 ?_
  refine run_known (run_V F cvL_30 (by decide) (c_X8_text (xG X) _ 1000 g (xs (i + 1))) rfl rfl ⟨⟨rfl, rfl⟩, Nat.le_of_ble_eq_true rfl, Nat.le_of_ble_eq_true rfl⟩ (Nat.le_of_ble_eq_true rfl) dL_law_290) e2 rfl ?_
  refine r_same F (tgt := 1520) dL_law_293 (by decide) ?_
  exact Wt_bump (K f g' j')
set_option maxRecDepth 100000 in
theorem la_2 (Z : LawX X b L xs q0 a1 a2) (hi : i + 6 ≤ L) (j : JI h) (K : ∀ f h', JI h' → Wt (bump X) Qf [oc (xG X) q0 f] 1520 (lvL X b q0 i) [] h' (some ())) : Wt X Qf [oc (xG X) q0 f] 298 (lvL X b q0 i) [] h (some ()) := by
  have F := Z.1.1
  obtain ⟨a, g', e1, e2, j'⟩ := b_fault (N := 1000) (Nat.le_refl _) j (xs (i + 1))
  refine r_aload_n F 1 rfl dL_law_298 rfl ?_
  refine r_arg Z rfl rfl 1 (by decide) hi dL_law_299 dL_law_300 dL_law_302 dL_law_303 dL_law_304 ?_
  refine run_known (run_V F cvL_31 (by decide) (c_X7_fault (xG X) _ h (xs (i + 1))) rfl rfl ⟨⟨rfl, rfl⟩, Nat.le_of_ble_eq_true rfl, Nat.le_of_ble_eq_true rfl⟩ (Nat.le_of_ble_eq_true rfl) dL_law_305) e1 rfl ?_
  refine r_aload_n F 2 rfl dL_law_308 rfl ?_
  refine r_arg Z rfl rfl 1 (by decide) hi dL_law_309 dL_law_310 dL_law_312 dL_law_313 dL_law_314 ?_
  refine run_known (run_V F cvL_34 (by decide) (c_X8_fault (xG X) _ h (xs (i + 1))) rfl rfl ⟨⟨rfl, rfl⟩, Nat.le_of_ble_eq_true rfl, Nat.le_of_ble_eq_true rfl⟩ (Nat.le_of_ble_eq_true rfl) dL_law_315) e2 rfl ?_
  refine r_same F (tgt := 1520) dL_law_318 (by decide) ?_
  exact Wt_bump (K f g' j')
set_option maxRecDepth 100000 in
theorem la_3 (Z : LawX X b L xs q0 a1 a2) (hi : i + 6 ≤ L) (j : JI h) (K : ∀ f h', JI h' → Wt (bump X) Qf [oc (xG X) q0 f] 1520 (lvL X b q0 i) [] h' (some ())) : Wt X Qf [oc (xG X) q0 f] 323 (lvL X b q0 i) [] h (some ()) := by
  have F := Z.1.1
  obtain ⟨a, g', e1, e2, j'⟩ := b_named (N := 1000) (Nat.le_refl _) j (xs (i + 1))
  refine r_aload_n F 1 rfl dL_law_323 rfl ?_
  refine r_arg Z rfl rfl 1 (by decide) hi dL_law_324 dL_law_325 dL_law_327 dL_law_328 dL_law_329 ?_
  refine run_known (run_V F cvL_35 (by decide) (c_X7_named (xG X) _ 1000 h (xs (i + 1))) rfl rfl ⟨⟨rfl, rfl⟩, Nat.le_of_ble_eq_true rfl, Nat.le_of_ble_eq_true rfl⟩ (Nat.le_of_ble_eq_true rfl) dL_law_330) e1 rfl ?_
  refine r_aload_n F 2 rfl dL_law_333 rfl ?_
  refine r_arg Z rfl rfl 1 (by decide) hi dL_law_334 dL_law_335 dL_law_337 dL_law_338 dL_law_339 ?_
  refine run_known (run_V F cvL_38 (by decide) (c_X8_named (xG X) _ 1000 h (xs (i + 1))) rfl rfl ⟨⟨rfl, rfl⟩, Nat.le_of_ble_eq_true rfl, Nat.le_of_ble_eq_true rfl⟩ (Nat.le_of_ble_eq_true rfl) dL_law_340) e2 rfl ?_
  refine r_same F (tgt := 1520) dL_law_343 (by decide) ?_
  exact Wt_bump (K f g' j')
set_option maxRecDepth 100000 in
theorem la_5 (Z : LawX X b L xs q0 a1 a2) (hi : i + 6 ≤ L) (j : JI h) (K : ∀ f h', JI h' → Wt (bump X) Qf [oc (xG X) q0 f] 1520 (lvL X b q0 i) [] h' (some ())) : Wt X Qf [oc (xG X) q0 f] 416 (lvL X b q0 i) [] h (some ()) := by
  have F := Z.1.1
  obtain ⟨a, g', e1, e2, j'⟩ := b_croft (N := 1000) (Nat.le_refl _) j (xs (i + 1)) (xs (i + 2))
  refine r_aload_n F 1 rfl dL_law_416 rfl ?_
  refine r_arg Z rfl rfl 1 (by decide) hi dL_law_417 dL_law_418 dL_law_420 dL_law_421 dL_law_422 ?_
  refine r_arg Z rfl rfl 2 (by decide) hi dL_law_423 dL_law_424 dL_law_426 dL_law_427 dL_law_428 ?_
  refine run_known (run_V F cvL_49 (by decide) (c_X7_croft (xG X) _ 1000 h (xs (i + 1)) (xs (i + 2))) rfl rfl ⟨⟨rfl, rfl⟩, Nat.le_of_ble_eq_true rfl, Nat.le_of_ble_eq_true rfl⟩ (Nat.le_of_ble_eq_true rfl) dL_law_429) e1 rfl ?_
  refine r_aload_n F 2 rfl dL_law_432 rfl ?_
  refine r_arg Z rfl rfl 1 (by decide) hi dL_law_433 dL_law_434 dL_law_436 dL_law_437 dL_law_438 ?_
  refine r_arg Z rfl rfl 2 (by decide) hi dL_law_439 dL_law_440 dL_law_442 dL_law_443 dL_law_444 ?_
  refine run_known (run_V F cvL_52 (by decide) (c_X8_croft (xG X) _ 1000 h (xs (i + 1)) (xs (i + 2))) rfl rfl ⟨⟨rfl, rfl⟩, Nat.le_of_ble_eq_true rfl, Nat.le_of_ble_eq_true rfl⟩ (Nat.le_of_ble_eq_true rfl) dL_law_445) e2 rfl ?_
  refine r_same F (tgt := 1520) dL_law_448 (by decide) ?_
  exact Wt_bump (K f g' j')
set_option maxRecDepth 100000 in
theorem la_6 (Z : LawX X b L xs q0 a1 a2) (hi : i + 6 ≤ L) (j : JI h) (K : ∀ f h', JI h' → Wt (bump X) Qf [oc (xG X) q0 f] 1520 (lvL X b q0 i) [] h' (some ())) : Wt X Qf [oc (xG X) q0 f] 453 (lvL X b q0 i) [] h (some ()) := by
  have F := Z.1.1
  obtain ⟨a, g, g', e1, e2, j'⟩ := b_field (N := 1000) (Nat.le_refl _) j (xs (i + 1)) (xs (i + 2))
  refine r_aload_n F 1 rfl dL_law_453 rfl ?_
  refine r_arg Z rfl rfl 1 (by decide) hi dL_law_454 dL_law_455 dL_law_457 dL_law_458 dL_law_459 ?_
  refine r_arg Z rfl rfl 2 (by decide) hi dL_law_460 dL_law_461 dL_law_463 dL_law_464 dL_law_465 ?_
  refine run_known (run_V F cvL_53 (by decide) (c_X7_field (xG X) _ 1000 h (xs (i + 1)) (xs (i + 2))) rfl rfl ⟨⟨rfl, rfl⟩, Nat.le_of_ble_eq_true rfl, Nat.le_of_ble_eq_true rfl⟩ (Nat.le_of_ble_eq_true rfl) dL_law_466) e1 rfl ?_
  refine r_aload_n F 2 rfl dL_law_469 rfl ?_
  refine r_arg Z rfl rfl 1 (by decide) hi dL_law_470 dL_law_471 dL_law_473 dL_law_474 dL_law_475 ?_
  refine r_arg Z rfl rfl 2 (by decide) hi dL_law_476 dL_law_477 dL_law_479 dL_law_480 dL_law_481 ?_
  refine run_known (run_V F cvL_56 (by decide) (c_X8_field (xG X) _ 1000 g (xs (i + 1)) (xs (i + 2))) rfl rfl ⟨⟨rfl, rfl⟩, Nat.le_of_ble_eq_true rfl, Nat.le_of_ble_eq_true rfl⟩ (Nat.le_of_ble_eq_true rfl) dL_law_482) e2 rfl ?_
  refine r_same F (tgt := 1520) dL_law_485 (by decide) ?_
  exact Wt_bump (K f g' j')
set_option maxRecDepth 100000 in
theorem la_7 (Z : LawX X b L xs q0 a1 a2) (hi : i + 6 ≤ L) (j : JI h) (K : ∀ f h', JI h' → Wt (bump X) Qf [oc (xG X) q0 f] 1520 (lvL X b q0 i) [] h' (some ())) : Wt X Qf [oc (xG X) q0 f] 490 (lvL X b q0 i) [] h (some ()) := by
  have F := Z.1.1
  obtain ⟨a, g', e1, e2, j'⟩ := b_source (N := 1000) (Nat.le_refl _) j (xs (i + 1)) (xs (i + 2))
  refine r_aload_n F 1 rfl dL_law_490 rfl ?_
  refine r_arg Z rfl rfl 1 (by decide) hi dL_law_491 dL_law_492 dL_law_494 dL_law_495 dL_law_496 ?_
  refine r_arg Z rfl rfl 2 (by decide) hi dL_law_497 dL_law_498 dL_law_500 dL_law_501 dL_law_502 ?_
  refine run_known (run_V F cvL_57 (by decide) (c_X7_source (xG X) _ 1000 h (xs (i + 1)) (xs (i + 2))) rfl rfl ⟨⟨rfl, rfl⟩, Nat.le_of_ble_eq_true rfl, Nat.le_of_ble_eq_true rfl⟩ (Nat.le_of_ble_eq_true rfl) dL_law_503) e1 rfl ?_
  refine r_aload_n F 2 rfl dL_law_506 rfl ?_
  refine r_arg Z rfl rfl 1 (by decide) hi dL_law_507 dL_law_508 dL_law_510 dL_law_511 dL_law_512 ?_
  refine r_arg Z rfl rfl 2 (by decide) hi dL_law_513 dL_law_514 dL_law_516 dL_law_517 dL_law_518 ?_
  refine run_known (run_V F cvL_60 (by decide) (c_X8_source (xG X) _ 1000 h (xs (i + 1)) (xs (i + 2))) rfl rfl ⟨⟨rfl, rfl⟩, Nat.le_of_ble_eq_true rfl, Nat.le_of_ble_eq_true rfl⟩ (Nat.le_of_ble_eq_true rfl) dL_law_519) e2 rfl ?_
  refine r_same F (tgt := 1520) dL_law_522 (by decide) ?_
  exact Wt_bump (K f g' j')
set_option maxRecDepth 100000 in
theorem la_8 (Z : LawX X b L xs q0 a1 a2) (hi : i + 6 ≤ L) (j : JI h) (K : ∀ f h', JI h' → Wt (bump X) Qf [oc (xG X) q0 f] 1520 (lvL X b q0 i) [] h' (some ())) : Wt X Qf [oc (xG X) q0 f] 527 (lvL X b q0 i) [] h (some ()) := by
  have F := Z.1.1
  obtain ⟨a, g, g', e1, e2, j'⟩ := b_law (N := 1000) (Nat.le_refl _) j (xs (i + 1)) (xs (i + 2)) (xs (i + 3))
  refine r_aload_n F 1 rfl dL_law_527 rfl ?_
  refine r_arg Z rfl rfl 1 (by decide) hi dL_law_528 dL_law_529 dL_law_531 dL_law_532 dL_law_533 ?_
  refine r_arg Z rfl rfl 2 (by decide) hi dL_law_534 dL_law_535 dL_law_537 dL_law_538 dL_law_539 ?_
  refine r_arg Z rfl rfl 3 (by decide) hi dL_law_540 dL_law_541 dL_law_543 dL_law_544 dL_law_545 ?_
  refine run_known (run_V F cvL_61 (by decide) (c_X7_law (xG X) _ 1000 h (xs (i + 1)) (xs (i + 2)) (xs (i + 3))) rfl rfl ⟨⟨rfl, rfl⟩, Nat.le_of_ble_eq_true rfl, Nat.le_of_ble_eq_true rfl⟩ (Nat.le_of_ble_eq_true rfl) dL_law_546) e1 rfl ?_
  refine r_aload_n F 2 rfl dL_law_549 rfl ?_
  refine r_arg Z rfl rfl 1 (by decide) hi dL_law_550 dL_law_551 dL_law_553 dL_law_554 dL_law_555 ?_
  refine r_arg Z rfl rfl 2 (by decide) hi dL_law_556 dL_law_557 dL_law_559 dL_law_560 dL_law_561 ?_
  refine r_arg Z rfl rfl 3 (by decide) hi dL_law_562 dL_law_563 dL_law_565 dL_law_566 dL_law_567 ?_
  refine run_known (run_V F cvL_65 (by decide) (c_X8_law (xG X) _ 1000 g (xs (i + 1)) (xs (i + 2)) (xs (i + 3))) rfl rfl ⟨⟨rfl, rfl⟩, Nat.le_of_ble_eq_true rfl, Nat.le_of_ble_eq_true rfl⟩ (Nat.le_of_ble_eq_true rfl) dL_law_568) e2 rfl ?_
  refine r_sameL F (tgt := 1520) dL_law_571 dL_law_572 (by decide) ?_
  exact Wt_bump (K f g' j')
set_option maxRecDepth 100000 in
theorem la_9 (Z : LawX X b L xs q0 a1 a2) (hi : i + 6 ≤ L) (j : JI h) (K : ∀ f h', JI h' → Wt (bump X) Qf [oc (xG X) q0 f] 1520 (lvL X b q0 i) [] h' (some ())) : Wt X Qf [oc (xG X) q0 f] 577 (lvL X b q0 i) [] h (some ()) := by
  have F := Z.1.1
  obtain ⟨a, g, g', e1, e2, j'⟩ := b_act (N := 1000) (Nat.le_refl _) j (xs (i + 1)) (xs (i + 2))
  refine r_aload_n F 1 rfl dL_law_577 rfl ?_
  refine r_arg Z rfl rfl 1 (by decide) hi dL_law_578 dL_law_579 dL_law_581 dL_law_582 dL_law_583 ?_
  refine r_arg Z rfl rfl 2 (by decide) hi dL_law_584 dL_law_585 dL_law_587 dL_law_588 dL_law_589 ?_
  refine run_known (run_V F cvL_66 (by decide) (c_X7_act (xG X) _ h (xs (i + 1)) (xs (i + 2))) rfl rfl ⟨⟨rfl, rfl⟩, Nat.le_of_ble_eq_true rfl, Nat.le_of_ble_eq_true rfl⟩ (Nat.le_of_ble_eq_true rfl) dL_law_590) e1 rfl ?_
  refine r_aload_n F 2 rfl dL_law_593 rfl ?_
  refine r_arg Z rfl rfl 1 (by decide) hi dL_law_594 dL_law_595 dL_law_597 dL_law_598 dL_law_599 ?_
  refine r_arg Z rfl rfl 2 (by decide) hi dL_law_600 dL_law_601 dL_law_603 dL_law_604 dL_law_605 ?_
  refine run_known (run_V F cvL_70 (by decide) (c_X8_act (xG X) _ 1000 g (xs (i + 1)) (xs (i + 2))) rfl rfl ⟨⟨rfl, rfl⟩, Nat.le_of_ble_eq_true rfl, Nat.le_of_ble_eq_true rfl⟩ (Nat.le_of_ble_eq_true rfl) dL_law_606) e2 rfl ?_
  refine r_same F (tgt := 1520) dL_law_609 (by decide) ?_
  exact Wt_bump (K f g' j')
set_option maxRecDepth 100000 in
theorem la_10 (Z : LawX X b L xs q0 a1 a2) (hi : i + 6 ≤ L) (j : JI h) (K : ∀ f h', JI h' → Wt (bump X) Qf [oc (xG X) q0 f] 1520 (lvL X b q0 i) [] h' (some ())) : Wt X Qf [oc (xG X) q0 f] 614 (lvL X b q0 i) [] h (some ()) := by
  have F := Z.1.1
  obtain ⟨a, g, g', e1, e2, j'⟩ := b_rule (N := 1000) (Nat.le_refl _) j (xs (i + 1))
  refine r_aload_n F 1 rfl dL_law_614 rfl ?_
  refine r_arg Z rfl rfl 1 (by decide) hi dL_law_615 dL_law_616 dL_law_618 dL_law_619 dL_law_620 ?_
  refine run_known (run_V F cvL_71 (by decide) (c_X7_rule (xG X) _ h (xs (i + 1))) rfl rfl ⟨⟨rfl, rfl⟩, Nat.le_of_ble_eq_true rfl, Nat.le_of_ble_eq_true rfl⟩ (Nat.le_of_ble_eq_true rfl) dL_law_621) e1 rfl ?_
  refine r_aload_n F 2 rfl dL_law_624 rfl ?_
  refine r_arg Z rfl rfl 1 (by decide) hi dL_law_625 dL_law_626 dL_law_628 dL_law_629 dL_law_630 ?_
  refine run_known (run_V F cvL_75 (by decide) (c_X8_rule (xG X) _ 1000 g (xs (i + 1))) rfl rfl ⟨⟨rfl, rfl⟩, Nat.le_of_ble_eq_true rfl, Nat.le_of_ble_eq_true rfl⟩ (Nat.le_of_ble_eq_true rfl) dL_law_631) e2 rfl ?_
  refine r_same F (tgt := 1520) dL_law_634 (by decide) ?_
  exact Wt_bump (K f g' j')
set_option maxRecDepth 100000 in
theorem la_11 (Z : LawX X b L xs q0 a1 a2) (hi : i + 6 ≤ L) (j : JI h) (K : ∀ f h', JI h' → Wt (bump X) Qf [oc (xG X) q0 f] 1520 (lvL X b q0 i) [] h' (some ())) : Wt X Qf [oc (xG X) q0 f] 639 (lvL X b q0 i) [] h (some ()) := by
  have F := Z.1.1
  obtain ⟨a, g, g', e1, e2, j'⟩ := b_lot (N := 1000) (Nat.le_refl _) j (xs (i + 1)) (xs (i + 2))
  refine r_aload_n F 1 rfl dL_law_639 rfl ?_
  refine r_arg Z rfl rfl 1 (by decide) hi dL_law_640 dL_law_641 dL_law_643 dL_law_644 dL_law_645 ?_
  refine r_arg Z rfl rfl 2 (by decide) hi dL_law_646 dL_law_647 dL_law_649 dL_law_650 dL_law_651 ?_
  refine run_known (run_V F cvL_76 (by decide) (c_X7_lot (xG X) _ h (xs (i + 1)) (xs (i + 2))) rfl rfl ⟨⟨rfl, rfl⟩, Nat.le_of_ble_eq_true rfl, Nat.le_of_ble_eq_true rfl⟩ (Nat.le_of_ble_eq_true rfl) dL_law_652) e1 rfl ?_
  refine r_aload_n F 2 rfl dL_law_655 rfl ?_
  refine r_arg Z rfl rfl 1 (by decide) hi dL_law_656 dL_law_657 dL_law_659 dL_law_660 dL_law_661 ?_
  refine r_arg Z rfl rfl 2 (by decide) hi dL_law_662 dL_law_663 dL_law_665 dL_law_666 dL_law_667 ?_
  refine run_known (run_V F cvL_79 (by decide) (c_X8_lot (xG X) _ 1000 g (xs (i + 1)) (xs (i + 2))) rfl rfl ⟨⟨rfl, rfl⟩, Nat.le_of_ble_eq_true rfl, Nat.le_of_ble_eq_true rfl⟩ (Nat.le_of_ble_eq_true rfl) dL_law_668) e2 rfl ?_
  refine r_same F (tgt := 1520) dL_law_671 (by decide) ?_
  exact Wt_bump (K f g' j')
set_option maxRecDepth 100000 in
theorem la_12 (Z : LawX X b L xs q0 a1 a2) (hi : i + 6 ≤ L) (j : JI h) (K : ∀ f h', JI h' → Wt (bump X) Qf [oc (xG X) q0 f] 1520 (lvL X b q0 i) [] h' (some ())) : Wt X Qf [oc (xG X) q0 f] 676 (lvL X b q0 i) [] h (some ()) := by
  have F := Z.1.1
  obtain ⟨a, g, g', e1, e2, j'⟩ := b_lend (N := 1000) (Nat.le_refl _) j (xs (i + 1)) (xs (i + 2))
  refine r_aload_n F 1 rfl dL_law_676 rfl ?_
  refine r_arg Z rfl rfl 1 (by decide) hi dL_law_677 dL_law_678 dL_law_680 dL_law_681 dL_law_682 ?_
  refine r_arg Z rfl rfl 2 (by decide) hi dL_law_683 dL_law_684 dL_law_686 dL_law_687 dL_law_688 ?_
  refine run_known (run_V F cvL_80 (by decide) (c_X7_lend (xG X) _ h (xs (i + 1)) (xs (i + 2))) rfl rfl ⟨⟨rfl, rfl⟩, Nat.le_of_ble_eq_true rfl, Nat.le_of_ble_eq_true rfl⟩ (Nat.le_of_ble_eq_true rfl) dL_law_689) e1 rfl ?_
  refine r_aload_n F 2 rfl dL_law_692 rfl ?_
  refine r_arg Z rfl rfl 1 (by decide) hi dL_law_693 dL_law_694 dL_law_696 dL_law_697 dL_law_698 ?_
  refine r_arg Z rfl rfl 2 (by decide) hi dL_law_699 dL_law_700 dL_law_702 dL_law_703 dL_law_704 ?_
  refine run_known (run_V F cvL_83 (by decide) (c_X8_lend (xG X) _ 1000 g (xs (i + 1)) (xs (i + 2))) rfl rfl ⟨⟨rfl, rfl⟩, Nat.le_of_ble_eq_true rfl, Nat.le_of_ble_eq_true rfl⟩ (Nat.le_of_ble_eq_true rfl) dL_law_705) e2 rfl ?_
  refine r_same F (tgt := 1520) dL_law_708 (by decide) ?_
  exact Wt_bump (K f g' j')
set_option maxRecDepth 100000 in
theorem la_13 (Z : LawX X b L xs q0 a1 a2) (hi : i + 6 ≤ L) (j : JI h) (K : ∀ f h', JI h' → Wt (bump X) Qf [oc (xG X) q0 f] 1520 (lvL X b q0 i) [] h' (some ())) : Wt X Qf [oc (xG X) q0 f] 713 (lvL X b q0 i) [] h (some ()) := by
  have F := Z.1.1
  obtain ⟨a, g, g', e1, e2, j'⟩ := b_go (N := 1000) (Nat.le_refl _) j (xs (i + 1))
  refine r_aload_n F 1 rfl dL_law_713 rfl ?_
  refine r_arg Z rfl rfl 1 (by decide) hi dL_law_714 dL_law_715 dL_law_717 dL_law_718 dL_law_719 ?_
  refine run_known (run_V F cvL_84 (by decide) (c_X7_go (xG X) _ 1000 h (xs (i + 1))) rfl rfl ⟨⟨rfl, rfl⟩, Nat.le_of_ble_eq_true rfl, Nat.le_of_ble_eq_true rfl⟩ (Nat.le_of_ble_eq_true rfl) dL_law_720) e1 rfl ?_
  refine r_aload_n F 2 rfl dL_law_723 rfl ?_
  refine r_arg Z rfl rfl 1 (by decide) hi dL_law_724 dL_law_725 dL_law_727 dL_law_728 dL_law_729 ?_
  refine run_known (run_V F cvL_87 (by decide) (c_X8_go (xG X) _ 1000 g (xs (i + 1))) rfl rfl ⟨⟨rfl, rfl⟩, Nat.le_of_ble_eq_true rfl, Nat.le_of_ble_eq_true rfl⟩ (Nat.le_of_ble_eq_true rfl) dL_law_730) e2 rfl ?_
  refine r_same F (tgt := 1520) dL_law_733 (by decide) ?_
  exact Wt_bump (K f g' j')
set_option maxRecDepth 100000 in
theorem la_14 (Z : LawX X b L xs q0 a1 a2) (hi : i + 6 ≤ L) (j : JI h) (K : ∀ f h', JI h' → Wt (bump X) Qf [oc (xG X) q0 f] 1520 (lvL X b q0 i) [] h' (some ())) : Wt X Qf [oc (xG X) q0 f] 738 (lvL X b q0 i) [] h (some ()) := by
  have F := Z.1.1
  obtain ⟨a, g, g', e1, e2, j'⟩ := b_table (N := 1000) (Nat.le_refl _) j (xs (i + 1)) (xs (i + 2)) (xs (i + 3))
  refine r_aload_n F 1 rfl dL_law_738 rfl ?_
  refine r_arg Z rfl rfl 1 (by decide) hi dL_law_739 dL_law_740 dL_law_742 dL_law_743 dL_law_744 ?_
  refine r_arg Z rfl rfl 2 (by decide) hi dL_law_745 dL_law_746 dL_law_748 dL_law_749 dL_law_750 ?_
  refine r_arg Z rfl rfl 3 (by decide) hi dL_law_751 dL_law_752 dL_law_754 dL_law_755 dL_law_756 ?_
  refine run_known (run_V F cvL_88 (by decide) (c_X7_table (xG X) _ 1000 h (xs (i + 1)) (xs (i + 2)) (xs (i + 3))) rfl rfl ⟨⟨rfl, rfl⟩, Nat.le_of_ble_eq_true rfl, Nat.le_of_ble_eq_true rfl⟩ (Nat.le_of_ble_eq_true rfl) dL_law_757) e1 rfl ?_
  refine r_aload_n F 2 rfl dL_law_760 rfl ?_
  refine r_arg Z rfl rfl 1 (by decide) hi dL_law_761 dL_law_762 dL_law_764 dL_law_765 dL_law_766 ?_
  refine r_arg Z rfl rfl 2 (by decide) hi dL_law_767 dL_law_768 dL_law_770 dL_law_771 dL_law_772 ?_
  refine r_arg Z rfl rfl 3 (by decide) hi dL_law_773 dL_law_774 dL_law_776 dL_law_777 dL_law_778 ?_
  refine run_known (run_V F cvL_92 (by decide) (c_X8_table (xG X) _ 1000 g (xs (i + 1)) (xs (i + 2)) (xs (i + 3))) rfl rfl ⟨⟨rfl, rfl⟩, Nat.le_of_ble_eq_true rfl, Nat.le_of_ble_eq_true rfl⟩ (Nat.le_of_ble_eq_true rfl) dL_law_779) e2 rfl ?_
  refine r_same F (tgt := 1520) dL_law_782 (by decide) ?_
  exact Wt_bump (K f g' j')
set_option maxRecDepth 100000 in
theorem la_15 (Z : LawX X b L xs q0 a1 a2) (hi : i + 6 ≤ L) (j : JI h) (K : ∀ f h', JI h' → Wt (bump X) Qf [oc (xG X) q0 f] 1520 (lvL X b q0 i) [] h' (some ())) : Wt X Qf [oc (xG X) q0 f] 787 (lvL X b q0 i) [] h (some ()) := by
  have F := Z.1.1
  obtain ⟨a, g, g', e1, e2, j'⟩ := b_best (N := 1000) (Nat.le_refl _) j (xs (i + 1))
  refine r_aload_n F 1 rfl dL_law_787 rfl ?_
  refine r_arg Z rfl rfl 1 (by decide) hi dL_law_788 dL_law_789 dL_law_791 dL_law_792 dL_law_793 ?_
  refine run_known (run_V F cvL_93 (by decide) (c_X7_best (xG X) _ 1000 h (xs (i + 1))) rfl rfl ⟨⟨rfl, rfl⟩, Nat.le_of_ble_eq_true rfl, Nat.le_of_ble_eq_true rfl⟩ (Nat.le_of_ble_eq_true rfl) dL_law_794) e1 rfl ?_
  refine r_aload_n F 2 rfl dL_law_797 rfl ?_
  refine r_arg Z rfl rfl 1 (by decide) hi dL_law_798 dL_law_799 dL_law_801 dL_law_802 dL_law_803 ?_
  refine run_known (run_V F cvL_96 (by decide) (c_X8_best (xG X) _ 1000 g (xs (i + 1))) rfl rfl ⟨⟨rfl, rfl⟩, Nat.le_of_ble_eq_true rfl, Nat.le_of_ble_eq_true rfl⟩ (Nat.le_of_ble_eq_true rfl) dL_law_804) e2 rfl ?_
  refine r_same F (tgt := 1520) dL_law_807 (by decide) ?_
  exact Wt_bump (K f g' j')
set_option maxRecDepth 100000 in
theorem la_16 (Z : LawX X b L xs q0 a1 a2) (hi : i + 6 ≤ L) (j : JI h) (K : ∀ f h', JI h' → Wt (bump X) Qf [oc (xG X) q0 f] 1520 (lvL X b q0 i) [] h' (some ())) : Wt X Qf [oc (xG X) q0 f] 812 (lvL X b q0 i) [] h (some ()) := by
  have F := Z.1.1
  obtain ⟨a, g, g', e1, e2, j'⟩ := b_plan (N := 1000) (Nat.le_refl _) j (xs (i + 1)) (xs (i + 2))
  refine r_aload_n F 1 rfl dL_law_812 rfl ?_
  refine r_arg Z rfl rfl 1 (by decide) hi dL_law_813 dL_law_814 dL_law_816 dL_law_817 dL_law_818 ?_
  refine r_arg Z rfl rfl 2 (by decide) hi dL_law_819 dL_law_820 dL_law_822 dL_law_823 dL_law_824 ?_
  refine run_known (run_V F cvL_97 (by decide) (c_X7_plan (xG X) _ 1000 h (xs (i + 1)) (xs (i + 2))) rfl rfl ⟨⟨rfl, rfl⟩, Nat.le_of_ble_eq_true rfl, Nat.le_of_ble_eq_true rfl⟩ (Nat.le_of_ble_eq_true rfl) dL_law_825) e1 rfl ?_
  refine r_aload_n F 2 rfl dL_law_828 rfl ?_
  refine r_arg Z rfl rfl 1 (by decide) hi dL_law_829 dL_law_830 dL_law_832 dL_law_833 dL_law_834 ?_
  refine r_arg Z rfl rfl 2 (by decide) hi dL_law_835 dL_law_836 dL_law_838 dL_law_839 dL_law_840 ?_
  refine run_known (run_V F cvL_100 (by decide) (c_X8_plan (xG X) _ 1000 g (xs (i + 1)) (xs (i + 2))) rfl rfl ⟨⟨rfl, rfl⟩, Nat.le_of_ble_eq_true rfl, Nat.le_of_ble_eq_true rfl⟩ (Nat.le_of_ble_eq_true rfl) dL_law_841) e2 rfl ?_
  refine r_same F (tgt := 1520) dL_law_844 (by decide) ?_
  exact Wt_bump (K f g' j')
set_option maxRecDepth 100000 in
theorem la_17 (Z : LawX X b L xs q0 a1 a2) (hi : i + 6 ≤ L) (j : JI h) (K : ∀ f h', JI h' → Wt (bump X) Qf [oc (xG X) q0 f] 1520 (lvL X b q0 i) [] h' (some ())) : Wt X Qf [oc (xG X) q0 f] 849 (lvL X b q0 i) [] h (some ()) := by
  have F := Z.1.1
  obtain ⟨a, g, g', e1, e2, j'⟩ := b_planned (N := 1000) (Nat.le_refl _) j (xs (i + 1)) (xs (i + 2)) (xs (i + 3))
  refine r_aload_n F 1 rfl dL_law_849 rfl ?_
  refine r_arg Z rfl rfl 1 (by decide) hi dL_law_850 dL_law_851 dL_law_853 dL_law_854 dL_law_855 ?_
  refine r_arg Z rfl rfl 2 (by decide) hi dL_law_856 dL_law_857 dL_law_859 dL_law_860 dL_law_861 ?_
  refine r_arg Z rfl rfl 3 (by decide) hi dL_law_862 dL_law_863 dL_law_865 dL_law_866 dL_law_867 ?_
  refine run_known (run_V F cvL_101 (by decide) (c_X7_planned (xG X) _ 1000 h (xs (i + 1)) (xs (i + 2)) (xs (i + 3))) rfl rfl ⟨⟨rfl, rfl⟩, Nat.le_of_ble_eq_true rfl, Nat.le_of_ble_eq_true rfl⟩ (Nat.le_of_ble_eq_true rfl) dL_law_868) e1 rfl ?_
  refine r_aload_n F 2 rfl dL_law_871 rfl ?_
  refine r_arg Z rfl rfl 1 (by decide) hi dL_law_872 dL_law_873 dL_law_875 dL_law_876 dL_law_877 ?_
  refine r_arg Z rfl rfl 2 (by decide) hi dL_law_878 dL_law_879 dL_law_881 dL_law_882 dL_law_883 ?_
  refine r_arg Z rfl rfl 3 (by decide) hi dL_law_884 dL_law_885 dL_law_887 dL_law_888 dL_law_889 ?_
  refine run_known (run_V F cvL_104 (by decide) (c_X8_planned (xG X) _ 1000 g (xs (i + 1)) (xs (i + 2)) (xs (i + 3))) rfl rfl ⟨⟨rfl, rfl⟩, Nat.le_of_ble_eq_true rfl, Nat.le_of_ble_eq_true rfl⟩ (Nat.le_of_ble_eq_true rfl) dL_law_890) e2 rfl ?_
  refine r_same F (tgt := 1520) dL_law_893 (by decide) ?_
  exact Wt_bump (K f g' j')
set_option maxRecDepth 100000 in
theorem la_18 (Z : LawX X b L xs q0 a1 a2) (hi : i + 6 ≤ L) (j : JI h) (K : ∀ f h', JI h' → Wt (bump X) Qf [oc (xG X) q0 f] 1520 (lvL X b q0 i) [] h' (some ())) : Wt X Qf [oc (xG X) q0 f] 898 (lvL X b q0 i) [] h (some ()) := by
  have F := Z.1.1
  obtain ⟨a, g, g', e1, e2, j'⟩ := b_rests (N := 1000) (Nat.le_refl _) j (xs (i + 1)) (xs (i + 2)) (xs (i + 3))
  refine r_aload_n F 1 rfl dL_law_898 rfl ?_
  refine r_arg Z rfl rfl 1 (by decide) hi dL_law_899 dL_law_900 dL_law_902 dL_law_903 dL_law_904 ?_
  refine r_arg Z rfl rfl 2 (by decide) hi dL_law_905 dL_law_906 dL_law_908 dL_law_909 dL_law_910 ?_
  refine r_arg Z rfl rfl 3 (by decide) hi dL_law_911 dL_law_912 dL_law_914 dL_law_915 dL_law_916 ?_
  refine run_known (run_V F cvL_105 (by decide) (c_X7_rests (xG X) _ 1000 h (xs (i + 1)) (xs (i + 2)) (xs (i + 3))) rfl rfl ⟨⟨rfl, rfl⟩, Nat.le_of_ble_eq_true rfl, Nat.le_of_ble_eq_true rfl⟩ (Nat.le_of_ble_eq_true rfl) dL_law_917) e1 rfl ?_
  refine r_aload_n F 2 rfl dL_law_920 rfl ?_
  refine r_arg Z rfl rfl 1 (by decide) hi dL_law_921 dL_law_922 dL_law_924 dL_law_925 dL_law_926 ?_
  refine r_arg Z rfl rfl 2 (by decide) hi dL_law_927 dL_law_928 dL_law_930 dL_law_931 dL_law_932 ?_
  refine r_arg Z rfl rfl 3 (by decide) hi dL_law_933 dL_law_934 dL_law_936 dL_law_937 dL_law_938 ?_
  refine run_known (run_V F cvL_108 (by decide) (c_X8_rests (xG X) _ 1000 g (xs (i + 1)) (xs (i + 2)) (xs (i + 3))) rfl rfl ⟨⟨rfl, rfl⟩, Nat.le_of_ble_eq_true rfl, Nat.le_of_ble_eq_true rfl⟩ (Nat.le_of_ble_eq_true rfl) dL_law_939) e2 rfl ?_
  refine r_same F (tgt := 1520) dL_law_942 (by decide) ?_
  exact Wt_bump (K f g' j')
set_option maxRecDepth 100000 in
theorem la_19 (Z : LawX X b L xs q0 a1 a2) (hi : i + 6 ≤ L) (j : JI h) (K : ∀ f h', JI h' → Wt (bump X) Qf [oc (xG X) q0 f] 1520 (lvL X b q0 i) [] h' (some ())) : Wt X Qf [oc (xG X) q0 f] 947 (lvL X b q0 i) [] h (some ()) := by
  have F := Z.1.1
  obtain ⟨a, g, g', e1, e2, j'⟩ := b_rest (N := 1000) (Nat.le_refl _) j (xs (i + 1)) (xs (i + 2)) (xs (i + 3)) (xs (i + 4))
  refine r_aload_n F 1 rfl dL_law_947 rfl ?_
  refine r_arg Z rfl rfl 1 (by decide) hi dL_law_948 dL_law_949 dL_law_951 dL_law_952 dL_law_953 ?_
  refine r_arg Z rfl rfl 2 (by decide) hi dL_law_954 dL_law_955 dL_law_957 dL_law_958 dL_law_959 ?_
  refine r_arg Z rfl rfl 3 (by decide) hi dL_law_960 dL_law_961 dL_law_963 dL_law_964 dL_law_965 ?_
  refine r_arg Z rfl rfl 4 (by decide) hi dL_law_966 dL_law_967 dL_law_969 dL_law_970 dL_law_971 ?_
  refine run_known (run_V F cvL_109 (by decide) (c_X7_rest (xG X) _ 1000 h (xs (i + 1)) (xs (i + 2)) (xs (i + 3)) (xs (i + 4))) rfl rfl ⟨⟨rfl, rfl⟩, Nat.le_of_ble_eq_true rfl, Nat.le_of_ble_eq_true rfl⟩ (Nat.le_of_ble_eq_true rfl) dL_law_972) e1 rfl ?_
  refine r_aload_n F 2 rfl dL_law_975 rfl ?_
  refine r_arg Z rfl rfl 1 (by decide) hi dL_law_976 dL_law_977 dL_law_979 dL_law_980 dL_law_981 ?_
  refine r_arg Z rfl rfl 2 (by decide) hi dL_law_982 dL_law_983 dL_law_985 dL_law_986 dL_law_987 ?_
  refine r_arg Z rfl rfl 3 (by decide) hi dL_law_988 dL_law_989 dL_law_991 dL_law_992 dL_law_993 ?_
  refine r_arg Z rfl rfl 4 (by decide) hi dL_law_994 dL_law_995 dL_law_997 dL_law_998 dL_law_999 ?_
  refine run_known (run_V F cvL_113 (by decide) (c_X8_rest (xG X) _ 1000 g (xs (i + 1)) (xs (i + 2)) (xs (i + 3)) (xs (i + 4))) rfl rfl ⟨⟨rfl, rfl⟩, Nat.le_of_ble_eq_true rfl, Nat.le_of_ble_eq_true rfl⟩ (Nat.le_of_ble_eq_true rfl) dL_law_1000) e2 rfl ?_
  refine r_same F (tgt := 1520) dL_law_1003 (by decide) ?_
  exact Wt_bump (K f g' j')
set_option maxRecDepth 100000 in
theorem la_20 (Z : LawX X b L xs q0 a1 a2) (hi : i + 6 ≤ L) (j : JI h) (K : ∀ f h', JI h' → Wt (bump X) Qf [oc (xG X) q0 f] 1520 (lvL X b q0 i) [] h' (some ())) : Wt X Qf [oc (xG X) q0 f] 1008 (lvL X b q0 i) [] h (some ()) := by
  have F := Z.1.1
  obtain ⟨a, g, g', e1, e2, j'⟩ := b_unlike (N := 1000) (Nat.le_refl _) j 
  refine r_aload_n F 1 rfl dL_law_1008 rfl ?_
  refine run_known (run_V F cvL_114 (by decide) (c_X7_unlike (xG X) _ 1000 h ) rfl rfl ⟨⟨rfl, rfl⟩, Nat.le_of_ble_eq_true rfl, Nat.le_of_ble_eq_true rfl⟩ (Nat.le_of_ble_eq_true rfl) dL_law_1009) e1 rfl ?_
  refine r_aload_n F 2 rfl dL_law_1012 rfl ?_
  refine run_known (run_V F cvL_117 (by decide) (c_X8_unlike (xG X) _ 1000 g ) rfl rfl ⟨⟨rfl, rfl⟩, Nat.le_of_ble_eq_true rfl, Nat.le_of_ble_eq_true rfl⟩ (Nat.le_of_ble_eq_true rfl) dL_law_1013) e2 rfl ?_
  refine r_same F (tgt := 1520) dL_law_1016 (by decide) ?_
  exact Wt_bump (K f g' j')
set_option maxRecDepth 100000 in
theorem la_21 (Z : LawX X b L xs q0 a1 a2) (hi : i + 6 ≤ L) (j : JI h) (K : ∀ f h', JI h' → Wt (bump X) Qf [oc (xG X) q0 f] 1520 (lvL X b q0 i) [] h' (some ())) : Wt X Qf [oc (xG X) q0 f] 1021 (lvL X b q0 i) [] h (some ()) := by
  have F := Z.1.1
  obtain ⟨a, g, g', e1, e2, j'⟩ := b_swap (N := 1000) (Nat.le_refl _) j (xs (i + 1))
  refine r_aload_n F 1 rfl dL_law_1021 rfl ?_
  refine r_arg Z rfl rfl 1 (by decide) hi dL_law_1022 dL_law_1023 dL_law_1025 dL_law_1026 dL_law_1027 ?_
  refine run_known (run_V F cvL_118 (by decide) (c_X7_swap (xG X) _ 1000 h (xs (i + 1))) rfl rfl ⟨⟨rfl, rfl⟩, Nat.le_of_ble_eq_true rfl, Nat.le_of_ble_eq_true rfl⟩ (Nat.le_of_ble_eq_true rfl) dL_law_1028) e1 rfl ?_
  refine r_aload_n F 2 rfl dL_law_1031 rfl ?_
  refine r_arg Z rfl rfl 1 (by decide) hi dL_law_1032 dL_law_1033 dL_law_1035 dL_law_1036 dL_law_1037 ?_
  refine run_known (run_V F cvL_121 (by decide) (c_X8_swap (xG X) _ 1000 g (xs (i + 1))) rfl rfl ⟨⟨rfl, rfl⟩, Nat.le_of_ble_eq_true rfl, Nat.le_of_ble_eq_true rfl⟩ (Nat.le_of_ble_eq_true rfl) dL_law_1038) e2 rfl ?_
  refine r_same F (tgt := 1520) dL_law_1041 (by decide) ?_
  exact Wt_bump (K f g' j')
set_option maxRecDepth 100000 in
theorem la_22 (Z : LawX X b L xs q0 a1 a2) (hi : i + 6 ≤ L) (j : JI h) (K : ∀ f h', JI h' → Wt (bump X) Qf [oc (xG X) q0 f] 1520 (lvL X b q0 i) [] h' (some ())) : Wt X Qf [oc (xG X) q0 f] 1046 (lvL X b q0 i) [] h (some ()) := by
  have F := Z.1.1
  obtain ⟨a, g, g', e1, e2, j'⟩ := b_lending (N := 1000) (Nat.le_refl _) j (xs (i + 1)) (xs (i + 2)) (xs (i + 3)) (xs (i + 4))
  refine r_aload_n F 1 rfl dL_law_1046 rfl ?_
  refine r_arg Z rfl rfl 1 (by decide) hi dL_law_1047 dL_law_1048 dL_law_1050 dL_law_1051 dL_law_1052 ?_
  refine r_arg Z rfl rfl 2 (by decide) hi dL_law_1053 dL_law_1054 dL_law_1056 dL_law_1057 dL_law_1058 ?_
  refine r_arg Z rfl rfl 3 (by decide) hi dL_law_1059 dL_law_1060 dL_law_1062 dL_law_1063 dL_law_1064 ?_
  refine r_arg Z rfl rfl 4 (by decide) hi dL_law_1065 dL_law_1066 dL_law_1068 dL_law_1069 dL_law_1070 ?_
  refine run_known (run_V F cvL_122 (by decide) (c_X7_lending (xG X) _ 1000 h (xs (i + 1)) (xs (i + 2)) (xs (i + 3)) (xs (i + 4))) rfl rfl ⟨⟨rfl, rfl⟩, Nat.le_of_ble_eq_true rfl, Nat.le_of_ble_eq_true rfl⟩ (Nat.le_of_ble_eq_true rfl) dL_law_1071) e1 rfl ?_
  refine r_aload_n F 2 rfl dL_law_1074 rfl ?_
  refine r_arg Z rfl rfl 1 (by decide) hi dL_law_1075 dL_law_1076 dL_law_1078 dL_law_1079 dL_law_1080 ?_
  refine r_arg Z rfl rfl 2 (by decide) hi dL_law_1081 dL_law_1082 dL_law_1084 dL_law_1085 dL_law_1086 ?_
  refine r_arg Z rfl rfl 3 (by decide) hi dL_law_1087 dL_law_1088 dL_law_1090 dL_law_1091 dL_law_1092 ?_
  refine r_arg Z rfl rfl 4 (by decide) hi dL_law_1093 dL_law_1094 dL_law_1096 dL_law_1097 dL_law_1098 ?_
  refine run_known (run_V F cvL_125 (by decide) (c_X8_lending (xG X) _ 1000 g (xs (i + 1)) (xs (i + 2)) (xs (i + 3)) (xs (i + 4))) rfl rfl ⟨⟨rfl, rfl⟩, Nat.le_of_ble_eq_true rfl, Nat.le_of_ble_eq_true rfl⟩ (Nat.le_of_ble_eq_true rfl) dL_law_1099) e2 rfl ?_
  refine r_same F (tgt := 1520) dL_law_1102 (by decide) ?_
  exact Wt_bump (K f g' j')
set_option maxRecDepth 100000 in
theorem la_23 (Z : LawX X b L xs q0 a1 a2) (hi : i + 6 ≤ L) (j : JI h) (K : ∀ f h', JI h' → Wt (bump X) Qf [oc (xG X) q0 f] 1520 (lvL X b q0 i) [] h' (some ())) : Wt X Qf [oc (xG X) q0 f] 1107 (lvL X b q0 i) [] h (some ()) := by
  have F := Z.1.1
  obtain ⟨a, g, g', e1, e2, j'⟩ := b_turns (N := 1000) (Nat.le_refl _) j (xs (i + 1))
  refine r_aload_n F 1 rfl dL_law_1107 rfl ?_
  refine r_arg Z rfl rfl 1 (by decide) hi dL_law_1108 dL_law_1109 dL_law_1111 dL_law_1112 dL_law_1113 ?_
  refine run_known (run_V F cvL_126 (by decide) (c_X7_turns (xG X) _ 1000 h (xs (i + 1))) rfl rfl ⟨⟨rfl, rfl⟩, Nat.le_of_ble_eq_true rfl, Nat.le_of_ble_eq_true rfl⟩ (Nat.le_of_ble_eq_true rfl) dL_law_1114) e1 rfl ?_
  refine r_aload_n F 2 rfl dL_law_1117 rfl ?_
  refine r_arg Z rfl rfl 1 (by decide) hi dL_law_1118 dL_law_1119 dL_law_1121 dL_law_1122 dL_law_1123 ?_
  refine run_known (run_V F cvL_129 (by decide) (c_X8_turns (xG X) _ 1000 g (xs (i + 1))) rfl rfl ⟨⟨rfl, rfl⟩, Nat.le_of_ble_eq_true rfl, Nat.le_of_ble_eq_true rfl⟩ (Nat.le_of_ble_eq_true rfl) dL_law_1124) e2 rfl ?_
  refine r_same F (tgt := 1520) dL_law_1127 (by decide) ?_
  exact Wt_bump (K f g' j')
set_option maxRecDepth 100000 in
theorem la_24 (Z : LawX X b L xs q0 a1 a2) (hi : i + 6 ≤ L) (j : JI h) (K : ∀ f h', JI h' → Wt (bump X) Qf [oc (xG X) q0 f] 1520 (lvL X b q0 i) [] h' (some ())) : Wt X Qf [oc (xG X) q0 f] 1132 (lvL X b q0 i) [] h (some ()) := by
  have F := Z.1.1
  obtain ⟨a, g, g', e1, e2, j'⟩ := b_turn (N := 1000) (Nat.le_refl _) j (xs (i + 1)) (xs (i + 2))
  refine r_aload_n F 1 rfl dL_law_1132 rfl ?_
  refine r_arg Z rfl rfl 1 (by decide) hi dL_law_1133 dL_law_1134 dL_law_1136 dL_law_1137 dL_law_1138 ?_
  refine r_arg Z rfl rfl 2 (by decide) hi dL_law_1139 dL_law_1140 dL_law_1142 dL_law_1143 dL_law_1144 ?_
  refine run_known (run_V F cvL_130 (by decide) (c_X7_turn (xG X) _ 1000 h (xs (i + 1)) (xs (i + 2))) rfl rfl ⟨⟨rfl, rfl⟩, Nat.le_of_ble_eq_true rfl, Nat.le_of_ble_eq_true rfl⟩ (Nat.le_of_ble_eq_true rfl) dL_law_1145) e1 rfl ?_
  refine r_aload_n F 2 rfl dL_law_1148 rfl ?_
  refine r_arg Z rfl rfl 1 (by decide) hi dL_law_1149 dL_law_1150 dL_law_1152 dL_law_1153 dL_law_1154 ?_
  refine r_arg Z rfl rfl 2 (by decide) hi dL_law_1155 dL_law_1156 dL_law_1158 dL_law_1159 dL_law_1160 ?_
  refine run_known (run_V F cvL_133 (by decide) (c_X8_turn (xG X) _ 1000 g (xs (i + 1)) (xs (i + 2))) rfl rfl ⟨⟨rfl, rfl⟩, Nat.le_of_ble_eq_true rfl, Nat.le_of_ble_eq_true rfl⟩ (Nat.le_of_ble_eq_true rfl) dL_law_1161) e2 rfl ?_
  refine r_same F (tgt := 1520) dL_law_1164 (by decide) ?_
  exact Wt_bump (K f g' j')
set_option maxRecDepth 100000 in
theorem la_25 (Z : LawX X b L xs q0 a1 a2) (hi : i + 6 ≤ L) (j : JI h) (K : ∀ f h', JI h' → Wt (bump X) Qf [oc (xG X) q0 f] 1520 (lvL X b q0 i) [] h' (some ())) : Wt X Qf [oc (xG X) q0 f] 1169 (lvL X b q0 i) [] h (some ()) := by
  have F := Z.1.1
  obtain ⟨a, g', e1, e2, j'⟩ := b_odds (N := 1000) (Nat.le_refl _) j (xs (i + 1)) (xs (i + 2))
  refine r_aload_n F 1 rfl dL_law_1169 rfl ?_
  refine r_arg Z rfl rfl 1 (by decide) hi dL_law_1170 dL_law_1171 dL_law_1173 dL_law_1174 dL_law_1175 ?_
  refine r_arg Z rfl rfl 2 (by decide) hi dL_law_1176 dL_law_1177 dL_law_1179 dL_law_1180 dL_law_1181 ?_
  refine run_known (run_V F cvL_134 (by decide) (c_X7_odds (xG X) _ 1000 h (xs (i + 1)) (xs (i + 2))) rfl rfl ⟨⟨rfl, rfl⟩, Nat.le_of_ble_eq_true rfl, Nat.le_of_ble_eq_true rfl⟩ (Nat.le_of_ble_eq_true rfl) dL_law_1182) e1 rfl ?_
  refine r_aload_n F 2 rfl dL_law_1185 rfl ?_
  refine r_arg Z rfl rfl 1 (by decide) hi dL_law_1186 dL_law_1187 dL_law_1189 dL_law_1190 dL_law_1191 ?_
  refine r_arg Z rfl rfl 2 (by decide) hi dL_law_1192 dL_law_1193 dL_law_1195 dL_law_1196 dL_law_1197 ?_
  refine run_known (run_V F cvL_137 (by decide) (c_X8_odds (xG X) _ 1000 h (xs (i + 1)) (xs (i + 2))) rfl rfl ⟨⟨rfl, rfl⟩, Nat.le_of_ble_eq_true rfl, Nat.le_of_ble_eq_true rfl⟩ (Nat.le_of_ble_eq_true rfl) dL_law_1198) e2 rfl ?_
  refine r_same F (tgt := 1520) dL_law_1201 (by decide) ?_
  exact Wt_bump (K f g' j')
set_option maxRecDepth 100000 in
theorem la_26 (Z : LawX X b L xs q0 a1 a2) (hi : i + 6 ≤ L) (j : JI h) (K : ∀ f h', JI h' → Wt (bump X) Qf [oc (xG X) q0 f] 1520 (lvL X b q0 i) [] h' (some ())) : Wt X Qf [oc (xG X) q0 f] 1206 (lvL X b q0 i) [] h (some ()) := by
  have F := Z.1.1
  obtain ⟨a, g, g', e1, e2, j'⟩ := b_see (N := 1000) (Nat.le_refl _) j (xs (i + 1)) (xs (i + 2)) (decide (¬ (xs (i + 3)) = 0))
  refine r_aload_n F 1 rfl dL_law_1206 rfl ?_
  refine r_arg Z rfl rfl 1 (by decide) hi dL_law_1207 dL_law_1208 dL_law_1210 dL_law_1211 dL_law_1212 ?_
  refine r_arg Z rfl rfl 2 (by decide) hi dL_law_1213 dL_law_1214 dL_law_1216 dL_law_1217 dL_law_1218 ?_
  refine r_arg Z rfl rfl 3 (by decide) hi dL_law_1219 dL_law_1220 dL_law_1222 dL_law_1223 dL_law_1224 ?_
  refine r_bool F dL_law_1225 dL_law_1228 dL_law_1229 dL_law_1232 ?_
  refine run_known (run_V F cvL_138 (by decide) (c_X7_see (xG X) _ h (xs (i + 1)) (xs (i + 2)) (decide (¬ (xs (i + 3)) = 0))) rfl rfl ⟨⟨rfl, rfl⟩, Nat.le_of_ble_eq_true rfl, Nat.le_of_ble_eq_true rfl⟩ (Nat.le_of_ble_eq_true rfl) dL_law_1233) e1 rfl ?_
  refine r_aload_n F 2 rfl dL_law_1236 rfl ?_
  refine r_arg Z rfl rfl 1 (by decide) hi dL_law_1237 dL_law_1238 dL_law_1240 dL_law_1241 dL_law_1242 ?_
  refine r_arg Z rfl rfl 2 (by decide) hi dL_law_1243 dL_law_1244 dL_law_1246 dL_law_1247 dL_law_1248 ?_
  refine r_arg Z rfl rfl 3 (by decide) hi dL_law_1249 dL_law_1250 dL_law_1252 dL_law_1253 dL_law_1254 ?_
  refine r_bool F dL_law_1255 dL_law_1258 dL_law_1259 dL_law_1262 ?_
  refine run_known (run_V F cvL_142 (by decide) (c_X8_see (xG X) _ g (xs (i + 1)) (xs (i + 2)) (decide (¬ (xs (i + 3)) = 0))) rfl rfl ⟨⟨rfl, rfl⟩, Nat.le_of_ble_eq_true rfl, Nat.le_of_ble_eq_true rfl⟩ (Nat.le_of_ble_eq_true rfl) dL_law_1263) e2 rfl ?_
  refine r_same F (tgt := 1520) dL_law_1266 (by decide) ?_
  exact Wt_bump (K f g' j')
set_option maxRecDepth 100000 in
theorem la_27 (Z : LawX X b L xs q0 a1 a2) (hi : i + 6 ≤ L) (j : JI h) (K : ∀ f h', JI h' → Wt (bump X) Qf [oc (xG X) q0 f] 1520 (lvL X b q0 i) [] h' (some ())) : Wt X Qf [oc (xG X) q0 f] 1271 (lvL X b q0 i) [] h (some ()) := by
  have F := Z.1.1
  obtain ⟨a, g, g', e1, e2, j'⟩ := b_strike (N := 1000) (Nat.le_refl _) j (xs (i + 1))
  refine r_aload_n F 1 rfl dL_law_1271 rfl ?_
  refine r_arg Z rfl rfl 1 (by decide) hi dL_law_1272 dL_law_1273 dL_law_1275 dL_law_1276 dL_law_1277 ?_
  refine run_known (run_V F cvL_143 (by decide) (c_X7_strike (xG X) _ h (xs (i + 1))) rfl rfl ⟨⟨rfl, rfl⟩, Nat.le_of_ble_eq_true rfl, Nat.le_of_ble_eq_true rfl⟩ (Nat.le_of_ble_eq_true rfl) dL_law_1278) e1 rfl ?_
  refine r_aload_n F 2 rfl dL_law_1281 rfl ?_
  refine r_arg Z rfl rfl 1 (by decide) hi dL_law_1282 dL_law_1283 dL_law_1285 dL_law_1286 dL_law_1287 ?_
  refine run_known (run_V F cvL_146 (by decide) (c_X8_strike (xG X) _ g (xs (i + 1))) rfl rfl ⟨⟨rfl, rfl⟩, Nat.le_of_ble_eq_true rfl, Nat.le_of_ble_eq_true rfl⟩ (Nat.le_of_ble_eq_true rfl) dL_law_1288) e2 rfl ?_
  refine r_same F (tgt := 1520) dL_law_1291 (by decide) ?_
  exact Wt_bump (K f g' j')
set_option maxRecDepth 100000 in
theorem la_28 (Z : LawX X b L xs q0 a1 a2) (hi : i + 6 ≤ L) (j : JI h) (K : ∀ f h', JI h' → Wt (bump X) Qf [oc (xG X) q0 f] 1520 (lvL X b q0 i) [] h' (some ())) : Wt X Qf [oc (xG X) q0 f] 1296 (lvL X b q0 i) [] h (some ()) := by
  have F := Z.1.1
  obtain ⟨a, g, g', e1, e2, j'⟩ := b_known (N := 1000) (Nat.le_refl _) j (xs (i + 1))
  refine r_aload_n F 1 rfl dL_law_1296 rfl ?_
  refine r_arg Z rfl rfl 1 (by decide) hi dL_law_1297 dL_law_1298 dL_law_1300 dL_law_1301 dL_law_1302 ?_
  refine run_known (run_V F cvL_147 (by decide) (c_X7_known (xG X) _ h (xs (i + 1))) rfl rfl ⟨⟨rfl, rfl⟩, Nat.le_of_ble_eq_true rfl, Nat.le_of_ble_eq_true rfl⟩ (Nat.le_of_ble_eq_true rfl) dL_law_1303) e1 rfl ?_
  refine r_aload_n F 2 rfl dL_law_1306 rfl ?_
  refine r_arg Z rfl rfl 1 (by decide) hi dL_law_1307 dL_law_1308 dL_law_1310 dL_law_1311 dL_law_1312 ?_
  refine run_known (run_V F cvL_150 (by decide) (c_X8_known (xG X) _ g (xs (i + 1))) rfl rfl ⟨⟨rfl, rfl⟩, Nat.le_of_ble_eq_true rfl, Nat.le_of_ble_eq_true rfl⟩ (Nat.le_of_ble_eq_true rfl) dL_law_1313) e2 rfl ?_
  refine r_same F (tgt := 1520) dL_law_1316 (by decide) ?_
  exact Wt_bump (K f g' j')
set_option maxRecDepth 100000 in
theorem la_29 (Z : LawX X b L xs q0 a1 a2) (hi : i + 6 ≤ L) (j : JI h) (K : ∀ f h', JI h' → Wt (bump X) Qf [oc (xG X) q0 f] 1520 (lvL X b q0 i) [] h' (some ())) : Wt X Qf [oc (xG X) q0 f] 1321 (lvL X b q0 i) [] h (some ()) := by
  have F := Z.1.1
  obtain ⟨a, g, g', e1, e2, j'⟩ := b_came (N := 1000) (Nat.le_refl _) j (xs (i + 1))
  refine r_aload_n F 1 rfl dL_law_1321 rfl ?_
  refine r_arg Z rfl rfl 1 (by decide) hi dL_law_1322 dL_law_1323 dL_law_1325 dL_law_1326 dL_law_1327 ?_
  refine run_known (run_V F cvL_151 (by decide) (c_X7_came (xG X) _ 1000 h (xs (i + 1))) rfl rfl ⟨⟨rfl, rfl⟩, Nat.le_of_ble_eq_true rfl, Nat.le_of_ble_eq_true rfl⟩ (Nat.le_of_ble_eq_true rfl) dL_law_1328) e1 rfl ?_
  refine r_aload_n F 2 rfl dL_law_1331 rfl ?_
  refine r_arg Z rfl rfl 1 (by decide) hi dL_law_1332 dL_law_1333 dL_law_1335 dL_law_1336 dL_law_1337 ?_
  refine run_known (run_V F cvL_154 (by decide) (c_X8_came (xG X) _ 1000 g (xs (i + 1))) rfl rfl ⟨⟨rfl, rfl⟩, Nat.le_of_ble_eq_true rfl, Nat.le_of_ble_eq_true rfl⟩ (Nat.le_of_ble_eq_true rfl) dL_law_1338) e2 rfl ?_
  refine r_same F (tgt := 1520) dL_law_1341 (by decide) ?_
  exact Wt_bump (K f g' j')
set_option maxRecDepth 100000 in
theorem la_30 (Z : LawX X b L xs q0 a1 a2) (hi : i + 6 ≤ L) (j : JI h) (K : ∀ f h', JI h' → Wt (bump X) Qf [oc (xG X) q0 f] 1520 (lvL X b q0 i) [] h' (some ())) : Wt X Qf [oc (xG X) q0 f] 1346 (lvL X b q0 i) [] h (some ()) := by
  have F := Z.1.1
  obtain ⟨a, g, g', e1, e2, j'⟩ := b_chance (N := 1000) (Nat.le_refl _) j (xs (i + 1)) (xs (i + 2)) (xs (i + 3)) (xs (i + 4))
  refine r_aload_n F 1 rfl dL_law_1346 rfl ?_
  refine r_arg Z rfl rfl 1 (by decide) hi dL_law_1347 dL_law_1348 dL_law_1350 dL_law_1351 dL_law_1352 ?_
  refine r_arg Z rfl rfl 2 (by decide) hi dL_law_1353 dL_law_1354 dL_law_1356 dL_law_1357 dL_law_1358 ?_
  refine r_arg Z rfl rfl 3 (by decide) hi dL_law_1359 dL_law_1360 dL_law_1362 dL_law_1363 dL_law_1364 ?_
  refine r_arg Z rfl rfl 4 (by decide) hi dL_law_1365 dL_law_1366 dL_law_1368 dL_law_1369 dL_law_1370 ?_
  refine run_known (run_V F cvL_155 (by decide) (c_X7_chance (xG X) _ 1000 h (xs (i + 1)) (xs (i + 2)) (xs (i + 3)) (xs (i + 4))) rfl rfl ⟨⟨rfl, rfl⟩, Nat.le_of_ble_eq_true rfl, Nat.le_of_ble_eq_true rfl⟩ (Nat.le_of_ble_eq_true rfl) dL_law_1371) e1 rfl ?_
  refine r_aload_n F 2 rfl dL_law_1374 rfl ?_
  refine r_arg Z rfl rfl 1 (by decide) hi dL_law_1375 dL_law_1376 dL_law_1378 dL_law_1379 dL_law_1380 ?_
  refine r_arg Z rfl rfl 2 (by decide) hi dL_law_1381 dL_law_1382 dL_law_1384 dL_law_1385 dL_law_1386 ?_
  refine r_arg Z rfl rfl 3 (by decide) hi dL_law_1387 dL_law_1388 dL_law_1390 dL_law_1391 dL_law_1392 ?_
  refine r_arg Z rfl rfl 4 (by decide) hi dL_law_1393 dL_law_1394 dL_law_1396 dL_law_1397 dL_law_1398 ?_
  refine run_known (run_V F cvL_158 (by decide) (c_X8_chance (xG X) _ 1000 g (xs (i + 1)) (xs (i + 2)) (xs (i + 3)) (xs (i + 4))) rfl rfl ⟨⟨rfl, rfl⟩, Nat.le_of_ble_eq_true rfl, Nat.le_of_ble_eq_true rfl⟩ (Nat.le_of_ble_eq_true rfl) dL_law_1399) e2 rfl ?_
  refine r_same F (tgt := 1520) dL_law_1402 (by decide) ?_
  exact Wt_bump (K f g' j')
set_option maxRecDepth 100000 in
theorem la_31 (Z : LawX X b L xs q0 a1 a2) (hi : i + 6 ≤ L) (j : JI h) (K : ∀ f h', JI h' → Wt (bump X) Qf [oc (xG X) q0 f] 1520 (lvL X b q0 i) [] h' (some ())) : Wt X Qf [oc (xG X) q0 f] 1407 (lvL X b q0 i) [] h (some ()) := by
  have F := Z.1.1
  obtain ⟨a, g, g', e1, e2, j'⟩ := b_tried (N := 1000) (Nat.le_refl _) j (xs (i + 1)) (xs (i + 2)) (xs (i + 3))
  refine r_aload_n F 1 rfl dL_law_1407 rfl ?_
  refine r_arg Z rfl rfl 1 (by decide) hi dL_law_1408 dL_law_1409 dL_law_1411 dL_law_1412 dL_law_1413 ?_
  refine r_arg Z rfl rfl 2 (by decide) hi dL_law_1414 dL_law_1415 dL_law_1417 dL_law_1418 dL_law_1419 ?_
  refine r_arg Z rfl rfl 3 (by decide) hi dL_law_1420 dL_law_1421 dL_law_1423 dL_law_1424 dL_law_1425 ?_
  refine run_known (run_V F cvL_159 (by decide) (c_X7_tried (xG X) _ 1000 h (xs (i + 1)) (xs (i + 2)) (xs (i + 3))) rfl rfl ⟨⟨rfl, rfl⟩, Nat.le_of_ble_eq_true rfl, Nat.le_of_ble_eq_true rfl⟩ (Nat.le_of_ble_eq_true rfl) dL_law_1426) e1 rfl ?_
  refine r_aload_n F 2 rfl dL_law_1429 rfl ?_
  refine r_arg Z rfl rfl 1 (by decide) hi dL_law_1430 dL_law_1431 dL_law_1433 dL_law_1434 dL_law_1435 ?_
  refine r_arg Z rfl rfl 2 (by decide) hi dL_law_1436 dL_law_1437 dL_law_1439 dL_law_1440 dL_law_1441 ?_
  refine r_arg Z rfl rfl 3 (by decide) hi dL_law_1442 dL_law_1443 dL_law_1445 dL_law_1446 dL_law_1447 ?_
  refine run_known (run_V F cvL_162 (by decide) (c_X8_tried (xG X) _ 1000 g (xs (i + 1)) (xs (i + 2)) (xs (i + 3))) rfl rfl ⟨⟨rfl, rfl⟩, Nat.le_of_ble_eq_true rfl, Nat.le_of_ble_eq_true rfl⟩ (Nat.le_of_ble_eq_true rfl) dL_law_1448) e2 rfl ?_
  refine r_same F (tgt := 1520) dL_law_1451 (by decide) ?_
  exact Wt_bump (K f g' j')
set_option maxRecDepth 100000 in
theorem la_32 (Z : LawX X b L xs q0 a1 a2) (hi : i + 6 ≤ L) (j : JI h) (K : ∀ f h', JI h' → Wt (bump X) Qf [oc (xG X) q0 f] 1520 (lvL X b q0 i) [] h' (some ())) : Wt X Qf [oc (xG X) q0 f] 1456 (lvL X b q0 i) [] h (some ()) := by
  have F := Z.1.1
  obtain ⟨a, g, g', e1, e2, j'⟩ := b_undo (N := 1000) (Nat.le_refl _) j 
  refine r_aload_n F 1 rfl dL_law_1456 rfl ?_
  refine run_known (run_V F cvL_163 (by decide) (c_X7_undo (xG X) _ h ) rfl rfl ⟨⟨rfl, rfl⟩, Nat.le_of_ble_eq_true rfl, Nat.le_of_ble_eq_true rfl⟩ (Nat.le_of_ble_eq_true rfl) dL_law_1457) e1 rfl ?_
  refine r_aload_n F 2 rfl dL_law_1460 rfl ?_
  refine run_known (run_V F cvL_166 (by decide) (c_X8_undo (xG X) _ 1000 g ) rfl rfl ⟨⟨rfl, rfl⟩, Nat.le_of_ble_eq_true rfl, Nat.le_of_ble_eq_true rfl⟩ (Nat.le_of_ble_eq_true rfl) dL_law_1461) e2 rfl ?_
  refine r_same F (tgt := 1520) dL_law_1464 (by decide) ?_
  exact Wt_bump (K f g' j')
set_option maxRecDepth 100000 in
theorem la_33 (Z : LawX X b L xs q0 a1 a2) (hi : i + 6 ≤ L) (j : JI h) (K : ∀ f h', JI h' → Wt (bump X) Qf [oc (xG X) q0 f] 1520 (lvL X b q0 i) [] h' (some ())) : Wt X Qf [oc (xG X) q0 f] 1469 (lvL X b q0 i) [] h (some ()) := by
  have F := Z.1.1
  obtain ⟨a, g, g', e1, e2, j'⟩ := b_keep (N := 1000) (Nat.le_refl _) j 
  refine r_aload_n F 1 rfl dL_law_1469 rfl ?_
  refine run_known (run_V F cvL_167 (by decide) (c_X7_keep (xG X) _ h ) rfl rfl ⟨⟨rfl, rfl⟩, Nat.le_of_ble_eq_true rfl, Nat.le_of_ble_eq_true rfl⟩ (Nat.le_of_ble_eq_true rfl) dL_law_1470) e1 rfl ?_
  refine r_aload_n F 2 rfl dL_law_1473 rfl ?_
  refine run_known (run_V F cvL_170 (by decide) (c_X8_keep (xG X) _ 1000 g ) rfl rfl ⟨⟨rfl, rfl⟩, Nat.le_of_ble_eq_true rfl, Nat.le_of_ble_eq_true rfl⟩ (Nat.le_of_ble_eq_true rfl) dL_law_1474) e2 rfl ?_
  refine r_same F (tgt := 1520) dL_law_1477 (by decide) ?_
  exact Wt_bump (K f g' j')
set_option maxRecDepth 100000 in
theorem la_34 (Z : LawX X b L xs q0 a1 a2) (hi : i + 6 ≤ L) (j : JI h) (K : ∀ f h', JI h' → Wt (bump X) Qf [oc (xG X) q0 f] 1520 (lvL X b q0 i) [] h' (some ())) : Wt X Qf [oc (xG X) q0 f] 1482 (lvL X b q0 i) [] h (some ()) := by
  have F := Z.1.1
  obtain ⟨a, g, g', e1, e2, j'⟩ := b_back (N := 1000) (Nat.le_refl _) j 
  refine r_aload_n F 1 rfl dL_law_1482 rfl ?_
  refine run_known (run_V F cvL_171 (by decide) (c_X7_back (xG X) _ h ) rfl rfl ⟨⟨rfl, rfl⟩, Nat.le_of_ble_eq_true rfl, Nat.le_of_ble_eq_true rfl⟩ (Nat.le_of_ble_eq_true rfl) dL_law_1483) e1 rfl ?_
  refine r_aload_n F 2 rfl dL_law_1486 rfl ?_
  refine run_known (run_V F cvL_174 (by decide) (c_X8_back (xG X) _ 1000 g ) rfl rfl ⟨⟨rfl, rfl⟩, Nat.le_of_ble_eq_true rfl, Nat.le_of_ble_eq_true rfl⟩ (Nat.le_of_ble_eq_true rfl) dL_law_1487) e2 rfl ?_
  refine r_same F (tgt := 1520) dL_law_1490 (by decide) ?_
  exact Wt_bump (K f g' j')
set_option maxRecDepth 100000 in
theorem la_35 (Z : LawX X b L xs q0 a1 a2) (hi : i + 6 ≤ L) (j : JI h) (K : ∀ f h', JI h' → Wt (bump X) Qf [oc (xG X) q0 f] 1520 (lvL X b q0 i) [] h' (some ())) : Wt X Qf [oc (xG X) q0 f] 1495 (lvL X b q0 i) [] h (some ()) := by
  have F := Z.1.1
  obtain ⟨a, g', e1, e2, j'⟩ := b_count (N := 1000) (Nat.le_refl _) j (xs (i + 1))
  refine r_aload_n F 1 rfl dL_law_1495 rfl ?_
  refine r_arg Z rfl rfl 1 (by decide) hi dL_law_1496 dL_law_1497 dL_law_1499 dL_law_1500 dL_law_1501 ?_
  refine run_known (run_V F cvL_175 (by decide) (c_X7_count (xG X) _ 1000 h (xs (i + 1))) rfl rfl ⟨⟨rfl, rfl⟩, Nat.le_of_ble_eq_true rfl, Nat.le_of_ble_eq_true rfl⟩ (Nat.le_of_ble_eq_true rfl) dL_law_1502) e1 rfl ?_
  refine r_aload_n F 2 rfl dL_law_1505 rfl ?_
  refine r_arg Z rfl rfl 1 (by decide) hi dL_law_1506 dL_law_1507 dL_law_1509 dL_law_1510 dL_law_1511 ?_
  refine run_known (run_V F cvL_178 (by decide) (c_X8_count (xG X) _ 1000 h (xs (i + 1))) rfl rfl ⟨⟨rfl, rfl⟩, Nat.le_of_ble_eq_true rfl, Nat.le_of_ble_eq_true rfl⟩ (Nat.le_of_ble_eq_true rfl) dL_law_1512) e2 rfl ?_
  refine r_same F (tgt := 1520) dL_law_1515 (by decide) ?_
  exact Wt_bump (K f g' j')
end LC
