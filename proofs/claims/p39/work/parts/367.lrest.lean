-- the law's walk: the second text, texts with one number, the last text
theorem cou7 (T : Txt) (S : Str) (X X2 : Xs) : couM T S X (nI 7) = couM T S X2 (nI 7) := by
  unfold couM
  simp only [if_neg (show ¬ nI 7 = (0 : Int32) by decide), if_neg (show ¬ nI 7 = (1 : Int32) by decide), if_neg (show ¬ nI 7 = (2 : Int32) by decide), if_neg (show ¬ nI 7 = (3 : Int32) by decide), if_neg (show ¬ nI 7 = (4 : Int32) by decide), if_neg (show ¬ nI 7 = (5 : Int32) by decide), if_neg (show ¬ nI 7 = (6 : Int32) by decide), if_pos (show nI 7 = (7 : Int32) by decide)]
theorem cou9 (T : Txt) (S : Str) (X X2 : Xs) : couM T S X (nI 9) = couM T S X2 (nI 9) := by
  unfold couM
  simp only [if_neg (show ¬ nI 9 = (0 : Int32) by decide), if_neg (show ¬ nI 9 = (1 : Int32) by decide), if_neg (show ¬ nI 9 = (2 : Int32) by decide), if_neg (show ¬ nI 9 = (3 : Int32) by decide), if_neg (show ¬ nI 9 = (4 : Int32) by decide), if_neg (show ¬ nI 9 = (5 : Int32) by decide), if_neg (show ¬ nI 9 = (6 : Int32) by decide), if_neg (show ¬ nI 9 = (7 : Int32) by decide), if_neg (show ¬ nI 9 = (8 : Int32) by decide), if_pos (show nI 9 = (9 : Int32) by decide)]
theorem txB (i j : Nat) (hi : i < nC) (hj : j < nC) (h : (cst i).length + (cst j).length ≤ 60) (v : Nat) (hv : v < 1000) : ((([] ++ cst i) ++ dgL v) ++ cst j).length ≤ 70 ∧ ∀ x ∈ ((([] ++ cst i) ++ dgL v) ++ cst j), x = nI x.toNatClampNeg ∧ x.toNatClampNeg < 128 := by
  have g : ∀ v : Fin 1000, ∀ x ∈ dgL v, x = nI x.toNatClampNeg ∧ x.toNatClampNeg < 128 := by decide +kernel
  refine ⟨?_, fun x hx => ?_⟩
  · have := dgl3 v
    simp only [List.length_append, List.length_nil]
    omega
  · simp only [List.mem_append] at hx
    rcases hx with ((h | h) | h) | h
    · cases h
    · exact (cst_by i hi).2 x h
    · exact g ⟨v, hv⟩ x h
    · exact (cst_by j hj).2 x h
section LRest
variable {X : Cx} {Q : State → Prop} {dg : Nat × Nat} {K V : Nat → Nat} {b L : Nat} {xs : Nat → Int32} {cN sN : Nat}
set_option maxRecDepth 100000 in
theorem seg_2 (Z : LC X dg K V b L xs) {h : Hp} (hO : okH h) (a : AQ h) (hc : cN + 11 ≤ 600086 ∧ sN + 56 ≤ 7301442) (R : ∀ g, okH g → AQ g → Wj X Q ([] ++ enc (xG X) g) (cN + 11) (sN + 56) 464 [(1, .ref (adr (xG X) 7 0 0)), (0, .ref b)] []) : Wj X Q ([] ++ enc (xG X) h) cN sN 286 [(1, .ref (adr (xG X) 7 0 0)), (0, .ref b)] [] := by
  have F := Z.1 0 (by decide)
  have hL := Z.2.2.2.1
  refine j_aload_n F 0 rfl dL_law_286 rfl ?_
  refine l_ldcS Z (i := 5) (by decide) rfl dL_law_287 ?_
  obtain ⟨by1, by2, by3⟩ := sgc_by (fun q => (xS X).heap.size ≤ q) K V (i := 5) (by decide)
  refine l_text (ex := []) (D := D2) (Z.1 5 (by decide)) jsL_63 Z.2.1 hO a by1 by2 by3 dp_2 dk_2 ⟨by decide, by decide⟩ (Nat.le_of_ble_eq_true rfl) ⟨by show cN + 0 + 10 ≤ 600086; omega, by show sN + 0 + 50 ≤ 7301442; omega⟩ dL_law_289 fun h1 hO1 s1 => ?_
  have s1 : LQ h1 D2 S2_0 X00 := s1
  refine j_iconst F (v := nI 4) dL_law_292 (by decide) ?_
  refine j_icmpeq F (tgt := 298) dL_law_293 (by decide) (fun _ => ?_) (fun qq => absurd rfl qq)
  refine j_bipush F (v := nI 6) dL_law_298 (by decide) ?_
  refine j_newI F acw_int (N := 6) (by decide) rfl (by decide) ⟨by show cN + 10 + 1 ≤ 600086; omega, by show sN + 50 + 6 ≤ 7301442; omega⟩ dL_law_300 fun q => ?_
  refine Wj_front (ex := []) ?_
  refine j_dup F rfl dL_law_302 ?_
  refine j_iconst F (v := nI 0) dL_law_303 (by decide) ?_
  refine j_bipush F (v := nI 8) dL_law_304 (by decide) ?_
  refine j_iast F 0 rfl (inb_n (j := 0) (by omega) (by omega)) (ws2 := [(q, .inl (cI (xG X), 6, .inl (upd (fun _ => 0) 0 (nI 8))))] ++ enc (xG X) h1) (by rw [clN (by omega)]; rfl) dL_law_306 ?_
  refine j_dup F rfl dL_law_307 ?_
  refine j_iconst F (v := nI 1) dL_law_308 (by decide) ?_
  refine j_bipush F (v := nI 16) dL_law_309 (by decide) ?_
  refine j_iast F 0 rfl (inb_n (j := 1) (by omega) (by omega)) (ws2 := [(q, .inl (cI (xG X), 6, .inl (upd (upd (fun _ => 0) 0 (nI 8)) 1 (nI 16))))] ++ enc (xG X) h1) (by rw [clN (by omega)]; rfl) dL_law_311 ?_
  refine j_dup F rfl dL_law_312 ?_
  refine j_iconst F (v := nI 2) dL_law_313 (by decide) ?_
  refine j_bipush F (v := nI 20) dL_law_314 (by decide) ?_
  refine j_iast F 0 rfl (inb_n (j := 2) (by omega) (by omega)) (ws2 := [(q, .inl (cI (xG X), 6, .inl (upd (upd (upd (fun _ => 0) 0 (nI 8)) 1 (nI 16)) 2 (nI 20))))] ++ enc (xG X) h1) (by rw [clN (by omega)]; rfl) dL_law_316 ?_
  refine j_dup F rfl dL_law_317 ?_
  refine j_iconst F (v := nI 3) dL_law_318 (by decide) ?_
  refine j_bipush F (v := nI 10) dL_law_319 (by decide) ?_
  refine j_iast F 0 rfl (inb_n (j := 3) (by omega) (by omega)) (ws2 := [(q, .inl (cI (xG X), 6, .inl (upd (upd (upd (upd (fun _ => 0) 0 (nI 8)) 1 (nI 16)) 2 (nI 20)) 3 (nI 10))))] ++ enc (xG X) h1) (by rw [clN (by omega)]; rfl) dL_law_321 ?_
  refine j_dup F rfl dL_law_322 ?_
  refine j_iconst F (v := nI 4) dL_law_323 (by decide) ?_
  refine j_iconst F (v := nI 0) dL_law_324 (by decide) ?_
  refine j_iast F 0 rfl (inb_n (j := 4) (by omega) (by omega)) (ws2 := [(q, .inl (cI (xG X), 6, .inl (upd (upd (upd (upd (upd (fun _ => 0) 0 (nI 8)) 1 (nI 16)) 2 (nI 20)) 3 (nI 10)) 4 (nI 0))))] ++ enc (xG X) h1) (by rw [clN (by omega)]; rfl) dL_law_325 ?_
  refine j_dup F rfl dL_law_326 ?_
  refine j_iconst F (v := nI 5) dL_law_327 (by decide) ?_
  refine j_iconst F (v := nI 0) dL_law_328 (by decide) ?_
  refine j_iast F 0 rfl (inb_n (j := 5) (by omega) (by omega)) (ws2 := [(q, .inl (cI (xG X), 6, .inl (upd (upd (upd (upd (upd (upd (fun _ => 0) 0 (nI 8)) 1 (nI 16)) 2 (nI 20)) 3 (nI 10)) 4 (nI 0)) 5 (nI 0))))] ++ enc (xG X) h1) (by rw [clN (by omega)]; rfl) dL_law_329 ?_
  refine j_astore F [(9, .ref q), (1, .ref (adr (xG X) 7 0 0)), (0, .ref b)] rfl dL_law_330 (by rw [hL]; decide) ?_
  refine j_iconst F (v := nI 0) dL_law_332 (by decide) ?_
  refine j_istore F [(10, .int (nI 0)), (9, .ref q), (1, .ref (adr (xG X) 7 0 0)), (0, .ref b)] rfl dL_law_333 (by rw [hL]; decide) ?_
  refine j_iload F 0 rfl dL_law_335 ?_
  refine j_bipush F (v := nI 6) dL_law_337 (by decide) ?_
  refine j_icmpge F (tgt := 428) dL_law_339 (by decide) (fun qq => absurd qq (show ¬ nI 6 ≤ nI 0 by decide)) (fun _ => ?_)
  refine j_aload_n F 2 rfl dL_law_342 rfl ?_
  refine j_iconst F (v := nI 1) dL_law_343 (by decide) ?_
  obtain ⟨h2, e0, s2⟩ := o_go (N := NN) (by decide) s1 (nI 1)
  rw [v2_0] at e0
  have s2 : LQ h2 D2 S2_1 X00 := s2
  refine j_cls (ex := [_]) hO1 (run_V (F.fx Z.2.1 Z.2.2.1 ⟨by show cN + 11 ≤ 600086; omega, by show sN + 56 ≤ 7301442; omega⟩) cvL_78 (o := 0) (by decide) (c_X7_go (xG X) _ NN h1 (nI 1)) (As := [.int (nI 1)]) rfl rfl ⟨⟨rfl, rfl⟩, by decide, by decide⟩ (Nat.le_of_ble_eq_true rfl) dL_law_344) (e := e0) (hv := rfl) fun hO2 => ?_
  refine j_iload F 0 rfl dL_law_347 ?_
  refine j_iconst F (v := nI 1) dL_law_349 (by decide) ?_
  refine j_iadd F (z := nI 1) dL_law_350 (nI_add _ _) ?_
  refine j_icmpne F (tgt := 420) dL_law_351 (by decide) (fun qq => absurd rfl qq) (fun _ => ?_)
  refine j_aload_n F 2 rfl dL_law_354 rfl ?_
  refine j_bipush F (v := nI 7) dL_law_355 (by decide) ?_
  have e1 := o_count (N := NN) (by decide) s2 sx00 (nI 7) (fun _ _ _ => cou7 _ _ _ _)
  rw [v2_1] at e1
  refine j_cls (ex := [_]) hO2 (run_V (F.fx Z.2.1 Z.2.2.1 ⟨by show cN + 11 ≤ 600086; omega, by show sN + 56 ≤ 7301442; omega⟩) cvL_90 (o := 0) (by decide) (c_X7_count (xG X) _ NN h2 (nI 7)) (As := [.int (nI 7)]) rfl rfl ⟨⟨rfl, rfl⟩, by decide, by decide⟩ (Nat.le_of_ble_eq_true rfl) dL_law_357) (e := e1) (hv := rfl) fun hO3 => ?_
  clear hO3
  refine j_aload F 1 rfl dL_law_360 ?_
  refine j_iload F 0 rfl dL_law_362 ?_
  refine j_iald F 0 rfl (v := nI 8) (inb_n (j := 0) (by omega) (by omega)) (by rw [clN (by omega)]; rfl) dL_law_364 ?_
  refine j_icmpne F (tgt := 420) dL_law_365 (by decide) (fun qq => absurd rfl qq) (fun _ => ?_)
  refine j_aload_n F 2 rfl dL_law_368 rfl ?_
  refine j_iconst F (v := nI 0) dL_law_369 (by decide) ?_
  refine j_iconst F (v := nI 5) dL_law_370 (by decide) ?_
  have e2 := o_croft (N := NN) (by decide) s2 (nI 0) (nI 5)
  rw [v2_2] at e2
  refine j_cls (ex := [_]) hO2 (run_V (F.fx Z.2.1 Z.2.2.1 ⟨by show cN + 11 ≤ 600086; omega, by show sN + 56 ≤ 7301442; omega⟩) cvL_87 (o := 0) (by decide) (c_X7_croft (xG X) _ NN h2 (nI 0) (nI 5)) (As := [.int (nI 0), .int (nI 5)]) rfl rfl ⟨⟨rfl, rfl⟩, by decide, by decide⟩ (Nat.le_of_ble_eq_true rfl) dL_law_371) (e := e2) (hv := rfl) fun hO3 => ?_
  clear hO3
  refine j_bipush F (v := nI 20) dL_law_374 (by decide) ?_
  refine j_bipush F (v := nI 8) dL_law_376 (by decide) ?_
  refine j_iload F 0 rfl dL_law_378 ?_
  refine j_iconst F (v := nI 1) dL_law_380 (by decide) ?_
  refine j_iadd F (z := nI 1) dL_law_381 (nI_add _ _) ?_
  refine j_imul F (z := nI 8) dL_law_382 (nI_mulN 8 _) ?_
  refine j_min F jwL_71 ws_min (z := nI 8) (by decide) ⟨by decide, Nat.le_of_ble_eq_true rfl⟩ ⟨by show cN + 11 ≤ 600086; omega, by show sN + 56 ≤ 7301442; omega⟩ dL_law_383 ?_
  refine j_icmpne F (tgt := 420) dL_law_386 (by decide) (fun qq => absurd rfl qq) (fun _ => ?_)
  refine j_aload_n F 2 rfl dL_law_389 rfl ?_
  refine j_bipush F (v := nI 9) dL_law_390 (by decide) ?_
  have e3 := o_count (N := NN) (by decide) s2 sx00 (nI 9) (fun _ _ _ => cou9 _ _ _ _)
  rw [v2_3] at e3
  refine j_cls (ex := [_]) hO2 (run_V (F.fx Z.2.1 Z.2.2.1 ⟨by show cN + 11 ≤ 600086; omega, by show sN + 56 ≤ 7301442; omega⟩) cvL_90 (o := 0) (by decide) (c_X7_count (xG X) _ NN h2 (nI 9)) (As := [.int (nI 9)]) rfl rfl ⟨⟨rfl, rfl⟩, by decide, by decide⟩ (Nat.le_of_ble_eq_true rfl) dL_law_392) (e := e3) (hv := rfl) fun hO3 => ?_
  clear hO3
  refine j_iload F 0 rfl dL_law_395 ?_
  refine j_iconst F (v := nI 3) dL_law_397 (by decide) ?_
  refine j_icmpge F (tgt := 405) dL_law_398 (by decide) (fun qq => absurd qq (show ¬ nI 3 ≤ nI 0 by decide)) (fun _ => ?_)
  refine j_iconst F (v := nI 0) dL_law_401 (by decide) ?_
  refine j_goto F (tgt := 417) dL_law_402 (by decide) ?_
  refine j_icmpeq F (tgt := 422) dL_law_417 (by decide) (fun _ => ?_) (fun qq => absurd rfl qq)
  refine j_iinc F (w := nI 1) 0 rfl (nI_add _ _) [(10, .int (nI 1)), (9, .ref q), (1, .ref (adr (xG X) 7 0 0)), (0, .ref b)] rfl dL_law_422 (by rw [hL]; decide) ?_
  refine j_goto F (tgt := 335) dL_law_425 (by decide) ?_
  refine j_iload F 0 rfl dL_law_335 ?_
  refine j_bipush F (v := nI 6) dL_law_337 (by decide) ?_
  refine j_icmpge F (tgt := 428) dL_law_339 (by decide) (fun qq => absurd qq (show ¬ nI 6 ≤ nI 1 by decide)) (fun _ => ?_)
  refine j_aload_n F 2 rfl dL_law_342 rfl ?_
  refine j_iconst F (v := nI 1) dL_law_343 (by decide) ?_
  obtain ⟨h3, e4, s3⟩ := o_go (N := NN) (by decide) s2 (nI 1)
  rw [v2_4] at e4
  have s3 : LQ h3 D2 S2_2 X00 := s3
  refine j_cls (ex := [_]) hO2 (run_V (F.fx Z.2.1 Z.2.2.1 ⟨by show cN + 11 ≤ 600086; omega, by show sN + 56 ≤ 7301442; omega⟩) cvL_78 (o := 0) (by decide) (c_X7_go (xG X) _ NN h2 (nI 1)) (As := [.int (nI 1)]) rfl rfl ⟨⟨rfl, rfl⟩, by decide, by decide⟩ (Nat.le_of_ble_eq_true rfl) dL_law_344) (e := e4) (hv := rfl) fun hO3 => ?_
  refine j_iload F 0 rfl dL_law_347 ?_
  refine j_iconst F (v := nI 1) dL_law_349 (by decide) ?_
  refine j_iadd F (z := nI 2) dL_law_350 (nI_add _ _) ?_
  refine j_icmpne F (tgt := 420) dL_law_351 (by decide) (fun qq => absurd rfl qq) (fun _ => ?_)
  refine j_aload_n F 2 rfl dL_law_354 rfl ?_
  refine j_bipush F (v := nI 7) dL_law_355 (by decide) ?_
  have e5 := o_count (N := NN) (by decide) s3 sx00 (nI 7) (fun _ _ _ => cou7 _ _ _ _)
  rw [v2_5] at e5
  refine j_cls (ex := [_]) hO3 (run_V (F.fx Z.2.1 Z.2.2.1 ⟨by show cN + 11 ≤ 600086; omega, by show sN + 56 ≤ 7301442; omega⟩) cvL_90 (o := 0) (by decide) (c_X7_count (xG X) _ NN h3 (nI 7)) (As := [.int (nI 7)]) rfl rfl ⟨⟨rfl, rfl⟩, by decide, by decide⟩ (Nat.le_of_ble_eq_true rfl) dL_law_357) (e := e5) (hv := rfl) fun hO4 => ?_
  clear hO4
  refine j_aload F 1 rfl dL_law_360 ?_
  refine j_iload F 0 rfl dL_law_362 ?_
  refine j_iald F 0 rfl (v := nI 16) (inb_n (j := 1) (by omega) (by omega)) (by rw [clN (by omega)]; rfl) dL_law_364 ?_
  refine j_icmpne F (tgt := 420) dL_law_365 (by decide) (fun qq => absurd rfl qq) (fun _ => ?_)
  refine j_aload_n F 2 rfl dL_law_368 rfl ?_
  refine j_iconst F (v := nI 0) dL_law_369 (by decide) ?_
  refine j_iconst F (v := nI 5) dL_law_370 (by decide) ?_
  have e6 := o_croft (N := NN) (by decide) s3 (nI 0) (nI 5)
  rw [v2_6] at e6
  refine j_cls (ex := [_]) hO3 (run_V (F.fx Z.2.1 Z.2.2.1 ⟨by show cN + 11 ≤ 600086; omega, by show sN + 56 ≤ 7301442; omega⟩) cvL_87 (o := 0) (by decide) (c_X7_croft (xG X) _ NN h3 (nI 0) (nI 5)) (As := [.int (nI 0), .int (nI 5)]) rfl rfl ⟨⟨rfl, rfl⟩, by decide, by decide⟩ (Nat.le_of_ble_eq_true rfl) dL_law_371) (e := e6) (hv := rfl) fun hO4 => ?_
  clear hO4
  refine j_bipush F (v := nI 20) dL_law_374 (by decide) ?_
  refine j_bipush F (v := nI 8) dL_law_376 (by decide) ?_
  refine j_iload F 0 rfl dL_law_378 ?_
  refine j_iconst F (v := nI 1) dL_law_380 (by decide) ?_
  refine j_iadd F (z := nI 2) dL_law_381 (nI_add _ _) ?_
  refine j_imul F (z := nI 16) dL_law_382 (nI_mulN 8 _) ?_
  refine j_min F jwL_71 ws_min (z := nI 16) (by decide) ⟨by decide, Nat.le_of_ble_eq_true rfl⟩ ⟨by show cN + 11 ≤ 600086; omega, by show sN + 56 ≤ 7301442; omega⟩ dL_law_383 ?_
  refine j_icmpne F (tgt := 420) dL_law_386 (by decide) (fun qq => absurd rfl qq) (fun _ => ?_)
  refine j_aload_n F 2 rfl dL_law_389 rfl ?_
  refine j_bipush F (v := nI 9) dL_law_390 (by decide) ?_
  have e7 := o_count (N := NN) (by decide) s3 sx00 (nI 9) (fun _ _ _ => cou9 _ _ _ _)
  rw [v2_7] at e7
  refine j_cls (ex := [_]) hO3 (run_V (F.fx Z.2.1 Z.2.2.1 ⟨by show cN + 11 ≤ 600086; omega, by show sN + 56 ≤ 7301442; omega⟩) cvL_90 (o := 0) (by decide) (c_X7_count (xG X) _ NN h3 (nI 9)) (As := [.int (nI 9)]) rfl rfl ⟨⟨rfl, rfl⟩, by decide, by decide⟩ (Nat.le_of_ble_eq_true rfl) dL_law_392) (e := e7) (hv := rfl) fun hO4 => ?_
  clear hO4
  refine j_iload F 0 rfl dL_law_395 ?_
  refine j_iconst F (v := nI 3) dL_law_397 (by decide) ?_
  refine j_icmpge F (tgt := 405) dL_law_398 (by decide) (fun qq => absurd qq (show ¬ nI 3 ≤ nI 1 by decide)) (fun _ => ?_)
  refine j_iconst F (v := nI 0) dL_law_401 (by decide) ?_
  refine j_goto F (tgt := 417) dL_law_402 (by decide) ?_
  refine j_icmpeq F (tgt := 422) dL_law_417 (by decide) (fun _ => ?_) (fun qq => absurd rfl qq)
  refine j_iinc F (w := nI 2) 0 rfl (nI_add _ _) [(10, .int (nI 2)), (9, .ref q), (1, .ref (adr (xG X) 7 0 0)), (0, .ref b)] rfl dL_law_422 (by rw [hL]; decide) ?_
  refine j_goto F (tgt := 335) dL_law_425 (by decide) ?_
  refine j_iload F 0 rfl dL_law_335 ?_
  refine j_bipush F (v := nI 6) dL_law_337 (by decide) ?_
  refine j_icmpge F (tgt := 428) dL_law_339 (by decide) (fun qq => absurd qq (show ¬ nI 6 ≤ nI 2 by decide)) (fun _ => ?_)
  refine j_aload_n F 2 rfl dL_law_342 rfl ?_
  refine j_iconst F (v := nI 1) dL_law_343 (by decide) ?_
  obtain ⟨h4, e8, s4⟩ := o_go (N := NN) (by decide) s3 (nI 1)
  rw [v2_8] at e8
  have s4 : LQ h4 D2 S2_3 X00 := s4
  refine j_cls (ex := [_]) hO3 (run_V (F.fx Z.2.1 Z.2.2.1 ⟨by show cN + 11 ≤ 600086; omega, by show sN + 56 ≤ 7301442; omega⟩) cvL_78 (o := 0) (by decide) (c_X7_go (xG X) _ NN h3 (nI 1)) (As := [.int (nI 1)]) rfl rfl ⟨⟨rfl, rfl⟩, by decide, by decide⟩ (Nat.le_of_ble_eq_true rfl) dL_law_344) (e := e8) (hv := rfl) fun hO4 => ?_
  refine j_iload F 0 rfl dL_law_347 ?_
  refine j_iconst F (v := nI 1) dL_law_349 (by decide) ?_
  refine j_iadd F (z := nI 3) dL_law_350 (nI_add _ _) ?_
  refine j_icmpne F (tgt := 420) dL_law_351 (by decide) (fun qq => absurd rfl qq) (fun _ => ?_)
  refine j_aload_n F 2 rfl dL_law_354 rfl ?_
  refine j_bipush F (v := nI 7) dL_law_355 (by decide) ?_
  have e9 := o_count (N := NN) (by decide) s4 sx00 (nI 7) (fun _ _ _ => cou7 _ _ _ _)
  rw [v2_9] at e9
  refine j_cls (ex := [_]) hO4 (run_V (F.fx Z.2.1 Z.2.2.1 ⟨by show cN + 11 ≤ 600086; omega, by show sN + 56 ≤ 7301442; omega⟩) cvL_90 (o := 0) (by decide) (c_X7_count (xG X) _ NN h4 (nI 7)) (As := [.int (nI 7)]) rfl rfl ⟨⟨rfl, rfl⟩, by decide, by decide⟩ (Nat.le_of_ble_eq_true rfl) dL_law_357) (e := e9) (hv := rfl) fun hO5 => ?_
  clear hO5
  refine j_aload F 1 rfl dL_law_360 ?_
  refine j_iload F 0 rfl dL_law_362 ?_
  refine j_iald F 0 rfl (v := nI 20) (inb_n (j := 2) (by omega) (by omega)) (by rw [clN (by omega)]; rfl) dL_law_364 ?_
  refine j_icmpne F (tgt := 420) dL_law_365 (by decide) (fun qq => absurd rfl qq) (fun _ => ?_)
  refine j_aload_n F 2 rfl dL_law_368 rfl ?_
  refine j_iconst F (v := nI 0) dL_law_369 (by decide) ?_
  refine j_iconst F (v := nI 5) dL_law_370 (by decide) ?_
  have e10 := o_croft (N := NN) (by decide) s4 (nI 0) (nI 5)
  rw [v2_10] at e10
  refine j_cls (ex := [_]) hO4 (run_V (F.fx Z.2.1 Z.2.2.1 ⟨by show cN + 11 ≤ 600086; omega, by show sN + 56 ≤ 7301442; omega⟩) cvL_87 (o := 0) (by decide) (c_X7_croft (xG X) _ NN h4 (nI 0) (nI 5)) (As := [.int (nI 0), .int (nI 5)]) rfl rfl ⟨⟨rfl, rfl⟩, by decide, by decide⟩ (Nat.le_of_ble_eq_true rfl) dL_law_371) (e := e10) (hv := rfl) fun hO5 => ?_
  clear hO5
  refine j_bipush F (v := nI 20) dL_law_374 (by decide) ?_
  refine j_bipush F (v := nI 8) dL_law_376 (by decide) ?_
  refine j_iload F 0 rfl dL_law_378 ?_
  refine j_iconst F (v := nI 1) dL_law_380 (by decide) ?_
  refine j_iadd F (z := nI 3) dL_law_381 (nI_add _ _) ?_
  refine j_imul F (z := nI 24) dL_law_382 (nI_mulN 8 _) ?_
  refine j_min F jwL_71 ws_min (z := nI 20) (by decide) ⟨by decide, Nat.le_of_ble_eq_true rfl⟩ ⟨by show cN + 11 ≤ 600086; omega, by show sN + 56 ≤ 7301442; omega⟩ dL_law_383 ?_
  refine j_icmpne F (tgt := 420) dL_law_386 (by decide) (fun qq => absurd rfl qq) (fun _ => ?_)
  refine j_aload_n F 2 rfl dL_law_389 rfl ?_
  refine j_bipush F (v := nI 9) dL_law_390 (by decide) ?_
  have e11 := o_count (N := NN) (by decide) s4 sx00 (nI 9) (fun _ _ _ => cou9 _ _ _ _)
  rw [v2_11] at e11
  refine j_cls (ex := [_]) hO4 (run_V (F.fx Z.2.1 Z.2.2.1 ⟨by show cN + 11 ≤ 600086; omega, by show sN + 56 ≤ 7301442; omega⟩) cvL_90 (o := 0) (by decide) (c_X7_count (xG X) _ NN h4 (nI 9)) (As := [.int (nI 9)]) rfl rfl ⟨⟨rfl, rfl⟩, by decide, by decide⟩ (Nat.le_of_ble_eq_true rfl) dL_law_392) (e := e11) (hv := rfl) fun hO5 => ?_
  clear hO5
  refine j_iload F 0 rfl dL_law_395 ?_
  refine j_iconst F (v := nI 3) dL_law_397 (by decide) ?_
  refine j_icmpge F (tgt := 405) dL_law_398 (by decide) (fun qq => absurd qq (show ¬ nI 3 ≤ nI 2 by decide)) (fun _ => ?_)
  refine j_iconst F (v := nI 0) dL_law_401 (by decide) ?_
  refine j_goto F (tgt := 417) dL_law_402 (by decide) ?_
  refine j_icmpeq F (tgt := 422) dL_law_417 (by decide) (fun _ => ?_) (fun qq => absurd rfl qq)
  refine j_iinc F (w := nI 3) 0 rfl (nI_add _ _) [(10, .int (nI 3)), (9, .ref q), (1, .ref (adr (xG X) 7 0 0)), (0, .ref b)] rfl dL_law_422 (by rw [hL]; decide) ?_
  refine j_goto F (tgt := 335) dL_law_425 (by decide) ?_
  refine j_iload F 0 rfl dL_law_335 ?_
  refine j_bipush F (v := nI 6) dL_law_337 (by decide) ?_
  refine j_icmpge F (tgt := 428) dL_law_339 (by decide) (fun qq => absurd qq (show ¬ nI 6 ≤ nI 3 by decide)) (fun _ => ?_)
  refine j_aload_n F 2 rfl dL_law_342 rfl ?_
  refine j_iconst F (v := nI 1) dL_law_343 (by decide) ?_
  obtain ⟨h5, e12, s5⟩ := o_go (N := NN) (by decide) s4 (nI 1)
  rw [v2_12] at e12
  have s5 : LQ h5 D2 S2_4 X00 := s5
  refine j_cls (ex := [_]) hO4 (run_V (F.fx Z.2.1 Z.2.2.1 ⟨by show cN + 11 ≤ 600086; omega, by show sN + 56 ≤ 7301442; omega⟩) cvL_78 (o := 0) (by decide) (c_X7_go (xG X) _ NN h4 (nI 1)) (As := [.int (nI 1)]) rfl rfl ⟨⟨rfl, rfl⟩, by decide, by decide⟩ (Nat.le_of_ble_eq_true rfl) dL_law_344) (e := e12) (hv := rfl) fun hO5 => ?_
  refine j_iload F 0 rfl dL_law_347 ?_
  refine j_iconst F (v := nI 1) dL_law_349 (by decide) ?_
  refine j_iadd F (z := nI 4) dL_law_350 (nI_add _ _) ?_
  refine j_icmpne F (tgt := 420) dL_law_351 (by decide) (fun qq => absurd rfl qq) (fun _ => ?_)
  refine j_aload_n F 2 rfl dL_law_354 rfl ?_
  refine j_bipush F (v := nI 7) dL_law_355 (by decide) ?_
  have e13 := o_count (N := NN) (by decide) s5 sx00 (nI 7) (fun _ _ _ => cou7 _ _ _ _)
  rw [v2_13] at e13
  refine j_cls (ex := [_]) hO5 (run_V (F.fx Z.2.1 Z.2.2.1 ⟨by show cN + 11 ≤ 600086; omega, by show sN + 56 ≤ 7301442; omega⟩) cvL_90 (o := 0) (by decide) (c_X7_count (xG X) _ NN h5 (nI 7)) (As := [.int (nI 7)]) rfl rfl ⟨⟨rfl, rfl⟩, by decide, by decide⟩ (Nat.le_of_ble_eq_true rfl) dL_law_357) (e := e13) (hv := rfl) fun hO6 => ?_
  clear hO6
  refine j_aload F 1 rfl dL_law_360 ?_
  refine j_iload F 0 rfl dL_law_362 ?_
  refine j_iald F 0 rfl (v := nI 10) (inb_n (j := 3) (by omega) (by omega)) (by rw [clN (by omega)]; rfl) dL_law_364 ?_
  refine j_icmpne F (tgt := 420) dL_law_365 (by decide) (fun qq => absurd rfl qq) (fun _ => ?_)
  refine j_aload_n F 2 rfl dL_law_368 rfl ?_
  refine j_iconst F (v := nI 0) dL_law_369 (by decide) ?_
  refine j_iconst F (v := nI 5) dL_law_370 (by decide) ?_
  have e14 := o_croft (N := NN) (by decide) s5 (nI 0) (nI 5)
  rw [v2_14] at e14
  refine j_cls (ex := [_]) hO5 (run_V (F.fx Z.2.1 Z.2.2.1 ⟨by show cN + 11 ≤ 600086; omega, by show sN + 56 ≤ 7301442; omega⟩) cvL_87 (o := 0) (by decide) (c_X7_croft (xG X) _ NN h5 (nI 0) (nI 5)) (As := [.int (nI 0), .int (nI 5)]) rfl rfl ⟨⟨rfl, rfl⟩, by decide, by decide⟩ (Nat.le_of_ble_eq_true rfl) dL_law_371) (e := e14) (hv := rfl) fun hO6 => ?_
  clear hO6
  refine j_bipush F (v := nI 20) dL_law_374 (by decide) ?_
  refine j_bipush F (v := nI 8) dL_law_376 (by decide) ?_
  refine j_iload F 0 rfl dL_law_378 ?_
  refine j_iconst F (v := nI 1) dL_law_380 (by decide) ?_
  refine j_iadd F (z := nI 4) dL_law_381 (nI_add _ _) ?_
  refine j_imul F (z := nI 32) dL_law_382 (nI_mulN 8 _) ?_
  refine j_min F jwL_71 ws_min (z := nI 20) (by decide) ⟨by decide, Nat.le_of_ble_eq_true rfl⟩ ⟨by show cN + 11 ≤ 600086; omega, by show sN + 56 ≤ 7301442; omega⟩ dL_law_383 ?_
  refine j_icmpne F (tgt := 420) dL_law_386 (by decide) (fun qq => absurd rfl qq) (fun _ => ?_)
  refine j_aload_n F 2 rfl dL_law_389 rfl ?_
  refine j_bipush F (v := nI 9) dL_law_390 (by decide) ?_
  have e15 := o_count (N := NN) (by decide) s5 sx00 (nI 9) (fun _ _ _ => cou9 _ _ _ _)
  rw [v2_15] at e15
  refine j_cls (ex := [_]) hO5 (run_V (F.fx Z.2.1 Z.2.2.1 ⟨by show cN + 11 ≤ 600086; omega, by show sN + 56 ≤ 7301442; omega⟩) cvL_90 (o := 0) (by decide) (c_X7_count (xG X) _ NN h5 (nI 9)) (As := [.int (nI 9)]) rfl rfl ⟨⟨rfl, rfl⟩, by decide, by decide⟩ (Nat.le_of_ble_eq_true rfl) dL_law_392) (e := e15) (hv := rfl) fun hO6 => ?_
  clear hO6
  refine j_iload F 0 rfl dL_law_395 ?_
  refine j_iconst F (v := nI 3) dL_law_397 (by decide) ?_
  refine j_icmpge F (tgt := 405) dL_law_398 (by decide) (fun _ => ?_) (fun qq => absurd (show nI 3 ≤ nI 3 by decide) qq)
  refine j_bipush F (v := nI 20) dL_law_405 (by decide) ?_
  refine j_bipush F (v := nI 10) dL_law_407 (by decide) ?_
  refine j_iload F 0 rfl dL_law_409 ?_
  refine j_iconst F (v := nI 2) dL_law_411 (by decide) ?_
  refine j_isub F (z := nI 1) dL_law_412 (nI_sub (by omega)) ?_
  refine j_imul F (z := nI 10) dL_law_413 (nI_mulN 10 _) ?_
  refine j_min F jwL_71 ws_min (z := nI 10) (by decide) ⟨by decide, Nat.le_of_ble_eq_true rfl⟩ ⟨by show cN + 11 ≤ 600086; omega, by show sN + 56 ≤ 7301442; omega⟩ dL_law_414 ?_
  refine j_icmpeq F (tgt := 422) dL_law_417 (by decide) (fun _ => ?_) (fun qq => absurd rfl qq)
  refine j_iinc F (w := nI 4) 0 rfl (nI_add _ _) [(10, .int (nI 4)), (9, .ref q), (1, .ref (adr (xG X) 7 0 0)), (0, .ref b)] rfl dL_law_422 (by rw [hL]; decide) ?_
  refine j_goto F (tgt := 335) dL_law_425 (by decide) ?_
  refine j_iload F 0 rfl dL_law_335 ?_
  refine j_bipush F (v := nI 6) dL_law_337 (by decide) ?_
  refine j_icmpge F (tgt := 428) dL_law_339 (by decide) (fun qq => absurd qq (show ¬ nI 6 ≤ nI 4 by decide)) (fun _ => ?_)
  refine j_aload_n F 2 rfl dL_law_342 rfl ?_
  refine j_iconst F (v := nI 1) dL_law_343 (by decide) ?_
  obtain ⟨h6, e16, s6⟩ := o_go (N := NN) (by decide) s5 (nI 1)
  rw [v2_16] at e16
  have s6 : LQ h6 D2 S2_5 X00 := s6
  refine j_cls (ex := [_]) hO5 (run_V (F.fx Z.2.1 Z.2.2.1 ⟨by show cN + 11 ≤ 600086; omega, by show sN + 56 ≤ 7301442; omega⟩) cvL_78 (o := 0) (by decide) (c_X7_go (xG X) _ NN h5 (nI 1)) (As := [.int (nI 1)]) rfl rfl ⟨⟨rfl, rfl⟩, by decide, by decide⟩ (Nat.le_of_ble_eq_true rfl) dL_law_344) (e := e16) (hv := rfl) fun hO6 => ?_
  refine j_iload F 0 rfl dL_law_347 ?_
  refine j_iconst F (v := nI 1) dL_law_349 (by decide) ?_
  refine j_iadd F (z := nI 5) dL_law_350 (nI_add _ _) ?_
  refine j_icmpne F (tgt := 420) dL_law_351 (by decide) (fun qq => absurd rfl qq) (fun _ => ?_)
  refine j_aload_n F 2 rfl dL_law_354 rfl ?_
  refine j_bipush F (v := nI 7) dL_law_355 (by decide) ?_
  have e17 := o_count (N := NN) (by decide) s6 sx00 (nI 7) (fun _ _ _ => cou7 _ _ _ _)
  rw [v2_17] at e17
  refine j_cls (ex := [_]) hO6 (run_V (F.fx Z.2.1 Z.2.2.1 ⟨by show cN + 11 ≤ 600086; omega, by show sN + 56 ≤ 7301442; omega⟩) cvL_90 (o := 0) (by decide) (c_X7_count (xG X) _ NN h6 (nI 7)) (As := [.int (nI 7)]) rfl rfl ⟨⟨rfl, rfl⟩, by decide, by decide⟩ (Nat.le_of_ble_eq_true rfl) dL_law_357) (e := e17) (hv := rfl) fun hO7 => ?_
  clear hO7
  refine j_aload F 1 rfl dL_law_360 ?_
  refine j_iload F 0 rfl dL_law_362 ?_
  refine j_iald F 0 rfl (v := nI 0) (inb_n (j := 4) (by omega) (by omega)) (by rw [clN (by omega)]; rfl) dL_law_364 ?_
  refine j_icmpne F (tgt := 420) dL_law_365 (by decide) (fun qq => absurd rfl qq) (fun _ => ?_)
  refine j_aload_n F 2 rfl dL_law_368 rfl ?_
  refine j_iconst F (v := nI 0) dL_law_369 (by decide) ?_
  refine j_iconst F (v := nI 5) dL_law_370 (by decide) ?_
  have e18 := o_croft (N := NN) (by decide) s6 (nI 0) (nI 5)
  rw [v2_18] at e18
  refine j_cls (ex := [_]) hO6 (run_V (F.fx Z.2.1 Z.2.2.1 ⟨by show cN + 11 ≤ 600086; omega, by show sN + 56 ≤ 7301442; omega⟩) cvL_87 (o := 0) (by decide) (c_X7_croft (xG X) _ NN h6 (nI 0) (nI 5)) (As := [.int (nI 0), .int (nI 5)]) rfl rfl ⟨⟨rfl, rfl⟩, by decide, by decide⟩ (Nat.le_of_ble_eq_true rfl) dL_law_371) (e := e18) (hv := rfl) fun hO7 => ?_
  clear hO7
  refine j_bipush F (v := nI 20) dL_law_374 (by decide) ?_
  refine j_bipush F (v := nI 8) dL_law_376 (by decide) ?_
  refine j_iload F 0 rfl dL_law_378 ?_
  refine j_iconst F (v := nI 1) dL_law_380 (by decide) ?_
  refine j_iadd F (z := nI 5) dL_law_381 (nI_add _ _) ?_
  refine j_imul F (z := nI 40) dL_law_382 (nI_mulN 8 _) ?_
  refine j_min F jwL_71 ws_min (z := nI 20) (by decide) ⟨by decide, Nat.le_of_ble_eq_true rfl⟩ ⟨by show cN + 11 ≤ 600086; omega, by show sN + 56 ≤ 7301442; omega⟩ dL_law_383 ?_
  refine j_icmpne F (tgt := 420) dL_law_386 (by decide) (fun qq => absurd rfl qq) (fun _ => ?_)
  refine j_aload_n F 2 rfl dL_law_389 rfl ?_
  refine j_bipush F (v := nI 9) dL_law_390 (by decide) ?_
  have e19 := o_count (N := NN) (by decide) s6 sx00 (nI 9) (fun _ _ _ => cou9 _ _ _ _)
  rw [v2_19] at e19
  refine j_cls (ex := [_]) hO6 (run_V (F.fx Z.2.1 Z.2.2.1 ⟨by show cN + 11 ≤ 600086; omega, by show sN + 56 ≤ 7301442; omega⟩) cvL_90 (o := 0) (by decide) (c_X7_count (xG X) _ NN h6 (nI 9)) (As := [.int (nI 9)]) rfl rfl ⟨⟨rfl, rfl⟩, by decide, by decide⟩ (Nat.le_of_ble_eq_true rfl) dL_law_392) (e := e19) (hv := rfl) fun hO7 => ?_
  clear hO7
  refine j_iload F 0 rfl dL_law_395 ?_
  refine j_iconst F (v := nI 3) dL_law_397 (by decide) ?_
  refine j_icmpge F (tgt := 405) dL_law_398 (by decide) (fun _ => ?_) (fun qq => absurd (show nI 3 ≤ nI 4 by decide) qq)
  refine j_bipush F (v := nI 20) dL_law_405 (by decide) ?_
  refine j_bipush F (v := nI 10) dL_law_407 (by decide) ?_
  refine j_iload F 0 rfl dL_law_409 ?_
  refine j_iconst F (v := nI 2) dL_law_411 (by decide) ?_
  refine j_isub F (z := nI 2) dL_law_412 (nI_sub (by omega)) ?_
  refine j_imul F (z := nI 20) dL_law_413 (nI_mulN 10 _) ?_
  refine j_min F jwL_71 ws_min (z := nI 20) (by decide) ⟨by decide, Nat.le_of_ble_eq_true rfl⟩ ⟨by show cN + 11 ≤ 600086; omega, by show sN + 56 ≤ 7301442; omega⟩ dL_law_414 ?_
  refine j_icmpeq F (tgt := 422) dL_law_417 (by decide) (fun _ => ?_) (fun qq => absurd rfl qq)
  refine j_iinc F (w := nI 5) 0 rfl (nI_add _ _) [(10, .int (nI 5)), (9, .ref q), (1, .ref (adr (xG X) 7 0 0)), (0, .ref b)] rfl dL_law_422 (by rw [hL]; decide) ?_
  refine j_goto F (tgt := 335) dL_law_425 (by decide) ?_
  refine j_iload F 0 rfl dL_law_335 ?_
  refine j_bipush F (v := nI 6) dL_law_337 (by decide) ?_
  refine j_icmpge F (tgt := 428) dL_law_339 (by decide) (fun qq => absurd qq (show ¬ nI 6 ≤ nI 5 by decide)) (fun _ => ?_)
  refine j_aload_n F 2 rfl dL_law_342 rfl ?_
  refine j_iconst F (v := nI 1) dL_law_343 (by decide) ?_
  obtain ⟨h7, e20, s7⟩ := o_go (N := NN) (by decide) s6 (nI 1)
  rw [v2_20] at e20
  have s7 : LQ h7 D2 S2_6 X00 := s7
  refine j_cls (ex := [_]) hO6 (run_V (F.fx Z.2.1 Z.2.2.1 ⟨by show cN + 11 ≤ 600086; omega, by show sN + 56 ≤ 7301442; omega⟩) cvL_78 (o := 0) (by decide) (c_X7_go (xG X) _ NN h6 (nI 1)) (As := [.int (nI 1)]) rfl rfl ⟨⟨rfl, rfl⟩, by decide, by decide⟩ (Nat.le_of_ble_eq_true rfl) dL_law_344) (e := e20) (hv := rfl) fun hO7 => ?_
  refine j_iload F 0 rfl dL_law_347 ?_
  refine j_iconst F (v := nI 1) dL_law_349 (by decide) ?_
  refine j_iadd F (z := nI 6) dL_law_350 (nI_add _ _) ?_
  refine j_icmpne F (tgt := 420) dL_law_351 (by decide) (fun qq => absurd rfl qq) (fun _ => ?_)
  refine j_aload_n F 2 rfl dL_law_354 rfl ?_
  refine j_bipush F (v := nI 7) dL_law_355 (by decide) ?_
  have e21 := o_count (N := NN) (by decide) s7 sx00 (nI 7) (fun _ _ _ => cou7 _ _ _ _)
  rw [v2_21] at e21
  refine j_cls (ex := [_]) hO7 (run_V (F.fx Z.2.1 Z.2.2.1 ⟨by show cN + 11 ≤ 600086; omega, by show sN + 56 ≤ 7301442; omega⟩) cvL_90 (o := 0) (by decide) (c_X7_count (xG X) _ NN h7 (nI 7)) (As := [.int (nI 7)]) rfl rfl ⟨⟨rfl, rfl⟩, by decide, by decide⟩ (Nat.le_of_ble_eq_true rfl) dL_law_357) (e := e21) (hv := rfl) fun hO8 => ?_
  clear hO8
  refine j_aload F 1 rfl dL_law_360 ?_
  refine j_iload F 0 rfl dL_law_362 ?_
  refine j_iald F 0 rfl (v := nI 0) (inb_n (j := 5) (by omega) (by omega)) (by rw [clN (by omega)]; rfl) dL_law_364 ?_
  refine j_icmpne F (tgt := 420) dL_law_365 (by decide) (fun qq => absurd rfl qq) (fun _ => ?_)
  refine j_aload_n F 2 rfl dL_law_368 rfl ?_
  refine j_iconst F (v := nI 0) dL_law_369 (by decide) ?_
  refine j_iconst F (v := nI 5) dL_law_370 (by decide) ?_
  have e22 := o_croft (N := NN) (by decide) s7 (nI 0) (nI 5)
  rw [v2_22] at e22
  refine j_cls (ex := [_]) hO7 (run_V (F.fx Z.2.1 Z.2.2.1 ⟨by show cN + 11 ≤ 600086; omega, by show sN + 56 ≤ 7301442; omega⟩) cvL_87 (o := 0) (by decide) (c_X7_croft (xG X) _ NN h7 (nI 0) (nI 5)) (As := [.int (nI 0), .int (nI 5)]) rfl rfl ⟨⟨rfl, rfl⟩, by decide, by decide⟩ (Nat.le_of_ble_eq_true rfl) dL_law_371) (e := e22) (hv := rfl) fun hO8 => ?_
  clear hO8
  refine j_bipush F (v := nI 20) dL_law_374 (by decide) ?_
  refine j_bipush F (v := nI 8) dL_law_376 (by decide) ?_
  refine j_iload F 0 rfl dL_law_378 ?_
  refine j_iconst F (v := nI 1) dL_law_380 (by decide) ?_
  refine j_iadd F (z := nI 6) dL_law_381 (nI_add _ _) ?_
  refine j_imul F (z := nI 48) dL_law_382 (nI_mulN 8 _) ?_
  refine j_min F jwL_71 ws_min (z := nI 20) (by decide) ⟨by decide, Nat.le_of_ble_eq_true rfl⟩ ⟨by show cN + 11 ≤ 600086; omega, by show sN + 56 ≤ 7301442; omega⟩ dL_law_383 ?_
  refine j_icmpne F (tgt := 420) dL_law_386 (by decide) (fun qq => absurd rfl qq) (fun _ => ?_)
  refine j_aload_n F 2 rfl dL_law_389 rfl ?_
  refine j_bipush F (v := nI 9) dL_law_390 (by decide) ?_
  have e23 := o_count (N := NN) (by decide) s7 sx00 (nI 9) (fun _ _ _ => cou9 _ _ _ _)
  rw [v2_23] at e23
  refine j_cls (ex := [_]) hO7 (run_V (F.fx Z.2.1 Z.2.2.1 ⟨by show cN + 11 ≤ 600086; omega, by show sN + 56 ≤ 7301442; omega⟩) cvL_90 (o := 0) (by decide) (c_X7_count (xG X) _ NN h7 (nI 9)) (As := [.int (nI 9)]) rfl rfl ⟨⟨rfl, rfl⟩, by decide, by decide⟩ (Nat.le_of_ble_eq_true rfl) dL_law_392) (e := e23) (hv := rfl) fun hO8 => ?_
  clear hO8
  refine j_iload F 0 rfl dL_law_395 ?_
  refine j_iconst F (v := nI 3) dL_law_397 (by decide) ?_
  refine j_icmpge F (tgt := 405) dL_law_398 (by decide) (fun _ => ?_) (fun qq => absurd (show nI 3 ≤ nI 5 by decide) qq)
  refine j_bipush F (v := nI 20) dL_law_405 (by decide) ?_
  refine j_bipush F (v := nI 10) dL_law_407 (by decide) ?_
  refine j_iload F 0 rfl dL_law_409 ?_
  refine j_iconst F (v := nI 2) dL_law_411 (by decide) ?_
  refine j_isub F (z := nI 3) dL_law_412 (nI_sub (by omega)) ?_
  refine j_imul F (z := nI 30) dL_law_413 (nI_mulN 10 _) ?_
  refine j_min F jwL_71 ws_min (z := nI 20) (by decide) ⟨by decide, Nat.le_of_ble_eq_true rfl⟩ ⟨by show cN + 11 ≤ 600086; omega, by show sN + 56 ≤ 7301442; omega⟩ dL_law_414 ?_
  refine j_icmpeq F (tgt := 422) dL_law_417 (by decide) (fun _ => ?_) (fun qq => absurd rfl qq)
  refine j_iinc F (w := nI 6) 0 rfl (nI_add _ _) [(10, .int (nI 6)), (9, .ref q), (1, .ref (adr (xG X) 7 0 0)), (0, .ref b)] rfl dL_law_422 (by rw [hL]; decide) ?_
  refine j_goto F (tgt := 335) dL_law_425 (by decide) ?_
  refine j_iload F 0 rfl dL_law_335 ?_
  refine j_bipush F (v := nI 6) dL_law_337 (by decide) ?_
  refine j_icmpge F (tgt := 428) dL_law_339 (by decide) (fun _ => ?_) (fun qq => absurd (show nI 6 ≤ nI 6 by decide) qq)
  refine j_aload_n F 2 rfl dL_law_428 rfl ?_
  refine j_iconst F (v := nI 0) dL_law_429 (by decide) ?_
  refine j_iconst F (v := nI 4) dL_law_430 (by decide) ?_
  have e24 := o_croft (N := NN) (by decide) s7 (nI 0) (nI 4)
  rw [v2_24] at e24
  refine j_cls (ex := [_]) hO7 (run_V (F.fx Z.2.1 Z.2.2.1 ⟨by show cN + 11 ≤ 600086; omega, by show sN + 56 ≤ 7301442; omega⟩) cvL_87 (o := 0) (by decide) (c_X7_croft (xG X) _ NN h7 (nI 0) (nI 4)) (As := [.int (nI 0), .int (nI 4)]) rfl rfl ⟨⟨rfl, rfl⟩, by decide, by decide⟩ (Nat.le_of_ble_eq_true rfl) dL_law_431) (e := e24) (hv := rfl) fun hO8 => ?_
  clear hO8
  refine j_sipush F (v := nI 900) dL_law_434 (by decide) ?_
  refine j_icmpne F (tgt := 462) dL_law_437 (by decide) (fun qq => absurd rfl qq) (fun _ => ?_)
  refine j_aload_n F 2 rfl dL_law_440 rfl ?_
  refine j_iconst F (v := nI 0) dL_law_441 (by decide) ?_
  refine j_iconst F (v := nI 0) dL_law_442 (by decide) ?_
  have e25 := o_source (N := NN) (by decide) s7 (nI 0) (nI 0)
  rw [v2_25] at e25
  refine j_cls (ex := [_]) hO7 (run_V (F.fx Z.2.1 Z.2.2.1 ⟨by show cN + 11 ≤ 600086; omega, by show sN + 56 ≤ 7301442; omega⟩) cvL_95 (o := 0) (by decide) (c_X7_source (xG X) _ NN h7 (nI 0) (nI 0)) (As := [.int (nI 0), .int (nI 0)]) rfl rfl ⟨⟨rfl, rfl⟩, by decide, by decide⟩ (Nat.le_of_ble_eq_true rfl) dL_law_443) (e := e25) (hv := rfl) fun hO8 => ?_
  clear hO8
  refine j_bipush F (v := (-2)) dL_law_446 (by decide) ?_
  refine j_icmpne F (tgt := 462) dL_law_448 (by decide) (fun qq => absurd rfl qq) (fun _ => ?_)
  refine j_aload_n F 2 rfl dL_law_451 rfl ?_
  refine j_iconst F (v := nI 0) dL_law_452 (by decide) ?_
  refine j_iconst F (v := nI 1) dL_law_453 (by decide) ?_
  have e26 := o_source (N := NN) (by decide) s7 (nI 0) (nI 1)
  rw [v2_26] at e26
  refine j_cls (ex := [_]) hO7 (run_V (F.fx Z.2.1 Z.2.2.1 ⟨by show cN + 11 ≤ 600086; omega, by show sN + 56 ≤ 7301442; omega⟩) cvL_95 (o := 0) (by decide) (c_X7_source (xG X) _ NN h7 (nI 0) (nI 1)) (As := [.int (nI 0), .int (nI 1)]) rfl rfl ⟨⟨rfl, rfl⟩, by decide, by decide⟩ (Nat.le_of_ble_eq_true rfl) dL_law_454) (e := e26) (hv := rfl) fun hO8 => ?_
  clear hO8
  refine j_bipush F (v := (-2)) dL_law_457 (by decide) ?_
  refine j_icmpeq F (tgt := 464) dL_law_459 (by decide) (fun _ => ?_) (fun qq => absurd rfl qq)
  refine Wj_pick [2, 3] rfl ?_
  refine Wj_drop (a := [_]) ?_
  exact R h7 hO7 s7.aq
set_option maxRecDepth 100000 in
theorem seg_3 (Z : LC X dg K V b L xs) {h : Hp} (hO : okH h) (a : AQ h) (hc : cN + 17 ≤ 600086 ∧ sN + 674 ≤ 7301442) (R : ∀ g, okH g → AQ g → Wj X Q ([] ++ enc (xG X) g) (cN + 17) (sN + 674) 610 [(1, .ref (adr (xG X) 7 0 0)), (0, .ref b)] []) : Wj X Q ([] ++ enc (xG X) h) cN sN 464 [(1, .ref (adr (xG X) 7 0 0)), (0, .ref b)] [] := by
  have F := Z.1 0 (by decide)
  have hL := Z.2.2.2.1
  refine j_aload_n F 1 rfl dL_law_464 rfl ?_
  refine j_iconst F (v := nI 4) dL_law_465 (by decide) ?_
  refine l_cell Z (k := 4) (by omega) ⟨by show cN + 0 ≤ 600086; omega, by show sN + 0 ≤ 7301442; omega⟩ (Nat.le_of_ble_eq_true rfl) dL_law_466 ?_
  refine j_bipush F (v := nI 24) dL_law_469 (by decide) ?_
  refine l_in Z (by decide) ⟨by show cN + 0 ≤ 600086; omega, by show sN + 0 ≤ 7301442; omega⟩ (Nat.le_of_ble_eq_true rfl) dL_law_471 ?_
  obtain ⟨t, ht, qt⟩ := inS_n (clS L xs 4) (m := 24) (by omega) (by omega)
  rw [qt]
  refine j_istore F [(10, .int (nI t)), (1, .ref (adr (xG X) 7 0 0)), (0, .ref b)] rfl dL_law_474 (by rw [hL]; decide) ?_
  refine j_aload_n F 1 rfl dL_law_476 rfl ?_
  refine j_new F (c := 9) nwL_39 (by decide) ⟨by show cN + 0 + 1 ≤ 600086; omega, by show sN + 0 + 4 ≤ 7301442; omega⟩ dL_law_477 fun bq => ?_
  refine Wj_front (ex := []) ?_
  refine j_dup F rfl dL_law_480 ?_
  refine b_init F jiL_41 ⟨by decide, by decide⟩ (Nat.le_of_ble_eq_true rfl) ⟨by show cN + 1 + 1 ≤ 600086; omega, by show sN + 4 + 16 ≤ 7301442; omega⟩ dL_law_481 fun w0 B0 => ?_
  refine l_ldcS Z (i := 6) (by decide) rfl dL_law_484 ?_
  obtain ⟨by1, by2, by3⟩ := sgc_by (fun q => (xS X).heap.size ≤ q) K V (i := 6) (by decide)
  refine b_S (Z.1 6 (by decide)) jvL_44 B0 by1 by2 (by show _ + (cst 6).length ≤ 70; have d1 := dgl3 t; simp only [List.length_append, List.length_nil, cl_6, cl_7]; omega) ⟨by decide, by decide⟩ (Nat.le_of_ble_eq_true rfl) ⟨by show cN + 2 + 1 ≤ 600086; omega, by show sN + 20 + 150 ≤ 7301442; omega⟩ dL_law_486 fun w1 B1 => ?_
  have B1 : Bw (xG X) bq (([] : List Int32) ++ cst 6) w1 := B1
  refine j_iload F 0 rfl dL_law_489 ?_
  refine b_I F jvL_48 (k := t) B1 (by omega) (by have d1 := dgl3 t; simp only [List.length_append, List.length_nil, cl_6, cl_7]; omega) ⟨by decide, by decide⟩ (Nat.le_of_ble_eq_true rfl) ⟨by show cN + 3 + 1 ≤ 600086; omega, by show sN + 170 + 150 ≤ 7301442; omega⟩ dL_law_491 fun w2 B2 => ?_
  have B2 : Bw (xG X) bq ((([] : List Int32) ++ cst 6) ++ dgL t) w2 := B2
  refine l_ldcS Z (i := 7) (by decide) rfl dL_law_494 ?_
  obtain ⟨by1, by2, by3⟩ := sgc_by (fun q => (xS X).heap.size ≤ q) K V (i := 7) (by decide)
  refine b_S (Z.1 7 (by decide)) jvL_44 B2 by1 by2 (by show _ + (cst 7).length ≤ 70; have d1 := dgl3 t; simp only [List.length_append, List.length_nil, cl_6, cl_7]; omega) ⟨by decide, by decide⟩ (Nat.le_of_ble_eq_true rfl) ⟨by show cN + 4 + 1 ≤ 600086; omega, by show sN + 320 + 150 ≤ 7301442; omega⟩ dL_law_496 fun w3 B3 => ?_
  have B3 : Bw (xG X) bq (((([] : List Int32) ++ cst 6) ++ dgL t) ++ cst 7) w3 := B3
  refine b_ts F jvL_59 B3 ⟨by decide, by decide⟩ (Nat.le_of_ble_eq_true rfl) ⟨by show cN + 5 + 2 ≤ 600086; omega, by show sN + 470 + 154 ≤ 7301442; omega⟩ dL_law_499 fun sq uq fq hfq => ?_
  obtain ⟨tl, tb⟩ := (txB 6 7 (by decide) (by decide) (by decide) t (by omega))
  refine l_textM F jsL_63 (D := D3 t) Z.2.1 Z.2.2.1 hO a hfq (fun j hj => ⟨_, (tb _ (gd_mem hj 0)).2, (tb _ (gd_mem hj 0)).1⟩) (Nat.le_trans tl (by omega)) (dp_3 ⟨t, ht⟩) (dk_3 ⟨t, ht⟩) ⟨by decide, by decide⟩ (Nat.le_of_ble_eq_true rfl) ⟨by show cN + 7 + 10 ≤ 600086; omega, by show sN + 624 + 50 ≤ 7301442; omega⟩ dL_law_502 fun h1 hO1 s1 => ?_
  refine Wj_nil ?_
  have s1 : LQ h1 (D3 t) (S3_0 t) X00 := s1
  refine j_iconst F (v := nI 4) dL_law_505 (by decide) ?_
  refine j_icmpne F (tgt := 608) dL_law_506 (by decide) (fun qq => absurd rfl qq) (fun _ => ?_)
  refine j_aload_n F 1 rfl dL_law_509 rfl ?_
  refine j_iload F 0 rfl dL_law_510 ?_
  obtain ⟨h2, e0, s2⟩ := o_go (N := NN) (by decide) s1 (nI t)
  rw [show goA (T0 (D3 t)) (S3_0 t) (nI t) = nI t from v3_0 ⟨t, ht⟩] at e0
  have s2 : LQ h2 (D3 t) (S3_1 t) X00 := s2
  refine j_cls (ex := []) hO1 (run_V (F.fx Z.2.1 Z.2.2.1 ⟨by show cN + 17 ≤ 600086; omega, by show sN + 674 ≤ 7301442; omega⟩) cvL_78 (o := 0) (by decide) (c_X7_go (xG X) _ NN h1 (nI t)) (As := [.int (nI t)]) rfl rfl ⟨⟨rfl, rfl⟩, by decide, by decide⟩ (Nat.le_of_ble_eq_true rfl) dL_law_512) (e := e0) (hv := rfl) fun hO2 => ?_
  refine j_iload F 0 rfl dL_law_515 ?_
  refine j_icmpne F (tgt := 608) dL_law_517 (by decide) (fun qq => absurd rfl qq) (fun _ => ?_)
  refine j_aload_n F 1 rfl dL_law_520 rfl ?_
  refine j_bipush F (v := nI 8) dL_law_521 (by decide) ?_
  have e1 := o_count (N := NN) (by decide) s2 sx00 (nI 8) (fun _ _ _ => cou8 _ _ _ _)
  rw [show couM (T0 (D3 t)) (S3_1 t) X00 (nI 8) = nI 0 from v3_1 ⟨t, ht⟩] at e1
  refine j_cls (ex := []) hO2 (run_V (F.fx Z.2.1 Z.2.2.1 ⟨by show cN + 17 ≤ 600086; omega, by show sN + 674 ≤ 7301442; omega⟩) cvL_90 (o := 0) (by decide) (c_X7_count (xG X) _ NN h2 (nI 8)) (As := [.int (nI 8)]) rfl rfl ⟨⟨rfl, rfl⟩, by decide, by decide⟩ (Nat.le_of_ble_eq_true rfl) dL_law_523) (e := e1) (hv := rfl) fun hO3 => ?_
  clear hO3
  refine j_ifne F (tgt := 608) dL_law_526 (by decide) (fun qq => absurd rfl qq) (fun _ => ?_)
  refine j_aload_n F 1 rfl dL_law_529 rfl ?_
  refine j_iconst F (v := nI 1) dL_law_530 (by decide) ?_
  obtain ⟨h3, e2, s3⟩ := o_go (N := NN) (by decide) s2 (nI 1)
  rw [show goA (T0 (D3 t)) (S3_1 t) (nI 1) = nI (t + 1) from v3_2 ⟨t, ht⟩] at e2
  have s3 : LQ h3 (D3 t) (S3_2 t) X00 := s3
  refine j_cls (ex := []) hO2 (run_V (F.fx Z.2.1 Z.2.2.1 ⟨by show cN + 17 ≤ 600086; omega, by show sN + 674 ≤ 7301442; omega⟩) cvL_78 (o := 0) (by decide) (c_X7_go (xG X) _ NN h2 (nI 1)) (As := [.int (nI 1)]) rfl rfl ⟨⟨rfl, rfl⟩, by decide, by decide⟩ (Nat.le_of_ble_eq_true rfl) dL_law_531) (e := e2) (hv := rfl) fun hO3 => ?_
  refine j_iload F 0 rfl dL_law_534 ?_
  refine j_iconst F (v := nI 1) dL_law_536 (by decide) ?_
  refine j_iadd F (z := nI (t + 1)) dL_law_537 (nI_add _ _) ?_
  refine j_icmpne F (tgt := 608) dL_law_538 (by decide) (fun qq => absurd rfl qq) (fun _ => ?_)
  refine j_aload_n F 1 rfl dL_law_541 rfl ?_
  refine j_iconst F (v := nI 0) dL_law_542 (by decide) ?_
  refine j_iconst F (v := nI 0) dL_law_543 (by decide) ?_
  have e3 := o_stripe s3 (i := 0) (by rw [(T0_n _ (dk_3 ⟨t, ht⟩)).1]; exact (show 0 < 2 by omega))
  rw [show (S3_2 t).1 0 0 = nI 51 from v3_3 ⟨t, ht⟩] at e3
  refine j_cls (ex := []) hO3 (run_V (F.fx Z.2.1 Z.2.2.1 ⟨by show cN + 17 ≤ 600086; omega, by show sN + 674 ≤ 7301442; omega⟩) cvL_81 (o := 0) (by decide) (c_X7_stripe (xG X) _ h3 (nI 0) (nI 0)) (As := [.int (nI 0), .int (nI 0)]) rfl rfl ⟨⟨rfl, rfl⟩, by decide, by decide⟩ (Nat.le_of_ble_eq_true rfl) dL_law_544) (e := e3) (hv := rfl) fun hO4 => ?_
  clear hO4
  refine j_bipush F (v := nI 51) dL_law_547 (by decide) ?_
  refine j_icmpne F (tgt := 608) dL_law_549 (by decide) (fun qq => absurd rfl qq) (fun _ => ?_)
  refine j_aload_n F 1 rfl dL_law_552 rfl ?_
  refine j_iconst F (v := nI 1) dL_law_553 (by decide) ?_
  refine j_iconst F (v := nI 0) dL_law_554 (by decide) ?_
  have e4 := o_stripe s3 (i := 1) (by rw [(T0_n _ (dk_3 ⟨t, ht⟩)).1]; exact (show 1 < 2 by omega))
  rw [show (S3_2 t).1 0 1 = nI 4 from v3_4 ⟨t, ht⟩] at e4
  refine j_cls (ex := []) hO3 (run_V (F.fx Z.2.1 Z.2.2.1 ⟨by show cN + 17 ≤ 600086; omega, by show sN + 674 ≤ 7301442; omega⟩) cvL_81 (o := 0) (by decide) (c_X7_stripe (xG X) _ h3 (nI 1) (nI 0)) (As := [.int (nI 1), .int (nI 0)]) rfl rfl ⟨⟨rfl, rfl⟩, by decide, by decide⟩ (Nat.le_of_ble_eq_true rfl) dL_law_555) (e := e4) (hv := rfl) fun hO4 => ?_
  clear hO4
  refine j_iconst F (v := nI 4) dL_law_558 (by decide) ?_
  refine j_icmpne F (tgt := 608) dL_law_559 (by decide) (fun qq => absurd rfl qq) (fun _ => ?_)
  refine j_aload_n F 1 rfl dL_law_562 rfl ?_
  refine j_bipush F (v := nI 8) dL_law_563 (by decide) ?_
  have e5 := o_count (N := NN) (by decide) s3 sx00 (nI 8) (fun _ _ _ => cou8 _ _ _ _)
  rw [show couM (T0 (D3 t)) (S3_2 t) X00 (nI 8) = nI 53 from v3_5 ⟨t, ht⟩] at e5
  refine j_cls (ex := []) hO3 (run_V (F.fx Z.2.1 Z.2.2.1 ⟨by show cN + 17 ≤ 600086; omega, by show sN + 674 ≤ 7301442; omega⟩) cvL_90 (o := 0) (by decide) (c_X7_count (xG X) _ NN h3 (nI 8)) (As := [.int (nI 8)]) rfl rfl ⟨⟨rfl, rfl⟩, by decide, by decide⟩ (Nat.le_of_ble_eq_true rfl) dL_law_565) (e := e5) (hv := rfl) fun hO4 => ?_
  clear hO4
  refine j_bipush F (v := nI 53) dL_law_568 (by decide) ?_
  refine j_icmpne F (tgt := 608) dL_law_570 (by decide) (fun qq => absurd rfl qq) (fun _ => ?_)
  refine j_aload_n F 1 rfl dL_law_573 rfl ?_
  refine j_bipush F (v := nI 24) dL_law_574 (by decide) ?_
  obtain ⟨h4, e6, s4⟩ := o_go (N := NN) (by decide) s3 (nI 24)
  rw [show goA (T0 (D3 t)) (S3_2 t) (nI 24) = nI (t + 25) from v3_6 ⟨t, ht⟩] at e6
  have s4 : LQ h4 (D3 t) (S3_3 t) X00 := s4
  refine j_cls (ex := []) hO3 (run_V (F.fx Z.2.1 Z.2.2.1 ⟨by show cN + 17 ≤ 600086; omega, by show sN + 674 ≤ 7301442; omega⟩) cvL_78 (o := 0) (by decide) (c_X7_go (xG X) _ NN h3 (nI 24)) (As := [.int (nI 24)]) rfl rfl ⟨⟨rfl, rfl⟩, by decide, by decide⟩ (Nat.le_of_ble_eq_true rfl) dL_law_576) (e := e6) (hv := rfl) fun hO4 => ?_
  refine j_iload F 0 rfl dL_law_579 ?_
  refine j_bipush F (v := nI 25) dL_law_581 (by decide) ?_
  refine j_iadd F (z := nI (t + 25)) dL_law_583 (nI_add _ _) ?_
  refine j_icmpne F (tgt := 608) dL_law_584 (by decide) (fun qq => absurd rfl qq) (fun _ => ?_)
  refine j_aload_n F 1 rfl dL_law_587 rfl ?_
  refine j_iconst F (v := nI 0) dL_law_588 (by decide) ?_
  refine j_iconst F (v := nI 0) dL_law_589 (by decide) ?_
  have e7 := o_stripe s4 (i := 0) (by rw [(T0_n _ (dk_3 ⟨t, ht⟩)).1]; exact (show 0 < 2 by omega))
  rw [show (S3_3 t).1 0 0 = nI 26 from v3_7 ⟨t, ht⟩] at e7
  refine j_cls (ex := []) hO4 (run_V (F.fx Z.2.1 Z.2.2.1 ⟨by show cN + 17 ≤ 600086; omega, by show sN + 674 ≤ 7301442; omega⟩) cvL_81 (o := 0) (by decide) (c_X7_stripe (xG X) _ h4 (nI 0) (nI 0)) (As := [.int (nI 0), .int (nI 0)]) rfl rfl ⟨⟨rfl, rfl⟩, by decide, by decide⟩ (Nat.le_of_ble_eq_true rfl) dL_law_590) (e := e7) (hv := rfl) fun hO5 => ?_
  clear hO5
  refine j_bipush F (v := nI 26) dL_law_593 (by decide) ?_
  refine j_icmpne F (tgt := 608) dL_law_595 (by decide) (fun qq => absurd rfl qq) (fun _ => ?_)
  refine j_aload_n F 1 rfl dL_law_598 rfl ?_
  refine j_iconst F (v := nI 1) dL_law_599 (by decide) ?_
  refine j_iconst F (v := nI 0) dL_law_600 (by decide) ?_
  have e8 := o_stripe s4 (i := 1) (by rw [(T0_n _ (dk_3 ⟨t, ht⟩)).1]; exact (show 1 < 2 by omega))
  rw [show (S3_3 t).1 0 1 = nI 2 from v3_8 ⟨t, ht⟩] at e8
  refine j_cls (ex := []) hO4 (run_V (F.fx Z.2.1 Z.2.2.1 ⟨by show cN + 17 ≤ 600086; omega, by show sN + 674 ≤ 7301442; omega⟩) cvL_81 (o := 0) (by decide) (c_X7_stripe (xG X) _ h4 (nI 1) (nI 0)) (As := [.int (nI 1), .int (nI 0)]) rfl rfl ⟨⟨rfl, rfl⟩, by decide, by decide⟩ (Nat.le_of_ble_eq_true rfl) dL_law_601) (e := e8) (hv := rfl) fun hO5 => ?_
  clear hO5
  refine j_iconst F (v := nI 2) dL_law_604 (by decide) ?_
  refine j_icmpeq F (tgt := 610) dL_law_605 (by decide) (fun _ => ?_) (fun qq => absurd rfl qq)
  refine Wj_pick [1, 2] rfl ?_
  exact R h4 hO4 s4.aq
set_option maxRecDepth 100000 in
theorem seg_10 (Z : LC X dg K V b L xs) {h : Hp} (hO : okH h) (a : AQ h) (hc : cN + 17 ≤ 600086 ∧ sN + 674 ≤ 7301442) (R : ∀ g, okH g → AQ g → Wj X Q ([] ++ enc (xG X) g) (cN + 17) (sN + 674) 1388 [(1, .ref (adr (xG X) 7 0 0)), (0, .ref b)] []) : Wj X Q ([] ++ enc (xG X) h) cN sN 1320 [(1, .ref (adr (xG X) 7 0 0)), (0, .ref b)] [] := by
  have F := Z.1 0 (by decide)
  have hL := Z.2.2.2.1
  refine j_aload_n F 1 rfl dL_law_1320 rfl ?_
  refine j_iconst F (v := nI 5) dL_law_1321 (by decide) ?_
  refine l_cell Z (k := 5) (by omega) ⟨by show cN + 0 ≤ 600086; omega, by show sN + 0 ≤ 7301442; omega⟩ (Nat.le_of_ble_eq_true rfl) dL_law_1322 ?_
  refine j_bipush F (v := nI 101) dL_law_1325 (by decide) ?_
  refine l_in Z (by decide) ⟨by show cN + 0 ≤ 600086; omega, by show sN + 0 ≤ 7301442; omega⟩ (Nat.le_of_ble_eq_true rfl) dL_law_1327 ?_
  obtain ⟨t, ht, qt⟩ := inS_n (clS L xs 5) (m := 101) (by omega) (by omega)
  rw [qt]
  refine j_istore F [(11, .int (nI t)), (1, .ref (adr (xG X) 7 0 0)), (0, .ref b)] rfl dL_law_1330 (by rw [hL]; decide) ?_
  refine j_aload_n F 1 rfl dL_law_1332 rfl ?_
  refine j_new F (c := 9) nwL_39 (by decide) ⟨by show cN + 0 + 1 ≤ 600086; omega, by show sN + 0 + 4 ≤ 7301442; omega⟩ dL_law_1333 fun bq => ?_
  refine Wj_front (ex := []) ?_
  refine j_dup F rfl dL_law_1336 ?_
  refine b_init F jiL_41 ⟨by decide, by decide⟩ (Nat.le_of_ble_eq_true rfl) ⟨by show cN + 1 + 1 ≤ 600086; omega, by show sN + 4 + 16 ≤ 7301442; omega⟩ dL_law_1337 fun w0 B0 => ?_
  refine l_ldcS Z (i := 14) (by decide) rfl dL_law_1340 ?_
  obtain ⟨by1, by2, by3⟩ := sgc_by (fun q => (xS X).heap.size ≤ q) K V (i := 14) (by decide)
  refine b_S (Z.1 14 (by decide)) jvL_44 B0 by1 by2 (by show _ + (cst 14).length ≤ 70; have d1 := dgl3 t; simp only [List.length_append, List.length_nil, cl_14, cl_15]; omega) ⟨by decide, by decide⟩ (Nat.le_of_ble_eq_true rfl) ⟨by show cN + 2 + 1 ≤ 600086; omega, by show sN + 20 + 150 ≤ 7301442; omega⟩ dL_law_1342 fun w1 B1 => ?_
  have B1 : Bw (xG X) bq (([] : List Int32) ++ cst 14) w1 := B1
  refine j_iload F 0 rfl dL_law_1345 ?_
  refine b_I F jvL_48 (k := t) B1 (by omega) (by have d1 := dgl3 t; simp only [List.length_append, List.length_nil, cl_14, cl_15]; omega) ⟨by decide, by decide⟩ (Nat.le_of_ble_eq_true rfl) ⟨by show cN + 3 + 1 ≤ 600086; omega, by show sN + 170 + 150 ≤ 7301442; omega⟩ dL_law_1347 fun w2 B2 => ?_
  have B2 : Bw (xG X) bq ((([] : List Int32) ++ cst 14) ++ dgL t) w2 := B2
  refine l_ldcS Z (i := 15) (by decide) rfl dL_law_1350 ?_
  obtain ⟨by1, by2, by3⟩ := sgc_by (fun q => (xS X).heap.size ≤ q) K V (i := 15) (by decide)
  refine b_S (Z.1 15 (by decide)) jvL_44 B2 by1 by2 (by show _ + (cst 15).length ≤ 70; have d1 := dgl3 t; simp only [List.length_append, List.length_nil, cl_14, cl_15]; omega) ⟨by decide, by decide⟩ (Nat.le_of_ble_eq_true rfl) ⟨by show cN + 4 + 1 ≤ 600086; omega, by show sN + 320 + 150 ≤ 7301442; omega⟩ dL_law_1352 fun w3 B3 => ?_
  have B3 : Bw (xG X) bq (((([] : List Int32) ++ cst 14) ++ dgL t) ++ cst 15) w3 := B3
  refine b_ts F jvL_59 B3 ⟨by decide, by decide⟩ (Nat.le_of_ble_eq_true rfl) ⟨by show cN + 5 + 2 ≤ 600086; omega, by show sN + 470 + 154 ≤ 7301442; omega⟩ dL_law_1355 fun sq uq fq hfq => ?_
  obtain ⟨tl, tb⟩ := (txB 14 15 (by decide) (by decide) (by decide) t (by omega))
  refine l_textM F jsL_63 (D := D10 t) Z.2.1 Z.2.2.1 hO a hfq (fun j hj => ⟨_, (tb _ (gd_mem hj 0)).2, (tb _ (gd_mem hj 0)).1⟩) (Nat.le_trans tl (by omega)) (dp_10 ⟨t, ht⟩) (dk_10 ⟨t, ht⟩) ⟨by decide, by decide⟩ (Nat.le_of_ble_eq_true rfl) ⟨by show cN + 7 + 10 ≤ 600086; omega, by show sN + 624 + 50 ≤ 7301442; omega⟩ dL_law_1358 fun h1 hO1 s1 => ?_
  refine Wj_nil ?_
  refine j_iconst F (v := nI 3) dL_law_1361 (by decide) ?_
  refine j_icmpne F (tgt := 1386) dL_law_1362 (by decide) (fun qq => absurd rfl qq) (fun _ => ?_)
  refine j_aload_n F 1 rfl dL_law_1365 rfl ?_
  refine j_iconst F (v := nI 1) dL_law_1366 (by decide) ?_
  refine j_iconst F (v := nI 0) dL_law_1367 (by decide) ?_
  have e0 := o_odds (N := NN) (by decide) s1 (nI 1) (nI 0)
  refine j_cls (ex := []) hO1 (run_V (F.fx Z.2.1 Z.2.2.1 ⟨by show cN + 17 ≤ 600086; omega, by show sN + 674 ≤ 7301442; omega⟩) cvL_163 (o := 0) (by decide) (c_X7_odds (xG X) _ NN h1 (nI 1) (nI 0)) (As := [.int (nI 1), .int (nI 0)]) rfl rfl ⟨⟨rfl, rfl⟩, by decide, by decide⟩ (Nat.le_of_ble_eq_true rfl) dL_law_1368) (e := e0) (hv := rfl) fun hO2 => ?_
  clear hO2
  refine j_bipush F (v := nI 100) dL_law_1371 (by decide) ?_
  refine j_imul F (z := nI t * oddM (T0 (D10 t)) (nI 1) (nI 1)) dL_law_1373 (v10 ⟨t, ht⟩) ?_
  refine j_iload F 0 rfl dL_law_1374 ?_
  refine j_aload_n F 1 rfl dL_law_1376 rfl ?_
  refine j_iconst F (v := nI 1) dL_law_1377 (by decide) ?_
  refine j_iconst F (v := nI 1) dL_law_1378 (by decide) ?_
  have e1 := o_odds (N := NN) (by decide) s1 (nI 1) (nI 1)
  refine j_cls (ex := []) hO1 (run_V (F.fx Z.2.1 Z.2.2.1 ⟨by show cN + 17 ≤ 600086; omega, by show sN + 674 ≤ 7301442; omega⟩) cvL_163 (o := 0) (by decide) (c_X7_odds (xG X) _ NN h1 (nI 1) (nI 1)) (As := [.int (nI 1), .int (nI 1)]) rfl rfl ⟨⟨rfl, rfl⟩, by decide, by decide⟩ (Nat.le_of_ble_eq_true rfl) dL_law_1379) (e := e1) (hv := rfl) fun hO2 => ?_
  clear hO2
  refine j_imul F (z := nI t * oddM (T0 (D10 t)) (nI 1) (nI 1)) dL_law_1382 rfl ?_
  refine j_icmpeq F (tgt := 1388) dL_law_1383 (by decide) (fun _ => ?_) (fun qq => absurd rfl qq)
  refine Wj_pick [1, 2] rfl ?_
  exact R h1 hO1 s1.aq
set_option maxRecDepth 100000 in
theorem seg_13 (Z : LC X dg K V b L xs) {h : Hp} (hO : okH h) (a : AQ h) (hc : cN + 10 ≤ 600086 ∧ sN + 50 ≤ 7301442) (R : ∀ g lv, okH g → AQ g → Wj X Q ([] ++ enc (xG X) g) (cN + 10) (sN + 50) 1691 lv [.int (nI 1)]) : Wj X Q ([] ++ enc (xG X) h) cN sN 1516 [(1, .ref (adr (xG X) 7 0 0)), (0, .ref b)] [] := by
  have F := Z.1 0 (by decide)
  have hL := Z.2.2.2.1
  refine j_aload_n F 1 rfl dL_law_1516 rfl ?_
  refine j_bipush F (v := nI 6) dL_law_1517 (by decide) ?_
  refine l_cell Z (k := 6) (by omega) ⟨by show cN + 0 ≤ 600086; omega, by show sN + 0 ≤ 7301442; omega⟩ (Nat.le_of_ble_eq_true rfl) dL_law_1519 ?_
  refine j_bipush F (v := nI 12) dL_law_1522 (by decide) ?_
  refine l_in Z (by decide) ⟨by show cN + 0 ≤ 600086; omega, by show sN + 0 ≤ 7301442; omega⟩ (Nat.le_of_ble_eq_true rfl) dL_law_1524 ?_
  obtain ⟨c, hc9, qc⟩ := inS_n (clS L xs 6) (m := 12) (by omega) (by omega)
  rw [qc]
  refine j_istore F [(12, .int (nI c)), (1, .ref (adr (xG X) 7 0 0)), (0, .ref b)] rfl dL_law_1527 (by rw [hL]; decide) ?_
  refine j_aload_n F 1 rfl dL_law_1529 rfl ?_
  refine l_ldcS Z (i := 18) (by decide) rfl dL_law_1530 ?_
  obtain ⟨by1, by2, by3⟩ := sgc_by (fun q => (xS X).heap.size ≤ q) K V (i := 18) (by decide)
  refine l_text (ex := []) (D := D13) (Z.1 18 (by decide)) jsL_63 Z.2.1 hO a by1 by2 by3 dp_13 dk_13 ⟨by decide, by decide⟩ (Nat.le_of_ble_eq_true rfl) ⟨by show cN + 0 + 10 ≤ 600086; omega, by show sN + 0 + 50 ≤ 7301442; omega⟩ dL_law_1532 fun h1 hO1 s1 => ?_
  have s1 : LQ h1 D13 S13_0 X00 := s1
  refine j_iconst F (v := nI 3) dL_law_1535 (by decide) ?_
  refine j_icmpne F (tgt := 1606) dL_law_1536 (by decide) (fun qq => absurd rfl qq) (fun _ => ?_)
  refine j_aload_n F 1 rfl dL_law_1539 rfl ?_
  refine j_iconst F (v := nI 0) dL_law_1540 (by decide) ?_
  obtain ⟨h2, e0, s2⟩ := o_came (N := NN) (by decide) s1 (tok_of _ dk_13) sx00 (nI 0)
  rw [show camM (T0 D13) X00 (nI 0) = nI 16777215 from w13_0] at e0
  refine j_cls (ex := []) hO1 (run_V (F.fx Z.2.1 Z.2.2.1 ⟨by show cN + 10 ≤ 600086; omega, by show sN + 50 ≤ 7301442; omega⟩) cvL_172 (o := 0) (by decide) (c_X7_came (xG X) _ NN h1 (nI 0)) (As := [.int (nI 0)]) rfl rfl ⟨⟨rfl, rfl⟩, by decide, by decide⟩ (Nat.le_of_ble_eq_true rfl) dL_law_1541) (e := e0) (hv := rfl) fun hO2 => ?_
  refine j_ldc F jwL_175 dL_law_1544 ?_
  refine j_icmpne F (tgt := 1606) dL_law_1546 (by decide) (fun qq => absurd rfl qq) (fun _ => ?_)
  refine j_aload_n F 1 rfl dL_law_1549 rfl ?_
  refine j_iload F 0 rfl dL_law_1550 ?_
  refine j_iconst F (v := nI 2) dL_law_1552 (by decide) ?_
  refine j_iadd F (z := nI (c + 2)) dL_law_1553 (nI_add _ _) ?_
  refine j_bipush F (v := nI 16) dL_law_1554 (by decide) ?_
  refine j_iconst F (v := nI 1) dL_law_1556 (by decide) ?_
  obtain ⟨h3, e1, s3⟩ := o_see s2 sx00 (nI (c + 2)) (nI 16) true (w13_q ⟨c, hc9⟩).1
  rw [show szN X00 = 0 from rfl] at e1
  have s3 : LQ h3 D13 S13_0 (X13_1 c) := s3
  refine j_cls (ex := []) hO2 (run_V (F.fx Z.2.1 Z.2.2.1 ⟨by show cN + 10 ≤ 600086; omega, by show sN + 50 ≤ 7301442; omega⟩) cvL_176 (o := 0) (by decide) (c_X7_see (xG X) _ h2 (nI (c + 2)) (nI 16) true) (As := [.int (nI (c + 2)), .int (nI 16), .int (nI 1)]) rfl rfl ⟨⟨rfl, rfl⟩, by decide, by decide⟩ (Nat.le_of_ble_eq_true rfl) dL_law_1557) (e := e1) (hv := rfl) fun hO3 => ?_
  refine j_ifne F (tgt := 1606) dL_law_1560 (by decide) (fun qq => absurd rfl qq) (fun _ => ?_)
  refine j_aload_n F 1 rfl dL_law_1563 rfl ?_
  refine j_iconst F (v := nI 0) dL_law_1564 (by decide) ?_
  obtain ⟨h4, e2, s4⟩ := o_came (N := NN) (by decide) s3 (tok_of _ dk_13) (sx13_1 c hc9) (nI 0)
  rw [show camM (T0 D13) (X13_1 c) (nI 0) = (nI 1 <<< (nI (c + 1) &&& 31)) - nI 1 from w13_1 ⟨c, hc9⟩] at e2
  refine j_cls (ex := []) hO3 (run_V (F.fx Z.2.1 Z.2.2.1 ⟨by show cN + 10 ≤ 600086; omega, by show sN + 50 ≤ 7301442; omega⟩) cvL_172 (o := 0) (by decide) (c_X7_came (xG X) _ NN h3 (nI 0)) (As := [.int (nI 0)]) rfl rfl ⟨⟨rfl, rfl⟩, by decide, by decide⟩ (Nat.le_of_ble_eq_true rfl) dL_law_1565) (e := e2) (hv := rfl) fun hO4 => ?_
  refine j_iconst F (v := nI 1) dL_law_1568 (by decide) ?_
  refine j_iload F 0 rfl dL_law_1569 ?_
  refine j_iconst F (v := nI 1) dL_law_1571 (by decide) ?_
  refine j_iadd F (z := nI (c + 1)) dL_law_1572 (nI_add _ _) ?_
  refine j_ishl F (z := nI 1 <<< (nI (c + 1) &&& 31)) dL_law_1573 rfl ?_
  refine j_iconst F (v := nI 1) dL_law_1574 (by decide) ?_
  refine j_isub F (z := (nI 1 <<< (nI (c + 1) &&& 31)) - nI 1) dL_law_1575 rfl ?_
  refine j_icmpne F (tgt := 1606) dL_law_1576 (by decide) (fun qq => absurd rfl qq) (fun _ => ?_)
  refine j_aload_n F 1 rfl dL_law_1579 rfl ?_
  refine j_iload F 0 rfl dL_law_1580 ?_
  refine j_iconst F (v := nI 1) dL_law_1582 (by decide) ?_
  refine j_iadd F (z := nI (c + 1)) dL_law_1583 (nI_add _ _) ?_
  refine j_bipush F (v := nI 16) dL_law_1584 (by decide) ?_
  refine j_iconst F (v := nI 0) dL_law_1586 (by decide) ?_
  obtain ⟨h5, e3, s5⟩ := o_see s4 (sx13_1 c hc9) (nI (c + 1)) (nI 16) false (w13_q ⟨c, hc9⟩).2.1
  rw [show szN (X13_1 c) = 1 from (sz13 c).1] at e3
  have s5 : LQ h5 D13 S13_0 (X13_2 c) := s5
  refine j_cls (ex := []) hO4 (run_V (F.fx Z.2.1 Z.2.2.1 ⟨by show cN + 10 ≤ 600086; omega, by show sN + 50 ≤ 7301442; omega⟩) cvL_176 (o := 0) (by decide) (c_X7_see (xG X) _ h4 (nI (c + 1)) (nI 16) false) (As := [.int (nI (c + 1)), .int (nI 16), .int (nI 0)]) rfl rfl ⟨⟨rfl, rfl⟩, by decide, by decide⟩ (Nat.le_of_ble_eq_true rfl) dL_law_1587) (e := e3) (hv := rfl) fun hO5 => ?_
  refine j_iconst F (v := nI 1) dL_law_1590 (by decide) ?_
  refine j_icmpne F (tgt := 1606) dL_law_1591 (by decide) (fun qq => absurd rfl qq) (fun _ => ?_)
  refine j_aload_n F 1 rfl dL_law_1594 rfl ?_
  refine j_iconst F (v := nI 0) dL_law_1595 (by decide) ?_
  obtain ⟨h6, e4, s6⟩ := o_came (N := NN) (by decide) s5 (tok_of _ dk_13) (sx13_2 c hc9) (nI 0)
  rw [show camM (T0 D13) (X13_2 c) (nI 0) = nI 1 <<< (nI c &&& 31) from w13_2 ⟨c, hc9⟩] at e4
  refine j_cls (ex := []) hO5 (run_V (F.fx Z.2.1 Z.2.2.1 ⟨by show cN + 10 ≤ 600086; omega, by show sN + 50 ≤ 7301442; omega⟩) cvL_172 (o := 0) (by decide) (c_X7_came (xG X) _ NN h5 (nI 0)) (As := [.int (nI 0)]) rfl rfl ⟨⟨rfl, rfl⟩, by decide, by decide⟩ (Nat.le_of_ble_eq_true rfl) dL_law_1596) (e := e4) (hv := rfl) fun hO6 => ?_
  refine j_iconst F (v := nI 1) dL_law_1599 (by decide) ?_
  refine j_iload F 0 rfl dL_law_1600 ?_
  refine j_ishl F (z := nI 1 <<< (nI c &&& 31)) dL_law_1602 rfl ?_
  refine j_icmpeq F (tgt := 1608) dL_law_1603 (by decide) (fun _ => ?_) (fun qq => absurd rfl qq)
  refine j_aload_n F 1 rfl dL_law_1608 rfl ?_
  refine j_iconst F (v := nI 0) dL_law_1609 (by decide) ?_
  obtain ⟨h7, e5, s7⟩ := o_strike s6 (sx13_2 c hc9) (nI 0) (w13_q ⟨c, hc9⟩).2.2.1
  rw [(sz13 c).2.1] at e5
  have s7 : LQ h7 D13 S13_0 (X13_3 c) := s7
  refine j_cls (ex := []) hO6 (run_V (F.fx Z.2.1 Z.2.2.1 ⟨by show cN + 10 ≤ 600086; omega, by show sN + 50 ≤ 7301442; omega⟩) cvL_180 (o := 0) (by decide) (c_X7_strike (xG X) _ h6 (nI 0)) (As := [.int (nI 0)]) rfl rfl ⟨⟨rfl, rfl⟩, by decide, by decide⟩ (Nat.le_of_ble_eq_true rfl) dL_law_1610) (e := e5) (hv := rfl) fun hO7 => ?_
  refine j_iconst F (v := nI 2) dL_law_1613 (by decide) ?_
  refine j_icmpne F (tgt := 1690) dL_law_1614 (by decide) (fun qq => absurd rfl qq) (fun _ => ?_)
  refine j_aload_n F 1 rfl dL_law_1617 rfl ?_
  refine j_iconst F (v := nI 0) dL_law_1618 (by decide) ?_
  obtain ⟨h8, e6, s8⟩ := o_came (N := NN) (by decide) s7 (tok_of _ dk_13) (sx13_3 c hc9) (nI 0)
  rw [show camM (T0 D13) (X13_3 c) (nI 0) = 16777215 &&& -(nI 1 <<< (nI c &&& 31)) from w13_3 ⟨c, hc9⟩] at e6
  refine j_cls (ex := []) hO7 (run_V (F.fx Z.2.1 Z.2.2.1 ⟨by show cN + 10 ≤ 600086; omega, by show sN + 50 ≤ 7301442; omega⟩) cvL_172 (o := 0) (by decide) (c_X7_came (xG X) _ NN h7 (nI 0)) (As := [.int (nI 0)]) rfl rfl ⟨⟨rfl, rfl⟩, by decide, by decide⟩ (Nat.le_of_ble_eq_true rfl) dL_law_1619) (e := e6) (hv := rfl) fun hO8 => ?_
  refine j_ldc F jwL_175 dL_law_1622 ?_
  refine j_iconst F (v := nI 1) dL_law_1624 (by decide) ?_
  refine j_iload F 0 rfl dL_law_1625 ?_
  refine j_ishl F (z := nI 1 <<< (nI c &&& 31)) dL_law_1627 rfl ?_
  refine j_ineg F (z := -(nI 1 <<< (nI c &&& 31))) dL_law_1628 rfl ?_
  refine j_iand F (z := 16777215 &&& -(nI 1 <<< (nI c &&& 31))) dL_law_1629 rfl ?_
  refine j_icmpne F (tgt := 1690) dL_law_1630 (by decide) (fun qq => absurd rfl qq) (fun _ => ?_)
  refine j_aload_n F 1 rfl dL_law_1633 rfl ?_
  refine j_iconst F (v := nI 0) dL_law_1634 (by decide) ?_
  obtain ⟨h9, e7, s9⟩ := o_known s8 (nI 0) (w13_q ⟨c, hc9⟩).2.2.2
  have s9 : LQ h9 D13 S13_0 (X13_4 c) := s9
  refine j_cls (ex := []) hO8 (run_V (F.fx Z.2.1 Z.2.2.1 ⟨by show cN + 10 ≤ 600086; omega, by show sN + 50 ≤ 7301442; omega⟩) cvL_183 (o := 0) (by decide) (c_X7_known (xG X) _ h8 (nI 0)) (As := [.int (nI 0)]) rfl rfl ⟨⟨rfl, rfl⟩, by decide, by decide⟩ (Nat.le_of_ble_eq_true rfl) dL_law_1635) (e := e7) (hv := rfl) fun hO9 => ?_
  refine j_ifeq F (tgt := 1690) dL_law_1638 (by decide) (fun qq => absurd qq (show ¬ b2i true = 0 by decide)) (fun _ => ?_)
  refine j_aload_n F 1 rfl dL_law_1641 rfl ?_
  refine j_iconst F (v := nI 0) dL_law_1642 (by decide) ?_
  obtain ⟨h10, e8, s10⟩ := o_came (N := NN) (by decide) s9 (tok_of _ dk_13) (sx13_4 c hc9) (nI 0)
  rw [show camM (T0 D13) (X13_4 c) (nI 0) = nI 16777215 from w13_4 ⟨c, hc9⟩] at e8
  refine j_cls (ex := []) hO9 (run_V (F.fx Z.2.1 Z.2.2.1 ⟨by show cN + 10 ≤ 600086; omega, by show sN + 50 ≤ 7301442; omega⟩) cvL_172 (o := 0) (by decide) (c_X7_came (xG X) _ NN h9 (nI 0)) (As := [.int (nI 0)]) rfl rfl ⟨⟨rfl, rfl⟩, by decide, by decide⟩ (Nat.le_of_ble_eq_true rfl) dL_law_1643) (e := e8) (hv := rfl) fun hO10 => ?_
  refine j_ldc F jwL_175 dL_law_1646 ?_
  refine j_icmpne F (tgt := 1690) dL_law_1648 (by decide) (fun qq => absurd rfl qq) (fun _ => ?_)
  refine j_aload_n F 1 rfl dL_law_1651 rfl ?_
  refine j_iconst F (v := nI 0) dL_law_1652 (by decide) ?_
  refine j_iconst F (v := nI 0) dL_law_1653 (by decide) ?_
  refine j_bipush F (v := nI 60) dL_law_1654 (by decide) ?_
  obtain ⟨h11, e9, s11⟩ := o_tried (N := NN) (by decide) s10 h13 (nI 0) (nI 0) (nI 60)
  rw [w13_5] at e9
  refine j_cls (ex := []) hO10 (run_V (F.fx Z.2.1 Z.2.2.1 ⟨by show cN + 10 ≤ 600086; omega, by show sN + 50 ≤ 7301442; omega⟩) cvL_131 (o := 0) (by decide) (c_X7_tried (xG X) _ NN h10 (nI 0) (nI 0) (nI 60)) (As := [.int (nI 0), .int (nI 0), .int (nI 60)]) rfl rfl ⟨⟨rfl, rfl⟩, by decide, by decide⟩ (Nat.le_of_ble_eq_true rfl) dL_law_1656) (e := e9) (hv := rfl) fun hO11 => ?_
  refine j_ifne F (tgt := 1690) dL_law_1659 (by decide) (fun qq => absurd rfl qq) (fun _ => ?_)
  refine j_aload_n F 1 rfl dL_law_1662 rfl ?_
  refine j_iconst F (v := nI 2) dL_law_1663 (by decide) ?_
  refine j_bipush F (v := nI 51) dL_law_1664 (by decide) ?_
  refine j_iconst F (v := nI 2) dL_law_1666 (by decide) ?_
  obtain ⟨h12, e10, s12⟩ := o_table (N := NN) (by decide) s11 h13 (nI 2) (nI 51) (nI 2)
  rw [if_pos (by decide), w13_6] at e10
  refine j_cls (ex := []) hO11 (run_V (F.fx Z.2.1 Z.2.2.1 ⟨by show cN + 10 ≤ 600086; omega, by show sN + 50 ≤ 7301442; omega⟩) cvL_74 (o := 0) (by decide) (c_X7_table (xG X) _ NN h11 (nI 2) (nI 51) (nI 2)) (As := [.int (nI 2), .int (nI 51), .int (nI 2)]) rfl rfl ⟨⟨rfl, rfl⟩, by decide, by decide⟩ (Nat.le_of_ble_eq_true rfl) dL_law_1667) (e := e10) (hv := rfl) fun hO12 => ?_
  refine j_bipush F (v := nI 8) dL_law_1670 (by decide) ?_
  refine j_icmpne F (tgt := 1690) dL_law_1672 (by decide) (fun qq => absurd rfl qq) (fun _ => ?_)
  refine j_aload_n F 1 rfl dL_law_1675 rfl ?_
  refine j_iconst F (v := nI 5) dL_law_1676 (by decide) ?_
  refine j_iconst F (v := nI 5) dL_law_1677 (by decide) ?_
  refine j_iconst F (v := nI 0) dL_law_1678 (by decide) ?_
  refine j_iconst F (v := nI 1) dL_law_1679 (by decide) ?_
  obtain ⟨h13, e11, s13⟩ := o_chance (N := NN) (by decide) s12 h13 (nI 5) (nI 5) (nI 0) (nI 1)
  rw [w13_7] at e11
  refine j_cls (ex := []) hO12 (run_V (F.fx Z.2.1 Z.2.2.1 ⟨by show cN + 10 ≤ 600086; omega, by show sN + 50 ≤ 7301442; omega⟩) cvL_186 (o := 0) (by decide) (c_X7_chance (xG X) _ NN h12 (nI 5) (nI 5) (nI 0) (nI 1)) (As := [.int (nI 5), .int (nI 5), .int (nI 0), .int (nI 1)]) rfl rfl ⟨⟨rfl, rfl⟩, by decide, by decide⟩ (Nat.le_of_ble_eq_true rfl) dL_law_1680) (e := e11) (hv := rfl) fun hO13 => ?_
  refine j_ifne F (tgt := 1690) dL_law_1683 (by decide) (fun qq => absurd rfl qq) (fun _ => ?_)
  refine j_iconst F (v := nI 1) dL_law_1686 (by decide) ?_
  refine j_goto F (tgt := 1691) dL_law_1687 (by decide) ?_
  exact R h13 _ hO13 s13.aq
end LRest
