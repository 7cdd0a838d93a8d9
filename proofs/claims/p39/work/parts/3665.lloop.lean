-- the law's walk: the first text's loop
theorem cou10 (T : Txt) (S : Str) (X X2 : Xs) : couM T S X (nI 10) = couM T S X2 (nI 10) := by
  unfold couM
  simp only [if_neg (show ¬ nI 10 = (0 : Int32) by decide), if_neg (show ¬ nI 10 = (1 : Int32) by decide), if_neg (show ¬ nI 10 = (2 : Int32) by decide), if_neg (show ¬ nI 10 = (3 : Int32) by decide), if_neg (show ¬ nI 10 = (4 : Int32) by decide), if_neg (show ¬ nI 10 = (5 : Int32) by decide), if_neg (show ¬ nI 10 = (6 : Int32) by decide), if_neg (show ¬ nI 10 = (7 : Int32) by decide), if_neg (show ¬ nI 10 = (8 : Int32) by decide), if_neg (show ¬ nI 10 = (9 : Int32) by decide), if_pos (show nI 10 = (10 : Int32) by decide)]
theorem cou8 (T : Txt) (S : Str) (X X2 : Xs) : couM T S X (nI 8) = couM T S X2 (nI 8) := by
  unfold couM
  simp only [if_neg (show ¬ nI 8 = (0 : Int32) by decide), if_neg (show ¬ nI 8 = (1 : Int32) by decide), if_neg (show ¬ nI 8 = (2 : Int32) by decide), if_neg (show ¬ nI 8 = (3 : Int32) by decide), if_neg (show ¬ nI 8 = (4 : Int32) by decide), if_neg (show ¬ nI 8 = (5 : Int32) by decide), if_neg (show ¬ nI 8 = (6 : Int32) by decide), if_neg (show ¬ nI 8 = (7 : Int32) by decide), if_pos (show nI 8 = (8 : Int32) by decide)]
section LFirst2
variable {X : Cx} {Q : State → Prop} {dg : Nat × Nat} {K V : Nat → Nat} {b L : Nat} {xs : Nat → Int32} {cN sN : Nat}
set_option maxRecDepth 100000 in
theorem half_1 (Z : LC X dg K V b L xs) (hc : cN ≤ 600086 ∧ sN ≤ 7301442) {C H W L9 k l g w : Nat} (hC : C < 6) (hH : H < 10) (hW : W < 100) (hL9 : L9 < 300) (hk : k < 8) (hlg : l + g = L9) (hw : w ≤ 2475 * k) (hn : nCart C H l ≤ l) {h : Hp} (R : h = h → Wj X Q ([] ++ enc (xG X) h) cN sN 185 [(6, .int (nI (l - nCart C H l))), (7, .int (nI (g + nCart C H l))), (8, .int (nI (w + nCart C H l * (W - g)))), (10, .int (nI (nCart C H l))), (9, .int (nI (k + 1))), (2, .int (nI C)), (3, .int (nI H)), (4, .int (nI W)), (5, .int (nI L9)), (1, .ref (adr (xG X) 7 0 0)), (0, .ref b)] []) : Wj X Q ([] ++ enc (xG X) h) cN sN 131 [(9, .int (nI (k + 1))), (8, .int (nI w)), (7, .int (nI g)), (6, .int (nI l)), (2, .int (nI C)), (3, .int (nI H)), (4, .int (nI W)), (5, .int (nI L9)), (1, .ref (adr (xG X) 7 0 0)), (0, .ref b)] [] := by
  have F := Z.1 0 (by decide)
  have hL := Z.2.2.2.1
  have h0 : h = h := rfl
  refine j_iload F 0 rfl dL_law_131 ?_
  refine j_bipush F (v := nI 9) dL_law_133 (by decide) ?_
  refine j_icmpge F (tgt := 286) dL_law_135 (by decide) (fun qq => absurd qq (nleN (by omega) (by omega))) (fun _ => ?_)
  refine j_iload F 3 rfl dL_law_138 ?_
  refine j_iconst F (v := nI 0) dL_law_140 (by decide) ?_
  refine j_iconst F (v := nI 5) dL_law_141 (by decide) ?_
  refine j_iload_n F 4 rfl dL_law_142 rfl ?_
  refine j_imul F (z := nI (5 * C)) dL_law_143 (nI_mulN 5 C) ?_
  refine j_iload_n F 5 rfl dL_law_144 rfl ?_
  refine j_isub F (z := nI (5 * C) - nI H) dL_law_145 rfl ?_
  refine j_max F jwL_66 ws_max (z := nI (5 * C - H)) (mx_C ⟨C, hC⟩ ⟨H, hH⟩) ⟨by decide, Nat.le_of_ble_eq_true rfl⟩ ⟨by show cN ≤ 600086; omega, by show sN ≤ 7301442; omega⟩ dL_law_146 ?_
  refine j_min F jwL_71 ws_min (z := nI (nCart C H l)) (mn_1 (by omega) hC) ⟨by decide, Nat.le_of_ble_eq_true rfl⟩ ⟨by show cN ≤ 600086; omega, by show sN ≤ 7301442; omega⟩ dL_law_149 ?_
  refine j_istore F [(10, .int (nI (nCart C H l))), (9, .int (nI (k + 1))), (8, .int (nI w)), (7, .int (nI g)), (6, .int (nI l)), (2, .int (nI C)), (3, .int (nI H)), (4, .int (nI W)), (5, .int (nI L9)), (1, .ref (adr (xG X) 7 0 0)), (0, .ref b)] rfl dL_law_152 (by rw [hL]; decide) ?_
  refine j_iload F 2 rfl dL_law_154 ?_
  refine j_iload F 0 rfl dL_law_156 ?_
  refine j_iconst F (v := nI 0) dL_law_158 (by decide) ?_
  refine j_iload F 7 rfl dL_law_159 ?_
  refine j_iload F 3 rfl dL_law_161 ?_
  refine j_isub F (z := nI W - nI g) dL_law_163 rfl ?_
  refine j_max F jwL_66 ws_max (z := nI (W - g)) (mx_W ⟨W, hW⟩ ⟨g, by omega⟩) ⟨by decide, Nat.le_of_ble_eq_true rfl⟩ ⟨by show cN ≤ 600086; omega, by show sN ≤ 7301442; omega⟩ dL_law_164 ?_
  refine j_imul F (z := nI (nCart C H l * (W - g))) dL_law_167 (nI_mulN _ _) ?_
  refine j_iadd F (z := nI (w + nCart C H l * (W - g))) dL_law_168 (nI_add _ _) ?_
  refine j_istore F [(8, .int (nI (w + nCart C H l * (W - g)))), (10, .int (nI (nCart C H l))), (9, .int (nI (k + 1))), (7, .int (nI g)), (6, .int (nI l)), (2, .int (nI C)), (3, .int (nI H)), (4, .int (nI W)), (5, .int (nI L9)), (1, .ref (adr (xG X) 7 0 0)), (0, .ref b)] rfl dL_law_169 (by rw [hL]; decide) ?_
  refine j_iload F 3 rfl dL_law_171 ?_
  refine j_iload F 1 rfl dL_law_173 ?_
  refine j_iadd F (z := nI (g + nCart C H l)) dL_law_175 (nI_add _ _) ?_
  refine j_istore F [(7, .int (nI (g + nCart C H l))), (8, .int (nI (w + nCart C H l * (W - g)))), (10, .int (nI (nCart C H l))), (9, .int (nI (k + 1))), (6, .int (nI l)), (2, .int (nI C)), (3, .int (nI H)), (4, .int (nI W)), (5, .int (nI L9)), (1, .ref (adr (xG X) 7 0 0)), (0, .ref b)] rfl dL_law_176 (by rw [hL]; decide) ?_
  refine j_iload F 4 rfl dL_law_178 ?_
  refine j_iload F 2 rfl dL_law_180 ?_
  refine j_isub F (z := nI (l - nCart C H l)) dL_law_182 (nI_sub hn) ?_
  refine j_istore F [(6, .int (nI (l - nCart C H l))), (7, .int (nI (g + nCart C H l))), (8, .int (nI (w + nCart C H l * (W - g)))), (10, .int (nI (nCart C H l))), (9, .int (nI (k + 1))), (2, .int (nI C)), (3, .int (nI H)), (4, .int (nI W)), (5, .int (nI L9)), (1, .ref (adr (xG X) 7 0 0)), (0, .ref b)] rfl dL_law_183 (by rw [hL]; decide) ?_
  exact R h0
set_option maxRecDepth 100000 in
theorem half_2 (Z : LC X dg K V b L xs) (hc : cN ≤ 600086 ∧ sN ≤ 7301442) {C H W L9 k l g w : Nat} (hC : C < 6) (hH : H < 10) (hW : W < 100) (hL9 : L9 < 300) (hk : k < 8) (hlg : l + g = L9) (hw : w ≤ 2475 * k) (hn : nCart C H l ≤ l) {h : Hp} (hO : okH h) (s0 : LQ h (D1 L9 C H W) (E1 C H l g w k) X00) (R : ∀ h4, okH h4 → LQ h4 (D1 L9 C H W) (E1 C H (l - nCart C H l) (g + nCart C H l) (w + nCart C H l * (W - g)) (k + 1)) X00 → Wj X Q ([] ++ enc (xG X) h4) cN sN 131 [(9, .int (nI (k + 1 + 1))), (8, .int (nI (w + nCart C H l * (W - g)))), (7, .int (nI (g + nCart C H l))), (6, .int (nI (l - nCart C H l))), (2, .int (nI C)), (3, .int (nI H)), (4, .int (nI W)), (5, .int (nI L9)), (1, .ref (adr (xG X) 7 0 0)), (0, .ref b)] []) : Wj X Q ([] ++ enc (xG X) h) cN sN 185 [(6, .int (nI (l - nCart C H l))), (7, .int (nI (g + nCart C H l))), (8, .int (nI (w + nCart C H l * (W - g)))), (10, .int (nI (nCart C H l))), (9, .int (nI (k + 1))), (2, .int (nI C)), (3, .int (nI H)), (4, .int (nI W)), (5, .int (nI L9)), (1, .ref (adr (xG X) 7 0 0)), (0, .ref b)] [] := by
  have F := Z.1 0 (by decide)
  have hL := Z.2.2.2.1
  refine j_aload_n F 9 rfl dL_law_185 rfl ?_
  refine j_iconst F (v := nI 0) dL_law_186 (by decide) ?_
  refine j_iconst F (v := nI 1) dL_law_187 (by decide) ?_
  refine j_iconst F (v := nI 0) dL_law_188 (by decide) ?_
  obtain ⟨h1, e0, s1⟩ := o_table (N := NN) (by decide) s0 rfl (nI 0) (nI 1) (nI 0)
  rw [if_pos (by decide), tab_1 hL9 hC hH hW (by omega) (by omega) (by omega) (by omega)] at e0
  refine j_cls (ex := []) hO (run_V (F.fx Z.2.1 Z.2.2.1 ⟨by show cN + 0 ≤ 600086; omega, by show sN + 0 ≤ 7301442; omega⟩) cvL_74 (o := 0) (by decide) (c_X7_table (xG X) _ NN h (nI 0) (nI 1) (nI 0)) (As := [.int (nI 0), .int (nI 1), .int (nI 0)]) rfl rfl ⟨⟨rfl, rfl⟩, by decide, by decide⟩ (Nat.le_of_ble_eq_true rfl) dL_law_189) (e := e0) (hv := rfl) fun hO1 => ?_
  refine j_iload F 3 rfl dL_law_192 ?_
  refine j_icmpne F (tgt := 278) dL_law_194 (by decide) (fun qq => absurd rfl qq) (fun _ => ?_)
  refine j_aload_n F 9 rfl dL_law_197 rfl ?_
  refine j_iconst F (v := nI 1) dL_law_198 (by decide) ?_
  obtain ⟨h2, e1, s2⟩ := o_go (N := NN) (by decide) s1 (nI 1)
  rw [(go_1 hL9 hC hH hW (by omega) (by omega) (by omega) (by omega)).1] at e1
  have s2 := s2.sq (go_1 hL9 hC hH hW (by omega) (by omega) (by omega) (by omega)).2
  refine j_cls (ex := []) hO1 (run_V (F.fx Z.2.1 Z.2.2.1 ⟨by show cN + 0 ≤ 600086; omega, by show sN + 0 ≤ 7301442; omega⟩) cvL_78 (o := 0) (by decide) (c_X7_go (xG X) _ NN h1 (nI 1)) (As := [.int (nI 1)]) rfl rfl ⟨⟨rfl, rfl⟩, by decide, by decide⟩ (Nat.le_of_ble_eq_true rfl) dL_law_199) (e := e1) (hv := rfl) fun hO2 => ?_
  refine j_iload F 4 rfl dL_law_202 ?_
  refine j_icmpne F (tgt := 278) dL_law_204 (by decide) (fun qq => absurd rfl qq) (fun _ => ?_)
  refine j_aload_n F 9 rfl dL_law_207 rfl ?_
  refine j_iconst F (v := nI 0) dL_law_208 (by decide) ?_
  refine j_iconst F (v := nI 0) dL_law_209 (by decide) ?_
  have e2 := o_stripe s2 (i := 0) (by rw [(n_1 L9 C H W).1]; omega)
  rw [show (E1 C H (l - nCart C H l) (g + nCart C H l) (w + nCart C H l * (W - g)) (k + 1)).1 0 0 = nI (l - nCart C H l) from rfl] at e2
  refine j_cls (ex := []) hO2 (run_V (F.fx Z.2.1 Z.2.2.1 ⟨by show cN + 0 ≤ 600086; omega, by show sN + 0 ≤ 7301442; omega⟩) cvL_81 (o := 0) (by decide) (c_X7_stripe (xG X) _ h2 (nI 0) (nI 0)) (As := [.int (nI 0), .int (nI 0)]) rfl rfl ⟨⟨rfl, rfl⟩, by decide, by decide⟩ (Nat.le_of_ble_eq_true rfl) dL_law_210) (e := e2) (hv := rfl) fun hO3 => ?_
  clear hO3
  refine j_iload F 0 rfl dL_law_213 ?_
  refine j_icmpne F (tgt := 278) dL_law_215 (by decide) (fun qq => absurd rfl qq) (fun _ => ?_)
  refine j_aload_n F 9 rfl dL_law_218 rfl ?_
  refine j_iconst F (v := nI 0) dL_law_219 (by decide) ?_
  refine j_iconst F (v := nI 3) dL_law_220 (by decide) ?_
  obtain ⟨h3, e3, s3⟩ := o_field (N := NN) (by decide) s2 (tok_of _ (dk_1 hL9 hC hH hW)) (nI 0) (nI 3)
  rw [fld_13] at e3
  refine j_cls (ex := []) hO2 (run_V (F.fx Z.2.1 Z.2.2.1 ⟨by show cN + 0 ≤ 600086; omega, by show sN + 0 ≤ 7301442; omega⟩) cvL_84 (o := 0) (by decide) (c_X7_field (xG X) _ NN h2 (nI 0) (nI 3)) (As := [.int (nI 0), .int (nI 3)]) rfl rfl ⟨⟨rfl, rfl⟩, by decide, by decide⟩ (Nat.le_of_ble_eq_true rfl) dL_law_221) (e := e3) (hv := rfl) fun hO3 => ?_
  refine j_iload F 1 rfl dL_law_224 ?_
  refine j_icmpne F (tgt := 278) dL_law_226 (by decide) (fun qq => absurd rfl qq) (fun _ => ?_)
  refine j_aload_n F 9 rfl dL_law_229 rfl ?_
  refine j_iconst F (v := nI 0) dL_law_230 (by decide) ?_
  refine j_iconst F (v := nI 4) dL_law_231 (by decide) ?_
  obtain ⟨h4, e4, s4⟩ := o_field (N := NN) (by decide) s3 (tok_of _ (dk_1 hL9 hC hH hW)) (nI 0) (nI 4)
  rw [fld_14 _ _ _ _ _ _ hW (by omega)] at e4
  refine j_cls (ex := []) hO3 (run_V (F.fx Z.2.1 Z.2.2.1 ⟨by show cN + 0 ≤ 600086; omega, by show sN + 0 ≤ 7301442; omega⟩) cvL_84 (o := 0) (by decide) (c_X7_field (xG X) _ NN h3 (nI 0) (nI 4)) (As := [.int (nI 0), .int (nI 4)]) rfl rfl ⟨⟨rfl, rfl⟩, by decide, by decide⟩ (Nat.le_of_ble_eq_true rfl) dL_law_232) (e := e4) (hv := rfl) fun hO4 => ?_
  refine j_iconst F (v := nI 0) dL_law_235 (by decide) ?_
  refine j_iload F 7 rfl dL_law_236 ?_
  refine j_iload F 1 rfl dL_law_238 ?_
  refine j_isub F (z := nI W - nI (g + nCart C H l)) dL_law_240 rfl ?_
  refine j_max F jwL_66 ws_max (z := nI (W - (g + nCart C H l))) (mx_W ⟨W, hW⟩ ⟨g + nCart C H l, by omega⟩) ⟨by decide, Nat.le_of_ble_eq_true rfl⟩ ⟨by show cN ≤ 600086; omega, by show sN ≤ 7301442; omega⟩ dL_law_241 ?_
  refine j_icmpne F (tgt := 278) dL_law_244 (by decide) (fun qq => absurd rfl qq) (fun _ => ?_)
  refine j_aload_n F 9 rfl dL_law_247 rfl ?_
  refine j_iconst F (v := nI 0) dL_law_248 (by decide) ?_
  refine j_iconst F (v := nI 4) dL_law_249 (by decide) ?_
  have e5 := o_croft (N := NN) (by decide) s4 (nI 0) (nI 4)
  rw [crf_14] at e5
  refine j_cls (ex := []) hO4 (run_V (F.fx Z.2.1 Z.2.2.1 ⟨by show cN + 0 ≤ 600086; omega, by show sN + 0 ≤ 7301442; omega⟩) cvL_87 (o := 0) (by decide) (c_X7_croft (xG X) _ NN h4 (nI 0) (nI 4)) (As := [.int (nI 0), .int (nI 4)]) rfl rfl ⟨⟨rfl, rfl⟩, by decide, by decide⟩ (Nat.le_of_ble_eq_true rfl) dL_law_250) (e := e5) (hv := rfl) fun hO5 => ?_
  clear hO5
  refine j_iload F 2 rfl dL_law_253 ?_
  refine j_icmpne F (tgt := 278) dL_law_255 (by decide) (fun qq => absurd rfl qq) (fun _ => ?_)
  refine j_aload_n F 9 rfl dL_law_258 rfl ?_
  refine j_bipush F (v := nI 10) dL_law_259 (by decide) ?_
  have e6 := o_count (N := NN) (by decide) s4 sx00 (nI 10) (fun _ _ _ => cou10 _ _ _ _)
  rw [cou_10] at e6
  refine j_cls (ex := []) hO4 (run_V (F.fx Z.2.1 Z.2.2.1 ⟨by show cN + 0 ≤ 600086; omega, by show sN + 0 ≤ 7301442; omega⟩) cvL_90 (o := 0) (by decide) (c_X7_count (xG X) _ NN h4 (nI 10)) (As := [.int (nI 10)]) rfl rfl ⟨⟨rfl, rfl⟩, by decide, by decide⟩ (Nat.le_of_ble_eq_true rfl) dL_law_261) (e := e6) (hv := rfl) fun hO5 => ?_
  clear hO5
  refine j_iload F 2 rfl dL_law_264 ?_
  refine j_icmpne F (tgt := 278) dL_law_266 (by decide) (fun qq => absurd rfl qq) (fun _ => ?_)
  refine j_aload_n F 9 rfl dL_law_269 rfl ?_
  refine j_bipush F (v := nI 8) dL_law_270 (by decide) ?_
  have e7 := o_count (N := NN) (by decide) s4 sx00 (nI 8) (fun _ _ _ => cou8 _ _ _ _)
  rw [cou_8] at e7
  refine j_cls (ex := []) hO4 (run_V (F.fx Z.2.1 Z.2.2.1 ⟨by show cN + 0 ≤ 600086; omega, by show sN + 0 ≤ 7301442; omega⟩) cvL_90 (o := 0) (by decide) (c_X7_count (xG X) _ NN h4 (nI 8)) (As := [.int (nI 8)]) rfl rfl ⟨⟨rfl, rfl⟩, by decide, by decide⟩ (Nat.le_of_ble_eq_true rfl) dL_law_272) (e := e7) (hv := rfl) fun hO5 => ?_
  clear hO5
  refine j_ifeq F (tgt := 280) dL_law_275 (by decide) (fun _ => ?_) (fun qq => absurd rfl qq)
  refine j_iinc F (w := nI (k + 1 + 1)) 4 rfl (nI_add _ _) [(9, .int (nI (k + 1 + 1))), (6, .int (nI (l - nCart C H l))), (7, .int (nI (g + nCart C H l))), (8, .int (nI (w + nCart C H l * (W - g)))), (10, .int (nI (nCart C H l))), (2, .int (nI C)), (3, .int (nI H)), (4, .int (nI W)), (5, .int (nI L9)), (1, .ref (adr (xG X) 7 0 0)), (0, .ref b)] rfl dL_law_280 (by rw [hL]; decide) ?_
  refine j_goto F (tgt := 131) dL_law_283 (by decide) ?_
  refine Wj_pick [0, 3, 2, 1, 5, 6, 7, 8, 9, 10] rfl ?_
  exact R h4 hO4 s4
theorem loop_1 (Z : LC X dg K V b L xs) (hc : cN ≤ 600086 ∧ sN ≤ 7301442) {C H W L9 : Nat} (hC : C < 6) (hH : H < 10) (hW : W < 100) (hL9 : L9 < 300) (R : ∀ g, okH g → AQ g → Wj X Q ([] ++ enc (xG X) g) cN sN 286 [(1, .ref (adr (xG X) 7 0 0)), (0, .ref b)] []) : ∀ r k l g w h, k + r = 8 → l + g = L9 → w ≤ 2475 * k → okH h → LQ h (D1 L9 C H W) (E1 C H l g w k) X00 → Wj X Q ([] ++ enc (xG X) h) cN sN 131 [(9, .int (nI (k + 1))), (8, .int (nI w)), (7, .int (nI g)), (6, .int (nI l)), (2, .int (nI C)), (3, .int (nI H)), (4, .int (nI W)), (5, .int (nI L9)), (1, .ref (adr (xG X) 7 0 0)), (0, .ref b)] [] := by
  have F := Z.1 0 (by decide)
  have hL := Z.2.2.2.1
  intro r
  induction r with
  | zero =>
    intro k l g w h hk hlg hw hO s0
    have : k = 8 := by omega
    subst this
    refine j_iload F 0 rfl dL_law_131 ?_
    refine j_bipush F (v := nI 9) dL_law_133 (by decide) ?_
    refine j_icmpge F (tgt := 286) dL_law_135 (by decide) (fun _ => ?_) (fun qq => absurd (Int32.le_refl _) qq)
    refine Wj_pick [8, 9] rfl ?_
    exact R h hO s0.aq
  | succ r ih =>
    intro k l g w h hk hlg hw hO s0
    have hn : nCart C H l ≤ l ∧ nCart C H l ≤ 25 := by unfold nCart; split <;> omega
    have hn2 : nCart C H l * (W - g) ≤ 25 * 99 := Nat.mul_le_mul hn.2 (by omega)
    refine half_1 Z hc hC hH hW hL9 (by omega) hlg hw hn.1 fun _ => ?_
    refine half_2 Z hc hC hH hW hL9 (by omega) hlg hw hn.1 hO s0 fun h4 hO4 s4 => ?_
    exact ih (k + 1) (l - nCart C H l) (g + nCart C H l) (w + nCart C H l * (W - g)) h4 (by omega) (by omega) (by omega) hO4 s4
set_option maxRecDepth 100000 in
theorem seg_1 (Z : LC X dg K V b L xs) {h : Hp} (hO : okH h) (a : AQ h) (hc : cN + 23 ≤ 600086 ∧ sN + 1574 ≤ 7301442) (R : ∀ g, okH g → AQ g → Wj X Q ([] ++ enc (xG X) g) (cN + 23) (sN + 1574) 286 [(1, .ref (adr (xG X) 7 0 0)), (0, .ref b)] []) : Wj X Q ([] ++ enc (xG X) h) cN sN 8 [(1, .ref (adr (xG X) 7 0 0)), (0, .ref b)] [] := by
  have F := Z.1 0 (by decide)
  have hL := Z.2.2.2.1
  refine seg_1a Z hO a hc fun C H W L9 g hC hH hW hL9 hOg s0 => ?_
  refine j_iload F 0 rfl dL_law_118 ?_
  refine j_istore F [(6, .int (nI L9)), (5, .int (nI L9)), (4, .int (nI W)), (3, .int (nI H)), (2, .int (nI C)), (1, .ref (adr (xG X) 7 0 0)), (0, .ref b)] rfl dL_law_120 (by rw [hL]; decide) ?_
  refine j_iconst F (v := nI 0) dL_law_122 (by decide) ?_
  refine j_istore F [(7, .int (nI 0)), (6, .int (nI L9)), (5, .int (nI L9)), (4, .int (nI W)), (3, .int (nI H)), (2, .int (nI C)), (1, .ref (adr (xG X) 7 0 0)), (0, .ref b)] rfl dL_law_123 (by rw [hL]; decide) ?_
  refine j_iconst F (v := nI 0) dL_law_125 (by decide) ?_
  refine j_istore F [(8, .int (nI 0)), (7, .int (nI 0)), (6, .int (nI L9)), (5, .int (nI L9)), (4, .int (nI W)), (3, .int (nI H)), (2, .int (nI C)), (1, .ref (adr (xG X) 7 0 0)), (0, .ref b)] rfl dL_law_126 (by rw [hL]; decide) ?_
  refine j_iconst F (v := nI 1) dL_law_128 (by decide) ?_
  refine j_istore F [(9, .int (nI 1)), (8, .int (nI 0)), (7, .int (nI 0)), (6, .int (nI L9)), (5, .int (nI L9)), (4, .int (nI W)), (3, .int (nI H)), (2, .int (nI C)), (1, .ref (adr (xG X) 7 0 0)), (0, .ref b)] rfl dL_law_129 (by rw [hL]; decide) ?_
  refine Wj_pick [0, 1, 2, 3, 7, 6, 5, 4, 8, 9] rfl ?_
  exact loop_1 Z (by omega) hC hH hW hL9 R 8 0 L9 0 0 g rfl rfl (Nat.le_refl _) hOg s0
end LFirst2
