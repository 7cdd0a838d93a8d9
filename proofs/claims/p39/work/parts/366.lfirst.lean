-- the law's walk: the first text and its loop
theorem dgl3 (k : Nat) : (dgL k).length ≤ 3 := by
  rw [dgL_len]
  split
  · omega
  · split <;> omega
theorem cl_0 : (cst 0).length = 7 := rfl
theorem cl_1 : (cst 1).length = 9 := rfl
theorem cl_2 : (cst 2).length = 1 := rfl
theorem cl_3 : (cst 3).length = 11 := rfl
theorem cl_4 : (cst 4).length = 3 := rfl
theorem cl_6 : (cst 6).length = 25 := rfl
theorem cl_7 : (cst 7).length = 15 := rfl
theorem cl_14 : (cst 14).length = 5 := rfl
theorem cl_15 : (cst 15).length = 26 := rfl
theorem mn_1 {C H l : Nat} (hl : l < 300) (hC : C < 6) : (if nI (5 * C - H) < nI l then nI (5 * C - H) else nI l) = nI (nCart C H l) := by
  unfold nCart
  by_cases z : 5 * C - H < l
  · rw [if_pos z, if_pos (nI_lt z (by omega))]
  · rw [if_neg z, if_neg (nI_nlt (Nat.le_of_not_lt z) (by omega))]
section LFirst
variable {X : Cx} {Q : State → Prop} {dg : Nat × Nat} {K V : Nat → Nat} {b L : Nat} {xs : Nat → Int32} {cN sN : Nat}
set_option maxRecDepth 100000 in
theorem seg_1a (Z : LC X dg K V b L xs) {h : Hp} (hO : okH h) (a : AQ h) (hc : cN + 23 ≤ 600086 ∧ sN + 1574 ≤ 7301442) (R : ∀ C H W L9 g, C < 6 → H < 10 → W < 100 → L9 < 300 → okH g → LQ g (D1 L9 C H W) (E1 C H L9 0 0 0) X00 → Wj X Q ([] ++ enc (xG X) g) (cN + 23) (sN + 1574) 118 [(5, .int (nI L9)), (4, .int (nI W)), (3, .int (nI H)), (2, .int (nI C)), (1, .ref (adr (xG X) 7 0 0)), (0, .ref b)] []) : Wj X Q ([] ++ enc (xG X) h) cN sN 8 [(1, .ref (adr (xG X) 7 0 0)), (0, .ref b)] [] := by
  have F := Z.1 0 (by decide)
  have hL := Z.2.2.2.1
  refine j_aload_n F 1 rfl dL_law_8 rfl ?_
  refine j_iconst F (v := nI 0) dL_law_9 (by decide) ?_
  refine l_cell Z (k := 0) (by omega) ⟨by show cN + 0 ≤ 600086; omega, by show sN + 0 ≤ 7301442; omega⟩ (Nat.le_of_ble_eq_true rfl) dL_law_10 ?_
  refine j_bipush F (v := nI 6) dL_law_13 (by decide) ?_
  refine l_in Z (by decide) ⟨by show cN + 0 ≤ 600086; omega, by show sN + 0 ≤ 7301442; omega⟩ (Nat.le_of_ble_eq_true rfl) dL_law_15 ?_
  obtain ⟨C, hC, qC⟩ := inS_n (clS L xs 0) (m := 6) (by omega) (by omega)
  rw [qC]
  refine j_istore_n F [(2, .int (nI C)), (1, .ref (adr (xG X) 7 0 0)), (0, .ref b)] rfl dL_law_18 rfl (by rw [hL]; decide) ?_
  refine j_aload_n F 2 rfl dL_law_19 rfl ?_
  refine j_iconst F (v := nI 1) dL_law_20 (by decide) ?_
  refine l_cell Z (k := 1) (by omega) ⟨by show cN + 0 ≤ 600086; omega, by show sN + 0 ≤ 7301442; omega⟩ (Nat.le_of_ble_eq_true rfl) dL_law_21 ?_
  refine j_bipush F (v := nI 10) dL_law_24 (by decide) ?_
  refine l_in Z (by decide) ⟨by show cN + 0 ≤ 600086; omega, by show sN + 0 ≤ 7301442; omega⟩ (Nat.le_of_ble_eq_true rfl) dL_law_26 ?_
  obtain ⟨H, hH, qH⟩ := inS_n (clS L xs 1) (m := 10) (by omega) (by omega)
  rw [qH]
  refine j_istore_n F [(3, .int (nI H)), (2, .int (nI C)), (1, .ref (adr (xG X) 7 0 0)), (0, .ref b)] rfl dL_law_29 rfl (by rw [hL]; decide) ?_
  refine j_aload_n F 3 rfl dL_law_30 rfl ?_
  refine j_iconst F (v := nI 2) dL_law_31 (by decide) ?_
  refine l_cell Z (k := 2) (by omega) ⟨by show cN + 0 ≤ 600086; omega, by show sN + 0 ≤ 7301442; omega⟩ (Nat.le_of_ble_eq_true rfl) dL_law_32 ?_
  refine j_bipush F (v := nI 100) dL_law_35 (by decide) ?_
  refine l_in Z (by decide) ⟨by show cN + 0 ≤ 600086; omega, by show sN + 0 ≤ 7301442; omega⟩ (Nat.le_of_ble_eq_true rfl) dL_law_37 ?_
  obtain ⟨W, hW, qW⟩ := inS_n (clS L xs 2) (m := 100) (by omega) (by omega)
  rw [qW]
  refine j_istore F [(4, .int (nI W)), (3, .int (nI H)), (2, .int (nI C)), (1, .ref (adr (xG X) 7 0 0)), (0, .ref b)] rfl dL_law_40 (by rw [hL]; decide) ?_
  refine j_aload_n F 4 rfl dL_law_42 rfl ?_
  refine j_iconst F (v := nI 3) dL_law_43 (by decide) ?_
  refine l_cell Z (k := 3) (by omega) ⟨by show cN + 0 ≤ 600086; omega, by show sN + 0 ≤ 7301442; omega⟩ (Nat.le_of_ble_eq_true rfl) dL_law_44 ?_
  refine j_sipush F (v := nI 300) dL_law_47 (by decide) ?_
  refine l_in Z (by decide) ⟨by show cN + 0 ≤ 600086; omega, by show sN + 0 ≤ 7301442; omega⟩ (Nat.le_of_ble_eq_true rfl) dL_law_50 ?_
  obtain ⟨L9, hL9, qL9⟩ := inS_n (clS L xs 3) (m := 300) (by omega) (by omega)
  rw [qL9]
  refine j_istore F [(5, .int (nI L9)), (4, .int (nI W)), (3, .int (nI H)), (2, .int (nI C)), (1, .ref (adr (xG X) 7 0 0)), (0, .ref b)] rfl dL_law_53 (by rw [hL]; decide) ?_
  refine j_aload_n F 4 rfl dL_law_55 rfl ?_
  refine j_new F (c := 9) nwL_39 (by decide) ⟨by show cN + 0 + 1 ≤ 600086; omega, by show sN + 0 + 4 ≤ 7301442; omega⟩ dL_law_56 fun bq => ?_
  refine Wj_front (ex := []) ?_
  refine j_dup F rfl dL_law_59 ?_
  refine b_init F jiL_41 ⟨by decide, by decide⟩ (Nat.le_of_ble_eq_true rfl) ⟨by show cN + 1 + 1 ≤ 600086; omega, by show sN + 4 + 16 ≤ 7301442; omega⟩ dL_law_60 fun w0 B0 => ?_
  refine l_ldcS Z (i := 0) (by decide) rfl dL_law_63 ?_
  obtain ⟨by1, by2, by3⟩ := sgc_by (fun q => (xS X).heap.size ≤ q) K V (i := 0) (by decide)
  refine b_S (Z.1 0 (by decide)) jvL_44 B0 by1 by2 (by show _ + (cst 0).length ≤ 70; have d1 := dgl3 L9; have d2 := dgl3 C; have d3 := dgl3 H; have d4 := dgl3 W; simp only [List.length_append, List.length_nil, cl_0, cl_1, cl_2, cl_3, cl_4]; omega) ⟨by decide, by decide⟩ (Nat.le_of_ble_eq_true rfl) ⟨by show cN + 2 + 1 ≤ 600086; omega, by show sN + 20 + 150 ≤ 7301442; omega⟩ dL_law_65 fun w1 B1 => ?_
  have B1 : Bw (xG X) bq (([] : List Int32) ++ cst 0) w1 := B1
  refine j_iload F 0 rfl dL_law_68 ?_
  refine b_I F jvL_48 (k := L9) B1 (by omega) (by have d1 := dgl3 L9; have d2 := dgl3 C; have d3 := dgl3 H; have d4 := dgl3 W; simp only [List.length_append, List.length_nil, cl_0, cl_1, cl_2, cl_3, cl_4]; omega) ⟨by decide, by decide⟩ (Nat.le_of_ble_eq_true rfl) ⟨by show cN + 3 + 1 ≤ 600086; omega, by show sN + 170 + 150 ≤ 7301442; omega⟩ dL_law_70 fun w2 B2 => ?_
  have B2 : Bw (xG X) bq ((([] : List Int32) ++ cst 0) ++ dgL L9) w2 := B2
  refine l_ldcS Z (i := 1) (by decide) rfl dL_law_73 ?_
  obtain ⟨by1, by2, by3⟩ := sgc_by (fun q => (xS X).heap.size ≤ q) K V (i := 1) (by decide)
  refine b_S (Z.1 1 (by decide)) jvL_44 B2 by1 by2 (by show _ + (cst 1).length ≤ 70; have d1 := dgl3 L9; have d2 := dgl3 C; have d3 := dgl3 H; have d4 := dgl3 W; simp only [List.length_append, List.length_nil, cl_0, cl_1, cl_2, cl_3, cl_4]; omega) ⟨by decide, by decide⟩ (Nat.le_of_ble_eq_true rfl) ⟨by show cN + 4 + 1 ≤ 600086; omega, by show sN + 320 + 150 ≤ 7301442; omega⟩ dL_law_75 fun w3 B3 => ?_
  have B3 : Bw (xG X) bq (((([] : List Int32) ++ cst 0) ++ dgL L9) ++ cst 1) w3 := B3
  refine j_iload_n F 3 rfl dL_law_78 rfl ?_
  refine b_I F jvL_48 (k := C) B3 (by omega) (by have d1 := dgl3 L9; have d2 := dgl3 C; have d3 := dgl3 H; have d4 := dgl3 W; simp only [List.length_append, List.length_nil, cl_0, cl_1, cl_2, cl_3, cl_4]; omega) ⟨by decide, by decide⟩ (Nat.le_of_ble_eq_true rfl) ⟨by show cN + 5 + 1 ≤ 600086; omega, by show sN + 470 + 150 ≤ 7301442; omega⟩ dL_law_79 fun w4 B4 => ?_
  have B4 : Bw (xG X) bq ((((([] : List Int32) ++ cst 0) ++ dgL L9) ++ cst 1) ++ dgL C) w4 := B4
  refine l_ldcS Z (i := 2) (by decide) rfl dL_law_82 ?_
  obtain ⟨by1, by2, by3⟩ := sgc_by (fun q => (xS X).heap.size ≤ q) K V (i := 2) (by decide)
  refine b_S (Z.1 2 (by decide)) jvL_44 B4 by1 by2 (by show _ + (cst 2).length ≤ 70; have d1 := dgl3 L9; have d2 := dgl3 C; have d3 := dgl3 H; have d4 := dgl3 W; simp only [List.length_append, List.length_nil, cl_0, cl_1, cl_2, cl_3, cl_4]; omega) ⟨by decide, by decide⟩ (Nat.le_of_ble_eq_true rfl) ⟨by show cN + 6 + 1 ≤ 600086; omega, by show sN + 620 + 150 ≤ 7301442; omega⟩ dL_law_84 fun w5 B5 => ?_
  have B5 : Bw (xG X) bq (((((([] : List Int32) ++ cst 0) ++ dgL L9) ++ cst 1) ++ dgL C) ++ cst 2) w5 := B5
  refine j_iload_n F 2 rfl dL_law_87 rfl ?_
  refine b_I F jvL_48 (k := H) B5 (by omega) (by have d1 := dgl3 L9; have d2 := dgl3 C; have d3 := dgl3 H; have d4 := dgl3 W; simp only [List.length_append, List.length_nil, cl_0, cl_1, cl_2, cl_3, cl_4]; omega) ⟨by decide, by decide⟩ (Nat.le_of_ble_eq_true rfl) ⟨by show cN + 7 + 1 ≤ 600086; omega, by show sN + 770 + 150 ≤ 7301442; omega⟩ dL_law_88 fun w6 B6 => ?_
  have B6 : Bw (xG X) bq ((((((([] : List Int32) ++ cst 0) ++ dgL L9) ++ cst 1) ++ dgL C) ++ cst 2) ++ dgL H) w6 := B6
  refine l_ldcS Z (i := 3) (by decide) rfl dL_law_91 ?_
  obtain ⟨by1, by2, by3⟩ := sgc_by (fun q => (xS X).heap.size ≤ q) K V (i := 3) (by decide)
  refine b_S (Z.1 3 (by decide)) jvL_44 B6 by1 by2 (by show _ + (cst 3).length ≤ 70; have d1 := dgl3 L9; have d2 := dgl3 C; have d3 := dgl3 H; have d4 := dgl3 W; simp only [List.length_append, List.length_nil, cl_0, cl_1, cl_2, cl_3, cl_4]; omega) ⟨by decide, by decide⟩ (Nat.le_of_ble_eq_true rfl) ⟨by show cN + 8 + 1 ≤ 600086; omega, by show sN + 920 + 150 ≤ 7301442; omega⟩ dL_law_93 fun w7 B7 => ?_
  have B7 : Bw (xG X) bq (((((((([] : List Int32) ++ cst 0) ++ dgL L9) ++ cst 1) ++ dgL C) ++ cst 2) ++ dgL H) ++ cst 3) w7 := B7
  refine j_iload F 1 rfl dL_law_96 ?_
  refine b_I F jvL_48 (k := W) B7 (by omega) (by have d1 := dgl3 L9; have d2 := dgl3 C; have d3 := dgl3 H; have d4 := dgl3 W; simp only [List.length_append, List.length_nil, cl_0, cl_1, cl_2, cl_3, cl_4]; omega) ⟨by decide, by decide⟩ (Nat.le_of_ble_eq_true rfl) ⟨by show cN + 9 + 1 ≤ 600086; omega, by show sN + 1070 + 150 ≤ 7301442; omega⟩ dL_law_98 fun w8 B8 => ?_
  have B8 : Bw (xG X) bq ((((((((([] : List Int32) ++ cst 0) ++ dgL L9) ++ cst 1) ++ dgL C) ++ cst 2) ++ dgL H) ++ cst 3) ++ dgL W) w8 := B8
  refine l_ldcS Z (i := 4) (by decide) rfl dL_law_101 ?_
  obtain ⟨by1, by2, by3⟩ := sgc_by (fun q => (xS X).heap.size ≤ q) K V (i := 4) (by decide)
  refine b_S (Z.1 4 (by decide)) jvL_44 B8 by1 by2 (by show _ + (cst 4).length ≤ 70; have d1 := dgl3 L9; have d2 := dgl3 C; have d3 := dgl3 H; have d4 := dgl3 W; simp only [List.length_append, List.length_nil, cl_0, cl_1, cl_2, cl_3, cl_4]; omega) ⟨by decide, by decide⟩ (Nat.le_of_ble_eq_true rfl) ⟨by show cN + 10 + 1 ≤ 600086; omega, by show sN + 1220 + 150 ≤ 7301442; omega⟩ dL_law_103 fun w9 B9 => ?_
  have B9 : Bw (xG X) bq (((((((((([] : List Int32) ++ cst 0) ++ dgL L9) ++ cst 1) ++ dgL C) ++ cst 2) ++ dgL H) ++ cst 3) ++ dgL W) ++ cst 4) w9 := B9
  refine b_ts F jvL_59 B9 ⟨by decide, by decide⟩ (Nat.le_of_ble_eq_true rfl) ⟨by show cN + 11 + 2 ≤ 600086; omega, by show sN + 1370 + 154 ≤ 7301442; omega⟩ dL_law_106 fun sq uq fq hfq => ?_
  obtain ⟨tl, tb⟩ := (tx1_by hL9 hC hH hW)
  refine l_textM F jsL_63 (D := D1 L9 C H W) Z.2.1 Z.2.2.1 hO a hfq (fun j hj => ⟨_, (tb _ (gd_mem hj 0)).2, (tb _ (gd_mem hj 0)).1⟩) (Nat.le_trans tl (by omega)) (dp_1 hL9 hC hH hW) (dk_1 hL9 hC hH hW) ⟨by decide, by decide⟩ (Nat.le_of_ble_eq_true rfl) ⟨by show cN + 13 + 10 ≤ 600086; omega, by show sN + 1524 + 50 ≤ 7301442; omega⟩ dL_law_109 fun h1 hO1 s1 => ?_
  refine Wj_nil ?_
  refine j_iconst F (v := nI 3) dL_law_112 (by decide) ?_
  refine j_icmpeq F (tgt := 118) dL_law_113 (by decide) (fun _ => ?_) (fun qq => absurd rfl qq)
  exact R C H W L9 h1 hC hH hW hL9 hO1 (s1.sq (bg_1st L9 C H W))
end LFirst
