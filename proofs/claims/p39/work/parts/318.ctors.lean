-- constructors, walked
def qX0 (G : Gx) (b : Nat) : List va_E := .inr (0, [.ref (b + 1), .ref (b + 2), .ref (b + 3), .ref (b + 4), .ref (b + 5), .ref (b + 6), .int 0]) :: ([.inl (G.2.2.1, 64, .inl fun _ => 0)] ++ ([.inl (G.2.2.1, 64, .inl fun _ => 0)] ++ ([.inl (G.2.2.1, 4, .inl fun _ => 0)] ++ ([.inl (G.2.2.1, 4, .inl fun _ => 0)] ++ ([.inl (G.2.2.2.2.1, 7, .inr (.inl fun _ => 0))] ++ ([.inl (G.2.2.2.2.1, 64, .inr (.inl fun _ => 0))]))))))
abbrev rmX0_init : Room := { frames := 1, cells := 6, slots := 207, locals := 12 }
set_option maxRecDepth 100000 in
set_option maxHeartbeats 4000000 in
theorem kX0 (G : Gx) (l : Launch) (b : Nat) : Cn G l yX0_init cX0_init 1 rmX0_init [.ref b] b 0 (fun _ => True) (qX0 G b) 6 207 := by
  refine ctor_of (by decide +kernel) rfl (Nat.le_of_ble_eq_true rfl) fun X hl hG hL F hin hret hKp hsz => ?_
  subst hG
  subst hl
  refine k_aload_n F 0 rfl dX0_init_0 rfl ?_
  refine k_objInit F oiX0 ⟨by decide, by decide⟩ dX0_init_1 ?_
  refine k_aload_n F 0 rfl dX0_init_4 rfl ?_
  refine k_bipush F (v := 64) dX0_init_5 (by decide) ?_
  refine k_newI F acw_int (N := 64) (b := b + 1) (by decide) (by decide) (by decide) ⟨by decide, by decide⟩ rfl dX0_init_7 ?_
  refine k_put F hin frX0_11 rfl rfl rfl (Nat.le_of_ble_eq_true rfl) dX0_init_9 ?_
  refine k_aload_n F 0 rfl dX0_init_12 rfl ?_
  refine k_bipush F (v := 64) dX0_init_13 (by decide) ?_
  refine k_newI F acw_int (N := 64) (b := b + 2) (by decide) (by decide) (by decide) ⟨by decide, by decide⟩ rfl dX0_init_15 ?_
  refine k_put F hin frX0_15 rfl rfl rfl (Nat.le_of_ble_eq_true rfl) dX0_init_17 ?_
  refine k_aload_n F 0 rfl dX0_init_20 rfl ?_
  refine k_iconst F (v := 4) dX0_init_21 (by decide) ?_
  refine k_newI F acw_int (N := 4) (b := b + 3) (by decide) (by decide) (by decide) ⟨by decide, by decide⟩ rfl dX0_init_22 ?_
  refine k_put F hin frX0_18 rfl rfl rfl (Nat.le_of_ble_eq_true rfl) dX0_init_24 ?_
  refine k_aload_n F 0 rfl dX0_init_27 rfl ?_
  refine k_iconst F (v := 4) dX0_init_28 (by decide) ?_
  refine k_newI F acw_int (N := 4) (b := b + 4) (by decide) (by decide) (by decide) ⟨by decide, by decide⟩ rfl dX0_init_29 ?_
  refine k_put F hin frX0_21 rfl rfl rfl (Nat.le_of_ble_eq_true rfl) dX0_init_31 ?_
  refine k_aload_n F 0 rfl dX0_init_34 rfl ?_
  refine k_bipush F (v := 7) dX0_init_35 (by decide) ?_
  refine k_newL F acw_long (N := 7) (b := b + 5) (by decide) (by decide) (by decide) ⟨by decide, by decide⟩ rfl dX0_init_37 ?_
  refine k_put F hin frX0_24 rfl rfl rfl (Nat.le_of_ble_eq_true rfl) dX0_init_39 ?_
  refine k_aload_n F 0 rfl dX0_init_42 rfl ?_
  refine k_bipush F (v := 64) dX0_init_43 (by decide) ?_
  refine k_newL F acw_long (N := 64) (b := b + 6) (by decide) (by decide) (by decide) ⟨by decide, by decide⟩ rfl dX0_init_45 ?_
  refine k_put F hin frX0_28 rfl rfl rfl (Nat.le_of_ble_eq_true rfl) dX0_init_47 ?_
  exact k_vret F hret hsz rfl rfl rfl dX0_init_50
def qX1 (G : Gx) (b : Nat) : List va_E := .inr (1, [.ref (b + 1), .ref (b + 2), .null, .null, .int 0, .int 0, .int 0, .int 0, .int 0, .int 0, .int 0, .int 0, .int 0]) :: ([.inl (G.2.2.1, 72, .inl fun _ => 0)] ++ ([.inl (G.2.2.2.1, 9, .inl fun _ => 0)]))
abbrev rmX1_init : Room := { frames := 1, cells := 2, slots := 81, locals := 12 }
set_option maxRecDepth 100000 in
set_option maxHeartbeats 4000000 in
theorem kX1 (G : Gx) (l : Launch) (b : Nat) : Cn G l yX1_init cX1_init 1 rmX1_init [.ref b] b 1 (fun _ => True) (qX1 G b) 2 81 := by
  refine ctor_of (by decide +kernel) rfl (Nat.le_of_ble_eq_true rfl) fun X hl hG hL F hin hret hKp hsz => ?_
  subst hG
  subst hl
  refine k_aload_n F 0 rfl dX1_init_0 rfl ?_
  refine k_objInit F oiX1 ⟨by decide, by decide⟩ dX1_init_1 ?_
  refine k_aload_n F 0 rfl dX1_init_4 rfl ?_
  refine k_bipush F (v := 72) dX1_init_5 (by decide) ?_
  refine k_newI F acw_int (N := 72) (b := b + 1) (by decide) (by decide) (by decide) ⟨by decide, by decide⟩ rfl dX1_init_7 ?_
  refine k_put F hin frX1_13 rfl rfl rfl (Nat.le_of_ble_eq_true rfl) dX1_init_9 ?_
  refine k_aload_n F 0 rfl dX1_init_12 rfl ?_
  refine k_bipush F (v := 9) dX1_init_13 (by decide) ?_
  refine k_newZ F acw_boolean (N := 9) (b := b + 2) (by decide) (by decide) (by decide) ⟨by decide, by decide⟩ rfl dX1_init_15 ?_
  refine k_put F hin frX1_17 rfl rfl rfl (Nat.le_of_ble_eq_true rfl) dX1_init_17 ?_
  exact k_vret F hret hsz rfl rfl rfl dX1_init_20
def qX2 (G : Gx) (b : Nat) : List va_E := .inr (2, [.ref (b + 1), .ref (b + 2), .ref (b + 3), .ref (b + 4), .int 0, .int (-1)]) :: ([.inl (G.2.2.1, 24, .inl fun _ => 0)] ++ ([.inl (G.2.2.1, 24, .inl fun _ => 0)] ++ ([.inl (G.2.2.1, 24, .inl fun _ => 0)] ++ ([.inl (G.2.2.2.1, 24, .inl fun _ => 0)]))))
abbrev rmX2_init : Room := { frames := 1, cells := 4, slots := 96, locals := 12 }
set_option maxRecDepth 100000 in
set_option maxHeartbeats 4000000 in
theorem kX2 (G : Gx) (l : Launch) (b : Nat) : Cn G l yX2_init cX2_init 1 rmX2_init [.ref b] b 2 (fun _ => True) (qX2 G b) 4 96 := by
  refine ctor_of (by decide +kernel) rfl (Nat.le_of_ble_eq_true rfl) fun X hl hG hL F hin hret hKp hsz => ?_
  subst hG
  subst hl
  refine k_aload_n F 0 rfl dX2_init_0 rfl ?_
  refine k_objInit F oiX2 ⟨by decide, by decide⟩ dX2_init_1 ?_
  refine k_aload_n F 0 rfl dX2_init_4 rfl ?_
  refine k_bipush F (v := 24) dX2_init_5 (by decide) ?_
  refine k_newI F acw_int (N := 24) (b := b + 1) (by decide) (by decide) (by decide) ⟨by decide, by decide⟩ rfl dX2_init_7 ?_
  refine k_put F hin frX2_9 rfl rfl rfl (Nat.le_of_ble_eq_true rfl) dX2_init_9 ?_
  refine k_aload_n F 0 rfl dX2_init_12 rfl ?_
  refine k_bipush F (v := 24) dX2_init_13 (by decide) ?_
  refine k_newI F acw_int (N := 24) (b := b + 2) (by decide) (by decide) (by decide) ⟨by decide, by decide⟩ rfl dX2_init_15 ?_
  refine k_put F hin frX2_15 rfl rfl rfl (Nat.le_of_ble_eq_true rfl) dX2_init_17 ?_
  refine k_aload_n F 0 rfl dX2_init_20 rfl ?_
  refine k_bipush F (v := 24) dX2_init_21 (by decide) ?_
  refine k_newI F acw_int (N := 24) (b := b + 3) (by decide) (by decide) (by decide) ⟨by decide, by decide⟩ rfl dX2_init_23 ?_
  refine k_put F hin frX2_18 rfl rfl rfl (Nat.le_of_ble_eq_true rfl) dX2_init_25 ?_
  refine k_aload_n F 0 rfl dX2_init_28 rfl ?_
  refine k_bipush F (v := 24) dX2_init_29 (by decide) ?_
  refine k_newZ F acw_boolean (N := 24) (b := b + 4) (by decide) (by decide) (by decide) ⟨by decide, by decide⟩ rfl dX2_init_31 ?_
  refine k_put F hin frX2_21 rfl rfl rfl (Nat.le_of_ble_eq_true rfl) dX2_init_33 ?_
  refine k_aload_n F 0 rfl dX2_init_36 rfl ?_
  refine k_iconst F (v := (-1)) dX2_init_37 (by decide) ?_
  refine k_put F hin frX2_25 rfl rfl rfl (Nat.le_of_ble_eq_true rfl) dX2_init_38 ?_
  exact k_vret F hret hsz rfl rfl rfl dX2_init_41
def qX3 (G : Gx) (b : Nat) (t : Nat) : List va_E := .inr (3, [.ref (b + 1), .ref (b + 2), .ref (b + 3), .ref (b + 4), .ref (b + 5), .ref (b + 6), .ref (b + 7), .ref (b + 8), .ref (b + 9), .ref (b + 10), .ref t, .int 0, .int 0, .int 0, .int 0, .int 0, .int 1]) :: ([.inl (G.2.2.1, 8, .inl fun _ => 0)] ++ ([.inl (G.2.2.1, 8, .inl fun _ => 0)] ++ ([.inl (G.2.2.1, 4, .inl fun _ => 0)] ++ ([.inl (G.2.2.1, 4, .inl fun _ => 0)] ++ ([.inl (G.2.2.1, 4, .inl fun _ => 0)] ++ ([.inl (G.2.2.1, 4, .inl fun _ => 0)] ++ ([.inl (G.2.2.1, 4, .inl fun _ => 0)] ++ ([.inl (G.2.2.1, 4, .inl fun _ => 0)] ++ ([.inl (G.2.2.1, 4, .inl fun _ => 0)] ++ ([.inl (G.2.2.1, 6, .inl fun _ => 0)]))))))))))
abbrev rmX3_init : Room := { frames := 1, cells := 10, slots := 50, locals := 12 }
set_option maxRecDepth 100000 in
set_option maxHeartbeats 4000000 in
theorem kX3 (G : Gx) (l : Launch) (b : Nat) (t : Nat) : Cn G l yX3_init cX3_init 2 rmX3_init [.ref b, .ref t] b 3 (fun _ => True) (qX3 G b t) 10 50 := by
  refine ctor_of (by decide +kernel) rfl (Nat.le_of_ble_eq_true rfl) fun X hl hG hL F hin hret hKp hsz => ?_
  subst hG
  subst hl
  refine k_aload_n F 0 rfl dX3_init_0 rfl ?_
  refine k_objInit F oiX3 ⟨by decide, by decide⟩ dX3_init_1 ?_
  refine k_aload_n F 0 rfl dX3_init_4 rfl ?_
  refine k_bipush F (v := 8) dX3_init_5 (by decide) ?_
  refine k_newI F acw_int (N := 8) (b := b + 1) (by decide) (by decide) (by decide) ⟨by decide, by decide⟩ rfl dX3_init_7 ?_
  refine k_put F hin frX3_11 rfl rfl rfl (Nat.le_of_ble_eq_true rfl) dX3_init_9 ?_
  refine k_aload_n F 0 rfl dX3_init_12 rfl ?_
  refine k_bipush F (v := 8) dX3_init_13 (by decide) ?_
  refine k_newI F acw_int (N := 8) (b := b + 2) (by decide) (by decide) (by decide) ⟨by decide, by decide⟩ rfl dX3_init_15 ?_
  refine k_put F hin frX3_17 rfl rfl rfl (Nat.le_of_ble_eq_true rfl) dX3_init_17 ?_
  refine k_aload_n F 0 rfl dX3_init_20 rfl ?_
  refine k_iconst F (v := 4) dX3_init_21 (by decide) ?_
  refine k_newI F acw_int (N := 4) (b := b + 3) (by decide) (by decide) (by decide) ⟨by decide, by decide⟩ rfl dX3_init_22 ?_
  refine k_put F hin frX3_20 rfl rfl rfl (Nat.le_of_ble_eq_true rfl) dX3_init_24 ?_
  refine k_aload_n F 0 rfl dX3_init_27 rfl ?_
  refine k_iconst F (v := 4) dX3_init_28 (by decide) ?_
  refine k_newI F acw_int (N := 4) (b := b + 4) (by decide) (by decide) (by decide) ⟨by decide, by decide⟩ rfl dX3_init_29 ?_
  refine k_put F hin frX3_23 rfl rfl rfl (Nat.le_of_ble_eq_true rfl) dX3_init_31 ?_
  refine k_aload_n F 0 rfl dX3_init_34 rfl ?_
  refine k_iconst F (v := 4) dX3_init_35 (by decide) ?_
  refine k_newI F acw_int (N := 4) (b := b + 5) (by decide) (by decide) (by decide) ⟨by decide, by decide⟩ rfl dX3_init_36 ?_
  refine k_put F hin frX3_26 rfl rfl rfl (Nat.le_of_ble_eq_true rfl) dX3_init_38 ?_
  refine k_aload_n F 0 rfl dX3_init_41 rfl ?_
  refine k_iconst F (v := 4) dX3_init_42 (by decide) ?_
  refine k_newI F acw_int (N := 4) (b := b + 6) (by decide) (by decide) (by decide) ⟨by decide, by decide⟩ rfl dX3_init_43 ?_
  refine k_put F hin frX3_29 rfl rfl rfl (Nat.le_of_ble_eq_true rfl) dX3_init_45 ?_
  refine k_aload_n F 0 rfl dX3_init_48 rfl ?_
  refine k_iconst F (v := 4) dX3_init_49 (by decide) ?_
  refine k_newI F acw_int (N := 4) (b := b + 7) (by decide) (by decide) (by decide) ⟨by decide, by decide⟩ rfl dX3_init_50 ?_
  refine k_put F hin frX3_32 rfl rfl rfl (Nat.le_of_ble_eq_true rfl) dX3_init_52 ?_
  refine k_aload_n F 0 rfl dX3_init_55 rfl ?_
  refine k_iconst F (v := 4) dX3_init_56 (by decide) ?_
  refine k_newI F acw_int (N := 4) (b := b + 8) (by decide) (by decide) (by decide) ⟨by decide, by decide⟩ rfl dX3_init_57 ?_
  refine k_put F hin frX3_35 rfl rfl rfl (Nat.le_of_ble_eq_true rfl) dX3_init_59 ?_
  refine k_aload_n F 0 rfl dX3_init_62 rfl ?_
  refine k_iconst F (v := 4) dX3_init_63 (by decide) ?_
  refine k_newI F acw_int (N := 4) (b := b + 9) (by decide) (by decide) (by decide) ⟨by decide, by decide⟩ rfl dX3_init_64 ?_
  refine k_put F hin frX3_38 rfl rfl rfl (Nat.le_of_ble_eq_true rfl) dX3_init_66 ?_
  refine k_aload_n F 0 rfl dX3_init_69 rfl ?_
  refine k_bipush F (v := 6) dX3_init_70 (by decide) ?_
  refine k_newI F acw_int (N := 6) (b := b + 10) (by decide) (by decide) (by decide) ⟨by decide, by decide⟩ rfl dX3_init_72 ?_
  refine k_put F hin frX3_41 rfl rfl rfl (Nat.le_of_ble_eq_true rfl) dX3_init_74 ?_
  refine k_aload_n F 0 rfl dX3_init_77 rfl ?_
  refine k_aload_n F 1 rfl dX3_init_78 rfl ?_
  refine k_put F hin frX3_44 rfl rfl rfl (Nat.le_of_ble_eq_true rfl) dX3_init_79 ?_
  refine k_aload_n F 0 rfl dX3_init_82 rfl ?_
  refine k_iconst F (v := 1) dX3_init_83 (by decide) ?_
  refine k_put F hin frX3_48 rfl rfl rfl (Nat.le_of_ble_eq_true rfl) dX3_init_84 ?_
  exact k_vret F hret hsz rfl rfl rfl dX3_init_87
def qX5 (G : Gx) (b : Nat) : List va_E := .inr (5, [.ref (b + 1), .ref (b + 2), .ref (b + 3), .ref (b + 4), .ref (b + 5), .ref (b + 6), .ref (b + 7), .ref (b + 8), .ref (b + 9), .ref (b + 10), .int 0, .int 0, .int 0, .int 0, .int 0, .int 0, .int 0, .int 0, .int 0, .int 0]) :: ([.inl (G.2.2.1, 8, .inl fun _ => 0)] ++ ([.inl (G.2.2.1, 4, .inl fun _ => 0)] ++ ([.inl (G.2.2.1, 4, .inl fun _ => 0)] ++ ([.inl (G.2.2.1, 4, .inl fun _ => 0)] ++ ([.inl (G.2.2.1, 4, .inl fun _ => 0)] ++ ([.inl (G.2.2.1, 6, .inl fun _ => 0)] ++ ([.inl (G.2.2.1, 6, .inl fun _ => 0)] ++ ([.inl (G.2.2.1, 6, .inl fun _ => 0)] ++ ([.inl (G.2.2.1, 4, .inl fun _ => 0)] ++ ((qX0 G (b + 10))))))))))))
abbrev rmX5_init : Room := { frames := 2, cells := 16, slots := 260, locals := 32 }
set_option maxRecDepth 100000 in
set_option maxHeartbeats 4000000 in
theorem kX5 (G : Gx) (l : Launch) (b : Nat) : Cn G l yX5_init cX5_init 1 rmX5_init [.ref b] b 5 (fun _ => True) (qX5 G b) 16 260 := by
  refine ctor_of (by decide +kernel) rfl (Nat.le_of_ble_eq_true rfl) fun X hl hG hL F hin hret hKp hsz => ?_
  subst hG
  subst hl
  refine k_aload_n F 0 rfl dX5_init_0 rfl ?_
  refine k_objInit F oiX5 ⟨by decide, by decide⟩ dX5_init_1 ?_
  refine k_aload_n F 0 rfl dX5_init_4 rfl ?_
  refine k_bipush F (v := 8) dX5_init_5 (by decide) ?_
  refine k_newI F acw_int (N := 8) (b := b + 1) (by decide) (by decide) (by decide) ⟨by decide, by decide⟩ rfl dX5_init_7 ?_
  refine k_put F hin frX5_9 rfl rfl rfl (Nat.le_of_ble_eq_true rfl) dX5_init_9 ?_
  refine k_aload_n F 0 rfl dX5_init_12 rfl ?_
  refine k_iconst F (v := 4) dX5_init_13 (by decide) ?_
  refine k_newI F acw_int (N := 4) (b := b + 2) (by decide) (by decide) (by decide) ⟨by decide, by decide⟩ rfl dX5_init_14 ?_
  refine k_put F hin frX5_15 rfl rfl rfl (Nat.le_of_ble_eq_true rfl) dX5_init_16 ?_
  refine k_aload_n F 0 rfl dX5_init_19 rfl ?_
  refine k_iconst F (v := 4) dX5_init_20 (by decide) ?_
  refine k_newI F acw_int (N := 4) (b := b + 3) (by decide) (by decide) (by decide) ⟨by decide, by decide⟩ rfl dX5_init_21 ?_
  refine k_put F hin frX5_18 rfl rfl rfl (Nat.le_of_ble_eq_true rfl) dX5_init_23 ?_
  refine k_aload_n F 0 rfl dX5_init_26 rfl ?_
  refine k_iconst F (v := 4) dX5_init_27 (by decide) ?_
  refine k_newI F acw_int (N := 4) (b := b + 4) (by decide) (by decide) (by decide) ⟨by decide, by decide⟩ rfl dX5_init_28 ?_
  refine k_put F hin frX5_21 rfl rfl rfl (Nat.le_of_ble_eq_true rfl) dX5_init_30 ?_
  refine k_aload_n F 0 rfl dX5_init_33 rfl ?_
  refine k_iconst F (v := 4) dX5_init_34 (by decide) ?_
  refine k_newI F acw_int (N := 4) (b := b + 5) (by decide) (by decide) (by decide) ⟨by decide, by decide⟩ rfl dX5_init_35 ?_
  refine k_put F hin frX5_24 rfl rfl rfl (Nat.le_of_ble_eq_true rfl) dX5_init_37 ?_
  refine k_aload_n F 0 rfl dX5_init_40 rfl ?_
  refine k_bipush F (v := 6) dX5_init_41 (by decide) ?_
  refine k_newI F acw_int (N := 6) (b := b + 6) (by decide) (by decide) (by decide) ⟨by decide, by decide⟩ rfl dX5_init_43 ?_
  refine k_put F hin frX5_27 rfl rfl rfl (Nat.le_of_ble_eq_true rfl) dX5_init_45 ?_
  refine k_aload_n F 0 rfl dX5_init_48 rfl ?_
  refine k_bipush F (v := 6) dX5_init_49 (by decide) ?_
  refine k_newI F acw_int (N := 6) (b := b + 7) (by decide) (by decide) (by decide) ⟨by decide, by decide⟩ rfl dX5_init_51 ?_
  refine k_put F hin frX5_30 rfl rfl rfl (Nat.le_of_ble_eq_true rfl) dX5_init_53 ?_
  refine k_aload_n F 0 rfl dX5_init_56 rfl ?_
  refine k_bipush F (v := 6) dX5_init_57 (by decide) ?_
  refine k_newI F acw_int (N := 6) (b := b + 8) (by decide) (by decide) (by decide) ⟨by decide, by decide⟩ rfl dX5_init_59 ?_
  refine k_put F hin frX5_33 rfl rfl rfl (Nat.le_of_ble_eq_true rfl) dX5_init_61 ?_
  refine k_aload_n F 0 rfl dX5_init_64 rfl ?_
  refine k_iconst F (v := 4) dX5_init_65 (by decide) ?_
  refine k_newI F acw_int (N := 4) (b := b + 9) (by decide) (by decide) (by decide) ⟨by decide, by decide⟩ rfl dX5_init_66 ?_
  refine k_put F hin frX5_36 rfl rfl rfl (Nat.le_of_ble_eq_true rfl) dX5_init_68 ?_
  refine k_aload_n F 0 rfl dX5_init_71 rfl ?_
  refine k_new F (c := 0) (b := b + 10) nwX5_39 (by decide) ⟨by decide, by decide⟩ rfl dX5_init_72 ?_
  refine k_dup F rfl dX5_init_75 ?_
  refine k_initN F ckX0 F.2.2.2.2.2.2.1.2.2.1.2.2.2.2 (kX0 (xG X) _ (b + 10)) (lasts_t _) trivial (Nat.le_of_lt hsz) rfl rfl rfl ⟨⟨rfl, rfl⟩, by decide, by decide⟩ (Nat.le_of_ble_eq_true rfl) ⟨by decide, by decide⟩ dX5_init_76 ?_
  refine k_put F hin frX5_42 rfl rfl rfl (Nat.le_of_ble_eq_true rfl) dX5_init_79 ?_
  exact k_vret F hret hsz rfl rfl rfl dX5_init_82
def qX6 (G : Gx) (b : Nat) : List va_E := .inr (6, [.ref (b + 1), .ref (b + 2), .ref (b + 3), .int 0]) :: ([.inl (G.2.2.1, 20, .inl fun _ => 0)] ++ ([.inl (G.2.2.1, 20, .inl fun _ => 0)] ++ ([.inl (G.2.2.1, 20, .inl fun _ => 0)])))
abbrev rmX6_init : Room := { frames := 1, cells := 3, slots := 60, locals := 12 }
set_option maxRecDepth 100000 in
set_option maxHeartbeats 4000000 in
theorem kX6 (G : Gx) (l : Launch) (b : Nat) : Cn G l yX6_init cX6_init 1 rmX6_init [.ref b] b 6 (fun _ => True) (qX6 G b) 3 60 := by
  refine ctor_of (by decide +kernel) rfl (Nat.le_of_ble_eq_true rfl) fun X hl hG hL F hin hret hKp hsz => ?_
  subst hG
  subst hl
  refine k_aload_n F 0 rfl dX6_init_0 rfl ?_
  refine k_objInit F oiX6 ⟨by decide, by decide⟩ dX6_init_1 ?_
  refine k_aload_n F 0 rfl dX6_init_4 rfl ?_
  refine k_bipush F (v := 20) dX6_init_5 (by decide) ?_
  refine k_newI F acw_int (N := 20) (b := b + 1) (by decide) (by decide) (by decide) ⟨by decide, by decide⟩ rfl dX6_init_7 ?_
  refine k_put F hin frX6_9 rfl rfl rfl (Nat.le_of_ble_eq_true rfl) dX6_init_9 ?_
  refine k_aload_n F 0 rfl dX6_init_12 rfl ?_
  refine k_bipush F (v := 20) dX6_init_13 (by decide) ?_
  refine k_newI F acw_int (N := 20) (b := b + 2) (by decide) (by decide) (by decide) ⟨by decide, by decide⟩ rfl dX6_init_15 ?_
  refine k_put F hin frX6_15 rfl rfl rfl (Nat.le_of_ble_eq_true rfl) dX6_init_17 ?_
  refine k_aload_n F 0 rfl dX6_init_20 rfl ?_
  refine k_bipush F (v := 20) dX6_init_21 (by decide) ?_
  refine k_newI F acw_int (N := 20) (b := b + 3) (by decide) (by decide) (by decide) ⟨by decide, by decide⟩ rfl dX6_init_23 ?_
  refine k_put F hin frX6_18 rfl rfl rfl (Nat.le_of_ble_eq_true rfl) dX6_init_25 ?_
  exact k_vret F hret hsz rfl rfl rfl dX6_init_28
