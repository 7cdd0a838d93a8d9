-- the law's walk: its closed texts
section LWalk
variable {X : Cx} {Q : State → Prop} {dg : Nat × Nat} {K V : Nat → Nat} {b L : Nat} {xs : Nat → Int32} {cN sN : Nat}
set_option maxRecDepth 100000 in
theorem seg_4 (Z : LC X dg K V b L xs) {h : Hp} (hO : okH h) (a : AQ h) (hc : cN + 10 ≤ 600086 ∧ sN + 50 ≤ 7301442) (R : ∀ g, okH g → AQ g → Wj X Q ([] ++ enc (xG X) g) (cN + 10) (sN + 50) 781 [(1, .ref (adr (xG X) 7 0 0)), (0, .ref b)] []) : Wj X Q ([] ++ enc (xG X) h) cN sN 610 [(1, .ref (adr (xG X) 7 0 0)), (0, .ref b)] [] := by
  have F := Z.1 0 (by decide)
  refine j_aload_n F 0 rfl dL_law_610 rfl ?_
  refine l_ldcS Z (i := 8) (by decide) rfl dL_law_611 ?_
  obtain ⟨by1, by2, by3⟩ := sgc_by (fun q => (xS X).heap.size ≤ q) K V (i := 8) (by decide)
  refine l_text (ex := []) (D := D4) (Z.1 8 (by decide)) jsL_63 Z.2.1 hO a by1 by2 by3 dp_4 dk_4 ⟨by decide, by decide⟩ (Nat.le_of_ble_eq_true rfl) ⟨by show cN + 0 + 10 ≤ 600086; omega, by show sN + 0 + 50 ≤ 7301442; omega⟩ dL_law_613 fun h1 hO1 s1 => ?_
  have s1 : LQ h1 D4 S4_0 X00 := s1
  refine j_bipush F (v := nI 9) dL_law_616 (by decide) ?_
  refine j_icmpne F (tgt := 779) dL_law_618 (by decide) (fun qq => absurd rfl qq) (fun _ => ?_)
  refine j_aload_n F 0 rfl dL_law_621 rfl ?_
  refine j_iconst F (v := nI 0) dL_law_622 (by decide) ?_
  refine j_iconst F (v := nI 0) dL_law_623 (by decide) ?_
  have e0 := o_source (N := NN) (by decide) s1 (nI 0) (nI 0)
  rw [v4_0] at e0
  refine j_cls (ex := []) hO1 (run_V (F.fx Z.2.1 Z.2.2.1 ⟨by show cN + 10 ≤ 600086; omega, by show sN + 50 ≤ 7301442; omega⟩) cvL_95 (o := 0) (by decide) (c_X7_source (xG X) _ NN h1 (nI 0) (nI 0)) (As := [.int (nI 0), .int (nI 0)]) rfl rfl ⟨⟨rfl, rfl⟩, by decide, by decide⟩ (Nat.le_of_ble_eq_true rfl) dL_law_624) (e := e0) (hv := rfl) fun hO2 => ?_
  clear hO2
  refine j_ifne F (tgt := 779) dL_law_627 (by decide) (fun qq => absurd rfl qq) (fun _ => ?_)
  refine j_aload_n F 0 rfl dL_law_630 rfl ?_
  refine j_iconst F (v := nI 1) dL_law_631 (by decide) ?_
  refine j_iconst F (v := nI 0) dL_law_632 (by decide) ?_
  have e1 := o_source (N := NN) (by decide) s1 (nI 1) (nI 0)
  rw [v4_1] at e1
  refine j_cls (ex := []) hO1 (run_V (F.fx Z.2.1 Z.2.2.1 ⟨by show cN + 10 ≤ 600086; omega, by show sN + 50 ≤ 7301442; omega⟩) cvL_95 (o := 0) (by decide) (c_X7_source (xG X) _ NN h1 (nI 1) (nI 0)) (As := [.int (nI 1), .int (nI 0)]) rfl rfl ⟨⟨rfl, rfl⟩, by decide, by decide⟩ (Nat.le_of_ble_eq_true rfl) dL_law_633) (e := e1) (hv := rfl) fun hO2 => ?_
  clear hO2
  refine j_iconst F (v := nI 1) dL_law_636 (by decide) ?_
  refine j_icmpne F (tgt := 779) dL_law_637 (by decide) (fun qq => absurd rfl qq) (fun _ => ?_)
  refine j_aload_n F 0 rfl dL_law_640 rfl ?_
  refine j_iconst F (v := nI 0) dL_law_641 (by decide) ?_
  refine j_bipush F (v := nI 6) dL_law_642 (by decide) ?_
  have e2 := o_croft (N := NN) (by decide) s1 (nI 0) (nI 6)
  rw [v4_2] at e2
  refine j_cls (ex := []) hO1 (run_V (F.fx Z.2.1 Z.2.2.1 ⟨by show cN + 10 ≤ 600086; omega, by show sN + 50 ≤ 7301442; omega⟩) cvL_87 (o := 0) (by decide) (c_X7_croft (xG X) _ NN h1 (nI 0) (nI 6)) (As := [.int (nI 0), .int (nI 6)]) rfl rfl ⟨⟨rfl, rfl⟩, by decide, by decide⟩ (Nat.le_of_ble_eq_true rfl) dL_law_644) (e := e2) (hv := rfl) fun hO2 => ?_
  clear hO2
  refine j_bipush F (v := nI 7) dL_law_647 (by decide) ?_
  refine j_icmpne F (tgt := 779) dL_law_649 (by decide) (fun qq => absurd rfl qq) (fun _ => ?_)
  refine j_aload_n F 0 rfl dL_law_652 rfl ?_
  refine j_iconst F (v := nI 1) dL_law_653 (by decide) ?_
  refine j_bipush F (v := nI 6) dL_law_654 (by decide) ?_
  have e3 := o_croft (N := NN) (by decide) s1 (nI 1) (nI 6)
  rw [v4_3] at e3
  refine j_cls (ex := []) hO1 (run_V (F.fx Z.2.1 Z.2.2.1 ⟨by show cN + 10 ≤ 600086; omega, by show sN + 50 ≤ 7301442; omega⟩) cvL_87 (o := 0) (by decide) (c_X7_croft (xG X) _ NN h1 (nI 1) (nI 6)) (As := [.int (nI 1), .int (nI 6)]) rfl rfl ⟨⟨rfl, rfl⟩, by decide, by decide⟩ (Nat.le_of_ble_eq_true rfl) dL_law_656) (e := e3) (hv := rfl) fun hO2 => ?_
  clear hO2
  refine j_bipush F (v := nI 9) dL_law_659 (by decide) ?_
  refine j_icmpne F (tgt := 779) dL_law_661 (by decide) (fun qq => absurd rfl qq) (fun _ => ?_)
  refine j_aload_n F 0 rfl dL_law_664 rfl ?_
  obtain ⟨h2, e4, s2⟩ := o_unlike (N := NN) (by decide) s1 
  rw [v4_4] at e4
  refine j_cls (ex := []) hO1 (run_V (F.fx Z.2.1 Z.2.2.1 ⟨by show cN + 10 ≤ 600086; omega, by show sN + 50 ≤ 7301442; omega⟩) cvL_104 (o := 0) (by decide) (c_X7_unlike (xG X) _ NN h1 ) (As := []) rfl rfl ⟨⟨rfl, rfl⟩, by decide, by decide⟩ (Nat.le_of_ble_eq_true rfl) dL_law_665) (e := e4) (hv := rfl) fun hO2 => ?_
  refine j_iconst F (v := nI 2) dL_law_668 (by decide) ?_
  refine j_icmpne F (tgt := 779) dL_law_669 (by decide) (fun qq => absurd rfl qq) (fun _ => ?_)
  refine j_aload_n F 0 rfl dL_law_672 rfl ?_
  refine j_iconst F (v := nI 1) dL_law_673 (by decide) ?_
  obtain ⟨h3, e5, s3⟩ := o_go (N := NN) (by decide) s2 (nI 1)
  rw [v4_5] at e5
  have s3 : LQ h3 D4 S4_1 X00 := s3
  refine j_cls (ex := []) hO2 (run_V (F.fx Z.2.1 Z.2.2.1 ⟨by show cN + 10 ≤ 600086; omega, by show sN + 50 ≤ 7301442; omega⟩) cvL_78 (o := 0) (by decide) (c_X7_go (xG X) _ NN h2 (nI 1)) (As := [.int (nI 1)]) rfl rfl ⟨⟨rfl, rfl⟩, by decide, by decide⟩ (Nat.le_of_ble_eq_true rfl) dL_law_674) (e := e5) (hv := rfl) fun hO3 => ?_
  refine j_iconst F (v := nI 1) dL_law_677 (by decide) ?_
  refine j_icmpne F (tgt := 779) dL_law_678 (by decide) (fun qq => absurd rfl qq) (fun _ => ?_)
  refine j_aload_n F 0 rfl dL_law_681 rfl ?_
  refine j_iconst F (v := nI 0) dL_law_682 (by decide) ?_
  refine j_iconst F (v := nI 0) dL_law_683 (by decide) ?_
  have e6 := o_stripe s3 (i := 0) (by decide)
  rw [v4_6] at e6
  refine j_cls (ex := []) hO3 (run_V (F.fx Z.2.1 Z.2.2.1 ⟨by show cN + 10 ≤ 600086; omega, by show sN + 50 ≤ 7301442; omega⟩) cvL_81 (o := 0) (by decide) (c_X7_stripe (xG X) _ h3 (nI 0) (nI 0)) (As := [.int (nI 0), .int (nI 0)]) rfl rfl ⟨⟨rfl, rfl⟩, by decide, by decide⟩ (Nat.le_of_ble_eq_true rfl) dL_law_684) (e := e6) (hv := rfl) fun hO4 => ?_
  clear hO4
  refine j_ifne F (tgt := 779) dL_law_687 (by decide) (fun qq => absurd rfl qq) (fun _ => ?_)
  refine j_aload_n F 0 rfl dL_law_690 rfl ?_
  refine j_iconst F (v := nI 1) dL_law_691 (by decide) ?_
  refine j_iconst F (v := nI 0) dL_law_692 (by decide) ?_
  have e7 := o_stripe s3 (i := 1) (by decide)
  rw [v4_7] at e7
  refine j_cls (ex := []) hO3 (run_V (F.fx Z.2.1 Z.2.2.1 ⟨by show cN + 10 ≤ 600086; omega, by show sN + 50 ≤ 7301442; omega⟩) cvL_81 (o := 0) (by decide) (c_X7_stripe (xG X) _ h3 (nI 1) (nI 0)) (As := [.int (nI 1), .int (nI 0)]) rfl rfl ⟨⟨rfl, rfl⟩, by decide, by decide⟩ (Nat.le_of_ble_eq_true rfl) dL_law_693) (e := e7) (hv := rfl) fun hO4 => ?_
  clear hO4
  refine j_iconst F (v := nI 4) dL_law_696 (by decide) ?_
  refine j_icmpne F (tgt := 779) dL_law_697 (by decide) (fun qq => absurd rfl qq) (fun _ => ?_)
  refine j_aload_n F 0 rfl dL_law_700 rfl ?_
  refine j_iconst F (v := nI 0) dL_law_701 (by decide) ?_
  refine j_iconst F (v := nI 0) dL_law_702 (by decide) ?_
  have e8 := o_source (N := NN) (by decide) s3 (nI 0) (nI 0)
  rw [v4_8] at e8
  refine j_cls (ex := []) hO3 (run_V (F.fx Z.2.1 Z.2.2.1 ⟨by show cN + 10 ≤ 600086; omega, by show sN + 50 ≤ 7301442; omega⟩) cvL_95 (o := 0) (by decide) (c_X7_source (xG X) _ NN h3 (nI 0) (nI 0)) (As := [.int (nI 0), .int (nI 0)]) rfl rfl ⟨⟨rfl, rfl⟩, by decide, by decide⟩ (Nat.le_of_ble_eq_true rfl) dL_law_703) (e := e8) (hv := rfl) fun hO4 => ?_
  clear hO4
  refine j_iconst F (v := nI 2) dL_law_706 (by decide) ?_
  refine j_icmpne F (tgt := 779) dL_law_707 (by decide) (fun qq => absurd rfl qq) (fun _ => ?_)
  refine j_aload_n F 0 rfl dL_law_710 rfl ?_
  refine j_iconst F (v := nI 0) dL_law_711 (by decide) ?_
  refine j_iconst F (v := nI 1) dL_law_712 (by decide) ?_
  have e9 := o_source (N := NN) (by decide) s3 (nI 0) (nI 1)
  rw [v4_9] at e9
  refine j_cls (ex := []) hO3 (run_V (F.fx Z.2.1 Z.2.2.1 ⟨by show cN + 10 ≤ 600086; omega, by show sN + 50 ≤ 7301442; omega⟩) cvL_95 (o := 0) (by decide) (c_X7_source (xG X) _ NN h3 (nI 0) (nI 1)) (As := [.int (nI 0), .int (nI 1)]) rfl rfl ⟨⟨rfl, rfl⟩, by decide, by decide⟩ (Nat.le_of_ble_eq_true rfl) dL_law_713) (e := e9) (hv := rfl) fun hO4 => ?_
  clear hO4
  refine j_iconst F (v := nI 2) dL_law_716 (by decide) ?_
  refine j_icmpne F (tgt := 779) dL_law_717 (by decide) (fun qq => absurd rfl qq) (fun _ => ?_)
  refine j_aload_n F 0 rfl dL_law_720 rfl ?_
  refine j_iconst F (v := nI 1) dL_law_721 (by decide) ?_
  obtain ⟨h4, e10, s4⟩ := o_go (N := NN) (by decide) s3 (nI 1)
  rw [v4_10] at e10
  have s4 : LQ h4 D4 S4_2 X00 := s4
  refine j_cls (ex := []) hO3 (run_V (F.fx Z.2.1 Z.2.2.1 ⟨by show cN + 10 ≤ 600086; omega, by show sN + 50 ≤ 7301442; omega⟩) cvL_78 (o := 0) (by decide) (c_X7_go (xG X) _ NN h3 (nI 1)) (As := [.int (nI 1)]) rfl rfl ⟨⟨rfl, rfl⟩, by decide, by decide⟩ (Nat.le_of_ble_eq_true rfl) dL_law_722) (e := e10) (hv := rfl) fun hO4 => ?_
  refine j_iconst F (v := nI 2) dL_law_725 (by decide) ?_
  refine j_icmpne F (tgt := 779) dL_law_726 (by decide) (fun qq => absurd rfl qq) (fun _ => ?_)
  refine j_aload_n F 0 rfl dL_law_729 rfl ?_
  refine j_iconst F (v := nI 2) dL_law_730 (by decide) ?_
  refine j_iconst F (v := nI 0) dL_law_731 (by decide) ?_
  have e11 := o_stripe s4 (i := 2) (by decide)
  rw [v4_11] at e11
  refine j_cls (ex := []) hO4 (run_V (F.fx Z.2.1 Z.2.2.1 ⟨by show cN + 10 ≤ 600086; omega, by show sN + 50 ≤ 7301442; omega⟩) cvL_81 (o := 0) (by decide) (c_X7_stripe (xG X) _ h4 (nI 2) (nI 0)) (As := [.int (nI 2), .int (nI 0)]) rfl rfl ⟨⟨rfl, rfl⟩, by decide, by decide⟩ (Nat.le_of_ble_eq_true rfl) dL_law_732) (e := e11) (hv := rfl) fun hO5 => ?_
  clear hO5
  refine j_ifne F (tgt := 779) dL_law_735 (by decide) (fun qq => absurd rfl qq) (fun _ => ?_)
  refine j_aload_n F 0 rfl dL_law_738 rfl ?_
  refine j_iconst F (v := nI 0) dL_law_739 (by decide) ?_
  refine j_iconst F (v := nI 0) dL_law_740 (by decide) ?_
  have e12 := o_source (N := NN) (by decide) s4 (nI 0) (nI 0)
  rw [v4_12] at e12
  refine j_cls (ex := []) hO4 (run_V (F.fx Z.2.1 Z.2.2.1 ⟨by show cN + 10 ≤ 600086; omega, by show sN + 50 ≤ 7301442; omega⟩) cvL_95 (o := 0) (by decide) (c_X7_source (xG X) _ NN h4 (nI 0) (nI 0)) (As := [.int (nI 0), .int (nI 0)]) rfl rfl ⟨⟨rfl, rfl⟩, by decide, by decide⟩ (Nat.le_of_ble_eq_true rfl) dL_law_741) (e := e12) (hv := rfl) fun hO5 => ?_
  clear hO5
  refine j_bipush F (v := (-3)) dL_law_744 (by decide) ?_
  refine j_icmpne F (tgt := 779) dL_law_746 (by decide) (fun qq => absurd rfl qq) (fun _ => ?_)
  refine j_aload_n F 0 rfl dL_law_749 rfl ?_
  refine j_iconst F (v := nI 0) dL_law_750 (by decide) ?_
  refine j_iconst F (v := nI 1) dL_law_751 (by decide) ?_
  have e13 := o_source (N := NN) (by decide) s4 (nI 0) (nI 1)
  rw [v4_13] at e13
  refine j_cls (ex := []) hO4 (run_V (F.fx Z.2.1 Z.2.2.1 ⟨by show cN + 10 ≤ 600086; omega, by show sN + 50 ≤ 7301442; omega⟩) cvL_95 (o := 0) (by decide) (c_X7_source (xG X) _ NN h4 (nI 0) (nI 1)) (As := [.int (nI 0), .int (nI 1)]) rfl rfl ⟨⟨rfl, rfl⟩, by decide, by decide⟩ (Nat.le_of_ble_eq_true rfl) dL_law_752) (e := e13) (hv := rfl) fun hO5 => ?_
  clear hO5
  refine j_bipush F (v := (-2)) dL_law_755 (by decide) ?_
  refine j_icmpne F (tgt := 779) dL_law_757 (by decide) (fun qq => absurd rfl qq) (fun _ => ?_)
  refine j_aload_n F 0 rfl dL_law_760 rfl ?_
  refine j_iconst F (v := nI 0) dL_law_761 (by decide) ?_
  obtain ⟨h5, e14, s5⟩ := o_rule s4 (nI 0)
  rw [v4_14] at e14 s5
  rw [if_pos rfl] at s5
  have s5 : LQ h5 D4 S4_3 X00 := s5
  refine j_cls (ex := []) hO4 (run_V (F.fx Z.2.1 Z.2.2.1 ⟨by show cN + 10 ≤ 600086; omega, by show sN + 50 ≤ 7301442; omega⟩) cvL_107 (o := 0) (by decide) (c_X7_rule (xG X) _ h4 (nI 0)) (As := [.int (nI 0)]) rfl rfl ⟨⟨rfl, rfl⟩, by decide, by decide⟩ (Nat.le_of_ble_eq_true rfl) dL_law_762) (e := e14) (hv := rfl) fun hO5 => ?_
  refine j_ifeq F (tgt := 779) dL_law_765 (by decide) (fun qq => absurd qq (show ¬ b2i true = 0 by decide)) (fun _ => ?_)
  refine j_aload_n F 0 rfl dL_law_768 rfl ?_
  refine j_iconst F (v := nI 0) dL_law_769 (by decide) ?_
  refine j_iconst F (v := nI 0) dL_law_770 (by decide) ?_
  have e15 := o_source (N := NN) (by decide) s5 (nI 0) (nI 0)
  rw [v4_15] at e15
  refine j_cls (ex := []) hO5 (run_V (F.fx Z.2.1 Z.2.2.1 ⟨by show cN + 10 ≤ 600086; omega, by show sN + 50 ≤ 7301442; omega⟩) cvL_95 (o := 0) (by decide) (c_X7_source (xG X) _ NN h5 (nI 0) (nI 0)) (As := [.int (nI 0), .int (nI 0)]) rfl rfl ⟨⟨rfl, rfl⟩, by decide, by decide⟩ (Nat.le_of_ble_eq_true rfl) dL_law_771) (e := e15) (hv := rfl) fun hO6 => ?_
  clear hO6
  refine j_bipush F (v := (-3)) dL_law_774 (by decide) ?_
  refine j_icmpeq F (tgt := 781) dL_law_776 (by decide) (fun _ => ?_) (fun qq => absurd rfl qq)
  exact R h5 hO5 s5.aq
set_option maxRecDepth 100000 in
theorem seg_5 (Z : LC X dg K V b L xs) {h : Hp} (hO : okH h) (a : AQ h) (hc : cN + 10 ≤ 600086 ∧ sN + 50 ≤ 7301442) (R : ∀ g, okH g → AQ g → Wj X Q ([] ++ enc (xG X) g) (cN + 10) (sN + 50) 886 [(1, .ref (adr (xG X) 7 0 0)), (0, .ref b)] []) : Wj X Q ([] ++ enc (xG X) h) cN sN 781 [(1, .ref (adr (xG X) 7 0 0)), (0, .ref b)] [] := by
  have F := Z.1 0 (by decide)
  refine j_aload_n F 0 rfl dL_law_781 rfl ?_
  refine l_ldcS Z (i := 9) (by decide) rfl dL_law_782 ?_
  obtain ⟨by1, by2, by3⟩ := sgc_by (fun q => (xS X).heap.size ≤ q) K V (i := 9) (by decide)
  refine l_text (ex := []) (D := D5) (Z.1 9 (by decide)) jsL_63 Z.2.1 hO a by1 by2 by3 dp_5 dk_5 ⟨by decide, by decide⟩ (Nat.le_of_ble_eq_true rfl) ⟨by show cN + 0 + 10 ≤ 600086; omega, by show sN + 0 + 50 ≤ 7301442; omega⟩ dL_law_784 fun h1 hO1 s1 => ?_
  have s1 : LQ h1 D5 S5_0 X00 := s1
  refine j_bipush F (v := nI 6) dL_law_787 (by decide) ?_
  refine j_icmpne F (tgt := 884) dL_law_789 (by decide) (fun qq => absurd rfl qq) (fun _ => ?_)
  refine j_aload_n F 0 rfl dL_law_792 rfl ?_
  obtain ⟨h2, e0, s2⟩ := o_unlike (N := NN) (by decide) s1 
  rw [v5_0] at e0
  refine j_cls (ex := []) hO1 (run_V (F.fx Z.2.1 Z.2.2.1 ⟨by show cN + 10 ≤ 600086; omega, by show sN + 50 ≤ 7301442; omega⟩) cvL_104 (o := 0) (by decide) (c_X7_unlike (xG X) _ NN h1 ) (As := []) rfl rfl ⟨⟨rfl, rfl⟩, by decide, by decide⟩ (Nat.le_of_ble_eq_true rfl) dL_law_793) (e := e0) (hv := rfl) fun hO2 => ?_
  refine j_bipush F (v := nI 8) dL_law_796 (by decide) ?_
  refine j_icmpne F (tgt := 884) dL_law_798 (by decide) (fun qq => absurd rfl qq) (fun _ => ?_)
  refine j_aload_n F 0 rfl dL_law_801 rfl ?_
  refine j_iconst F (v := nI 0) dL_law_802 (by decide) ?_
  obtain ⟨h3, e1, s3⟩ := o_swap (N := NN) (by decide) s2 hS5_0 (nI 0)
  rw [v5_1] at e1
  refine j_cls (ex := []) hO2 (run_V (F.fx Z.2.1 Z.2.2.1 ⟨by show cN + 10 ≤ 600086; omega, by show sN + 50 ≤ 7301442; omega⟩) cvL_113 (o := 0) (by decide) (c_X7_swap (xG X) _ NN h2 (nI 0)) (As := [.int (nI 0)]) rfl rfl ⟨⟨rfl, rfl⟩, by decide, by decide⟩ (Nat.le_of_ble_eq_true rfl) dL_law_803) (e := e1) (hv := rfl) fun hO3 => ?_
  refine j_ifne F (tgt := 884) dL_law_806 (by decide) (fun qq => absurd rfl qq) (fun _ => ?_)
  refine j_aload_n F 0 rfl dL_law_809 rfl ?_
  refine j_iconst F (v := nI 1) dL_law_810 (by decide) ?_
  obtain ⟨h4, e2, s4⟩ := o_swap (N := NN) (by decide) s3 hS5_0 (nI 1)
  rw [v5_2] at e2
  refine j_cls (ex := []) hO3 (run_V (F.fx Z.2.1 Z.2.2.1 ⟨by show cN + 10 ≤ 600086; omega, by show sN + 50 ≤ 7301442; omega⟩) cvL_113 (o := 0) (by decide) (c_X7_swap (xG X) _ NN h3 (nI 1)) (As := [.int (nI 1)]) rfl rfl ⟨⟨rfl, rfl⟩, by decide, by decide⟩ (Nat.le_of_ble_eq_true rfl) dL_law_811) (e := e2) (hv := rfl) fun hO4 => ?_
  refine j_iconst F (v := nI 3) dL_law_814 (by decide) ?_
  refine j_icmpne F (tgt := 884) dL_law_815 (by decide) (fun qq => absurd rfl qq) (fun _ => ?_)
  refine j_aload_n F 0 rfl dL_law_818 rfl ?_
  refine j_iconst F (v := nI 2) dL_law_819 (by decide) ?_
  obtain ⟨h5, e3, s5⟩ := o_swap (N := NN) (by decide) s4 hS5_0 (nI 2)
  rw [v5_3] at e3
  refine j_cls (ex := []) hO4 (run_V (F.fx Z.2.1 Z.2.2.1 ⟨by show cN + 10 ≤ 600086; omega, by show sN + 50 ≤ 7301442; omega⟩) cvL_113 (o := 0) (by decide) (c_X7_swap (xG X) _ NN h4 (nI 2)) (As := [.int (nI 2)]) rfl rfl ⟨⟨rfl, rfl⟩, by decide, by decide⟩ (Nat.le_of_ble_eq_true rfl) dL_law_820) (e := e3) (hv := rfl) fun hO5 => ?_
  refine j_bipush F (v := nI 6) dL_law_823 (by decide) ?_
  refine j_icmpne F (tgt := 884) dL_law_825 (by decide) (fun qq => absurd rfl qq) (fun _ => ?_)
  refine j_aload_n F 0 rfl dL_law_828 rfl ?_
  refine j_iconst F (v := nI 0) dL_law_829 (by decide) ?_
  refine j_iconst F (v := nI 1) dL_law_830 (by decide) ?_
  obtain ⟨h6, e4, s6⟩ := o_lot s5 (nI 0) (nI 1)
  rw [v5_4] at e4 s6
  rw [if_pos rfl, clN (a := 0) (by omega)] at s6
  have s6 : LQ h6 D5 S5_1 X00 := s6
  refine j_cls (ex := []) hO5 (run_V (F.fx Z.2.1 Z.2.2.1 ⟨by show cN + 10 ≤ 600086; omega, by show sN + 50 ≤ 7301442; omega⟩) cvL_116 (o := 0) (by decide) (c_X7_lot (xG X) _ h5 (nI 0) (nI 1)) (As := [.int (nI 0), .int (nI 1)]) rfl rfl ⟨⟨rfl, rfl⟩, by decide, by decide⟩ (Nat.le_of_ble_eq_true rfl) dL_law_831) (e := e4) (hv := rfl) fun hO6 => ?_
  refine j_ifeq F (tgt := 884) dL_law_834 (by decide) (fun qq => absurd qq (show ¬ b2i true = 0 by decide)) (fun _ => ?_)
  refine j_aload_n F 0 rfl dL_law_837 rfl ?_
  refine j_iconst F (v := nI 1) dL_law_838 (by decide) ?_
  refine j_bipush F (v := nI 6) dL_law_839 (by decide) ?_
  have e5 := o_croft (N := NN) (by decide) s6 (nI 1) (nI 6)
  rw [v5_5] at e5
  refine j_cls (ex := []) hO6 (run_V (F.fx Z.2.1 Z.2.2.1 ⟨by show cN + 10 ≤ 600086; omega, by show sN + 50 ≤ 7301442; omega⟩) cvL_87 (o := 0) (by decide) (c_X7_croft (xG X) _ NN h6 (nI 1) (nI 6)) (As := [.int (nI 1), .int (nI 6)]) rfl rfl ⟨⟨rfl, rfl⟩, by decide, by decide⟩ (Nat.le_of_ble_eq_true rfl) dL_law_841) (e := e5) (hv := rfl) fun hO7 => ?_
  clear hO7
  refine j_bipush F (v := nI 14) dL_law_844 (by decide) ?_
  refine j_icmpne F (tgt := 884) dL_law_846 (by decide) (fun qq => absurd rfl qq) (fun _ => ?_)
  refine j_aload_n F 0 rfl dL_law_849 rfl ?_
  obtain ⟨h7, e6, s7⟩ := o_unlike (N := NN) (by decide) s6 
  rw [v5_6] at e6
  refine j_cls (ex := []) hO6 (run_V (F.fx Z.2.1 Z.2.2.1 ⟨by show cN + 10 ≤ 600086; omega, by show sN + 50 ≤ 7301442; omega⟩) cvL_104 (o := 0) (by decide) (c_X7_unlike (xG X) _ NN h6 ) (As := []) rfl rfl ⟨⟨rfl, rfl⟩, by decide, by decide⟩ (Nat.le_of_ble_eq_true rfl) dL_law_850) (e := e6) (hv := rfl) fun hO7 => ?_
  refine j_bipush F (v := nI 12) dL_law_853 (by decide) ?_
  refine j_icmpne F (tgt := 884) dL_law_855 (by decide) (fun qq => absurd rfl qq) (fun _ => ?_)
  refine j_aload_n F 0 rfl dL_law_858 rfl ?_
  refine j_iconst F (v := nI 0) dL_law_859 (by decide) ?_
  obtain ⟨h8, e7, s8⟩ := o_swap (N := NN) (by decide) s7 hS5_1 (nI 0)
  rw [v5_7] at e7
  refine j_cls (ex := []) hO7 (run_V (F.fx Z.2.1 Z.2.2.1 ⟨by show cN + 10 ≤ 600086; omega, by show sN + 50 ≤ 7301442; omega⟩) cvL_113 (o := 0) (by decide) (c_X7_swap (xG X) _ NN h7 (nI 0)) (As := [.int (nI 0)]) rfl rfl ⟨⟨rfl, rfl⟩, by decide, by decide⟩ (Nat.le_of_ble_eq_true rfl) dL_law_860) (e := e7) (hv := rfl) fun hO8 => ?_
  refine j_ifne F (tgt := 884) dL_law_863 (by decide) (fun qq => absurd rfl qq) (fun _ => ?_)
  refine j_aload_n F 0 rfl dL_law_866 rfl ?_
  refine j_iconst F (v := nI 1) dL_law_867 (by decide) ?_
  obtain ⟨h9, e8, s9⟩ := o_swap (N := NN) (by decide) s8 hS5_1 (nI 1)
  rw [v5_8] at e8
  refine j_cls (ex := []) hO8 (run_V (F.fx Z.2.1 Z.2.2.1 ⟨by show cN + 10 ≤ 600086; omega, by show sN + 50 ≤ 7301442; omega⟩) cvL_113 (o := 0) (by decide) (c_X7_swap (xG X) _ NN h8 (nI 1)) (As := [.int (nI 1)]) rfl rfl ⟨⟨rfl, rfl⟩, by decide, by decide⟩ (Nat.le_of_ble_eq_true rfl) dL_law_868) (e := e8) (hv := rfl) fun hO9 => ?_
  refine j_iconst F (v := nI 2) dL_law_871 (by decide) ?_
  refine j_icmpne F (tgt := 884) dL_law_872 (by decide) (fun qq => absurd rfl qq) (fun _ => ?_)
  refine j_aload_n F 0 rfl dL_law_875 rfl ?_
  refine j_iconst F (v := nI 2) dL_law_876 (by decide) ?_
  obtain ⟨h10, e9, s10⟩ := o_swap (N := NN) (by decide) s9 hS5_1 (nI 2)
  rw [v5_9] at e9
  refine j_cls (ex := []) hO9 (run_V (F.fx Z.2.1 Z.2.2.1 ⟨by show cN + 10 ≤ 600086; omega, by show sN + 50 ≤ 7301442; omega⟩) cvL_113 (o := 0) (by decide) (c_X7_swap (xG X) _ NN h9 (nI 2)) (As := [.int (nI 2)]) rfl rfl ⟨⟨rfl, rfl⟩, by decide, by decide⟩ (Nat.le_of_ble_eq_true rfl) dL_law_877) (e := e9) (hv := rfl) fun hO10 => ?_
  refine j_iconst F (v := nI 4) dL_law_880 (by decide) ?_
  refine j_icmpeq F (tgt := 886) dL_law_881 (by decide) (fun _ => ?_) (fun qq => absurd rfl qq)
  exact R h10 hO10 s10.aq
set_option maxRecDepth 100000 in
theorem seg_6 (Z : LC X dg K V b L xs) {h : Hp} (hO : okH h) (a : AQ h) (hc : cN + 10 ≤ 600086 ∧ sN + 50 ≤ 7301442) (R : ∀ g, okH g → AQ g → Wj X Q ([] ++ enc (xG X) g) (cN + 10) (sN + 50) 1029 [(1, .ref (adr (xG X) 7 0 0)), (0, .ref b)] []) : Wj X Q ([] ++ enc (xG X) h) cN sN 886 [(1, .ref (adr (xG X) 7 0 0)), (0, .ref b)] [] := by
  have F := Z.1 0 (by decide)
  refine j_aload_n F 0 rfl dL_law_886 rfl ?_
  refine l_ldcS Z (i := 10) (by decide) rfl dL_law_887 ?_
  obtain ⟨by1, by2, by3⟩ := sgc_by (fun q => (xS X).heap.size ≤ q) K V (i := 10) (by decide)
  refine l_text (ex := []) (D := D6) (Z.1 10 (by decide)) jsL_63 Z.2.1 hO a by1 by2 by3 dp_6 dk_6 ⟨by decide, by decide⟩ (Nat.le_of_ble_eq_true rfl) ⟨by show cN + 0 + 10 ≤ 600086; omega, by show sN + 0 + 50 ≤ 7301442; omega⟩ dL_law_889 fun h1 hO1 s1 => ?_
  have s1 : LQ h1 D6 S6_0 X00 := s1
  refine j_iconst F (v := nI 3) dL_law_892 (by decide) ?_
  refine j_icmpne F (tgt := 1027) dL_law_893 (by decide) (fun qq => absurd rfl qq) (fun _ => ?_)
  refine j_aload_n F 0 rfl dL_law_896 rfl ?_
  refine j_iconst F (v := nI 0) dL_law_897 (by decide) ?_
  refine j_iconst F (v := nI 3) dL_law_898 (by decide) ?_
  obtain ⟨h2, e0, s2⟩ := o_plan (N := NN) (by decide) s1 hS6_0 kS6_0.1 (Int.le_trans kS6_0.2 (by decide)) (nI 0) (nI 3)
  rw [v6_0] at e0
  refine j_cls (ex := []) hO1 (run_V (F.fx Z.2.1 Z.2.2.1 ⟨by show cN + 10 ≤ 600086; omega, by show sN + 50 ≤ 7301442; omega⟩) cvL_122 (o := 0) (by decide) (c_X7_plan (xG X) _ NN h1 (nI 0) (nI 3)) (As := [.int (nI 0), .int (nI 3)]) rfl rfl ⟨⟨rfl, rfl⟩, by decide, by decide⟩ (Nat.le_of_ble_eq_true rfl) dL_law_899) (e := e0) (hv := rfl) fun hO2 => ?_
  refine j_sipush F (v := nI 600) dL_law_902 (by decide) ?_
  refine j_icmpne F (tgt := 1027) dL_law_905 (by decide) (fun qq => absurd rfl qq) (fun _ => ?_)
  refine j_aload_n F 0 rfl dL_law_908 rfl ?_
  refine j_iconst F (v := nI 0) dL_law_909 (by decide) ?_
  refine j_iconst F (v := nI 3) dL_law_910 (by decide) ?_
  refine j_iconst F (v := nI 0) dL_law_911 (by decide) ?_
  obtain ⟨h3, e1, s3⟩ := o_planned (N := NN) (by decide) s2 hS6_0 kS6_0.1 (Int.le_trans kS6_0.2 (by decide)) (nI 0) (nI 3) (nI 0)
  rw [v6_1] at e1
  refine j_cls (ex := []) hO2 (run_V (F.fx Z.2.1 Z.2.2.1 ⟨by show cN + 10 ≤ 600086; omega, by show sN + 50 ≤ 7301442; omega⟩) cvL_125 (o := 0) (by decide) (c_X7_planned (xG X) _ NN h2 (nI 0) (nI 3) (nI 0)) (As := [.int (nI 0), .int (nI 3), .int (nI 0)]) rfl rfl ⟨⟨rfl, rfl⟩, by decide, by decide⟩ (Nat.le_of_ble_eq_true rfl) dL_law_912) (e := e1) (hv := rfl) fun hO3 => ?_
  refine j_iconst F (v := nI 1) dL_law_915 (by decide) ?_
  refine j_icmpne F (tgt := 1027) dL_law_916 (by decide) (fun qq => absurd rfl qq) (fun _ => ?_)
  refine j_aload_n F 0 rfl dL_law_919 rfl ?_
  refine j_iconst F (v := nI 0) dL_law_920 (by decide) ?_
  refine j_iconst F (v := nI 3) dL_law_921 (by decide) ?_
  refine j_iconst F (v := nI 2) dL_law_922 (by decide) ?_
  obtain ⟨h4, e2, s4⟩ := o_planned (N := NN) (by decide) s3 hS6_0 kS6_0.1 (Int.le_trans kS6_0.2 (by decide)) (nI 0) (nI 3) (nI 2)
  rw [v6_2] at e2
  refine j_cls (ex := []) hO3 (run_V (F.fx Z.2.1 Z.2.2.1 ⟨by show cN + 10 ≤ 600086; omega, by show sN + 50 ≤ 7301442; omega⟩) cvL_125 (o := 0) (by decide) (c_X7_planned (xG X) _ NN h3 (nI 0) (nI 3) (nI 2)) (As := [.int (nI 0), .int (nI 3), .int (nI 2)]) rfl rfl ⟨⟨rfl, rfl⟩, by decide, by decide⟩ (Nat.le_of_ble_eq_true rfl) dL_law_923) (e := e2) (hv := rfl) fun hO4 => ?_
  refine j_iconst F (v := nI 1) dL_law_926 (by decide) ?_
  refine j_icmpne F (tgt := 1027) dL_law_927 (by decide) (fun qq => absurd rfl qq) (fun _ => ?_)
  refine j_aload_n F 0 rfl dL_law_930 rfl ?_
  refine j_iconst F (v := nI 0) dL_law_931 (by decide) ?_
  refine j_iconst F (v := nI 5) dL_law_932 (by decide) ?_
  obtain ⟨h5, e3, s5⟩ := o_plan (N := NN) (by decide) s4 hS6_0 kS6_0.1 (Int.le_trans kS6_0.2 (by decide)) (nI 0) (nI 5)
  rw [v6_3] at e3
  refine j_cls (ex := []) hO4 (run_V (F.fx Z.2.1 Z.2.2.1 ⟨by show cN + 10 ≤ 600086; omega, by show sN + 50 ≤ 7301442; omega⟩) cvL_122 (o := 0) (by decide) (c_X7_plan (xG X) _ NN h4 (nI 0) (nI 5)) (As := [.int (nI 0), .int (nI 5)]) rfl rfl ⟨⟨rfl, rfl⟩, by decide, by decide⟩ (Nat.le_of_ble_eq_true rfl) dL_law_933) (e := e3) (hv := rfl) fun hO5 => ?_
  refine j_sipush F (v := nI 600) dL_law_936 (by decide) ?_
  refine j_icmpne F (tgt := 1027) dL_law_939 (by decide) (fun qq => absurd rfl qq) (fun _ => ?_)
  refine j_aload_n F 0 rfl dL_law_942 rfl ?_
  refine j_iconst F (v := nI 0) dL_law_943 (by decide) ?_
  refine j_iconst F (v := nI 5) dL_law_944 (by decide) ?_
  refine j_iconst F (v := nI 4) dL_law_945 (by decide) ?_
  obtain ⟨h6, e4, s6⟩ := o_planned (N := NN) (by decide) s5 hS6_0 kS6_0.1 (Int.le_trans kS6_0.2 (by decide)) (nI 0) (nI 5) (nI 4)
  rw [v6_4] at e4
  refine j_cls (ex := []) hO5 (run_V (F.fx Z.2.1 Z.2.2.1 ⟨by show cN + 10 ≤ 600086; omega, by show sN + 50 ≤ 7301442; omega⟩) cvL_125 (o := 0) (by decide) (c_X7_planned (xG X) _ NN h5 (nI 0) (nI 5) (nI 4)) (As := [.int (nI 0), .int (nI 5), .int (nI 4)]) rfl rfl ⟨⟨rfl, rfl⟩, by decide, by decide⟩ (Nat.le_of_ble_eq_true rfl) dL_law_946) (e := e4) (hv := rfl) fun hO6 => ?_
  refine j_iconst F (v := nI 1) dL_law_949 (by decide) ?_
  refine j_icmpne F (tgt := 1027) dL_law_950 (by decide) (fun qq => absurd rfl qq) (fun _ => ?_)
  refine j_aload_n F 0 rfl dL_law_953 rfl ?_
  refine j_iconst F (v := nI 0) dL_law_954 (by decide) ?_
  refine j_iconst F (v := nI 5) dL_law_955 (by decide) ?_
  refine j_iconst F (v := nI 5) dL_law_956 (by decide) ?_
  obtain ⟨h7, e5, s7⟩ := o_planned (N := NN) (by decide) s6 hS6_0 kS6_0.1 (Int.le_trans kS6_0.2 (by decide)) (nI 0) (nI 5) (nI 5)
  rw [v6_5] at e5
  refine j_cls (ex := []) hO6 (run_V (F.fx Z.2.1 Z.2.2.1 ⟨by show cN + 10 ≤ 600086; omega, by show sN + 50 ≤ 7301442; omega⟩) cvL_125 (o := 0) (by decide) (c_X7_planned (xG X) _ NN h6 (nI 0) (nI 5) (nI 5)) (As := [.int (nI 0), .int (nI 5), .int (nI 5)]) rfl rfl ⟨⟨rfl, rfl⟩, by decide, by decide⟩ (Nat.le_of_ble_eq_true rfl) dL_law_957) (e := e5) (hv := rfl) fun hO7 => ?_
  refine j_bipush F (v := (-2)) dL_law_960 (by decide) ?_
  refine j_icmpne F (tgt := 1027) dL_law_962 (by decide) (fun qq => absurd rfl qq) (fun _ => ?_)
  refine j_aload_n F 0 rfl dL_law_965 rfl ?_
  refine j_iconst F (v := nI 0) dL_law_966 (by decide) ?_
  refine j_iconst F (v := nI 3) dL_law_967 (by decide) ?_
  obtain ⟨h8, e6, s8⟩ := o_act s7 (nI 0) (nI 3)
  rw [v6_6] at e6 s8
  rw [if_pos rfl, clN (a := 0) (by omega)] at s8
  have s8 : LQ h8 D6 S6_1 X00 := s8
  refine j_cls (ex := []) hO7 (run_V (F.fx Z.2.1 Z.2.2.1 ⟨by show cN + 10 ≤ 600086; omega, by show sN + 50 ≤ 7301442; omega⟩) cvL_128 (o := 0) (by decide) (c_X7_act (xG X) _ h7 (nI 0) (nI 3)) (As := [.int (nI 0), .int (nI 3)]) rfl rfl ⟨⟨rfl, rfl⟩, by decide, by decide⟩ (Nat.le_of_ble_eq_true rfl) dL_law_968) (e := e6) (hv := rfl) fun hO8 => ?_
  refine j_ifeq F (tgt := 1027) dL_law_971 (by decide) (fun qq => absurd qq (show ¬ b2i true = 0 by decide)) (fun _ => ?_)
  refine j_aload_n F 0 rfl dL_law_974 rfl ?_
  refine j_iconst F (v := nI 0) dL_law_975 (by decide) ?_
  refine j_iconst F (v := nI 3) dL_law_976 (by decide) ?_
  refine j_iconst F (v := nI 3) dL_law_977 (by decide) ?_
  obtain ⟨h9, e7, s9⟩ := o_table (N := NN) (by decide) s8 hS6_1 (nI 0) (nI 3) (nI 3)
  rw [if_pos (by decide), v6_7] at e7
  refine j_cls (ex := []) hO8 (run_V (F.fx Z.2.1 Z.2.2.1 ⟨by show cN + 10 ≤ 600086; omega, by show sN + 50 ≤ 7301442; omega⟩) cvL_74 (o := 0) (by decide) (c_X7_table (xG X) _ NN h8 (nI 0) (nI 3) (nI 3)) (As := [.int (nI 0), .int (nI 3), .int (nI 3)]) rfl rfl ⟨⟨rfl, rfl⟩, by decide, by decide⟩ (Nat.le_of_ble_eq_true rfl) dL_law_978) (e := e7) (hv := rfl) fun hO9 => ?_
  refine j_sipush F (v := nI 600) dL_law_981 (by decide) ?_
  refine j_icmpne F (tgt := 1027) dL_law_984 (by decide) (fun qq => absurd rfl qq) (fun _ => ?_)
  refine j_aload_n F 0 rfl dL_law_987 rfl ?_
  refine j_iconst F (v := nI 0) dL_law_988 (by decide) ?_
  refine j_iconst F (v := nI 0) dL_law_989 (by decide) ?_
  refine j_iconst F (v := nI 3) dL_law_990 (by decide) ?_
  obtain ⟨h10, e8, s10⟩ := o_tried (N := NN) (by decide) s9 hS6_1 (nI 0) (nI 0) (nI 3)
  rw [v6_8] at e8
  refine j_cls (ex := []) hO9 (run_V (F.fx Z.2.1 Z.2.2.1 ⟨by show cN + 10 ≤ 600086; omega, by show sN + 50 ≤ 7301442; omega⟩) cvL_131 (o := 0) (by decide) (c_X7_tried (xG X) _ NN h9 (nI 0) (nI 0) (nI 3)) (As := [.int (nI 0), .int (nI 0), .int (nI 3)]) rfl rfl ⟨⟨rfl, rfl⟩, by decide, by decide⟩ (Nat.le_of_ble_eq_true rfl) dL_law_991) (e := e8) (hv := rfl) fun hO10 => ?_
  refine j_ifne F (tgt := 1027) dL_law_994 (by decide) (fun qq => absurd rfl qq) (fun _ => ?_)
  refine j_aload_n F 0 rfl dL_law_997 rfl ?_
  refine j_iconst F (v := nI 3) dL_law_998 (by decide) ?_
  obtain ⟨h11, e9, s11⟩ := o_go (N := NN) (by decide) s10 (nI 3)
  rw [v6_9] at e9
  have s11 : LQ h11 D6 S6_2 X00 := s11
  refine j_cls (ex := []) hO10 (run_V (F.fx Z.2.1 Z.2.2.1 ⟨by show cN + 10 ≤ 600086; omega, by show sN + 50 ≤ 7301442; omega⟩) cvL_78 (o := 0) (by decide) (c_X7_go (xG X) _ NN h10 (nI 3)) (As := [.int (nI 3)]) rfl rfl ⟨⟨rfl, rfl⟩, by decide, by decide⟩ (Nat.le_of_ble_eq_true rfl) dL_law_999) (e := e9) (hv := rfl) fun hO11 => ?_
  refine j_iconst F (v := nI 3) dL_law_1002 (by decide) ?_
  refine j_icmpne F (tgt := 1027) dL_law_1003 (by decide) (fun qq => absurd rfl qq) (fun _ => ?_)
  refine j_aload_n F 0 rfl dL_law_1006 rfl ?_
  refine j_iconst F (v := nI 0) dL_law_1007 (by decide) ?_
  refine j_iconst F (v := nI 4) dL_law_1008 (by decide) ?_
  have e10 := o_croft (N := NN) (by decide) s11 (nI 0) (nI 4)
  rw [v6_10] at e10
  refine j_cls (ex := []) hO11 (run_V (F.fx Z.2.1 Z.2.2.1 ⟨by show cN + 10 ≤ 600086; omega, by show sN + 50 ≤ 7301442; omega⟩) cvL_87 (o := 0) (by decide) (c_X7_croft (xG X) _ NN h11 (nI 0) (nI 4)) (As := [.int (nI 0), .int (nI 4)]) rfl rfl ⟨⟨rfl, rfl⟩, by decide, by decide⟩ (Nat.le_of_ble_eq_true rfl) dL_law_1009) (e := e10) (hv := rfl) fun hO12 => ?_
  clear hO12
  refine j_ifne F (tgt := 1027) dL_law_1012 (by decide) (fun qq => absurd rfl qq) (fun _ => ?_)
  refine j_aload_n F 0 rfl dL_law_1015 rfl ?_
  refine j_iconst F (v := nI 0) dL_law_1016 (by decide) ?_
  refine j_iconst F (v := nI 1) dL_law_1017 (by decide) ?_
  obtain ⟨h12, e11, s12⟩ := o_plan (N := NN) (by decide) s11 hS6_2 kS6_2.1 (Int.le_trans kS6_2.2 (by decide)) (nI 0) (nI 1)
  rw [v6_11] at e11
  refine j_cls (ex := []) hO11 (run_V (F.fx Z.2.1 Z.2.2.1 ⟨by show cN + 10 ≤ 600086; omega, by show sN + 50 ≤ 7301442; omega⟩) cvL_122 (o := 0) (by decide) (c_X7_plan (xG X) _ NN h11 (nI 0) (nI 1)) (As := [.int (nI 0), .int (nI 1)]) rfl rfl ⟨⟨rfl, rfl⟩, by decide, by decide⟩ (Nat.le_of_ble_eq_true rfl) dL_law_1018) (e := e11) (hv := rfl) fun hO12 => ?_
  refine j_sipush F (v := nI 300) dL_law_1021 (by decide) ?_
  refine j_icmpeq F (tgt := 1029) dL_law_1024 (by decide) (fun _ => ?_) (fun qq => absurd rfl qq)
  exact R h12 hO12 s12.aq
set_option maxRecDepth 100000 in
theorem seg_7 (Z : LC X dg K V b L xs) {h : Hp} (hO : okH h) (a : AQ h) (hc : cN + 10 ≤ 600086 ∧ sN + 50 ≤ 7301442) (R : ∀ g, okH g → AQ g → Wj X Q ([] ++ enc (xG X) g) (cN + 10) (sN + 50) 1153 [(1, .ref (adr (xG X) 7 0 0)), (0, .ref b)] []) : Wj X Q ([] ++ enc (xG X) h) cN sN 1029 [(1, .ref (adr (xG X) 7 0 0)), (0, .ref b)] [] := by
  have F := Z.1 0 (by decide)
  refine j_aload_n F 0 rfl dL_law_1029 rfl ?_
  refine l_ldcS Z (i := 11) (by decide) rfl dL_law_1030 ?_
  obtain ⟨by1, by2, by3⟩ := sgc_by (fun q => (xS X).heap.size ≤ q) K V (i := 11) (by decide)
  refine l_text (ex := []) (D := D7) (Z.1 11 (by decide)) jsL_63 Z.2.1 hO a by1 by2 by3 dp_7 dk_7 ⟨by decide, by decide⟩ (Nat.le_of_ble_eq_true rfl) ⟨by show cN + 0 + 10 ≤ 600086; omega, by show sN + 0 + 50 ≤ 7301442; omega⟩ dL_law_1032 fun h1 hO1 s1 => ?_
  have s1 : LQ h1 D7 S7_0 X00 := s1
  refine j_iconst F (v := nI 5) dL_law_1035 (by decide) ?_
  refine j_icmpne F (tgt := 1151) dL_law_1036 (by decide) (fun qq => absurd rfl qq) (fun _ => ?_)
  refine j_aload_n F 0 rfl dL_law_1039 rfl ?_
  refine j_iconst F (v := nI 0) dL_law_1040 (by decide) ?_
  refine j_iconst F (v := nI 1) dL_law_1041 (by decide) ?_
  refine j_iconst F (v := nI 4) dL_law_1042 (by decide) ?_
  refine j_iconst F (v := nI 0) dL_law_1043 (by decide) ?_
  obtain ⟨h2, e0, s2⟩ := o_lending (N := NN) (by decide) s1 hS7_0 (nI 0) (nI 1) (nI 4) (nI 0)
  rw [v7_0] at e0
  refine j_cls (ex := []) hO1 (run_V (F.fx Z.2.1 Z.2.2.1 ⟨by show cN + 10 ≤ 600086; omega, by show sN + 50 ≤ 7301442; omega⟩) cvL_136 (o := 0) (by decide) (c_X7_lending (xG X) _ NN h1 (nI 0) (nI 1) (nI 4) (nI 0)) (As := [.int (nI 0), .int (nI 1), .int (nI 4), .int (nI 0)]) rfl rfl ⟨⟨rfl, rfl⟩, by decide, by decide⟩ (Nat.le_of_ble_eq_true rfl) dL_law_1044) (e := e0) (hv := rfl) fun hO2 => ?_
  refine j_ifne F (tgt := 1151) dL_law_1047 (by decide) (fun qq => absurd rfl qq) (fun _ => ?_)
  refine j_aload_n F 0 rfl dL_law_1050 rfl ?_
  refine j_iconst F (v := nI 0) dL_law_1051 (by decide) ?_
  refine j_iconst F (v := nI 1) dL_law_1052 (by decide) ?_
  refine j_iconst F (v := nI 4) dL_law_1053 (by decide) ?_
  refine j_iconst F (v := nI 1) dL_law_1054 (by decide) ?_
  obtain ⟨h3, e1, s3⟩ := o_lending (N := NN) (by decide) s2 hS7_0 (nI 0) (nI 1) (nI 4) (nI 1)
  rw [v7_1] at e1
  refine j_cls (ex := []) hO2 (run_V (F.fx Z.2.1 Z.2.2.1 ⟨by show cN + 10 ≤ 600086; omega, by show sN + 50 ≤ 7301442; omega⟩) cvL_136 (o := 0) (by decide) (c_X7_lending (xG X) _ NN h2 (nI 0) (nI 1) (nI 4) (nI 1)) (As := [.int (nI 0), .int (nI 1), .int (nI 4), .int (nI 1)]) rfl rfl ⟨⟨rfl, rfl⟩, by decide, by decide⟩ (Nat.le_of_ble_eq_true rfl) dL_law_1055) (e := e1) (hv := rfl) fun hO3 => ?_
  refine j_bipush F (v := nI 40) dL_law_1058 (by decide) ?_
  refine j_icmpne F (tgt := 1151) dL_law_1060 (by decide) (fun qq => absurd rfl qq) (fun _ => ?_)
  refine j_aload_n F 0 rfl dL_law_1063 rfl ?_
  refine j_iconst F (v := nI 0) dL_law_1064 (by decide) ?_
  refine j_iconst F (v := nI 1) dL_law_1065 (by decide) ?_
  refine j_iconst F (v := nI 4) dL_law_1066 (by decide) ?_
  refine j_iconst F (v := nI 2) dL_law_1067 (by decide) ?_
  obtain ⟨h4, e2, s4⟩ := o_lending (N := NN) (by decide) s3 hS7_0 (nI 0) (nI 1) (nI 4) (nI 2)
  rw [v7_2] at e2
  refine j_cls (ex := []) hO3 (run_V (F.fx Z.2.1 Z.2.2.1 ⟨by show cN + 10 ≤ 600086; omega, by show sN + 50 ≤ 7301442; omega⟩) cvL_136 (o := 0) (by decide) (c_X7_lending (xG X) _ NN h3 (nI 0) (nI 1) (nI 4) (nI 2)) (As := [.int (nI 0), .int (nI 1), .int (nI 4), .int (nI 2)]) rfl rfl ⟨⟨rfl, rfl⟩, by decide, by decide⟩ (Nat.le_of_ble_eq_true rfl) dL_law_1068) (e := e2) (hv := rfl) fun hO4 => ?_
  refine j_iconst F (v := nI 1) dL_law_1071 (by decide) ?_
  refine j_icmpne F (tgt := 1151) dL_law_1072 (by decide) (fun qq => absurd rfl qq) (fun _ => ?_)
  refine j_aload_n F 0 rfl dL_law_1075 rfl ?_
  refine j_iconst F (v := nI 1) dL_law_1076 (by decide) ?_
  refine j_iconst F (v := nI 0) dL_law_1077 (by decide) ?_
  refine j_iconst F (v := nI 4) dL_law_1078 (by decide) ?_
  refine j_iconst F (v := nI 0) dL_law_1079 (by decide) ?_
  obtain ⟨h5, e3, s5⟩ := o_lending (N := NN) (by decide) s4 hS7_0 (nI 1) (nI 0) (nI 4) (nI 0)
  rw [v7_3] at e3
  refine j_cls (ex := []) hO4 (run_V (F.fx Z.2.1 Z.2.2.1 ⟨by show cN + 10 ≤ 600086; omega, by show sN + 50 ≤ 7301442; omega⟩) cvL_136 (o := 0) (by decide) (c_X7_lending (xG X) _ NN h4 (nI 1) (nI 0) (nI 4) (nI 0)) (As := [.int (nI 1), .int (nI 0), .int (nI 4), .int (nI 0)]) rfl rfl ⟨⟨rfl, rfl⟩, by decide, by decide⟩ (Nat.le_of_ble_eq_true rfl) dL_law_1080) (e := e3) (hv := rfl) fun hO5 => ?_
  refine j_bipush F (v := nI 40) dL_law_1083 (by decide) ?_
  refine j_icmpne F (tgt := 1151) dL_law_1085 (by decide) (fun qq => absurd rfl qq) (fun _ => ?_)
  refine j_aload_n F 0 rfl dL_law_1088 rfl ?_
  refine j_iconst F (v := nI 1) dL_law_1089 (by decide) ?_
  refine j_iconst F (v := nI 0) dL_law_1090 (by decide) ?_
  refine j_iconst F (v := nI 4) dL_law_1091 (by decide) ?_
  refine j_iconst F (v := nI 1) dL_law_1092 (by decide) ?_
  obtain ⟨h6, e4, s6⟩ := o_lending (N := NN) (by decide) s5 hS7_0 (nI 1) (nI 0) (nI 4) (nI 1)
  rw [v7_4] at e4
  refine j_cls (ex := []) hO5 (run_V (F.fx Z.2.1 Z.2.2.1 ⟨by show cN + 10 ≤ 600086; omega, by show sN + 50 ≤ 7301442; omega⟩) cvL_136 (o := 0) (by decide) (c_X7_lending (xG X) _ NN h5 (nI 1) (nI 0) (nI 4) (nI 1)) (As := [.int (nI 1), .int (nI 0), .int (nI 4), .int (nI 1)]) rfl rfl ⟨⟨rfl, rfl⟩, by decide, by decide⟩ (Nat.le_of_ble_eq_true rfl) dL_law_1093) (e := e4) (hv := rfl) fun hO6 => ?_
  refine j_ifne F (tgt := 1151) dL_law_1096 (by decide) (fun qq => absurd rfl qq) (fun _ => ?_)
  refine j_aload_n F 0 rfl dL_law_1099 rfl ?_
  refine j_iconst F (v := nI 1) dL_law_1100 (by decide) ?_
  refine j_iconst F (v := nI 0) dL_law_1101 (by decide) ?_
  refine j_iconst F (v := nI 4) dL_law_1102 (by decide) ?_
  refine j_iconst F (v := nI 2) dL_law_1103 (by decide) ?_
  obtain ⟨h7, e5, s7⟩ := o_lending (N := NN) (by decide) s6 hS7_0 (nI 1) (nI 0) (nI 4) (nI 2)
  rw [v7_5] at e5
  refine j_cls (ex := []) hO6 (run_V (F.fx Z.2.1 Z.2.2.1 ⟨by show cN + 10 ≤ 600086; omega, by show sN + 50 ≤ 7301442; omega⟩) cvL_136 (o := 0) (by decide) (c_X7_lending (xG X) _ NN h6 (nI 1) (nI 0) (nI 4) (nI 2)) (As := [.int (nI 1), .int (nI 0), .int (nI 4), .int (nI 2)]) rfl rfl ⟨⟨rfl, rfl⟩, by decide, by decide⟩ (Nat.le_of_ble_eq_true rfl) dL_law_1104) (e := e5) (hv := rfl) fun hO7 => ?_
  refine j_bipush F (v := (-2)) dL_law_1107 (by decide) ?_
  refine j_icmpne F (tgt := 1151) dL_law_1109 (by decide) (fun qq => absurd rfl qq) (fun _ => ?_)
  refine j_aload_n F 0 rfl dL_law_1112 rfl ?_
  refine j_iconst F (v := nI 0) dL_law_1113 (by decide) ?_
  refine j_iconst F (v := nI 1) dL_law_1114 (by decide) ?_
  obtain ⟨h8, e6, s8⟩ := o_lend s7 (nI 0) (nI 1)
  rw [v7_6] at e6 s8
  rw [if_pos rfl, clN (a := 0) (by omega), clN (a := 1) (by omega)] at s8
  have s8 : LQ h8 D7 S7_1 X00 := s8
  refine j_cls (ex := []) hO7 (run_V (F.fx Z.2.1 Z.2.2.1 ⟨by show cN + 10 ≤ 600086; omega, by show sN + 50 ≤ 7301442; omega⟩) cvL_140 (o := 0) (by decide) (c_X7_lend (xG X) _ h7 (nI 0) (nI 1)) (As := [.int (nI 0), .int (nI 1)]) rfl rfl ⟨⟨rfl, rfl⟩, by decide, by decide⟩ (Nat.le_of_ble_eq_true rfl) dL_law_1115) (e := e6) (hv := rfl) fun hO8 => ?_
  refine j_ifeq F (tgt := 1151) dL_law_1118 (by decide) (fun qq => absurd qq (show ¬ b2i true = 0 by decide)) (fun _ => ?_)
  refine j_aload_n F 0 rfl dL_law_1121 rfl ?_
  refine j_iconst F (v := nI 1) dL_law_1122 (by decide) ?_
  refine j_iconst F (v := nI 0) dL_law_1123 (by decide) ?_
  have e7 := o_croft (N := NN) (by decide) s8 (nI 1) (nI 0)
  rw [v7_7] at e7
  refine j_cls (ex := []) hO8 (run_V (F.fx Z.2.1 Z.2.2.1 ⟨by show cN + 10 ≤ 600086; omega, by show sN + 50 ≤ 7301442; omega⟩) cvL_87 (o := 0) (by decide) (c_X7_croft (xG X) _ NN h8 (nI 1) (nI 0)) (As := [.int (nI 1), .int (nI 0)]) rfl rfl ⟨⟨rfl, rfl⟩, by decide, by decide⟩ (Nat.le_of_ble_eq_true rfl) dL_law_1124) (e := e7) (hv := rfl) fun hO9 => ?_
  clear hO9
  refine j_iconst F (v := nI 2) dL_law_1127 (by decide) ?_
  refine j_icmpne F (tgt := 1151) dL_law_1128 (by decide) (fun qq => absurd rfl qq) (fun _ => ?_)
  refine j_aload_n F 0 rfl dL_law_1131 rfl ?_
  refine j_iconst F (v := nI 4) dL_law_1132 (by decide) ?_
  obtain ⟨h9, e8, s9⟩ := o_go (N := NN) (by decide) s8 (nI 4)
  rw [v7_8] at e8
  have s9 : LQ h9 D7 S7_2 X00 := s9
  refine j_cls (ex := []) hO8 (run_V (F.fx Z.2.1 Z.2.2.1 ⟨by show cN + 10 ≤ 600086; omega, by show sN + 50 ≤ 7301442; omega⟩) cvL_78 (o := 0) (by decide) (c_X7_go (xG X) _ NN h8 (nI 4)) (As := [.int (nI 4)]) rfl rfl ⟨⟨rfl, rfl⟩, by decide, by decide⟩ (Nat.le_of_ble_eq_true rfl) dL_law_1133) (e := e8) (hv := rfl) fun hO9 => ?_
  refine j_iconst F (v := nI 4) dL_law_1136 (by decide) ?_
  refine j_icmpne F (tgt := 1151) dL_law_1137 (by decide) (fun qq => absurd rfl qq) (fun _ => ?_)
  refine j_aload_n F 0 rfl dL_law_1140 rfl ?_
  refine j_iconst F (v := nI 1) dL_law_1141 (by decide) ?_
  refine j_iconst F (v := nI 4) dL_law_1142 (by decide) ?_
  have e9 := o_croft (N := NN) (by decide) s9 (nI 1) (nI 4)
  rw [v7_9] at e9
  refine j_cls (ex := []) hO9 (run_V (F.fx Z.2.1 Z.2.2.1 ⟨by show cN + 10 ≤ 600086; omega, by show sN + 50 ≤ 7301442; omega⟩) cvL_87 (o := 0) (by decide) (c_X7_croft (xG X) _ NN h9 (nI 1) (nI 4)) (As := [.int (nI 1), .int (nI 4)]) rfl rfl ⟨⟨rfl, rfl⟩, by decide, by decide⟩ (Nat.le_of_ble_eq_true rfl) dL_law_1143) (e := e9) (hv := rfl) fun hO10 => ?_
  clear hO10
  refine j_bipush F (v := nI 80) dL_law_1146 (by decide) ?_
  refine j_icmpeq F (tgt := 1153) dL_law_1148 (by decide) (fun _ => ?_) (fun qq => absurd rfl qq)
  exact R h9 hO9 s9.aq
set_option maxRecDepth 100000 in
theorem seg_8 (Z : LC X dg K V b L xs) {h : Hp} (hO : okH h) (a : AQ h) (hc : cN + 10 ≤ 600086 ∧ sN + 50 ≤ 7301442) (R : ∀ g, okH g → AQ g → Wj X Q ([] ++ enc (xG X) g) (cN + 10) (sN + 50) 1262 [(1, .ref (adr (xG X) 7 0 0)), (0, .ref b)] []) : Wj X Q ([] ++ enc (xG X) h) cN sN 1153 [(1, .ref (adr (xG X) 7 0 0)), (0, .ref b)] [] := by
  have F := Z.1 0 (by decide)
  refine j_aload_n F 0 rfl dL_law_1153 rfl ?_
  refine l_ldcS Z (i := 12) (by decide) rfl dL_law_1154 ?_
  obtain ⟨by1, by2, by3⟩ := sgc_by (fun q => (xS X).heap.size ≤ q) K V (i := 12) (by decide)
  refine l_text (ex := []) (D := D8) (Z.1 12 (by decide)) jsL_63 Z.2.1 hO a by1 by2 by3 dp_8 dk_8 ⟨by decide, by decide⟩ (Nat.le_of_ble_eq_true rfl) ⟨by show cN + 0 + 10 ≤ 600086; omega, by show sN + 0 + 50 ≤ 7301442; omega⟩ dL_law_1156 fun h1 hO1 s1 => ?_
  have s1 : LQ h1 D8 S8_0 X00 := s1
  refine j_iconst F (v := nI 3) dL_law_1159 (by decide) ?_
  refine j_icmpne F (tgt := 1260) dL_law_1160 (by decide) (fun qq => absurd rfl qq) (fun _ => ?_)
  refine j_aload_n F 0 rfl dL_law_1163 rfl ?_
  refine j_iconst F (v := nI 1) dL_law_1164 (by decide) ?_
  obtain ⟨h2, e0, s2⟩ := o_turns (N := NN) (by decide) s1 hS8_0 kS8_0.1 kS8_0.2 (nI 1)
  rw [v8_0] at e0
  refine j_cls (ex := []) hO1 (run_V (F.fx Z.2.1 Z.2.2.1 ⟨by show cN + 10 ≤ 600086; omega, by show sN + 50 ≤ 7301442; omega⟩) cvL_145 (o := 0) (by decide) (c_X7_turns (xG X) _ NN h1 (nI 1)) (As := [.int (nI 1)]) rfl rfl ⟨⟨rfl, rfl⟩, by decide, by decide⟩ (Nat.le_of_ble_eq_true rfl) dL_law_1165) (e := e0) (hv := rfl) fun hO2 => ?_
  refine j_bipush F (v := nI 8) dL_law_1168 (by decide) ?_
  refine j_icmpne F (tgt := 1260) dL_law_1170 (by decide) (fun qq => absurd rfl qq) (fun _ => ?_)
  refine j_aload_n F 0 rfl dL_law_1173 rfl ?_
  refine j_iconst F (v := nI 1) dL_law_1174 (by decide) ?_
  refine j_iconst F (v := nI 0) dL_law_1175 (by decide) ?_
  obtain ⟨h3, e1, s3⟩ := o_turn (N := NN) (by decide) s2 hS8_0 kS8_0.1 kS8_0.2 (nI 1) (nI 0)
  rw [v8_1] at e1
  refine j_cls (ex := []) hO2 (run_V (F.fx Z.2.1 Z.2.2.1 ⟨by show cN + 10 ≤ 600086; omega, by show sN + 50 ≤ 7301442; omega⟩) cvL_148 (o := 0) (by decide) (c_X7_turn (xG X) _ NN h2 (nI 1) (nI 0)) (As := [.int (nI 1), .int (nI 0)]) rfl rfl ⟨⟨rfl, rfl⟩, by decide, by decide⟩ (Nat.le_of_ble_eq_true rfl) dL_law_1176) (e := e1) (hv := rfl) fun hO3 => ?_
  refine j_ifne F (tgt := 1260) dL_law_1179 (by decide) (fun qq => absurd rfl qq) (fun _ => ?_)
  refine j_aload_n F 0 rfl dL_law_1182 rfl ?_
  refine j_iconst F (v := nI 2) dL_law_1183 (by decide) ?_
  obtain ⟨h4, e2, s4⟩ := o_turns (N := NN) (by decide) s3 hS8_0 kS8_0.1 kS8_0.2 (nI 2)
  rw [v8_2] at e2
  refine j_cls (ex := []) hO3 (run_V (F.fx Z.2.1 Z.2.2.1 ⟨by show cN + 10 ≤ 600086; omega, by show sN + 50 ≤ 7301442; omega⟩) cvL_145 (o := 0) (by decide) (c_X7_turns (xG X) _ NN h3 (nI 2)) (As := [.int (nI 2)]) rfl rfl ⟨⟨rfl, rfl⟩, by decide, by decide⟩ (Nat.le_of_ble_eq_true rfl) dL_law_1184) (e := e2) (hv := rfl) fun hO4 => ?_
  refine j_bipush F (v := nI 16) dL_law_1187 (by decide) ?_
  refine j_icmpne F (tgt := 1260) dL_law_1189 (by decide) (fun qq => absurd rfl qq) (fun _ => ?_)
  refine j_aload_n F 0 rfl dL_law_1192 rfl ?_
  refine j_iconst F (v := nI 2) dL_law_1193 (by decide) ?_
  refine j_iconst F (v := nI 0) dL_law_1194 (by decide) ?_
  obtain ⟨h5, e3, s5⟩ := o_turn (N := NN) (by decide) s4 hS8_0 kS8_0.1 kS8_0.2 (nI 2) (nI 0)
  rw [v8_3] at e3
  refine j_cls (ex := []) hO4 (run_V (F.fx Z.2.1 Z.2.2.1 ⟨by show cN + 10 ≤ 600086; omega, by show sN + 50 ≤ 7301442; omega⟩) cvL_148 (o := 0) (by decide) (c_X7_turn (xG X) _ NN h4 (nI 2) (nI 0)) (As := [.int (nI 2), .int (nI 0)]) rfl rfl ⟨⟨rfl, rfl⟩, by decide, by decide⟩ (Nat.le_of_ble_eq_true rfl) dL_law_1195) (e := e3) (hv := rfl) fun hO5 => ?_
  refine j_ifne F (tgt := 1260) dL_law_1198 (by decide) (fun qq => absurd rfl qq) (fun _ => ?_)
  refine j_aload_n F 0 rfl dL_law_1201 rfl ?_
  refine j_iconst F (v := nI 2) dL_law_1202 (by decide) ?_
  refine j_iconst F (v := nI 1) dL_law_1203 (by decide) ?_
  obtain ⟨h6, e4, s6⟩ := o_turn (N := NN) (by decide) s5 hS8_0 kS8_0.1 kS8_0.2 (nI 2) (nI 1)
  rw [v8_4] at e4
  refine j_cls (ex := []) hO5 (run_V (F.fx Z.2.1 Z.2.2.1 ⟨by show cN + 10 ≤ 600086; omega, by show sN + 50 ≤ 7301442; omega⟩) cvL_148 (o := 0) (by decide) (c_X7_turn (xG X) _ NN h5 (nI 2) (nI 1)) (As := [.int (nI 2), .int (nI 1)]) rfl rfl ⟨⟨rfl, rfl⟩, by decide, by decide⟩ (Nat.le_of_ble_eq_true rfl) dL_law_1204) (e := e4) (hv := rfl) fun hO6 => ?_
  refine j_iconst F (v := nI 1) dL_law_1207 (by decide) ?_
  refine j_icmpne F (tgt := 1260) dL_law_1208 (by decide) (fun qq => absurd rfl qq) (fun _ => ?_)
  refine j_aload_n F 0 rfl dL_law_1211 rfl ?_
  refine j_iconst F (v := nI 3) dL_law_1212 (by decide) ?_
  obtain ⟨h7, e5, s7⟩ := o_turns (N := NN) (by decide) s6 hS8_0 kS8_0.1 kS8_0.2 (nI 3)
  rw [v8_5] at e5
  refine j_cls (ex := []) hO6 (run_V (F.fx Z.2.1 Z.2.2.1 ⟨by show cN + 10 ≤ 600086; omega, by show sN + 50 ≤ 7301442; omega⟩) cvL_145 (o := 0) (by decide) (c_X7_turns (xG X) _ NN h6 (nI 3)) (As := [.int (nI 3)]) rfl rfl ⟨⟨rfl, rfl⟩, by decide, by decide⟩ (Nat.le_of_ble_eq_true rfl) dL_law_1213) (e := e5) (hv := rfl) fun hO7 => ?_
  refine j_bipush F (v := nI 24) dL_law_1216 (by decide) ?_
  refine j_icmpne F (tgt := 1260) dL_law_1218 (by decide) (fun qq => absurd rfl qq) (fun _ => ?_)
  refine j_aload_n F 0 rfl dL_law_1221 rfl ?_
  refine j_iconst F (v := nI 3) dL_law_1222 (by decide) ?_
  refine j_iconst F (v := nI 0) dL_law_1223 (by decide) ?_
  obtain ⟨h8, e6, s8⟩ := o_turn (N := NN) (by decide) s7 hS8_0 kS8_0.1 kS8_0.2 (nI 3) (nI 0)
  rw [v8_6] at e6
  refine j_cls (ex := []) hO7 (run_V (F.fx Z.2.1 Z.2.2.1 ⟨by show cN + 10 ≤ 600086; omega, by show sN + 50 ≤ 7301442; omega⟩) cvL_148 (o := 0) (by decide) (c_X7_turn (xG X) _ NN h7 (nI 3) (nI 0)) (As := [.int (nI 3), .int (nI 0)]) rfl rfl ⟨⟨rfl, rfl⟩, by decide, by decide⟩ (Nat.le_of_ble_eq_true rfl) dL_law_1224) (e := e6) (hv := rfl) fun hO8 => ?_
  refine j_ifne F (tgt := 1260) dL_law_1227 (by decide) (fun qq => absurd rfl qq) (fun _ => ?_)
  refine j_aload_n F 0 rfl dL_law_1230 rfl ?_
  refine j_iconst F (v := nI 3) dL_law_1231 (by decide) ?_
  refine j_iconst F (v := nI 1) dL_law_1232 (by decide) ?_
  obtain ⟨h9, e7, s9⟩ := o_turn (N := NN) (by decide) s8 hS8_0 kS8_0.1 kS8_0.2 (nI 3) (nI 1)
  rw [v8_7] at e7
  refine j_cls (ex := []) hO8 (run_V (F.fx Z.2.1 Z.2.2.1 ⟨by show cN + 10 ≤ 600086; omega, by show sN + 50 ≤ 7301442; omega⟩) cvL_148 (o := 0) (by decide) (c_X7_turn (xG X) _ NN h8 (nI 3) (nI 1)) (As := [.int (nI 3), .int (nI 1)]) rfl rfl ⟨⟨rfl, rfl⟩, by decide, by decide⟩ (Nat.le_of_ble_eq_true rfl) dL_law_1233) (e := e7) (hv := rfl) fun hO9 => ?_
  refine j_ifne F (tgt := 1260) dL_law_1236 (by decide) (fun qq => absurd rfl qq) (fun _ => ?_)
  refine j_aload_n F 0 rfl dL_law_1239 rfl ?_
  refine j_iconst F (v := nI 3) dL_law_1240 (by decide) ?_
  refine j_iconst F (v := nI 2) dL_law_1241 (by decide) ?_
  obtain ⟨h10, e8, s10⟩ := o_turn (N := NN) (by decide) s9 hS8_0 kS8_0.1 kS8_0.2 (nI 3) (nI 2)
  rw [v8_8] at e8
  refine j_cls (ex := []) hO9 (run_V (F.fx Z.2.1 Z.2.2.1 ⟨by show cN + 10 ≤ 600086; omega, by show sN + 50 ≤ 7301442; omega⟩) cvL_148 (o := 0) (by decide) (c_X7_turn (xG X) _ NN h9 (nI 3) (nI 2)) (As := [.int (nI 3), .int (nI 2)]) rfl rfl ⟨⟨rfl, rfl⟩, by decide, by decide⟩ (Nat.le_of_ble_eq_true rfl) dL_law_1242) (e := e8) (hv := rfl) fun hO10 => ?_
  refine j_iconst F (v := nI 1) dL_law_1245 (by decide) ?_
  refine j_icmpne F (tgt := 1260) dL_law_1246 (by decide) (fun qq => absurd rfl qq) (fun _ => ?_)
  refine j_aload_n F 0 rfl dL_law_1249 rfl ?_
  refine j_iconst F (v := nI 3) dL_law_1250 (by decide) ?_
  refine j_iconst F (v := nI 3) dL_law_1251 (by decide) ?_
  obtain ⟨h11, e9, s11⟩ := o_turn (N := NN) (by decide) s10 hS8_0 kS8_0.1 kS8_0.2 (nI 3) (nI 3)
  rw [v8_9] at e9
  refine j_cls (ex := []) hO10 (run_V (F.fx Z.2.1 Z.2.2.1 ⟨by show cN + 10 ≤ 600086; omega, by show sN + 50 ≤ 7301442; omega⟩) cvL_148 (o := 0) (by decide) (c_X7_turn (xG X) _ NN h10 (nI 3) (nI 3)) (As := [.int (nI 3), .int (nI 3)]) rfl rfl ⟨⟨rfl, rfl⟩, by decide, by decide⟩ (Nat.le_of_ble_eq_true rfl) dL_law_1252) (e := e9) (hv := rfl) fun hO11 => ?_
  refine j_bipush F (v := (-2)) dL_law_1255 (by decide) ?_
  refine j_icmpeq F (tgt := 1262) dL_law_1257 (by decide) (fun _ => ?_) (fun qq => absurd rfl qq)
  exact R h11 hO11 s11.aq
set_option maxRecDepth 100000 in
theorem seg_9 (Z : LC X dg K V b L xs) {h : Hp} (hO : okH h) (a : AQ h) (hc : cN + 10 ≤ 600086 ∧ sN + 50 ≤ 7301442) (R : ∀ g, okH g → AQ g → Wj X Q ([] ++ enc (xG X) g) (cN + 10) (sN + 50) 1320 [(1, .ref (adr (xG X) 7 0 0)), (0, .ref b)] []) : Wj X Q ([] ++ enc (xG X) h) cN sN 1262 [(1, .ref (adr (xG X) 7 0 0)), (0, .ref b)] [] := by
  have F := Z.1 0 (by decide)
  refine j_aload_n F 0 rfl dL_law_1262 rfl ?_
  refine l_ldcS Z (i := 13) (by decide) rfl dL_law_1263 ?_
  obtain ⟨by1, by2, by3⟩ := sgc_by (fun q => (xS X).heap.size ≤ q) K V (i := 13) (by decide)
  refine l_text (ex := []) (D := D9) (Z.1 13 (by decide)) jsL_63 Z.2.1 hO a by1 by2 by3 dp_9 dk_9 ⟨by decide, by decide⟩ (Nat.le_of_ble_eq_true rfl) ⟨by show cN + 0 + 10 ≤ 600086; omega, by show sN + 0 + 50 ≤ 7301442; omega⟩ dL_law_1265 fun h1 hO1 s1 => ?_
  have s1 : LQ h1 D9 S9_0 X00 := s1
  refine j_bipush F (v := nI 6) dL_law_1268 (by decide) ?_
  refine j_icmpne F (tgt := 1318) dL_law_1270 (by decide) (fun qq => absurd rfl qq) (fun _ => ?_)
  refine j_aload_n F 0 rfl dL_law_1273 rfl ?_
  refine j_iconst F (v := nI 0) dL_law_1274 (by decide) ?_
  refine j_iconst F (v := nI 1) dL_law_1275 (by decide) ?_
  refine j_bipush F (v := nI 9) dL_law_1276 (by decide) ?_
  obtain ⟨h2, e0, s2⟩ := o_rests (N := NN) (by decide) s1 hS9_0 (nI 0) (nI 1) (nI 9)
  refine j_cls (ex := []) hO1 (run_V (F.fx Z.2.1 Z.2.2.1 ⟨by show cN + 10 ≤ 600086; omega, by show sN + 50 ≤ 7301442; omega⟩) cvL_153 (o := 0) (by decide) (c_X7_rests (xG X) _ NN h1 (nI 0) (nI 1) (nI 9)) (As := [.int (nI 0), .int (nI 1), .int (nI 9)]) rfl rfl ⟨⟨rfl, rfl⟩, by decide, by decide⟩ (Nat.le_of_ble_eq_true rfl) dL_law_1278) (e := e0) (hv := rfl) fun hO2 => ?_
  refine j_iconst F (v := nI 1) dL_law_1281 (by decide) ?_
  refine j_icmplt F (tgt := 1318) dL_law_1282 (by decide) (fun qq => absurd qq v9_0) (fun _ => ?_)
  refine j_aload_n F 0 rfl dL_law_1285 rfl ?_
  refine j_iconst F (v := nI 0) dL_law_1286 (by decide) ?_
  refine j_iconst F (v := nI 1) dL_law_1287 (by decide) ?_
  refine j_bipush F (v := nI 9) dL_law_1288 (by decide) ?_
  refine j_iconst F (v := nI 0) dL_law_1290 (by decide) ?_
  obtain ⟨h3, e1, s3⟩ := o_rest (N := NN) (by decide) s2 hS9_0 (nI 0) (nI 1) (nI 9) (nI 0)
  rw [v9_1] at e1
  refine j_cls (ex := []) hO2 (run_V (F.fx Z.2.1 Z.2.2.1 ⟨by show cN + 10 ≤ 600086; omega, by show sN + 50 ≤ 7301442; omega⟩) cvL_156 (o := 0) (by decide) (c_X7_rest (xG X) _ NN h2 (nI 0) (nI 1) (nI 9) (nI 0)) (As := [.int (nI 0), .int (nI 1), .int (nI 9), .int (nI 0)]) rfl rfl ⟨⟨rfl, rfl⟩, by decide, by decide⟩ (Nat.le_of_ble_eq_true rfl) dL_law_1291) (e := e1) (hv := rfl) fun hO3 => ?_
  refine j_ifne F (tgt := 1318) dL_law_1294 (by decide) (fun qq => absurd rfl qq) (fun _ => ?_)
  refine j_aload_n F 0 rfl dL_law_1297 rfl ?_
  refine j_iconst F (v := nI 5) dL_law_1298 (by decide) ?_
  obtain ⟨h4, e2, s4⟩ := o_go (N := NN) (by decide) s3 (nI 5)
  rw [v9_2] at e2
  have s4 : LQ h4 D9 S9_1 X00 := s4
  refine j_cls (ex := []) hO3 (run_V (F.fx Z.2.1 Z.2.2.1 ⟨by show cN + 10 ≤ 600086; omega, by show sN + 50 ≤ 7301442; omega⟩) cvL_78 (o := 0) (by decide) (c_X7_go (xG X) _ NN h3 (nI 5)) (As := [.int (nI 5)]) rfl rfl ⟨⟨rfl, rfl⟩, by decide, by decide⟩ (Nat.le_of_ble_eq_true rfl) dL_law_1299) (e := e2) (hv := rfl) fun hO4 => ?_
  refine j_iconst F (v := nI 5) dL_law_1302 (by decide) ?_
  refine j_icmpne F (tgt := 1318) dL_law_1303 (by decide) (fun qq => absurd rfl qq) (fun _ => ?_)
  refine j_aload_n F 0 rfl dL_law_1306 rfl ?_
  refine j_iconst F (v := nI 0) dL_law_1307 (by decide) ?_
  refine j_iconst F (v := nI 1) dL_law_1308 (by decide) ?_
  refine j_bipush F (v := nI 9) dL_law_1309 (by decide) ?_
  obtain ⟨h5, e3, s5⟩ := o_rests (N := NN) (by decide) s4 hS9_1 (nI 0) (nI 1) (nI 9)
  rw [v9_3] at e3
  refine j_cls (ex := []) hO4 (run_V (F.fx Z.2.1 Z.2.2.1 ⟨by show cN + 10 ≤ 600086; omega, by show sN + 50 ≤ 7301442; omega⟩) cvL_153 (o := 0) (by decide) (c_X7_rests (xG X) _ NN h4 (nI 0) (nI 1) (nI 9)) (As := [.int (nI 0), .int (nI 1), .int (nI 9)]) rfl rfl ⟨⟨rfl, rfl⟩, by decide, by decide⟩ (Nat.le_of_ble_eq_true rfl) dL_law_1311) (e := e3) (hv := rfl) fun hO5 => ?_
  refine j_iconst F (v := (-1)) dL_law_1314 (by decide) ?_
  refine j_icmpeq F (tgt := 1320) dL_law_1315 (by decide) (fun _ => ?_) (fun qq => absurd rfl qq)
  exact R h5 hO5 s5.aq
set_option maxRecDepth 100000 in
theorem seg_11 (Z : LC X dg K V b L xs) {h : Hp} (hO : okH h) (a : AQ h) (hc : cN + 10 ≤ 600086 ∧ sN + 50 ≤ 7301442) (R : ∀ g, okH g → AQ g → Wj X Q ([] ++ enc (xG X) g) (cN + 10) (sN + 50) 1462 [(1, .ref (adr (xG X) 7 0 0)), (0, .ref b)] []) : Wj X Q ([] ++ enc (xG X) h) cN sN 1388 [(1, .ref (adr (xG X) 7 0 0)), (0, .ref b)] [] := by
  have F := Z.1 0 (by decide)
  refine j_aload_n F 0 rfl dL_law_1388 rfl ?_
  refine l_ldcS Z (i := 16) (by decide) rfl dL_law_1389 ?_
  obtain ⟨by1, by2, by3⟩ := sgc_by (fun q => (xS X).heap.size ≤ q) K V (i := 16) (by decide)
  refine l_text (ex := []) (D := D11) (Z.1 16 (by decide)) jsL_63 Z.2.1 hO a by1 by2 by3 dp_11 dk_11 ⟨by decide, by decide⟩ (Nat.le_of_ble_eq_true rfl) ⟨by show cN + 0 + 10 ≤ 600086; omega, by show sN + 0 + 50 ≤ 7301442; omega⟩ dL_law_1391 fun h1 hO1 s1 => ?_
  have s1 : LQ h1 D11 S11_0 X00 := s1
  refine j_iconst F (v := nI 1) dL_law_1394 (by decide) ?_
  refine j_icmpne F (tgt := 1460) dL_law_1395 (by decide) (fun qq => absurd rfl qq) (fun _ => ?_)
  refine j_aload_n F 0 rfl dL_law_1398 rfl ?_
  refine j_iconst F (v := nI 1) dL_law_1399 (by decide) ?_
  refine j_iconst F (v := nI 0) dL_law_1400 (by decide) ?_
  have e0 := o_odds (N := NN) (by decide) s1 (nI 1) (nI 0)
  rw [v11_0] at e0
  refine j_cls (ex := []) hO1 (run_V (F.fx Z.2.1 Z.2.2.1 ⟨by show cN + 10 ≤ 600086; omega, by show sN + 50 ≤ 7301442; omega⟩) cvL_163 (o := 0) (by decide) (c_X7_odds (xG X) _ NN h1 (nI 1) (nI 0)) (As := [.int (nI 1), .int (nI 0)]) rfl rfl ⟨⟨rfl, rfl⟩, by decide, by decide⟩ (Nat.le_of_ble_eq_true rfl) dL_law_1401) (e := e0) (hv := rfl) fun hO2 => ?_
  clear hO2
  refine j_iconst F (v := nI 1) dL_law_1404 (by decide) ?_
  refine j_icmpne F (tgt := 1460) dL_law_1405 (by decide) (fun qq => absurd rfl qq) (fun _ => ?_)
  refine j_aload_n F 0 rfl dL_law_1408 rfl ?_
  refine j_iconst F (v := nI 1) dL_law_1409 (by decide) ?_
  refine j_iconst F (v := nI 1) dL_law_1410 (by decide) ?_
  have e1 := o_odds (N := NN) (by decide) s1 (nI 1) (nI 1)
  rw [v11_1] at e1
  refine j_cls (ex := []) hO1 (run_V (F.fx Z.2.1 Z.2.2.1 ⟨by show cN + 10 ≤ 600086; omega, by show sN + 50 ≤ 7301442; omega⟩) cvL_163 (o := 0) (by decide) (c_X7_odds (xG X) _ NN h1 (nI 1) (nI 1)) (As := [.int (nI 1), .int (nI 1)]) rfl rfl ⟨⟨rfl, rfl⟩, by decide, by decide⟩ (Nat.le_of_ble_eq_true rfl) dL_law_1411) (e := e1) (hv := rfl) fun hO2 => ?_
  clear hO2
  refine j_iconst F (v := nI 2) dL_law_1414 (by decide) ?_
  refine j_icmpne F (tgt := 1460) dL_law_1415 (by decide) (fun qq => absurd rfl qq) (fun _ => ?_)
  refine j_aload_n F 0 rfl dL_law_1418 rfl ?_
  refine j_iconst F (v := nI 2) dL_law_1419 (by decide) ?_
  refine j_iconst F (v := nI 0) dL_law_1420 (by decide) ?_
  have e2 := o_odds (N := NN) (by decide) s1 (nI 2) (nI 0)
  rw [v11_2] at e2
  refine j_cls (ex := []) hO1 (run_V (F.fx Z.2.1 Z.2.2.1 ⟨by show cN + 10 ≤ 600086; omega, by show sN + 50 ≤ 7301442; omega⟩) cvL_163 (o := 0) (by decide) (c_X7_odds (xG X) _ NN h1 (nI 2) (nI 0)) (As := [.int (nI 2), .int (nI 0)]) rfl rfl ⟨⟨rfl, rfl⟩, by decide, by decide⟩ (Nat.le_of_ble_eq_true rfl) dL_law_1421) (e := e2) (hv := rfl) fun hO2 => ?_
  clear hO2
  refine j_iconst F (v := nI 3) dL_law_1424 (by decide) ?_
  refine j_icmpne F (tgt := 1460) dL_law_1425 (by decide) (fun qq => absurd rfl qq) (fun _ => ?_)
  refine j_aload_n F 0 rfl dL_law_1428 rfl ?_
  refine j_iconst F (v := nI 2) dL_law_1429 (by decide) ?_
  refine j_iconst F (v := nI 1) dL_law_1430 (by decide) ?_
  have e3 := o_odds (N := NN) (by decide) s1 (nI 2) (nI 1)
  rw [v11_3] at e3
  refine j_cls (ex := []) hO1 (run_V (F.fx Z.2.1 Z.2.2.1 ⟨by show cN + 10 ≤ 600086; omega, by show sN + 50 ≤ 7301442; omega⟩) cvL_163 (o := 0) (by decide) (c_X7_odds (xG X) _ NN h1 (nI 2) (nI 1)) (As := [.int (nI 2), .int (nI 1)]) rfl rfl ⟨⟨rfl, rfl⟩, by decide, by decide⟩ (Nat.le_of_ble_eq_true rfl) dL_law_1431) (e := e3) (hv := rfl) fun hO2 => ?_
  clear hO2
  refine j_iconst F (v := nI 4) dL_law_1434 (by decide) ?_
  refine j_icmpne F (tgt := 1460) dL_law_1435 (by decide) (fun qq => absurd rfl qq) (fun _ => ?_)
  refine j_aload_n F 0 rfl dL_law_1438 rfl ?_
  refine j_iconst F (v := nI 4) dL_law_1439 (by decide) ?_
  refine j_iconst F (v := nI 0) dL_law_1440 (by decide) ?_
  have e4 := o_odds (N := NN) (by decide) s1 (nI 4) (nI 0)
  rw [v11_4] at e4
  refine j_cls (ex := []) hO1 (run_V (F.fx Z.2.1 Z.2.2.1 ⟨by show cN + 10 ≤ 600086; omega, by show sN + 50 ≤ 7301442; omega⟩) cvL_163 (o := 0) (by decide) (c_X7_odds (xG X) _ NN h1 (nI 4) (nI 0)) (As := [.int (nI 4), .int (nI 0)]) rfl rfl ⟨⟨rfl, rfl⟩, by decide, by decide⟩ (Nat.le_of_ble_eq_true rfl) dL_law_1441) (e := e4) (hv := rfl) fun hO2 => ?_
  clear hO2
  refine j_bipush F (v := nI 15) dL_law_1444 (by decide) ?_
  refine j_icmpne F (tgt := 1460) dL_law_1446 (by decide) (fun qq => absurd rfl qq) (fun _ => ?_)
  refine j_aload_n F 0 rfl dL_law_1449 rfl ?_
  refine j_iconst F (v := nI 4) dL_law_1450 (by decide) ?_
  refine j_iconst F (v := nI 1) dL_law_1451 (by decide) ?_
  have e5 := o_odds (N := NN) (by decide) s1 (nI 4) (nI 1)
  rw [v11_5] at e5
  refine j_cls (ex := []) hO1 (run_V (F.fx Z.2.1 Z.2.2.1 ⟨by show cN + 10 ≤ 600086; omega, by show sN + 50 ≤ 7301442; omega⟩) cvL_163 (o := 0) (by decide) (c_X7_odds (xG X) _ NN h1 (nI 4) (nI 1)) (As := [.int (nI 4), .int (nI 1)]) rfl rfl ⟨⟨rfl, rfl⟩, by decide, by decide⟩ (Nat.le_of_ble_eq_true rfl) dL_law_1452) (e := e5) (hv := rfl) fun hO2 => ?_
  clear hO2
  refine j_bipush F (v := nI 16) dL_law_1455 (by decide) ?_
  refine j_icmpeq F (tgt := 1462) dL_law_1457 (by decide) (fun _ => ?_) (fun qq => absurd rfl qq)
  exact R h1 hO1 s1.aq
set_option maxRecDepth 100000 in
theorem seg_12 (Z : LC X dg K V b L xs) {h : Hp} (hO : okH h) (a : AQ h) (hc : cN + 10 ≤ 600086 ∧ sN + 50 ≤ 7301442) (R : ∀ g, okH g → AQ g → Wj X Q ([] ++ enc (xG X) g) (cN + 10) (sN + 50) 1516 [(1, .ref (adr (xG X) 7 0 0)), (0, .ref b)] []) : Wj X Q ([] ++ enc (xG X) h) cN sN 1462 [(1, .ref (adr (xG X) 7 0 0)), (0, .ref b)] [] := by
  have F := Z.1 0 (by decide)
  refine j_aload_n F 0 rfl dL_law_1462 rfl ?_
  refine l_ldcS Z (i := 17) (by decide) rfl dL_law_1463 ?_
  obtain ⟨by1, by2, by3⟩ := sgc_by (fun q => (xS X).heap.size ≤ q) K V (i := 17) (by decide)
  refine l_text (ex := []) (D := D12) (Z.1 17 (by decide)) jsL_63 Z.2.1 hO a by1 by2 by3 dp_12 dk_12 ⟨by decide, by decide⟩ (Nat.le_of_ble_eq_true rfl) ⟨by show cN + 0 + 10 ≤ 600086; omega, by show sN + 0 + 50 ≤ 7301442; omega⟩ dL_law_1465 fun h1 hO1 s1 => ?_
  have s1 : LQ h1 D12 S12_0 X00 := s1
  refine j_iconst F (v := nI 3) dL_law_1468 (by decide) ?_
  refine j_icmpne F (tgt := 1514) dL_law_1469 (by decide) (fun qq => absurd rfl qq) (fun _ => ?_)
  refine j_aload_n F 0 rfl dL_law_1472 rfl ?_
  refine j_iconst F (v := nI 4) dL_law_1473 (by decide) ?_
  obtain ⟨h2, e0, s2⟩ := o_go (N := NN) (by decide) s1 (nI 4)
  rw [v12_0] at e0
  have s2 : LQ h2 D12 S12_1 X00 := s2
  refine j_cls (ex := []) hO1 (run_V (F.fx Z.2.1 Z.2.2.1 ⟨by show cN + 10 ≤ 600086; omega, by show sN + 50 ≤ 7301442; omega⟩) cvL_78 (o := 0) (by decide) (c_X7_go (xG X) _ NN h1 (nI 4)) (As := [.int (nI 4)]) rfl rfl ⟨⟨rfl, rfl⟩, by decide, by decide⟩ (Nat.le_of_ble_eq_true rfl) dL_law_1474) (e := e0) (hv := rfl) fun hO2 => ?_
  refine j_iconst F (v := nI 4) dL_law_1477 (by decide) ?_
  refine j_icmpne F (tgt := 1514) dL_law_1478 (by decide) (fun qq => absurd rfl qq) (fun _ => ?_)
  refine j_aload_n F 0 rfl dL_law_1481 rfl ?_
  refine j_iconst F (v := nI 0) dL_law_1482 (by decide) ?_
  refine j_iconst F (v := nI 0) dL_law_1483 (by decide) ?_
  have e1 := o_stripe s2 (i := 0) (by decide)
  rw [v12_1] at e1
  refine j_cls (ex := []) hO2 (run_V (F.fx Z.2.1 Z.2.2.1 ⟨by show cN + 10 ≤ 600086; omega, by show sN + 50 ≤ 7301442; omega⟩) cvL_81 (o := 0) (by decide) (c_X7_stripe (xG X) _ h2 (nI 0) (nI 0)) (As := [.int (nI 0), .int (nI 0)]) rfl rfl ⟨⟨rfl, rfl⟩, by decide, by decide⟩ (Nat.le_of_ble_eq_true rfl) dL_law_1484) (e := e1) (hv := rfl) fun hO3 => ?_
  clear hO3
  refine j_bipush F (v := nI 23) dL_law_1487 (by decide) ?_
  refine j_icmpne F (tgt := 1514) dL_law_1489 (by decide) (fun qq => absurd rfl qq) (fun _ => ?_)
  refine j_aload_n F 0 rfl dL_law_1492 rfl ?_
  refine j_iconst F (v := nI 1) dL_law_1493 (by decide) ?_
  refine j_iconst F (v := nI 0) dL_law_1494 (by decide) ?_
  have e2 := o_stripe s2 (i := 1) (by decide)
  rw [v12_2] at e2
  refine j_cls (ex := []) hO2 (run_V (F.fx Z.2.1 Z.2.2.1 ⟨by show cN + 10 ≤ 600086; omega, by show sN + 50 ≤ 7301442; omega⟩) cvL_81 (o := 0) (by decide) (c_X7_stripe (xG X) _ h2 (nI 1) (nI 0)) (As := [.int (nI 1), .int (nI 0)]) rfl rfl ⟨⟨rfl, rfl⟩, by decide, by decide⟩ (Nat.le_of_ble_eq_true rfl) dL_law_1495) (e := e2) (hv := rfl) fun hO3 => ?_
  clear hO3
  refine j_bipush F (v := nI 20) dL_law_1498 (by decide) ?_
  refine j_icmpne F (tgt := 1514) dL_law_1500 (by decide) (fun qq => absurd rfl qq) (fun _ => ?_)
  refine j_aload_n F 0 rfl dL_law_1503 rfl ?_
  refine j_iconst F (v := nI 0) dL_law_1504 (by decide) ?_
  refine j_bipush F (v := nI 9) dL_law_1505 (by decide) ?_
  refine j_iconst F (v := nI 1) dL_law_1507 (by decide) ?_
  obtain ⟨h3, e3, s3⟩ := o_table (N := NN) (by decide) s2 hS12_1 (nI 0) (nI 9) (nI 1)
  rw [if_pos (by decide), v12_3] at e3
  refine j_cls (ex := []) hO2 (run_V (F.fx Z.2.1 Z.2.2.1 ⟨by show cN + 10 ≤ 600086; omega, by show sN + 50 ≤ 7301442; omega⟩) cvL_74 (o := 0) (by decide) (c_X7_table (xG X) _ NN h2 (nI 0) (nI 9) (nI 1)) (As := [.int (nI 0), .int (nI 9), .int (nI 1)]) rfl rfl ⟨⟨rfl, rfl⟩, by decide, by decide⟩ (Nat.le_of_ble_eq_true rfl) dL_law_1508) (e := e3) (hv := rfl) fun hO3 => ?_
  refine j_ifeq F (tgt := 1516) dL_law_1511 (by decide) (fun _ => ?_) (fun qq => absurd rfl qq)
  exact R h3 hO3 s3.aq
end LWalk
