-- the law's helpers
/-- a place of the script, or 0 -/
def clS (L : Nat) (xs : Nat → Int32) (k : Nat) : Int32 := if k < L then xs k else 0
abbrev rm_L0 : Room := { frames := 0, cells := 0, slots := 0, locals := 0 }
theorem c_Lcell (l : Launch) (b L k : Nat) (xs : Nat → Int32) (hL : L ≤ 260) (hk : k < 2 ^ 31) : Met l yL_cell (.code yL_cell cL_cell 2 (some .int) :: GT) rm_L0 (va_Pc [.ref b, .int (nI k)] (fun U => va_X b L xs U U.heap ∧ b < U.heap.size)) (fun _ st ot t => ot = .returned (some (.int (clS L xs k))) ∧ t.heap = st.heap) 0 0 (fun _ => False) := by
  refine Met.ofW (cc := cL_cell) (maxL := 2) (ret := some .int) (by decide +kernel) rfl ?_
  intro p e s m args below meth c s₁ B hml hv
  obtain ⟨rfl, k9, hb9⟩ := hv
  have hl := lv_entry [Value.ref b, .int (nI k)] (n := 2) (Nat.le_of_ble_eq_true rfl)
  rw [lg_entry_eq]
  refine lv_iload_n B.exec B.bytes dL_cell_0 rfl (lv_at hl 1 rfl) ?_
  refine lv_aload_n B.exec B.bytes dL_cell_1 rfl (lv_at hl 0 rfl) ?_
  refine va_slen (A := fun _ => False) B.exec B.bytes k9 hb9 (fun h => h) va_S.rf dL_cell_2 ?_
  refine lv_icmp_ge B.exec B.bytes dL_cell_3 (tgt := 12) (by decide) (fun z => ?_) (fun z => ?_)
  · have hn : ¬ k < L := fun q => nleN q (by omega) z
    refine lv_iconst B.exec B.bytes (v := 0) dL_cell_12 (by decide) ?_
    exact W.iret B.exec B.bytes B.returns (fun t ht _ => ⟨by unfold clS; rw [if_neg hn], ht⟩) (fun _ h => nomatch h) dL_cell_13 B.notSynchronized
  · have hn : k < L := Decidable.byContradiction fun q => z (leN (by omega) (by omega))
    refine lv_aload_n B.exec B.bytes dL_cell_6 rfl (lv_at hl 0 rfl) ?_
    refine lv_iload_n B.exec B.bytes dL_cell_7 rfl (lv_at hl 1 rfl) ?_
    refine va_sld (A := fun _ => False) B.exec B.bytes k9 hb9 (fun h => h) va_S.rf (inb_vp (inb_n hn (by omega))) dL_cell_8 ?_
    rw [clN hk]
    refine lv_goto B.exec B.bytes (tgt := 13) dL_cell_9 (by decide) ?_
    exact W.iret B.exec B.bytes B.returns (fun t ht _ => ⟨by unfold clS; rw [if_pos hn], ht⟩) (fun _ h => nomatch h) dL_cell_13 B.notSynchronized
/-- a remainder, never below 0 -/
def inS_ (x m : Int32) : Int32 := (x &&& 2147483647) - (x &&& 2147483647) / m * m
theorem c_Lin (l : Launch) (x m9 : Int32) (hm : ¬ m9 = 0) : Met l yL_in (.code yL_in cL_in 2 (some .int) :: GT) rm_L0 (va_Pc [.int x, .int m9] (fun _ => True)) (fun _ st ot t => ot = .returned (some (.int (inS_ x m9))) ∧ t.heap = st.heap) 0 0 (fun _ => False) := by
  refine Met.ofW (cc := cL_in) (maxL := 2) (ret := some .int) (by decide +kernel) rfl ?_
  intro p e s m args below meth c s₁ B hml hv
  obtain ⟨rfl, -⟩ := hv
  have hts := atoms_spec (ws := Cond.code yL_in cL_in 2 (some .int) :: GT) B.pre
  have hG : ∀ w ∈ GT, w.before _ s = true := fun w hw => hts w (List.mem_cons_of_mem _ hw)
  have hown : s.vm.findClass RL = some m.cls := findClass_of_methodNamed B.named
  have hl := lv_entry [Value.int x, .int m9] (n := 2) (Nat.le_of_ble_eq_true rfl)
  rw [lg_entry_eq]
  refine lv_iload_n B.exec B.bytes dL_in_0 rfl (lv_at hl 0 rfl) ?_
  refine lv_ldc B.exec B.bytes hown (hG _ jwL_7) dL_in_1 ?_
  refine lv_iand B.exec B.bytes dL_in_3 ?_
  refine lv_iload_n B.exec B.bytes dL_in_4 rfl (lv_at hl 1 rfl) ?_
  refine lv_irem B.exec B.bytes dL_in_5 hm ?_
  exact W.iret B.exec B.bytes B.returns (fun t ht _ => ⟨rfl, ht⟩) (fun _ h => nomatch h) dL_in_6 B.notSynchronized
abbrev rm_Lt : Room := { frames := 9, cells := 10, slots := 50, locals := 200 }
section LT
variable {X : Cx} {Q : State → Prop} {sg : SGt} {dg : Nat × Nat} {ws0 : va_W} {h : Hp} {D : DT} {m : Nat}
set_option maxRecDepth 100000 in
theorem t_inner (F : Fj X cL_text RL (some .int) rm_Lt sg dg ws0) (hL : xL X = 5) (hBY : BY sg) (hn : sg.1 ≤ 200) (hm : m < 10) (q : Nat) (K : Wj X Q ((q, .inl (cI (xG X), 5, .inl (wvA (chB sg.1 sg.2.1 (20 * m)) 20))) :: enc (xG X) h) (m + 1) (5 * m + 5) 74 [(4, .int (nI 20)), (3, .ref q), (2, .int (nI (20 * m))), (0, .ref (adr (xG X) 7 0 0)), (1, .ref sg.2.2.2.1)] []) : ∀ k i, i + k = 20 → Wj X Q ((q, .inl (cI (xG X), 5, .inl (wvA (chB sg.1 sg.2.1 (20 * m)) i))) :: enc (xG X) h) (m + 1) (5 * m + 5) 17 [(4, .int (nI i)), (3, .ref q), (2, .int (nI (20 * m))), (0, .ref (adr (xG X) 7 0 0)), (1, .ref sg.2.2.2.1)] []
  | 0, i, e => by
    have e : i = 20 := e
    subst e
    refine j_iload F 0 rfl dL_text_17 ?_
    refine j_bipush F (v := nI 20) dL_text_19 (by decide) ?_
    exact j_icmpge F (tgt := 74) dL_text_21 (by decide) (fun _ => K) (fun qq => absurd (Int32.le_refl _) qq)
  | k + 1, i, e => by
    have ih := t_inner F hL hBY hn hm q K k (i + 1) (by omega)
    refine j_iload F 0 rfl dL_text_17 ?_
    refine j_bipush F (v := nI 20) dL_text_19 (by decide) ?_
    refine j_icmpge F (tgt := 74) dL_text_21 (by decide) (fun qq => absurd qq (nleN (by omega) (by omega))) (fun _ => ?_)
    have rest : Wj X Q ((q, .inl (cI (xG X), 5, .inl (wvA (chB sg.1 sg.2.1 (20 * m)) i))) :: enc (xG X) h) (m + 1) (5 * m + 5) 55 [(4, .int (nI i)), (3, .ref q), (2, .int (nI (20 * m))), (0, .ref (adr (xG X) 7 0 0)), (1, .ref sg.2.2.2.1)] [.int (chB sg.1 sg.2.1 (20 * m) i), .int (wvA (chB sg.1 sg.2.1 (20 * m)) i (i / 4)), .int (nI (i / 4)), .ref q] := by
      refine j_bipush F (v := nI 24) dL_text_55 (by decide) ?_
      refine j_bipush F (v := nI 8) dL_text_57 (by decide) ?_
      refine j_iload F 0 rfl dL_text_59 ?_
      refine j_iconst F (v := nI 4) dL_text_61 (by decide) ?_
      refine j_irem F (z := nI (i % 4)) dL_text_62 (by decide) (nI_mod (b := 4) (by omega) (by omega)) ?_
      refine j_imul F (z := nI (8 * (i % 4))) dL_text_63 (nI_mulN 8 _) ?_
      refine j_isub F (z := nI (24 - 8 * (i % 4))) dL_text_64 (nI_sub (a := 24) (by omega)) ?_
      refine j_ishl F (z := (chB sg.1 sg.2.1 (20 * m) i) <<< (nI (24 - 8 * (i % 4)) &&& 31)) dL_text_65 rfl ?_
      refine j_ior F (z := wvA (chB sg.1 sg.2.1 (20 * m)) i (i / 4) ||| (chB sg.1 sg.2.1 (20 * m) i <<< (nI (24 - 8 * (i % 4)) &&& 31))) dL_text_66 rfl ?_
      refine j_iast F 0 rfl (inb_n (by omega) (by omega)) (ws2 := (q, .inl (cI (xG X), 5, .inl (wvA (chB sg.1 sg.2.1 (20 * m)) (i + 1)))) :: enc (xG X) h) (by rw [clN (by omega)]; rfl) dL_text_67 ?_
      refine j_iinc F (w := nI (i + 1)) 0 rfl (nI_add _ _) [(4, .int (nI (i + 1))), (3, .ref q), (2, .int (nI (20 * m))), (0, .ref (adr (xG X) 7 0 0)), (1, .ref sg.2.2.2.1)] rfl dL_text_68 (by rw [hL]; decide) ?_
      exact j_goto F (tgt := 17) dL_text_71 (by decide) ih
    refine j_aload_n F 1 rfl dL_text_24 rfl ?_
    refine j_iload F 0 rfl dL_text_25 ?_
    refine j_iconst F (v := nI 4) dL_text_27 (by decide) ?_
    refine j_idiv F (z := nI (i / 4)) dL_text_28 (by decide) (nI_div (b := 4) (by omega) (by omega)) ?_
    refine j_dup2 F rfl rfl dL_text_29 ?_
    refine j_iald F 0 rfl (v := wvA (chB sg.1 sg.2.1 (20 * m)) i (i / 4)) (inb_n (by omega) (by omega)) (by rw [clN (by omega)]) dL_text_30 ?_
    refine j_iload_n F 2 rfl dL_text_31 rfl ?_
    refine j_iload F 0 rfl dL_text_32 ?_
    refine j_iadd F (z := nI (20 * m + i)) dL_text_34 (nI_add _ _) ?_
    refine j_aload_n F 4 rfl dL_text_35 rfl ?_
    refine j_roV F svL_8 (sc_length _ sg) (As := []) rfl rfl ⟨⟨rfl, rfl⟩, by decide, by decide⟩ (Nat.le_of_ble_eq_true rfl) ⟨by show _ ≤ 10; omega, by show _ ≤ 50; omega⟩ dL_text_36 ?_
    refine j_icmpge F (tgt := 53) dL_text_39 (by decide) (fun z => ?_) (fun z => ?_)
    · skip
      refine j_bipush F (v := nI 32) dL_text_53 (by decide) ?_
      rw [← show chB sg.1 sg.2.1 (20 * m) i = nI 32 from if_neg (fun q => nleN q (by omega) z)]
      exact rest
    · have hlt : 20 * m + i < sg.1 := Decidable.byContradiction fun q => z (leN (by omega) (by omega))
      refine j_aload_n F 4 rfl dL_text_42 rfl ?_
      refine j_iload_n F 2 rfl dL_text_43 rfl ?_
      refine j_iload F 0 rfl dL_text_44 ?_
      refine j_iadd F (z := nI (20 * m + i)) dL_text_46 (nI_add _ _) ?_
      refine j_roV F svL_14 (sc_ca _ sg hBY (20 * m + i) hlt) (As := [.int (nI (20 * m + i))]) rfl rfl ⟨⟨rfl, rfl⟩, by decide, by decide⟩ (Nat.le_of_ble_eq_true rfl) ⟨by show _ ≤ 10; omega, by show _ ≤ 50; omega⟩ dL_text_47 ?_
      refine j_goto F (tgt := 55) dL_text_50 (by decide) ?_
      rw [← show chB sg.1 sg.2.1 (20 * m) i = sg.2.1.getD (20 * m + i) 0 from if_pos hlt]
      exact rest
theorem Wj_nil {X : Cx} {Q : State → Prop} {ws : va_W} {cN sN pc : Nat} {lv : List (Nat × Value)} {st : List Value} (K : Wj X Q ([] ++ ws) cN sN pc lv st) : Wj X Q ws cN sN pc lv st := K
/-- what the helper's end tells -/
def PT (G : Gx) (D : DT) : Option Value → va_W → Prop := fun r w => ∃ g, r = some (.int (nI (qLn D))) ∧ w = enc G g ∧ okH g ∧ LQ g D (bgM (T0 D)) X00
abbrev NN : Nat := 1000000
set_option maxRecDepth 100000 in
theorem t_outer (F : Fj X cL_text RL (some .int) rm_Lt sg dg ws0) (hL : xL X = 5) (hBY : BY sg) (hlen : sg.2.1.length = sg.1) (hn : sg.1 ≤ 200) (e9 : pL 20 sg.2.1 D0 = some D) (k9 : DOK D) (hDst : Dst (xG X)) (hAw : ∀ a, Aw (xG X) a → xA X a) : ∀ k m h, m + k ≤ 10 → sg.1 ≤ 20 * (m + k) → okH h → FQ h sg.1 sg.2.1 m → Wj X (Qj X ws0 (PT (xG X) D) 10 50) (enc (xG X) h) m (5 * m) 2 [(2, .int (nI (20 * m))), (0, .ref (adr (xG X) 7 0 0)), (1, .ref sg.2.2.2.1)] [] := by
  intro k
  induction k with
  | zero =>
    intro m h hk hnm hO fq
    have z0 : sg.1 ≤ 20 * m := by omega
    refine j_iload_n F 0 rfl dL_text_2 rfl ?_
    refine j_aload_n F 2 rfl dL_text_3 rfl ?_
    refine j_roV F svL_8 (sc_length _ sg) (As := []) rfl rfl ⟨⟨rfl, rfl⟩, by decide, by decide⟩ (Nat.le_of_ble_eq_true rfl) ⟨by show _ ≤ 10; omega, by show _ ≤ 50; omega⟩ dL_text_4 ?_
    refine j_icmpge F (tgt := 105) dL_text_7 (by decide) (fun z0 => ?_) (fun z => ?_)
    · obtain ⟨g, e1, e2⟩ := fq.text (N := NN) (by decide) (by first | exact z0 | exact Decidable.byContradiction fun q => nleN (Nat.lt_of_not_le q) (by omega) z0) (by omega) hlen e9 k9
      refine j_aload_n F 1 rfl dL_text_105 rfl ?_
      refine j_aload_n F 2 rfl dL_text_106 rfl ?_
      refine j_roV F svL_8 (sc_length _ sg) (As := []) rfl rfl ⟨⟨rfl, rfl⟩, by decide, by decide⟩ (Nat.le_of_ble_eq_true rfl) ⟨by show _ ≤ 10; omega, by show _ ≤ 50; omega⟩ dL_text_107 ?_
      refine Wj_nil ?_
      refine j_cls (ex := []) hO (run_V (F.fx hDst hAw ⟨by show _ ≤ 10; omega, by show _ ≤ 50; omega⟩) cvL_24 (o := 0) (by decide) (c_X7_text (xG X) _ NN h (nI sg.1)) (As := [.int (nI sg.1)]) rfl rfl ⟨⟨rfl, rfl⟩, by decide, by decide⟩ (Nat.le_of_ble_eq_true rfl) dL_text_110) (e := e1) (hv := rfl) fun hO2 => ?_
      exact j_iret F ⟨g, rfl, rfl, hO2, e2⟩ (by omega) (by omega) dL_text_113
    · exact absurd (leN (by omega) (by omega)) z
  | succ k ih =>
    intro m h hk hnm hO fq
    refine j_iload_n F 0 rfl dL_text_2 rfl ?_
    refine j_aload_n F 2 rfl dL_text_3 rfl ?_
    refine j_roV F svL_8 (sc_length _ sg) (As := []) rfl rfl ⟨⟨rfl, rfl⟩, by decide, by decide⟩ (Nat.le_of_ble_eq_true rfl) ⟨by show _ ≤ 10; omega, by show _ ≤ 50; omega⟩ dL_text_4 ?_
    refine j_icmpge F (tgt := 105) dL_text_7 (by decide) (fun z0 => ?_) (fun z => ?_)
    · obtain ⟨g, e1, e2⟩ := fq.text (N := NN) (by decide) (by first | exact z0 | exact Decidable.byContradiction fun q => nleN (Nat.lt_of_not_le q) (by omega) z0) (by omega) hlen e9 k9
      refine j_aload_n F 1 rfl dL_text_105 rfl ?_
      refine j_aload_n F 2 rfl dL_text_106 rfl ?_
      refine j_roV F svL_8 (sc_length _ sg) (As := []) rfl rfl ⟨⟨rfl, rfl⟩, by decide, by decide⟩ (Nat.le_of_ble_eq_true rfl) ⟨by show _ ≤ 10; omega, by show _ ≤ 50; omega⟩ dL_text_107 ?_
      refine Wj_nil ?_
      refine j_cls (ex := []) hO (run_V (F.fx hDst hAw ⟨by show _ ≤ 10; omega, by show _ ≤ 50; omega⟩) cvL_24 (o := 0) (by decide) (c_X7_text (xG X) _ NN h (nI sg.1)) (As := [.int (nI sg.1)]) rfl rfl ⟨⟨rfl, rfl⟩, by decide, by decide⟩ (Nat.le_of_ble_eq_true rfl) dL_text_110) (e := e1) (hv := rfl) fun hO2 => ?_
      exact j_iret F ⟨g, rfl, rfl, hO2, e2⟩ (by omega) (by omega) dL_text_113
    · obtain ⟨g, f1, f2⟩ := fq.feed (N := NN) (by decide) (by omega) (fun j hj => hBY.2 j hj)
      refine j_iconst F (v := nI 5) dL_text_10 (by decide) ?_
      refine j_newI F acw_int (N := 5) (by decide) rfl (by decide) ⟨by show _ ≤ 10; omega, by show _ ≤ 50; omega⟩ dL_text_11 fun q => ?_
      refine Wj_front (ex := []) ?_
      refine j_astore_n F [(3, .ref q), (2, .int (nI (20 * m))), (0, .ref (adr (xG X) 7 0 0)), (1, .ref sg.2.2.2.1)] rfl dL_text_13 rfl (by rw [hL]; decide) ?_
      refine j_iconst F (v := nI 0) dL_text_14 (by decide) ?_
      refine j_istore F [(4, .int (nI 0)), (3, .ref q), (2, .int (nI (20 * m))), (0, .ref (adr (xG X) 7 0 0)), (1, .ref sg.2.2.2.1)] rfl dL_text_15 (by rw [hL]; decide) ?_
      refine t_inner F hL hBY hn (by omega) q ?_ 20 0 rfl
      refine j_aload_n F 3 rfl dL_text_74 rfl ?_
      refine j_aload_n F 1 rfl dL_text_75 rfl ?_
      refine j_iconst F (v := nI 0) dL_text_76 (by decide) ?_
      refine j_iald F 0 rfl (v := wvA (chB sg.1 sg.2.1 (20 * m)) 20 0) (inb_n (j := 0) (by omega) (by omega)) rfl dL_text_77 ?_
      refine j_aload_n F 1 rfl dL_text_78 rfl ?_
      refine j_iconst F (v := nI 1) dL_text_79 (by decide) ?_
      refine j_iald F 0 rfl (v := wvA (chB sg.1 sg.2.1 (20 * m)) 20 1) (inb_n (j := 1) (by omega) (by omega)) rfl dL_text_80 ?_
      refine j_aload_n F 1 rfl dL_text_81 rfl ?_
      refine j_iconst F (v := nI 2) dL_text_82 (by decide) ?_
      refine j_iald F 0 rfl (v := wvA (chB sg.1 sg.2.1 (20 * m)) 20 2) (inb_n (j := 2) (by omega) (by omega)) rfl dL_text_83 ?_
      refine j_aload_n F 1 rfl dL_text_84 rfl ?_
      refine j_iconst F (v := nI 3) dL_text_85 (by decide) ?_
      refine j_iald F 0 rfl (v := wvA (chB sg.1 sg.2.1 (20 * m)) 20 3) (inb_n (j := 3) (by omega) (by omega)) rfl dL_text_86 ?_
      refine j_aload_n F 1 rfl dL_text_87 rfl ?_
      refine j_iconst F (v := nI 4) dL_text_88 (by decide) ?_
      refine j_iald F 0 rfl (v := wvA (chB sg.1 sg.2.1 (20 * m)) 20 4) (inb_n (j := 4) (by omega) (by omega)) rfl dL_text_89 ?_
      refine j_cls (ex := [_]) hO (run_V (F.fx hDst hAw ⟨by show _ ≤ 10; omega, by show _ ≤ 50; omega⟩) cvL_18 (o := 0) (by decide) (c_X7_feed (xG X) _ NN h _ _ _ _ _) (As := [.int _, .int _, .int _, .int _, .int _]) rfl rfl ⟨⟨rfl, rfl⟩, by decide, by decide⟩ (Nat.le_of_ble_eq_true rfl) dL_text_90) (e := f1) (hv := rfl) fun hO2 => ?_
      refine j_ifge F (tgt := 99) dL_text_93 (by decide) (fun _ => ?_) (fun qq => absurd (leN (a := 0) (Nat.zero_le _) (by omega)) qq)
      refine j_iinc F (w := nI (20 * (m + 1))) 2 rfl (nI_add _ _) [(2, .int (nI (20 * (m + 1)))), (4, .int (nI 20)), (3, .ref q), (0, .ref (adr (xG X) 7 0 0)), (1, .ref sg.2.2.2.1)] rfl dL_text_99 (by rw [hL]; decide) ?_
      refine j_goto F (tgt := 2) dL_text_102 (by decide) ?_
      refine Wj_drop (a := [_]) ?_
      refine Wj_pick [0, 3, 4] rfl ?_
      exact ih (m + 1) g (by omega) (by omega) hO2 f2
end LT
