-- the text made of a builder; a new builder
abbrev rm_gv : Room := { frames := 0, cells := 0, slots := 0, locals := 0 }
set_option maxRecDepth 100000 in
theorem c_gv (G : Gx) (l : Launch) (sg : SGt) (dg : Nat × Nat) (sz : Nat) (b v : Nat) (ml nn : Int32) (hA3 : ∀ q, sz ≤ q → sg.2.2.1 q) (hA2 : ∀ p ∈ ([(b, .inr (9, [.ref v, .int (nI 0), .int ml, .int (nn)]))] : va_W), sg.2.2.1 p.1)  : Jc G l yJ5_getValue_6d5f1 cJ5_getValue_6d5f1 1 (some (.array .byte)) rm_gv [.ref b] sg dg sz [(b, .inr (9, [.ref v, .int (nI 0), .int ml, .int (nn)]))] (fun r w => r = some (.ref v) ∧ w = [(b, .inr (9, [.ref v, .int (nI 0), .int ml, .int (nn)]))]) 0 0 := by
  refine jc_of (by decide +kernel) (Nat.le_of_ble_eq_true rfl) (by simp) hA3 hA2 fun X hl hG hL F hnm => ?_
  subst hl
  subst hG
  refine j_aload_n F 0 rfl dJ5_getValue_6d5f1_0 rfl ?_
  refine j_get F frJ5_15 0 rfl rfl dJ5_getValue_6d5f1_1 ?_
  exact j_aret F rfl (Or.inr ⟨_, rfl⟩) ⟨rfl, rfl⟩ (Nat.le_refl _) (Nat.le_refl _) dJ5_getValue_6d5f1_4
abbrev rm_al : Room := { frames := 0, cells := 0, slots := 0, locals := 0 }
set_option maxRecDepth 100000 in
theorem c_al (G : Gx) (l : Launch) (sg : SGt) (dg : Nat × Nat) (sz : Nat) (b v : Nat) (ml nn : Int32) (hA3 : ∀ q, sz ≤ q → sg.2.2.1 q) (hA2 : ∀ p ∈ ([(b, .inr (9, [.ref v, .int (nI 0), .int ml, .int (nn)]))] : va_W), sg.2.2.1 p.1)  : Jc G l yJ5_length_8abf5 cJ5_length_8abf5 1 (some .int) rm_al [.ref b] sg dg sz [(b, .inr (9, [.ref v, .int (nI 0), .int ml, .int (nn)]))] (fun r w => r = some (.int nn) ∧ w = [(b, .inr (9, [.ref v, .int (nI 0), .int ml, .int (nn)]))]) 0 0 := by
  refine jc_of (by decide +kernel) (Nat.le_of_ble_eq_true rfl) (by simp) hA3 hA2 fun X hl hG hL F hnm => ?_
  subst hl
  subst hG
  refine j_aload_n F 0 rfl dJ5_length_8abf5_0 rfl ?_
  refine j_get F frJ5_79 0 rfl rfl dJ5_length_8abf5_1 ?_
  exact j_iret F ⟨rfl, rfl⟩ (Nat.le_refl _) (Nat.le_refl _) dJ5_length_8abf5_4
abbrev rm_sl : Room := { frames := 1, cells := 0, slots := 0, locals := 20 }
set_option maxRecDepth 100000 in
theorem c_sl (G : Gx) (l : Launch) (sg : SGt) (dg : Nat × Nat) (sz : Nat) (b v : Nat) (ml nn : Int32) (hA3 : ∀ q, sz ≤ q → sg.2.2.1 q) (hA2 : ∀ p ∈ ([(b, .inr (9, [.ref v, .int (nI 0), .int ml, .int (nn)]))] : va_W), sg.2.2.1 p.1)  : Jc G l yJ4_length_8abf5 cJ4_length_8abf5 1 (some .int) rm_sl [.ref b] sg dg sz [(b, .inr (9, [.ref v, .int (nI 0), .int ml, .int (nn)]))] (fun r w => r = some (.int nn) ∧ w = [(b, .inr (9, [.ref v, .int (nI 0), .int ml, .int (nn)]))]) 0 0 := by
  refine jc_of (by decide +kernel) (Nat.le_of_ble_eq_true rfl) (by simp) hA3 hA2 fun X hl hG hL F hnm => ?_
  subst hl
  subst hG
  refine j_aload_n F 0 rfl dJ4_length_8abf5_0 rfl ?_
  refine j_U F juJ4_343 (k := 0) rfl (rest := []) (cut_of [0] (by decide) rfl rfl) (fun q h1 h2 => c_al (xG X) X.1.2.1 sg dg q b v ml nn h1 h2) (As := []) rfl rfl ⟨⟨rfl, rfl⟩, by decide, by decide⟩ (Nat.le_of_ble_eq_true rfl) ⟨Nat.le_of_ble_eq_true rfl, Nat.le_of_ble_eq_true rfl⟩ dJ4_length_8abf5_1 fun r w hp => ?_
  obtain ⟨rfl, rfl⟩ := hp
  exact j_iret F ⟨rfl, rfl⟩ (Nat.le_refl _) (Nat.le_refl _) dJ4_length_8abf5_4
abbrev rm_chk : Room := { frames := 0, cells := 0, slots := 0, locals := 0 }
set_option maxRecDepth 100000 in
theorem c_chk (G : Gx) (l : Launch) (sg : SGt) (dg : Nat × Nat) (sz : Nat) (n : Nat) (hA3 : ∀ q, sz ≤ q → sg.2.2.1 q) (hA2 : ∀ p ∈ ([] : va_W), sg.2.2.1 p.1) (hn : n ≤ 150) : Jc G l yJ7_checkLength_df160 cJ7_checkLength_df160 2 none rm_chk [.int (nI 0), .int (nI n)] sg dg sz [] (fun r w => r = none ∧ w = []) 0 0 := by
  refine jc_of (by decide +kernel) (Nat.le_of_ble_eq_true rfl) (by simp) hA3 hA2 fun X hl hG hL F hnm => ?_
  subst hl
  subst hG
  refine j_iload_n F 1 rfl dJ7_checkLength_df160_0 rfl ?_
  refine j_iload_n F 0 rfl dJ7_checkLength_df160_1 rfl ?_
  refine j_icmpge F (tgt := 37) dJ7_checkLength_df160_2 (by decide) (fun _ => ?_) (fun qq => absurd (leN (a := 0) (by omega) (by omega)) qq)
  exact j_vret F ⟨rfl, rfl⟩ (Nat.le_refl _) (Nat.le_refl _) dJ7_checkLength_df160_37
abbrev rm_corB : Room := { frames := 1, cells := 1, slots := 150, locals := 40 }
set_option maxRecDepth 100000 in
theorem c_corB (G : Gx) (l : Launch) (sg : SGt) (dg : Nat × Nat) (sz : Nat) (v m n : Nat) (f : Nat → Int32) (hA3 : ∀ q, sz ≤ q → sg.2.2.1 q) (hA2 : ∀ p ∈ ([(v, ba G m f)] : va_W), sg.2.2.1 p.1) (hle : n ≤ m) (hm : m ≤ 150) (hf : ∀ j, fits .byte (.int (f j)) = true) : Jc G l yJ7_copyOfRangeByte_39247 cJ7_copyOfRangeByte_39247 5 (some (.array .byte)) rm_corB [.ref v, .int (nI 0), .int (nI n)] sg dg sz [(v, ba G m f)] (fun r w => ∃ u, r = some (.ref u) ∧ w = [(v, ba G m f), (u, ba G n (va_cpy f (fun _ => 0) 0 0 n))]) 1 150 := by
  refine jc_of (by decide +kernel) (Nat.le_of_ble_eq_true rfl) (by simp) hA3 hA2 fun X hl hG hL F hnm => ?_
  subst hl
  subst hG
  refine j_iload_n F 1 rfl dJ7_copyOfRangeByte_39247_0 rfl ?_
  refine j_iload_n F 2 rfl dJ7_copyOfRangeByte_39247_1 rfl ?_
  refine j_S F jsJ7_343 (ws := []) (rest := [(v, ba (xG X) m f)]) (cut_of [0] (by decide) rfl rfl) (fun q h1 h2 => c_chk (xG X) X.1.2.1 sg dg q n h1 h2 (by omega)) rfl rfl ⟨⟨rfl, rfl⟩, by decide, by decide⟩ (Nat.le_of_ble_eq_true rfl) ⟨Nat.le_of_ble_eq_true rfl, Nat.le_of_ble_eq_true rfl⟩ dJ7_copyOfRangeByte_39247_2 fun r w hp => ?_
  obtain ⟨rfl, rfl⟩ := hp
  rw [List.nil_append]
  refine j_iload_n F 2 rfl dJ7_copyOfRangeByte_39247_5 rfl ?_
  refine j_iload_n F 1 rfl dJ7_copyOfRangeByte_39247_6 rfl ?_
  refine j_isub F (z := nI n) dJ7_copyOfRangeByte_39247_7 (nI_sub (b := 0) (by omega)) ?_
  refine j_istore_n F [(3, .int (nI n)), (0, .ref v), (1, .int (nI 0)), (2, .int (nI n))] rfl dJ7_copyOfRangeByte_39247_8 rfl (by rw [hL]; decide) ?_
  refine j_iload_n F 0 rfl dJ7_copyOfRangeByte_39247_9 rfl ?_
  refine j_newB F jw_byte (N := n) (nI_pos (by omega)) (clN (by omega)) (by omega) ⟨Nat.le_refl _, by show 0 + n ≤ 150; omega⟩ dJ7_copyOfRangeByte_39247_10 fun u => ?_
  refine j_astore F [(4, .ref u), (3, .int (nI n)), (0, .ref v), (1, .int (nI 0)), (2, .int (nI n))] rfl dJ7_copyOfRangeByte_39247_12 (by rw [hL]; decide) ?_
  refine j_aload_n F 2 rfl dJ7_copyOfRangeByte_39247_14 rfl ?_
  refine j_iload_n F 3 rfl dJ7_copyOfRangeByte_39247_15 rfl ?_
  refine j_aload F 0 rfl dJ7_copyOfRangeByte_39247_16 ?_
  refine j_iconst F (v := nI 0) dJ7_copyOfRangeByte_39247_18 (by decide) ?_
  refine j_aload_n F 2 rfl dJ7_copyOfRangeByte_39247_19 rfl ?_
  refine j_alen F 0 rfl dJ7_copyOfRangeByte_39247_20 ?_
  refine j_iload_n F 3 rfl dJ7_copyOfRangeByte_39247_21 rfl ?_
  refine j_isub F (z := nI m) dJ7_copyOfRangeByte_39247_22 (nI_sub (b := 0) (by omega)) ?_
  refine j_iload_n F 1 rfl dJ7_copyOfRangeByte_39247_23 rfl ?_
  refine j_min F jw_min ws_min (z := nI n) ((nI_minif (by omega) (by omega)).trans (congrArg nI (show (if n < m then n else m) = n by split <;> omega))) ⟨by decide, Nat.le_of_ble_eq_true rfl⟩ ⟨Nat.le_refl _, by show 0 + n ≤ 150; omega⟩ dJ7_copyOfRangeByte_39247_24 ?_
  refine j_copy F jw_ac7 ws_copy 0 1 rfl rfl (sp := 0) (dp := 0) (n := n) ⟨by decide, by decide, by omega⟩ (by omega) (by omega) hf ⟨by decide, Nat.le_of_ble_eq_true rfl⟩ rfl dJ7_copyOfRangeByte_39247_27 ?_
  refine j_aload F 0 rfl dJ7_copyOfRangeByte_39247_30 ?_
  exact j_aret F rfl (Or.inr ⟨_, rfl⟩) ⟨u, rfl, rfl⟩ (Nat.le_refl _) (by show 0 + n ≤ 150; omega) dJ7_copyOfRangeByte_39247_32
abbrev rm_cor : Room := { frames := 2, cells := 1, slots := 150, locals := 64 }
set_option maxRecDepth 100000 in
theorem c_cor (G : Gx) (l : Launch) (sg : SGt) (dg : Nat × Nat) (sz : Nat) (v m n : Nat) (f : Nat → Int32) (hA3 : ∀ q, sz ≤ q → sg.2.2.1 q) (hA2 : ∀ p ∈ ([(v, ba G m f)] : va_W), sg.2.2.1 p.1) (hle : n ≤ m) (hm : m ≤ 150) (hf : ∀ j, fits .byte (.int (f j)) = true) : Jc G l yJ7_copyOfRange_39247 cJ7_copyOfRange_39247 3 (some (.array .byte)) rm_cor [.ref v, .int (nI 0), .int (nI n)] sg dg sz [(v, ba G m f)] (fun r w => ∃ u f2, r = some (.ref u) ∧ w = [(v, ba G m f), (u, ba G n f2)] ∧ (∀ j, j < n → f2 j = f j) ∧ ∀ j, fits .byte (.int (f2 j)) = true) 1 150 := by
  refine jc_of (by decide +kernel) (Nat.le_of_ble_eq_true rfl) (by simp) hA3 hA2 fun X hl hG hL F hnm => ?_
  subst hl
  subst hG
  by_cases hnm2 : n = m
  · skip
    refine j_iload_n F 1 rfl dJ7_copyOfRange_39247_0 rfl ?_
    refine j_ifne F (tgt := 10) dJ7_copyOfRange_39247_1 (by decide) (fun qq => absurd qq (fun z => z rfl)) (fun _ => ?_)
    refine j_iload_n F 2 rfl dJ7_copyOfRange_39247_4 rfl ?_
    refine j_aload_n F 0 rfl dJ7_copyOfRange_39247_5 rfl ?_
    refine j_alen F 0 rfl dJ7_copyOfRange_39247_6 ?_
    refine j_icmpeq F (tgt := 17) dJ7_copyOfRange_39247_7 (by decide) (fun _ => ?_) (fun qq => absurd (show nI n = nI m by rw [hnm2]) qq)
    refine j_aload_n F 0 rfl dJ7_copyOfRange_39247_17 rfl ?_
    refine j_clone F 0 rfl hf ⟨by decide, Nat.le_of_ble_eq_true rfl⟩ ⟨Nat.le_of_ble_eq_true rfl, by show 0 + m ≤ 150; omega⟩ dJ7_copyOfRange_39247_18 fun u => ?_
    refine j_castB F 1 rfl dJ7_copyOfRange_39247_21 ?_
    exact j_aret F rfl (Or.inr ⟨_, rfl⟩) ⟨u, f, rfl, by rw [hnm2]; rfl, fun _ _ => rfl, hf⟩ (Nat.le_of_ble_eq_true rfl) (by show 0 + m ≤ 150; omega) dJ7_copyOfRange_39247_24
  · skip
    refine j_iload_n F 1 rfl dJ7_copyOfRange_39247_0 rfl ?_
    refine j_ifne F (tgt := 10) dJ7_copyOfRange_39247_1 (by decide) (fun qq => absurd qq (fun z => z rfl)) (fun _ => ?_)
    refine j_iload_n F 2 rfl dJ7_copyOfRange_39247_4 rfl ?_
    refine j_aload_n F 0 rfl dJ7_copyOfRange_39247_5 rfl ?_
    refine j_alen F 0 rfl dJ7_copyOfRange_39247_6 ?_
    refine j_icmpeq F (tgt := 17) dJ7_copyOfRange_39247_7 (by decide) (fun qq => absurd qq (fun z => hnm2 ((nI_eq (by omega) (by omega)).mp z))) (fun _ => ?_)
    refine j_aload_n F 0 rfl dJ7_copyOfRange_39247_10 rfl ?_
    refine j_iload_n F 1 rfl dJ7_copyOfRange_39247_11 rfl ?_
    refine j_iload_n F 2 rfl dJ7_copyOfRange_39247_12 rfl ?_
    refine j_S F jsJ7_339 (rest := []) (cut_of [0] (by decide) rfl rfl) (fun q h1 h2 => c_corB (xG X) X.1.2.1 sg dg q v m n f h1 h2 hle hm hf) rfl rfl ⟨⟨rfl, rfl⟩, by decide, by decide⟩ (Nat.le_of_ble_eq_true rfl) ⟨Nat.le_of_ble_eq_true rfl, Nat.le_of_ble_eq_true rfl⟩ dJ7_copyOfRange_39247_13 fun r w hp => ?_
    obtain ⟨u, rfl, rfl⟩ := hp
    exact j_aret F rfl (Or.inr ⟨_, rfl⟩) ⟨u, _, rfl, rfl, fun j hj => cpy_at _ _ hj, fun j => cpy_fit hf fit0 j⟩ (Nat.le_of_ble_eq_true rfl) (Nat.le_of_ble_eq_true rfl) dJ7_copyOfRange_39247_16
abbrev rm_si2 : Room := { frames := 3, cells := 1, slots := 150, locals := 86 }
set_option maxRecDepth 100000 in
theorem c_si2 (G : Gx) (l : Launch) (sg : SGt) (dg : Nat × Nat) (sz : Nat) (s b v m : Nat) (ml : Int32) (f : Nat → Int32) (t : List Int32) (hA3 : ∀ q, sz ≤ q → sg.2.2.1 q) (hA2 : ∀ p ∈ ([(s, .inr (8, dfl 8)), (b, .inr (9, [.ref v, .int (nI 0), .int ml, .int (nI t.length)])), (v, ba G m f)] : va_W), sg.2.2.1 p.1) (hnd : [s, b, v].Nodup) (hm : m ≤ 150) (hf : ∀ j, fits .byte (.int (f j)) = true) (hc : t.length ≤ m ∧ ∀ j, j < t.length → f j = t.getD j 0) : Jc G l yJ0_init_db425 cJ0_init_db425 5 none rm_si2 [.ref s, .ref b, .null] sg dg sz [(s, .inr (8, dfl 8)), (b, .inr (9, [.ref v, .int (nI 0), .int ml, .int (nI t.length)])), (v, ba G m f)] (fun r w => r = none ∧ ∃ u f2, w = [(s, .inr (8, [.ref u, .int (nI 0), .int 0, .int 0])), (u, ba G t.length f2)] ∧ (∀ j, j < t.length → f2 j = t.getD j 0) ∧ ∀ j, fits .byte (.int (f2 j)) = true) 1 150 := by
  refine jc_of (by decide +kernel) (Nat.le_of_ble_eq_true rfl) hnd hA3 hA2 fun X hl hG hL F hnm => ?_
  subst hl
  subst hG
  refine j_aload_n F 0 rfl dJ0_init_db425_0 rfl ?_
  refine j_objInit F oiJ0 ⟨by decide, Nat.le_of_ble_eq_true rfl⟩ dJ0_init_db425_1 ?_
  refine j_aload_n F 1 rfl dJ0_init_db425_4 rfl ?_
  refine j_V F jvJ0_552 (k := 1) rfl (rest := [(s, .inr (8, dfl 8)), (v, ba (xG X) m f)]) (cut_of [1, 0, 2] (by decide) rfl rfl) (fun q h1 h2 => c_gv (xG X) X.1.2.1 sg dg q b v ml (nI t.length) h1 h2) (As := []) rfl rfl ⟨⟨rfl, rfl⟩, by decide, by decide⟩ (Nat.le_of_ble_eq_true rfl) ⟨Nat.le_of_ble_eq_true rfl, Nat.le_of_ble_eq_true rfl⟩ dJ0_init_db425_5 fun r w hp => ?_
  obtain ⟨rfl, rfl⟩ := hp
  refine j_astore_n F [(3, .ref v), (0, .ref s), (1, .ref b), (2, .null)] rfl dJ0_init_db425_8 rfl (by rw [hL]; decide) ?_
  refine j_aload_n F 2 rfl dJ0_init_db425_9 rfl ?_
  refine j_VO F (k := 0) rfl (rest := [(s, .inr (8, dfl 8)), (v, ba (xG X) m f)]) (cut_of [0, 1, 2] (by decide) rfl rfl) (fun q h1 h2 => c_sl (xG X) X.1.2.1 sg dg q b v ml (nI t.length) h1 h2) rfl ⟨⟨rfl, rfl⟩, by decide, by decide⟩ (Nat.le_of_ble_eq_true rfl) ⟨Nat.le_of_ble_eq_true rfl, Nat.le_of_ble_eq_true rfl⟩ dJ0_init_db425_10 fun r w hp => ?_
  obtain ⟨rfl, rfl⟩ := hp
  refine j_istore F [(4, .int (nI t.length)), (3, .ref v), (0, .ref s), (1, .ref b), (2, .null)] rfl dJ0_init_db425_13 (by rw [hL]; decide) ?_
  refine j_aload_n F 3 rfl dJ0_init_db425_15 rfl ?_
  refine j_V F jvJ0_1047 (k := 0) rfl (rest := [(s, .inr (8, dfl 8)), (v, ba (xG X) m f)]) (cut_of [0, 1, 2] (by decide) rfl rfl) (fun q h1 h2 => c_isl (xG X) X.1.2.1 sg dg q b v ml (nI t.length) h1 h2) (As := []) rfl rfl ⟨⟨rfl, rfl⟩, by decide, by decide⟩ (Nat.le_of_ble_eq_true rfl) ⟨Nat.le_of_ble_eq_true rfl, Nat.le_of_ble_eq_true rfl⟩ dJ0_init_db425_16 fun r w hp => ?_
  obtain ⟨rfl, rfl⟩ := hp
  refine j_ifeq F (tgt := 41) dJ0_init_db425_19 (by decide) (fun qq => absurd qq (by decide)) (fun _ => ?_)
  refine j_aload_n F 2 rfl dJ0_init_db425_22 rfl ?_
  refine j_iconst F (v := nI 0) dJ0_init_db425_23 (by decide) ?_
  refine j_putF F hnm frJ0_15 rfl rfl 1 rfl rfl rfl (Nat.le_of_ble_eq_true rfl) rfl dJ0_init_db425_24 ?_
  refine j_aload_n F 2 rfl dJ0_init_db425_27 rfl ?_
  refine j_aload_n F 1 rfl dJ0_init_db425_28 rfl ?_
  refine j_iconst F (v := nI 0) dJ0_init_db425_29 (by decide) ?_
  refine j_iload F 0 rfl dJ0_init_db425_30 ?_
  refine j_S F jsJ0_54 (ws := [(v, ba (xG X) m f)]) (rest := [(s, .inr (8, [.null, .int (nI 0), .int 0, .int 0]))]) (cut_of [2, 1] (by decide) rfl rfl) (fun q h1 h2 => c_cor (xG X) X.1.2.1 sg dg q v m t.length f h1 h2 hc.1 hm hf) rfl rfl ⟨⟨rfl, rfl⟩, by decide, by decide⟩ (Nat.le_of_ble_eq_true rfl) ⟨Nat.le_of_ble_eq_true rfl, Nat.le_of_ble_eq_true rfl⟩ dJ0_init_db425_32 fun r w hp => ?_
  obtain ⟨u, f2, rfl, rfl, hf2, hg2⟩ := hp
  refine j_putF F hnm frJ0_9 rfl rfl 2 rfl rfl rfl (Nat.le_of_ble_eq_true rfl) rfl dJ0_init_db425_35 ?_
  refine Wj_cut (ws2 := [(s, .inr (8, [.ref u, .int (nI 0), .int 0, .int 0])), (u, ba (xG X) t.length f2)]) [2, 1] (by decide) rfl rfl ?_
  refine j_goto F (tgt := 97) dJ0_init_db425_38 (by decide) ?_
  exact j_vret F ⟨rfl, u, f2, rfl, fun j hj => (hf2 j hj).trans (hc.2 j hj), hg2⟩ (Nat.le_of_ble_eq_true rfl) (Nat.le_of_ble_eq_true rfl) dJ0_init_db425_97
abbrev rm_si1 : Room := { frames := 4, cells := 1, slots := 150, locals := 110 }
set_option maxRecDepth 100000 in
theorem c_si1 (G : Gx) (l : Launch) (sg : SGt) (dg : Nat × Nat) (sz : Nat) (s b v m : Nat) (ml : Int32) (f : Nat → Int32) (t : List Int32) (hA3 : ∀ q, sz ≤ q → sg.2.2.1 q) (hA2 : ∀ p ∈ ([(s, .inr (8, dfl 8)), (b, .inr (9, [.ref v, .int (nI 0), .int ml, .int (nI t.length)])), (v, ba G m f)] : va_W), sg.2.2.1 p.1) (hnd : [s, b, v].Nodup) (hm : m ≤ 150) (hf : ∀ j, fits .byte (.int (f j)) = true) (hc : t.length ≤ m ∧ ∀ j, j < t.length → f j = t.getD j 0) : Jc G l yJ0_init_81219 cJ0_init_81219 2 none rm_si1 [.ref s, .ref b] sg dg sz [(s, .inr (8, dfl 8)), (b, .inr (9, [.ref v, .int (nI 0), .int ml, .int (nI t.length)])), (v, ba G m f)] (fun r w => r = none ∧ ∃ u f2, w = [(s, .inr (8, [.ref u, .int (nI 0), .int 0, .int 0])), (u, ba G t.length f2)] ∧ (∀ j, j < t.length → f2 j = t.getD j 0) ∧ ∀ j, fits .byte (.int (f2 j)) = true) 1 150 := by
  refine jc_of (by decide +kernel) (Nat.le_of_ble_eq_true rfl) hnd hA3 hA2 fun X hl hG hL F hnm => ?_
  subst hl
  subst hG
  refine j_aload_n F 0 rfl dJ0_init_81219_0 rfl ?_
  refine j_aload_n F 1 rfl dJ0_init_81219_1 rfl ?_
  refine j_null F dJ0_init_81219_2 ?_
  refine j_I F jiJ0_489 (rest := []) (cut_of [0, 1, 2] (by decide) rfl rfl) (fun q h1 h2 => c_si2 (xG X) X.1.2.1 sg dg q s b v m ml f t h1 h2 hnd hm hf hc) rfl rfl ⟨⟨rfl, rfl⟩, by decide, by decide⟩ (Nat.le_of_ble_eq_true rfl) ⟨Nat.le_of_ble_eq_true rfl, Nat.le_of_ble_eq_true rfl⟩ dJ0_init_81219_3 fun r w hp => ?_
  obtain ⟨rfl, u, f2, rfl, hf2, hg2⟩ := hp
  exact j_vret F ⟨rfl, u, f2, rfl, hf2, hg2⟩ (Nat.le_of_ble_eq_true rfl) (Nat.le_of_ble_eq_true rfl) dJ0_init_81219_6
abbrev rm_ts : Room := { frames := 5, cells := 2, slots := 154, locals := 131 }
set_option maxRecDepth 100000 in
theorem c_ts (G : Gx) (l : Launch) (sg : SGt) (dg : Nat × Nat) (sz : Nat) (b : Nat) (t : List Int32) (wb : va_W) (hA3 : ∀ q, sz ≤ q → sg.2.2.1 q) (hA2 : ∀ p ∈ (wb : va_W), sg.2.2.1 p.1) (hB : Bw G b t wb) : Jc G l yJ4_toString_0e30d cJ4_toString_0e30d 1 (some (.object "java/lang/String")) rm_ts [.ref b] sg dg sz wb (fun r w => ∃ s u f2, r = some (.ref s) ∧ w = [(s, .inr (8, [.ref u, .int (nI 0), .int 0, .int 0])), (u, ba G t.length f2)] ∧ (∀ j, j < t.length → f2 j = t.getD j 0) ∧ ∀ j, fits .byte (.int (f2 j)) = true) 2 154 := by
  refine jc_of (by decide +kernel) (Nat.le_of_ble_eq_true rfl) (by obtain ⟨v, m, f, ml, rfl, -, -, -, -, hne⟩ := hB; simpa using hne) hA3 hA2 fun X hl hG hL F hnm => ?_
  subst hl
  subst hG
  obtain ⟨v, m, f, ml, rfl, hc, hm, hf, hg, hne⟩ := hB
  refine j_new F (c := 8) nwJ4_18 (by decide) ⟨Nat.le_of_ble_eq_true rfl, Nat.le_of_ble_eq_true rfl⟩ dJ4_toString_0e30d_0 fun s => ?_
  refine Wj_cut (ws2 := [(s, .inr (8, dfl 8)), (b, .inr (9, [.ref v, .int (nI 0), .int ml, .int (nI t.length)])), (v, ba (xG X) m f)]) [2, 0, 1] (by decide) rfl rfl ?_
  refine Wj_nd fun hnd => ?_
  refine j_dup F rfl dJ4_toString_0e30d_3 ?_
  refine j_aload_n F 0 rfl dJ4_toString_0e30d_4 rfl ?_
  refine j_I F jiJ4_137 (rest := []) (cut_of [0, 1, 2] (by decide) rfl rfl) (fun q h1 h2 => c_si1 (xG X) X.1.2.1 sg dg q s b v m ml f t h1 h2 hnd hm hg ⟨hc, hf⟩) rfl rfl ⟨⟨rfl, rfl⟩, by decide, by decide⟩ (Nat.le_of_ble_eq_true rfl) ⟨Nat.le_of_ble_eq_true rfl, Nat.le_of_ble_eq_true rfl⟩ dJ4_toString_0e30d_5 fun r w hp => ?_
  obtain ⟨rfl, u, f2, rfl, hf2, hg2⟩ := hp
  exact j_aret F rfl (Or.inl ⟨_, rfl⟩) ⟨s, u, f2, rfl, rfl, hf2, hg2⟩ (Nat.le_of_ble_eq_true rfl) (Nat.le_of_ble_eq_true rfl) dJ4_toString_0e30d_8
abbrev rm_asbinit : Room := { frames := 1, cells := 1, slots := 16, locals := 20 }
set_option maxRecDepth 100000 in
theorem c_asbinit (G : Gx) (l : Launch) (sg : SGt) (dg : Nat × Nat) (sz : Nat) (b : Nat) (hA3 : ∀ q, sz ≤ q → sg.2.2.1 q) (hA2 : ∀ p ∈ ([(b, .inr (9, dfl 9))] : va_W), sg.2.2.1 p.1)  : Jc G l yJ5_init_d00df cJ5_init_d00df 2 none rm_asbinit [.ref b, .int (nI 16)] sg dg sz [(b, .inr (9, dfl 9))] (fun r w => r = none ∧ Bw G b [] w) 1 16 := by
  refine jc_of (by decide +kernel) (Nat.le_of_ble_eq_true rfl) (by simp) hA3 hA2 fun X hl hG hL F hnm => ?_
  subst hl
  subst hG
  refine j_aload_n F 0 rfl dJ5_init_d00df_0 rfl ?_
  refine j_objInit F oiJ5 ⟨by decide, Nat.le_of_ble_eq_true rfl⟩ dJ5_init_d00df_1 ?_
  refine j_compact F jw_cs5 dJ5_init_d00df_4 ?_
  refine j_ifeq F (tgt := 25) dJ5_init_d00df_7 (by decide) (fun qq => absurd qq (by decide)) (fun _ => ?_)
  refine j_aload_n F 0 rfl dJ5_init_d00df_10 rfl ?_
  refine j_iload_n F 1 rfl dJ5_init_d00df_11 rfl ?_
  refine j_newB F jw_byte (N := 16) (by decide) (by decide) (by omega) ⟨Nat.le_refl _, Nat.le_refl _⟩ dJ5_init_d00df_12 fun v => ?_
  refine Wj_nd fun hnd => ?_
  refine j_put F frJ5_15 rfl 0 rfl rfl rfl (Nat.le_of_ble_eq_true rfl) rfl dJ5_init_d00df_14 ?_
  refine j_aload_n F 0 rfl dJ5_init_d00df_17 rfl ?_
  refine j_iconst F (v := nI 0) dJ5_init_d00df_18 (by decide) ?_
  refine j_put F frJ5_22 rfl 0 rfl rfl rfl (Nat.le_of_ble_eq_true rfl) rfl dJ5_init_d00df_19 ?_
  refine j_goto F (tgt := 38) dJ5_init_d00df_22 (by decide) ?_
  exact j_vret F ⟨rfl, v, 16, _, 0, rfl, Nat.zero_le _, by omega, fun j hj => absurd hj (Nat.not_lt_zero j), fit0, by simpa using hnd⟩ (Nat.le_refl _) (Nat.le_refl _) dJ5_init_d00df_38
abbrev rm_sbinit : Room := { frames := 2, cells := 1, slots := 16, locals := 41 }
set_option maxRecDepth 100000 in
theorem c_sbinit (G : Gx) (l : Launch) (sg : SGt) (dg : Nat × Nat) (sz : Nat) (b : Nat) (hA3 : ∀ q, sz ≤ q → sg.2.2.1 q) (hA2 : ∀ p ∈ ([(b, .inr (9, dfl 9))] : va_W), sg.2.2.1 p.1)  : Jc G l yJ4_init_da8c8 cJ4_init_da8c8 1 none rm_sbinit [.ref b] sg dg sz [(b, .inr (9, dfl 9))] (fun r w => r = none ∧ Bw G b [] w) 1 16 := by
  refine jc_of (by decide +kernel) (Nat.le_of_ble_eq_true rfl) (by simp) hA3 hA2 fun X hl hG hL F hnm => ?_
  subst hl
  subst hG
  refine j_aload_n F 0 rfl dJ4_init_da8c8_0 rfl ?_
  refine j_bipush F (v := nI 16) dJ4_init_da8c8_1 (by decide) ?_
  refine j_I F jiJ4_1 (rest := []) (cut_of [0] (by decide) rfl rfl) (fun q h1 h2 => c_asbinit (xG X) X.1.2.1 sg dg q b h1 h2) rfl rfl ⟨⟨rfl, rfl⟩, by decide, by decide⟩ (Nat.le_of_ble_eq_true rfl) ⟨Nat.le_of_ble_eq_true rfl, Nat.le_of_ble_eq_true rfl⟩ dJ4_init_da8c8_3 fun r w hp => ?_
  obtain ⟨rfl, hp⟩ := hp
  rw [List.append_nil]
  exact j_vret F ⟨rfl, hp⟩ (Nat.le_refl _) (Nat.le_refl _) dJ4_init_da8c8_6
