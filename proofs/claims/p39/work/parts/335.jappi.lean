-- the JDK's own methods over a builder: a number put behind, the text made, a new builder
abbrev rm_asbI : Room := { frames := 4, cells := 1, slots := 150, locals := 94 }
set_option maxRecDepth 100000 in
theorem c_asbI (G : Gx) (l : Launch) (sg : SGt) (dg : Nat × Nat) (sz : Nat) (b v m k : Nat) (ml : Int32) (f : Nat → Int32) (t : List Int32) (hA3 : ∀ q, sz ≤ q → sg.2.2.1 q) (hA2 : ∀ p ∈ ([(b, .inr (9, [.ref v, .int (nI 0), .int ml, .int (nI t.length)])), (v, ba G m f)] : va_W), sg.2.2.1 p.1) (hne : ¬ b = v) (hk : k < 1000) (ht : t.length + (dgL k).length ≤ 70) (hm : m ≤ 150) (hf : ∀ j, fits .byte (.int (f j)) = true) (hc : t.length ≤ m ∧ ∀ j, j < t.length → f j = t.getD j 0) : Jc G l yJ5_append_c97b9 cJ5_append_c97b9 4 (some (.object "java/lang/AbstractStringBuilder")) rm_asbI [.ref b, .int (nI k)] sg dg sz [(b, .inr (9, [.ref v, .int (nI 0), .int ml, .int (nI t.length)])), (v, ba G m f)] (fun r w => r = some (.ref b) ∧ Bw G b (t ++ dgL k) w) 1 150 := by
  refine jc_of (by decide +kernel) (Nat.le_of_ble_eq_true rfl) (by simpa using hne) hA3 hA2 fun X hl hG hL F hnm => ?_
  subst hl
  subst hG
  refine j_aload_n F 0 rfl dJ5_append_c97b9_0 rfl ?_
  refine j_get F frJ5_79 0 rfl rfl dJ5_append_c97b9_1 ?_
  refine j_istore_n F [(2, .int (nI t.length)), (0, .ref b), (1, .int (nI k))] rfl dJ5_append_c97b9_4 rfl (by rw [hL]; decide) ?_
  refine j_iload_n F 0 rfl dJ5_append_c97b9_5 rfl ?_
  refine j_iload_n F 2 rfl dJ5_append_c97b9_6 rfl ?_
  refine j_S F jsJ5_245 (ws := []) (rest := [(b, .inr (9, [.ref v, .int (nI 0), .int ml, .int (nI t.length)])), (v, ba (xG X) m f)]) (cut_of [0, 1] (by decide) rfl rfl) (fun q h1 h2 => c_ss (xG X) X.1.2.1 sg dg q k h1 h2 hk) rfl rfl ⟨⟨rfl, rfl⟩, by decide, by decide⟩ (Nat.le_of_ble_eq_true rfl) ⟨Nat.le_of_ble_eq_true rfl, Nat.le_of_ble_eq_true rfl⟩ dJ5_append_c97b9_7 fun r w hp => ?_
  obtain ⟨rfl, rfl⟩ := hp
  rw [List.nil_append]
  refine j_iadd F (z := nI (t.length + (dgL k).length)) dJ5_append_c97b9_10 (nI_add _ _) ?_
  refine j_istore_n F [(3, .int (nI (t.length + (dgL k).length))), (2, .int (nI t.length)), (0, .ref b), (1, .int (nI k))] rfl dJ5_append_c97b9_11 rfl (by rw [hL]; decide) ?_
  refine j_aload_n F 2 rfl dJ5_append_c97b9_12 rfl ?_
  refine j_iload_n F 0 rfl dJ5_append_c97b9_13 rfl ?_
  refine j_V F jvJ5_100 (k := 0) rfl (rest := []) (cut_of [0, 1] (by decide) rfl rfl) (fun q h1 h2 => c_ens (xG X) X.1.2.1 sg dg q b v m (t.length + (dgL k).length) ml (nI t.length) f h1 h2 hne hm ht hf) rfl rfl ⟨⟨rfl, rfl⟩, by decide, by decide⟩ (Nat.le_of_ble_eq_true rfl) ⟨Nat.le_of_ble_eq_true rfl, Nat.le_of_ble_eq_true rfl⟩ dJ5_append_c97b9_14 fun r w hp => ?_
  obtain ⟨rfl, v2, m2, f2, rfl, hq2, hm2, hf2, hg2, hne2⟩ := hp
  refine j_aload_n F 2 rfl dJ5_append_c97b9_17 rfl ?_
  refine j_V F jvJ5_83 (k := 0) rfl (rest := [(v2, ba (xG X) m2 f2)]) (cut_of [0, 1] (by decide) rfl rfl) (fun q h1 h2 => c_isl (xG X) X.1.2.1 sg dg q b v2 ml (nI t.length) h1 h2) rfl rfl ⟨⟨rfl, rfl⟩, by decide, by decide⟩ (Nat.le_of_ble_eq_true rfl) ⟨Nat.le_of_ble_eq_true rfl, Nat.le_of_ble_eq_true rfl⟩ dJ5_append_c97b9_18 fun r w hp => ?_
  obtain ⟨rfl, rfl⟩ := hp
  refine j_ifeq F (tgt := 37) dJ5_append_c97b9_21 (by decide) (fun qq => absurd qq (by decide)) (fun _ => ?_)
  refine j_iload_n F 3 rfl dJ5_append_c97b9_24 rfl ?_
  refine j_iload_n F 0 rfl dJ5_append_c97b9_25 rfl ?_
  refine j_aload_n F 2 rfl dJ5_append_c97b9_26 rfl ?_
  refine j_get F frJ5_15 0 rfl rfl dJ5_append_c97b9_27 ?_
  refine j_S F jsJ5_248 (rest := [(b, .inr (9, [.ref v2, .int (nI 0), .int ml, .int (nI t.length)]))]) (cut_of [1, 0] (by decide) rfl rfl) (fun q h1 h2 => c_gc (xG X) X.1.2.1 sg dg q v2 m2 t.length k f2 h1 h2 hk hq2 hm2 hg2) rfl rfl ⟨⟨rfl, rfl⟩, by decide, by decide⟩ (Nat.le_of_ble_eq_true rfl) ⟨Nat.le_of_ble_eq_true rfl, Nat.le_of_ble_eq_true rfl⟩ dJ5_append_c97b9_30 fun r w hp => ?_
  obtain ⟨rfl, f3, rfl, hf3, hd3, hg3⟩ := hp
  refine Wj_cut (ws2 := [(b, .inr (9, [.ref v2, .int (nI 0), .int ml, .int (nI t.length)])), (v2, ba (xG X) m2 f3)]) [1, 0] (by decide) rfl rfl ?_
  refine j_pop F rfl dJ5_append_c97b9_33 ?_
  refine j_goto F (tgt := 48) dJ5_append_c97b9_34 (by decide) ?_
  refine j_aload_n F 2 rfl dJ5_append_c97b9_48 rfl ?_
  refine j_iload_n F 0 rfl dJ5_append_c97b9_49 rfl ?_
  refine j_put F frJ5_79 rfl 0 rfl rfl rfl (Nat.le_of_ble_eq_true rfl) rfl dJ5_append_c97b9_50 ?_
  refine j_aload_n F 2 rfl dJ5_append_c97b9_53 rfl ?_
  have hl2 : (t ++ dgL k).length = t.length + (dgL k).length := List.length_append
  refine j_aret F rfl (Or.inl ⟨_, rfl⟩) ⟨rfl, v2, m2, f3, ml, by rw [hl2]; rfl, by rw [hl2]; exact hq2, hm2, ?_, hg3, hne2⟩ (Nat.le_of_ble_eq_true rfl) (Nat.le_of_ble_eq_true rfl) dJ5_append_c97b9_54
  intro j hj
  rw [hl2] at hj
  by_cases z : j < t.length
  · rw [hf3 j z, hf2 j (by omega), hc.2 j z, List.getD_eq_getElem?_getD, List.getD_eq_getElem?_getD, List.getElem?_append_left z]
  · have := hd3 (j - t.length) (by omega)
    rw [show t.length + (j - t.length) = j by omega] at this
    rw [this, List.getD_eq_getElem?_getD, List.getD_eq_getElem?_getD, List.getElem?_append_right (by omega)]
abbrev rm_sbI : Room := { frames := 5, cells := 1, slots := 150, locals := 117 }
set_option maxRecDepth 100000 in
theorem c_sbI (G : Gx) (l : Launch) (sg : SGt) (dg : Nat × Nat) (sz : Nat) (b k : Nat) (t : List Int32) (wb : va_W) (hA3 : ∀ q, sz ≤ q → sg.2.2.1 q) (hA2 : ∀ p ∈ (wb : va_W), sg.2.2.1 p.1) (hB : Bw G b t wb) (hk : k < 1000) (ht : t.length + (dgL k).length ≤ 70) : Jc G l yJ4_append_bf812 cJ4_append_bf812 2 (some (.object "java/lang/StringBuilder")) rm_sbI [.ref b, .int (nI k)] sg dg sz wb (fun r w => r = some (.ref b) ∧ Bw G b (t ++ dgL k) w) 1 150 := by
  refine jc_of (by decide +kernel) (Nat.le_of_ble_eq_true rfl) (by obtain ⟨v, m, f, ml, rfl, -, -, -, -, hne⟩ := hB; simpa using hne) hA3 hA2 fun X hl hG hL F hnm => ?_
  subst hl
  subst hG
  obtain ⟨v, m, f, ml, rfl, hc, hm, hf, hg, hne⟩ := hB
  refine j_aload_n F 0 rfl dJ4_append_bf812_0 rfl ?_
  refine j_iload_n F 1 rfl dJ4_append_bf812_1 rfl ?_
  refine j_U F juJ4_53 (k := 0) rfl (rest := []) (cut_of [0, 1] (by decide) rfl rfl) (fun q h1 h2 => c_asbI (xG X) X.1.2.1 sg dg q b v m k ml f t h1 h2 hne hk ht hm hg ⟨hc, hf⟩) rfl rfl ⟨⟨rfl, rfl⟩, by decide, by decide⟩ (Nat.le_of_ble_eq_true rfl) ⟨Nat.le_of_ble_eq_true rfl, Nat.le_of_ble_eq_true rfl⟩ dJ4_append_bf812_2 fun r w hp => ?_
  obtain ⟨rfl, hp⟩ := hp
  rw [List.append_nil]
  refine j_pop F rfl dJ4_append_bf812_5 ?_
  refine j_aload_n F 0 rfl dJ4_append_bf812_6 rfl ?_
  exact j_aret F rfl (Or.inl ⟨_, rfl⟩) ⟨rfl, hp⟩ (Nat.le_of_ble_eq_true rfl) (Nat.le_of_ble_eq_true rfl) dJ4_append_bf812_7
