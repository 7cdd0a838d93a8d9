-- the JDK's own methods over a builder
abbrev ba (G : Gx) (m : Nat) (f : Nat → Int32) : va_E := .inl (cB G, m, .inl f)
theorem shl0 (x : Int32) : x <<< (nI 0 &&& 31) = x := by
  rw [show (nI 0 &&& 31) = 0 by decide]
  exact Int32.shiftLeft_zero
theorem shr0 (x : Int32) : x >>> (nI 0 &&& 31) = x := by
  rw [show (nI 0 &&& 31) = 0 by decide]
  exact Int32.shiftRight_zero
theorem nI_maxif {b c : Nat} (hb : b < 2 ^ 31) (hc : c < 2 ^ 31) : (if nI b < nI c then nI c else nI b) = nI (if b < c then c else b) := by
  by_cases h : b < c
  · rw [if_pos h, if_pos (nI_lt h hc)]
  · rw [if_neg h, if_neg (nI_nlt (Nat.le_of_not_lt h) hb)]
theorem nI_minif {b c : Nat} (hb : b < 2 ^ 31) (hc : c < 2 ^ 31) : (if nI c < nI b then nI c else nI b) = nI (if c < b then c else b) := by
  by_cases h : c < b
  · rw [if_pos h, if_pos (nI_lt h hb)]
  · rw [if_neg h, if_neg (nI_nlt (Nat.le_of_not_lt h) hc)]
def capM (q m : Nat) : Nat := m + (if q - m < m + 2 then m + 2 else q - m)
theorem capM_ge {q m : Nat} (h : m < q) : q ≤ capM q m ∧ m < capM q m := by unfold capM; split <;> omega
theorem capM_150 {q m : Nat} (h : m < q) (hq : q ≤ 70) : capM q m ≤ 150 := by unfold capM; split <;> omega
theorem capM_le {q m k : Nat} (h : m < q) (hq : q ≤ k) (hm : 2 * m + 2 ≤ k) : capM q m ≤ k := by unfold capM; split <;> omega
abbrev rm_nlen : Room := { frames := 1, cells := 0, slots := 0, locals := 24 }
set_option maxRecDepth 100000 in
theorem c_nlen (G : Gx) (l : Launch) (sg : SGt) (dg : Nat × Nat) (sz : Nat) (a b c : Nat) (hA3 : ∀ q, sz ≤ q → sg.2.2.1 q) (hA2 : ∀ p ∈ ([] : va_W), sg.2.2.1 p.1) (hb : a ≤ 1000 ∧ b ≤ 1000 ∧ c ≤ 1000) (hc : 0 < c) : Jc G l yJ8_newLength_cabcc cJ8_newLength_cabcc 4 (some .int) rm_nlen [.int (nI a), .int (nI b), .int (nI c)] sg dg sz [] (fun r w => r = some (.int (nI (a + (if b < c then c else b)))) ∧ w = []) 0 0 := by
  refine jc_of (by decide +kernel) (Nat.le_of_ble_eq_true rfl) (by simp) hA3 hA2 fun X hl hG hL F hnm => ?_
  subst hl
  subst hG
  have hm : (if b < c then c else b) ≤ 1000 ∧ 0 < (if b < c then c else b) := by split <;> omega
  refine j_iload_n F 0 rfl dJ8_newLength_cabcc_0 rfl ?_
  refine j_iload_n F 1 rfl dJ8_newLength_cabcc_1 rfl ?_
  refine j_iload_n F 2 rfl dJ8_newLength_cabcc_2 rfl ?_
  refine j_max F jw_max ws_max (z := nI (if b < c then c else b)) (nI_maxif (by omega) (by omega)) ⟨by decide, Nat.le_of_ble_eq_true rfl⟩ ⟨Nat.le_refl _, Nat.le_refl _⟩ dJ8_newLength_cabcc_3 ?_
  refine j_iadd F (z := nI (a + (if b < c then c else b))) dJ8_newLength_cabcc_6 (nI_add _ _) ?_
  refine j_istore_n F [(3, .int (nI (a + (if b < c then c else b)))), (0, .int (nI a)), (1, .int (nI b)), (2, .int (nI c))] rfl dJ8_newLength_cabcc_7 rfl (by rw [hL]; decide) ?_
  refine j_iconst F (v := nI 0) dJ8_newLength_cabcc_8 (by decide) ?_
  refine j_iload_n F 0 rfl dJ8_newLength_cabcc_9 rfl ?_
  refine j_icmpge F (tgt := 21) dJ8_newLength_cabcc_10 (by decide) (fun qq => absurd qq (nleN (by omega) (by omega))) (fun _ => ?_)
  refine j_iload_n F 0 rfl dJ8_newLength_cabcc_13 rfl ?_
  refine j_ldc F jw_k200 dJ8_newLength_cabcc_14 ?_
  refine j_icmpgt F (tgt := 21) dJ8_newLength_cabcc_16 (by decide) (fun qq => absurd qq (show ¬ nI 2147483639 < nI (a + (if b < c then c else b)) from nI_nlt (by omega) (by decide))) (fun _ => ?_)
  refine j_iload_n F 0 rfl dJ8_newLength_cabcc_19 rfl ?_
  exact j_iret F ⟨rfl, rfl⟩ (Nat.le_refl _) (Nat.le_refl _) dJ8_newLength_cabcc_20
abbrev rm_ncap : Room := { frames := 2, cells := 0, slots := 0, locals := 47 }
set_option maxRecDepth 100000 in
theorem c_ncap (G : Gx) (l : Launch) (sg : SGt) (dg : Nat × Nat) (sz : Nat) (b v m q : Nat) (ml nn : Int32) (f : Nat → Int32) (hA3 : ∀ q, sz ≤ q → sg.2.2.1 q) (hA2 : ∀ p ∈ ([(b, .inr (9, [.ref v, .int (nI 0), .int ml, .int (nn)])), (v, ba G m f)] : va_W), sg.2.2.1 p.1) (hne : ¬ b = v) (hm : m ≤ 300) (hq : q ≤ 300) (hmq : m < q) : Jc G l yJ5_newCapacity_0f7a4 cJ5_newCapacity_0f7a4 6 (some .int) rm_ncap [.ref b, .int (nI q)] sg dg sz [(b, .inr (9, [.ref v, .int (nI 0), .int ml, .int (nn)])), (v, ba G m f)] (fun r w => r = some (.int (nI (capM q m))) ∧ w = [(b, .inr (9, [.ref v, .int (nI 0), .int ml, .int (nn)])), (v, ba G m f)]) 0 0 := by
  refine jc_of (by decide +kernel) (Nat.le_of_ble_eq_true rfl) (by simpa using hne) hA3 hA2 fun X hl hG hL F hnm => ?_
  subst hl
  subst hG
  refine j_aload_n F 0 rfl dJ5_newCapacity_0f7a4_0 rfl ?_
  refine j_get F frJ5_15 0 rfl rfl dJ5_newCapacity_0f7a4_1 ?_
  refine j_alen F 1 rfl dJ5_newCapacity_0f7a4_4 ?_
  refine j_istore_n F [(2, .int (nI m)), (0, .ref b), (1, .int (nI q))] rfl dJ5_newCapacity_0f7a4_5 rfl (by rw [hL]; decide) ?_
  refine j_iload_n F 2 rfl dJ5_newCapacity_0f7a4_6 rfl ?_
  refine j_aload_n F 1 rfl dJ5_newCapacity_0f7a4_7 rfl ?_
  refine j_get F frJ5_22 0 rfl rfl dJ5_newCapacity_0f7a4_8 ?_
  refine j_ishl F (z := nI q) dJ5_newCapacity_0f7a4_11 (shl0 _) ?_
  refine j_istore_n F [(3, .int (nI q)), (2, .int (nI m)), (0, .ref b), (1, .int (nI q))] rfl dJ5_newCapacity_0f7a4_12 rfl (by rw [hL]; decide) ?_
  refine j_iload_n F 0 rfl dJ5_newCapacity_0f7a4_13 rfl ?_
  refine j_iload_n F 1 rfl dJ5_newCapacity_0f7a4_14 rfl ?_
  refine j_isub F (z := nI (q - m)) dJ5_newCapacity_0f7a4_15 (nI_sub (by omega)) ?_
  refine j_istore F [(4, .int (nI (q - m))), (3, .int (nI q)), (2, .int (nI m)), (0, .ref b), (1, .int (nI q))] rfl dJ5_newCapacity_0f7a4_16 (by rw [hL]; decide) ?_
  refine j_iload_n F 2 rfl dJ5_newCapacity_0f7a4_18 rfl ?_
  refine j_iload F 0 rfl dJ5_newCapacity_0f7a4_19 ?_
  refine j_iload_n F 2 rfl dJ5_newCapacity_0f7a4_21 rfl ?_
  refine j_iconst F (v := nI 2) dJ5_newCapacity_0f7a4_22 (by decide) ?_
  refine j_aload_n F 3 rfl dJ5_newCapacity_0f7a4_23 rfl ?_
  refine j_get F frJ5_22 0 rfl rfl dJ5_newCapacity_0f7a4_24 ?_
  refine j_ishl F (z := nI 2) dJ5_newCapacity_0f7a4_27 (shl0 _) ?_
  refine j_iadd F (z := nI (m + 2)) dJ5_newCapacity_0f7a4_28 (nI_add _ _) ?_
  refine j_S F jsJ5_114 (rest := _) (cut_of [0, 1] (by decide) rfl rfl) (fun k h1 h2 => c_nlen (xG X) X.1.2.1 sg dg k m (q - m) (m + 2) h1 h2 ⟨by omega, by omega, by omega⟩ (by omega)) rfl rfl ⟨⟨rfl, rfl⟩, by decide, by decide⟩ (Nat.le_of_ble_eq_true rfl) ⟨Nat.le_of_ble_eq_true rfl, Nat.le_of_ble_eq_true rfl⟩ dJ5_newCapacity_0f7a4_29 fun r w hp => ?_
  obtain ⟨rfl, rfl⟩ := hp
  refine j_istore F [(5, .int (nI (m + (if q - m < m + 2 then m + 2 else q - m)))), (4, .int (nI (q - m))), (3, .int (nI q)), (2, .int (nI m)), (0, .ref b), (1, .int (nI q))] rfl dJ5_newCapacity_0f7a4_32 (by rw [hL]; decide) ?_
  refine j_iload F 0 rfl dJ5_newCapacity_0f7a4_34 ?_
  refine j_ldc F jw_k39 dJ5_newCapacity_0f7a4_36 ?_
  refine j_icmpne F (tgt := 51) dJ5_newCapacity_0f7a4_38 (by decide) (fun _ => ?_) (fun qq => absurd (fun z => by have hle : (m + (if q - m < m + 2 then m + 2 else q - m)) ≤ 900 := (by split <;> omega); exact absurd ((nI_eq (by omega) (by decide)).mp (show nI (m + (if q - m < m + 2 then m + 2 else q - m)) = nI 2147483647 from z)) (by omega)) qq)
  refine j_iload F 0 rfl dJ5_newCapacity_0f7a4_51 ?_
  refine j_aload_n F 4 rfl dJ5_newCapacity_0f7a4_53 rfl ?_
  refine j_get F frJ5_22 0 rfl rfl dJ5_newCapacity_0f7a4_54 ?_
  refine j_ishr F (z := nI (m + (if q - m < m + 2 then m + 2 else q - m))) dJ5_newCapacity_0f7a4_57 (shr0 _) ?_
  exact j_iret F ⟨rfl, rfl⟩ (Nat.le_refl _) (Nat.le_refl _) dJ5_newCapacity_0f7a4_58
abbrev rm_cof : Room := { frames := 1, cells := 1, slots := 150, locals := 40 }
set_option maxRecDepth 100000 in
theorem c_cof (G : Gx) (l : Launch) (sg : SGt) (dg : Nat × Nat) (sz : Nat) (v m q : Nat) (f : Nat → Int32) (hA3 : ∀ q, sz ≤ q → sg.2.2.1 q) (hA2 : ∀ p ∈ ([(v, ba G m f)] : va_W), sg.2.2.1 p.1) (hm : m < q) (hq : q ≤ 150) (hf : ∀ j, fits .byte (.int (f j)) = true) : Jc G l yJ7_copyOf_9075b cJ7_copyOf_9075b 3 (some (.array .byte)) rm_cof [.ref v, .int (nI q)] sg dg sz [(v, ba G m f)] (fun r w => ∃ u, r = some (.ref u) ∧ w = [(v, ba G m f), (u, ba G q (va_cpy f (fun _ => 0) 0 0 m))]) 1 150 := by
  refine jc_of (by decide +kernel) (Nat.le_of_ble_eq_true rfl) (by simp) hA3 hA2 fun X hl hG hL F hnm => ?_
  subst hl
  subst hG
  refine j_iload_n F 1 rfl dJ7_copyOf_9075b_0 rfl ?_
  refine j_aload_n F 0 rfl dJ7_copyOf_9075b_1 rfl ?_
  refine j_alen F 0 rfl dJ7_copyOf_9075b_2 ?_
  refine j_icmpne F (tgt := 14) dJ7_copyOf_9075b_3 (by decide) (fun _ => ?_) (fun qq => absurd (fun z => by have := (nI_eq (by omega) (by omega)).mp z; omega) qq)
  refine j_iload_n F 1 rfl dJ7_copyOf_9075b_14 rfl ?_
  refine j_newB F jw_byte (N := q) (nI_pos (by omega)) (clN (by omega)) (by omega) ⟨Nat.le_refl _, by show 0 + q ≤ 150; omega⟩ dJ7_copyOf_9075b_15 fun u => ?_
  refine j_astore_n F [(2, .ref u), (0, .ref v), (1, .int (nI q))] rfl dJ7_copyOf_9075b_17 rfl (by rw [hL]; decide) ?_
  refine j_aload_n F 1 rfl dJ7_copyOf_9075b_18 rfl ?_
  refine j_iconst F (v := nI 0) dJ7_copyOf_9075b_19 (by decide) ?_
  refine j_aload_n F 0 rfl dJ7_copyOf_9075b_20 rfl ?_
  refine j_iconst F (v := nI 0) dJ7_copyOf_9075b_21 (by decide) ?_
  refine j_aload_n F 1 rfl dJ7_copyOf_9075b_22 rfl ?_
  refine j_alen F 0 rfl dJ7_copyOf_9075b_23 ?_
  refine j_iload_n F 2 rfl dJ7_copyOf_9075b_24 rfl ?_
  refine j_min F jw_min ws_min (z := nI m) (if_neg (nI_nlt (by omega) (by omega))) ⟨by decide, Nat.le_of_ble_eq_true rfl⟩ ⟨Nat.le_refl _, by show 0 + q ≤ 150; omega⟩ dJ7_copyOf_9075b_25 ?_
  refine j_copy F jw_ac7 ws_copy 0 1 rfl rfl (sp := 0) (dp := 0) (n := m) ⟨by decide, by decide, by omega⟩ (by omega) (by omega) hf ⟨by decide, Nat.le_of_ble_eq_true rfl⟩ rfl dJ7_copyOf_9075b_28 ?_
  refine j_aload_n F 0 rfl dJ7_copyOf_9075b_31 rfl ?_
  exact j_aret F rfl (Or.inr ⟨_, rfl⟩) ⟨u, rfl, rfl⟩ (Nat.le_refl _) (by show 0 + q ≤ 150; omega) dJ7_copyOf_9075b_32
theorem fit0 (j : Nat) : fits .byte (.int ((fun _ => 0 : Nat → Int32) j)) = true := rfl
theorem cpy_fit {f g : Nat → Int32} {a b n : Nat} (hf : ∀ j, fits .byte (.int (f j)) = true) (hg : ∀ j, fits .byte (.int (g j)) = true) (j : Nat) : fits .byte (.int (va_cpy f g a b n j)) = true := by
  unfold va_cpy
  split
  · exact hf _
  · exact hg _
abbrev rm_ens : Room := { frames := 3, cells := 1, slots := 150, locals := 72 }
set_option maxRecDepth 100000 in
theorem c_ens (G : Gx) (l : Launch) (sg : SGt) (dg : Nat × Nat) (sz : Nat) (b v m q : Nat) (ml nn : Int32) (f : Nat → Int32) (hA3 : ∀ q, sz ≤ q → sg.2.2.1 q) (hA2 : ∀ p ∈ ([(b, .inr (9, [.ref v, .int (nI 0), .int ml, .int (nn)])), (v, ba G m f)] : va_W), sg.2.2.1 p.1) (hne : ¬ b = v) (hm : m ≤ 150) (hq : q ≤ 70) (hf : ∀ j, fits .byte (.int (f j)) = true) : Jc G l yJ5_ensureCapacityInternal_d00df cJ5_ensureCapacityInternal_d00df 3 none rm_ens [.ref b, .int (nI q)] sg dg sz [(b, .inr (9, [.ref v, .int (nI 0), .int ml, .int (nn)])), (v, ba G m f)] (fun r w => r = none ∧ ∃ v2 m2 f2, w = [(b, .inr (9, [.ref v2, .int (nI 0), .int ml, .int (nn)])), (v2, ba G m2 f2)] ∧ q ≤ m2 ∧ m2 ≤ 150 ∧ (∀ j, j < m → f2 j = f j) ∧ (∀ j, fits .byte (.int (f2 j)) = true) ∧ ¬ b = v2) 1 150 := by
  refine jc_of (by decide +kernel) (Nat.le_of_ble_eq_true rfl) (by simpa using hne) hA3 hA2 fun X hl hG hL F hnm => ?_
  subst hl
  subst hG
  by_cases hqm : q ≤ m
  · skip
    refine j_aload_n F 0 rfl dJ5_ensureCapacityInternal_d00df_0 rfl ?_
    refine j_get F frJ5_15 0 rfl rfl dJ5_ensureCapacityInternal_d00df_1 ?_
    refine j_alen F 1 rfl dJ5_ensureCapacityInternal_d00df_4 ?_
    refine j_aload_n F 0 rfl dJ5_ensureCapacityInternal_d00df_5 rfl ?_
    refine j_get F frJ5_22 0 rfl rfl dJ5_ensureCapacityInternal_d00df_6 ?_
    refine j_ishr F (z := nI m) dJ5_ensureCapacityInternal_d00df_9 (shr0 _) ?_
    refine j_istore_n F [(2, .int (nI m)), (0, .ref b), (1, .int (nI q))] rfl dJ5_ensureCapacityInternal_d00df_10 rfl (by rw [hL]; decide) ?_
    refine j_iload_n F 2 rfl dJ5_ensureCapacityInternal_d00df_11 rfl ?_
    refine j_iload_n F 0 rfl dJ5_ensureCapacityInternal_d00df_12 rfl ?_
    refine j_isub F (z := nI q - nI m) dJ5_ensureCapacityInternal_d00df_13 rfl ?_
    refine j_ifle F (tgt := 38) dJ5_ensureCapacityInternal_d00df_14 (by decide) (fun _ => ?_) (fun qq => absurd (show nI q - nI m ≤ 0 by rw [Int32.le_iff_toInt_le, pk_sub_toInt (by omega) (by omega), Int32.toInt_zero]; omega) qq)
    exact j_vret F ⟨rfl, v, m, f, rfl, hqm, hm, fun _ _ => rfl, hf, hne⟩ (Nat.zero_le _) (Nat.zero_le _) dJ5_ensureCapacityInternal_d00df_38
  · have hqm : m < q := Nat.lt_of_not_le hqm
    refine j_aload_n F 0 rfl dJ5_ensureCapacityInternal_d00df_0 rfl ?_
    refine j_get F frJ5_15 0 rfl rfl dJ5_ensureCapacityInternal_d00df_1 ?_
    refine j_alen F 1 rfl dJ5_ensureCapacityInternal_d00df_4 ?_
    refine j_aload_n F 0 rfl dJ5_ensureCapacityInternal_d00df_5 rfl ?_
    refine j_get F frJ5_22 0 rfl rfl dJ5_ensureCapacityInternal_d00df_6 ?_
    refine j_ishr F (z := nI m) dJ5_ensureCapacityInternal_d00df_9 (shr0 _) ?_
    refine j_istore_n F [(2, .int (nI m)), (0, .ref b), (1, .int (nI q))] rfl dJ5_ensureCapacityInternal_d00df_10 rfl (by rw [hL]; decide) ?_
    refine j_iload_n F 2 rfl dJ5_ensureCapacityInternal_d00df_11 rfl ?_
    refine j_iload_n F 0 rfl dJ5_ensureCapacityInternal_d00df_12 rfl ?_
    refine j_isub F (z := nI (q - m)) dJ5_ensureCapacityInternal_d00df_13 (nI_sub (by omega)) ?_
    refine j_ifle F (tgt := 38) dJ5_ensureCapacityInternal_d00df_14 (by decide) (fun qq => absurd qq (show ¬ nI (q - m) ≤ 0 from nleN (b := 0) (by omega) (by omega))) (fun _ => ?_)
    refine j_aload_n F 1 rfl dJ5_ensureCapacityInternal_d00df_17 rfl ?_
    refine j_aload_n F 1 rfl dJ5_ensureCapacityInternal_d00df_18 rfl ?_
    refine j_get F frJ5_15 0 rfl rfl dJ5_ensureCapacityInternal_d00df_19 ?_
    refine j_aload_n F 1 rfl dJ5_ensureCapacityInternal_d00df_22 rfl ?_
    refine j_iload_n F 2 rfl dJ5_ensureCapacityInternal_d00df_23 rfl ?_
    refine j_V F jvJ5_104 (k := 0) rfl (rest := []) (cut_of [0, 1] (by decide) rfl rfl) (fun k h1 h2 => c_ncap (xG X) X.1.2.1 sg dg k b v m q ml nn f h1 h2 hne (by omega) (by omega) hqm) rfl rfl ⟨⟨rfl, rfl⟩, by decide, by decide⟩ (Nat.le_of_ble_eq_true rfl) ⟨Nat.le_of_ble_eq_true rfl, Nat.le_of_ble_eq_true rfl⟩ dJ5_ensureCapacityInternal_d00df_24 fun r w hp => ?_
    obtain ⟨rfl, rfl⟩ := hp
    refine j_aload_n F 1 rfl dJ5_ensureCapacityInternal_d00df_27 rfl ?_
    refine j_get F frJ5_22 0 rfl rfl dJ5_ensureCapacityInternal_d00df_28 ?_
    refine j_ishl F (z := nI (capM q m)) dJ5_ensureCapacityInternal_d00df_31 (shl0 _) ?_
    refine j_S F jsJ5_108 (rest := [(b, .inr (9, [.ref v, .int (nI 0), .int ml, .int (nn)]))]) (cut_of [1, 0] (by decide) rfl rfl) (fun k h1 h2 => c_cof (xG X) X.1.2.1 sg dg k v m (capM q m) f h1 h2 (capM_ge hqm).2 (capM_150 hqm hq) hf) rfl rfl ⟨⟨rfl, rfl⟩, by decide, by decide⟩ (Nat.le_of_ble_eq_true rfl) ⟨Nat.le_of_ble_eq_true rfl, Nat.le_of_ble_eq_true rfl⟩ dJ5_ensureCapacityInternal_d00df_32 fun r w hp => ?_
    obtain ⟨u, rfl, rfl⟩ := hp
    refine j_put F frJ5_15 rfl 2 rfl rfl rfl (Nat.le_of_ble_eq_true rfl) rfl dJ5_ensureCapacityInternal_d00df_35 ?_
    refine Wj_cut (ws2 := [(b, .inr (9, [.ref u, .int (nI 0), .int ml, .int (nn)])), (u, ba (xG X) (capM q m) (va_cpy f (fun _ => 0) 0 0 m))]) [2, 1] (by decide) rfl rfl ?_
    refine Wj_nd fun hnd => ?_
    have hbu : ¬ b = u := by simpa using hnd
    exact j_vret F ⟨rfl, u, capM q m, _, rfl, (capM_ge hqm).1, capM_150 hqm hq, fun j hj => cpy_at _ _ hj, fun j => cpy_fit hf fit0 j, hbu⟩ (Nat.le_of_ble_eq_true rfl) (Nat.le_of_ble_eq_true rfl) dJ5_ensureCapacityInternal_d00df_38
abbrev rm_isl : Room := { frames := 0, cells := 0, slots := 0, locals := 0 }
set_option maxRecDepth 100000 in
theorem c_isl (G : Gx) (l : Launch) (sg : SGt) (dg : Nat × Nat) (sz : Nat) (b v : Nat) (ml nn : Int32) (hA3 : ∀ q, sz ≤ q → sg.2.2.1 q) (hA2 : ∀ p ∈ ([(b, .inr (9, [.ref v, .int (nI 0), .int ml, .int (nn)]))] : va_W), sg.2.2.1 p.1)  : Jc G l yJ5_isLatin1_aae02 cJ5_isLatin1_aae02 1 (some .boolean) rm_isl [.ref b] sg dg sz [(b, .inr (9, [.ref v, .int (nI 0), .int ml, .int (nn)]))] (fun r w => r = some (.int (nI 1)) ∧ w = [(b, .inr (9, [.ref v, .int (nI 0), .int ml, .int (nn)]))]) 0 0 := by
  refine jc_of (by decide +kernel) (Nat.le_of_ble_eq_true rfl) (by simp) hA3 hA2 fun X hl hG hL F hnm => ?_
  subst hl
  subst hG
  refine j_compact F jw_cs5 dJ5_isLatin1_aae02_0 ?_
  refine j_ifeq F (tgt := 17) dJ5_isLatin1_aae02_3 (by decide) (fun qq => absurd qq (by decide)) (fun _ => ?_)
  refine j_aload_n F 0 rfl dJ5_isLatin1_aae02_6 rfl ?_
  refine j_get F frJ5_22 0 rfl rfl dJ5_isLatin1_aae02_7 ?_
  refine j_ifne F (tgt := 17) dJ5_isLatin1_aae02_10 (by decide) (fun qq => absurd qq (fun n => n rfl)) (fun _ => ?_)
  refine j_iconst F (v := nI 1) dJ5_isLatin1_aae02_13 (by decide) ?_
  refine j_goto F (tgt := 18) dJ5_isLatin1_aae02_14 (by decide) ?_
  exact j_zret F rfl rfl ⟨rfl, rfl⟩ (Nat.le_refl _) (Nat.le_refl _) dJ5_isLatin1_aae02_18
abbrev rm_infl : Room := { frames := 1, cells := 0, slots := 0, locals := 20 }
set_option maxRecDepth 100000 in
theorem c_infl (G : Gx) (l : Launch) (sg : SGt) (dg : Nat × Nat) (sz : Nat) (b v : Nat) (ml nn : Int32) (hA3 : ∀ q, sz ≤ q → sg.2.2.1 q) (hA2 : ∀ p ∈ ([(b, .inr (9, [.ref v, .int (nI 0), .int ml, .int (nn)]))] : va_W), sg.2.2.1 p.1)  : Jc G l yJ5_inflateIfNeededFor_a7421 cJ5_inflateIfNeededFor_a7421 2 none rm_infl [.ref b, .ref sg.2.2.2.1] sg dg sz [(b, .inr (9, [.ref v, .int (nI 0), .int ml, .int (nn)]))] (fun r w => r = none ∧ w = [(b, .inr (9, [.ref v, .int (nI 0), .int ml, .int (nn)]))]) 0 0 := by
  refine jc_of (by decide +kernel) (Nat.le_of_ble_eq_true rfl) (by simp) hA3 hA2 fun X hl hG hL F hnm => ?_
  subst hl
  subst hG
  refine j_compact F jw_cs5 dJ5_inflateIfNeededFor_a7421_0 ?_
  refine j_ifeq F (tgt := 21) dJ5_inflateIfNeededFor_a7421_3 (by decide) (fun qq => absurd qq (by decide)) (fun _ => ?_)
  refine j_aload_n F 0 rfl dJ5_inflateIfNeededFor_a7421_6 rfl ?_
  refine j_get F frJ5_22 0 rfl rfl dJ5_inflateIfNeededFor_a7421_7 ?_
  refine j_aload_n F 1 rfl dJ5_inflateIfNeededFor_a7421_10 rfl ?_
  refine j_roV F jrJ5_40 (sc_coder X.1.2.1 sg) (As := []) rfl rfl ⟨⟨rfl, rfl⟩, by decide, by decide⟩ (Nat.le_of_ble_eq_true rfl) ⟨Nat.le_refl _, Nat.le_refl _⟩ dJ5_inflateIfNeededFor_a7421_11 ?_
  refine j_icmpeq F (tgt := 21) dJ5_inflateIfNeededFor_a7421_14 (by decide) (fun _ => ?_) (fun qq => absurd (show nI 0 = 0 from rfl) qq)
  exact j_vret F ⟨rfl, rfl⟩ (Nat.le_refl _) (Nat.le_refl _) dJ5_inflateIfNeededFor_a7421_21
abbrev rm_gb : Room := { frames := 1, cells := 0, slots := 0, locals := 40 }
set_option maxRecDepth 100000 in
theorem c_gb (G : Gx) (l : Launch) (sg : SGt) (dg : Nat × Nat) (sz : Nat) (v m n : Nat) (f : Nat → Int32) (hA3 : ∀ q, sz ≤ q → sg.2.2.1 q) (hA2 : ∀ p ∈ ([(v, ba G m f)] : va_W), sg.2.2.1 p.1) (hBY : BY sg) (hn : n + sg.1 ≤ m) (hm : m ≤ 150) : Jc G l yJ0_getBytes_840e7 cJ0_getBytes_840e7 4 none rm_gb [.ref sg.2.2.2.1, .ref v, .int (nI n), .int (nI 0)] sg dg sz [(v, ba G m f)] (fun r w => r = none ∧ w = [(v, ba G m (va_cpy (fun j => sg.2.1.getD j 0) f 0 n sg.1))]) 0 0 := by
  refine jc_of (by decide +kernel) (Nat.le_of_ble_eq_true rfl) (by simp) hA3 hA2 fun X hl hG hL F hnm => ?_
  subst hl
  subst hG
  refine j_aload_n F 0 rfl dJ0_getBytes_840e7_0 rfl ?_
  refine j_roV F sv_coder (sc_coder X.1.2.1 sg) (As := []) rfl rfl ⟨⟨rfl, rfl⟩, by decide, by decide⟩ (Nat.le_of_ble_eq_true rfl) ⟨Nat.le_refl _, Nat.le_refl _⟩ dJ0_getBytes_840e7_1 ?_
  refine j_iload_n F 3 rfl dJ0_getBytes_840e7_4 rfl ?_
  refine j_icmpne F (tgt := 28) dJ0_getBytes_840e7_5 (by decide) (fun qq => absurd qq (fun z => z rfl)) (fun _ => ?_)
  refine j_aload_n F 0 rfl dJ0_getBytes_840e7_8 rfl ?_
  refine j_tval F sw_9 dJ0_getBytes_840e7_9 ?_
  refine j_iconst F (v := nI 0) dJ0_getBytes_840e7_12 (by decide) ?_
  refine j_aload_n F 1 rfl dJ0_getBytes_840e7_13 rfl ?_
  refine j_iload_n F 2 rfl dJ0_getBytes_840e7_14 rfl ?_
  refine j_iload_n F 3 rfl dJ0_getBytes_840e7_15 rfl ?_
  refine j_ishl F (z := nI n) dJ0_getBytes_840e7_16 (shl0 _) ?_
  refine j_aload_n F 0 rfl dJ0_getBytes_840e7_17 rfl ?_
  refine j_tval F sw_9 dJ0_getBytes_840e7_18 ?_
  refine j_tlen F dJ0_getBytes_840e7_21 ?_
  refine j_copyT F jw_ac0 ws_copy 0 rfl (dp := n) hBY (by omega) hn ⟨by decide, Nat.le_of_ble_eq_true rfl⟩ rfl dJ0_getBytes_840e7_22 ?_
  refine j_goto F (tgt := 43) dJ0_getBytes_840e7_25 (by decide) ?_
  exact j_vret F ⟨rfl, rfl⟩ (Nat.le_refl _) (Nat.le_refl _) dJ0_getBytes_840e7_43
abbrev rm_put : Room := { frames := 2, cells := 0, slots := 0, locals := 63 }
set_option maxRecDepth 100000 in
theorem c_put (G : Gx) (l : Launch) (sg : SGt) (dg : Nat × Nat) (sz : Nat) (b v m n : Nat) (ml nn : Int32) (f : Nat → Int32) (hA3 : ∀ q, sz ≤ q → sg.2.2.1 q) (hA2 : ∀ p ∈ ([(b, .inr (9, [.ref v, .int (nI 0), .int ml, .int (nn)])), (v, ba G m f)] : va_W), sg.2.2.1 p.1) (hne : ¬ b = v) (hBY : BY sg) (hn : n + sg.1 ≤ m) (hm : m ≤ 150) : Jc G l yJ5_putStringAt_47b60 cJ5_putStringAt_47b60 3 none rm_put [.ref b, .int (nI n), .ref sg.2.2.2.1] sg dg sz [(b, .inr (9, [.ref v, .int (nI 0), .int ml, .int (nn)])), (v, ba G m f)] (fun r w => r = none ∧ w = [(b, .inr (9, [.ref v, .int (nI 0), .int ml, .int (nn)])), (v, ba G m (va_cpy (fun j => sg.2.1.getD j 0) f 0 n sg.1))]) 0 0 := by
  refine jc_of (by decide +kernel) (Nat.le_of_ble_eq_true rfl) (by simpa using hne) hA3 hA2 fun X hl hG hL F hnm => ?_
  subst hl
  subst hG
  refine j_aload_n F 0 rfl dJ5_putStringAt_47b60_0 rfl ?_
  refine j_aload_n F 2 rfl dJ5_putStringAt_47b60_1 rfl ?_
  refine j_V F jvJ5_397 (k := 0) rfl (rest := [(v, ba (xG X) m f)]) (cut_of [0, 1] (by decide) rfl rfl) (fun k h1 h2 => c_infl (xG X) X.1.2.1 sg dg k b v ml nn h1 h2) rfl rfl ⟨⟨rfl, rfl⟩, by decide, by decide⟩ (Nat.le_of_ble_eq_true rfl) ⟨Nat.le_of_ble_eq_true rfl, Nat.le_of_ble_eq_true rfl⟩ dJ5_putStringAt_47b60_2 fun r w hp => ?_
  obtain ⟨rfl, rfl⟩ := hp
  refine j_aload_n F 2 rfl dJ5_putStringAt_47b60_5 rfl ?_
  refine j_aload_n F 0 rfl dJ5_putStringAt_47b60_6 rfl ?_
  refine j_get F frJ5_15 0 rfl rfl dJ5_putStringAt_47b60_7 ?_
  refine j_iload_n F 1 rfl dJ5_putStringAt_47b60_10 rfl ?_
  refine j_aload_n F 0 rfl dJ5_putStringAt_47b60_11 rfl ?_
  refine j_get F frJ5_22 0 rfl rfl dJ5_putStringAt_47b60_12 ?_
  refine j_VT F jrJ5_399 (rest := [(b, .inr (9, [.ref v, .int (nI 0), .int ml, .int (nn)]))]) (cut_of [1, 0] (by decide) rfl rfl) (fun k h1 h2 => c_gb (xG X) X.1.2.1 sg dg k v m n f h1 h2 hBY hn hm) rfl rfl ⟨⟨rfl, rfl⟩, by decide, by decide⟩ (Nat.le_of_ble_eq_true rfl) ⟨Nat.le_of_ble_eq_true rfl, Nat.le_of_ble_eq_true rfl⟩ dJ5_putStringAt_47b60_15 fun r w hp => ?_
  obtain ⟨rfl, rfl⟩ := hp
  refine Wj_cut (ws2 := [(b, .inr (9, [.ref v, .int (nI 0), .int ml, .int (nn)])), (v, ba (xG X) m (va_cpy (fun j => sg.2.1.getD j 0) f 0 n sg.1))]) [1, 0] (by decide) rfl rfl ?_
  exact j_vret F ⟨rfl, rfl⟩ (Nat.le_refl _) (Nat.le_refl _) dJ5_putStringAt_47b60_18
/-- a builder of the text t -/
def Bw (G : Gx) (b : Nat) (t : List Int32) (w : va_W) : Prop := ∃ v m f ml, w = [(b, .inr (9, [.ref v, .int (nI 0), .int ml, .int (nI t.length)])), (v, ba G m f)] ∧ t.length ≤ m ∧ m ≤ 150 ∧ (∀ j, j < t.length → f j = t.getD j 0) ∧ (∀ j, fits .byte (.int (f j)) = true) ∧ ¬ b = v
theorem cpy_app {s t : List Int32} {f f2 : Nat → Int32} (h1 : ∀ j, j < t.length → f j = t.getD j 0) (h2 : ∀ j, j < t.length → f2 j = f j) : ∀ j, j < (t ++ s).length → va_cpy (fun j => s.getD j 0) f2 0 t.length s.length j = (t ++ s).getD j 0 := by
  intro j hj
  rw [List.length_append] at hj
  by_cases z : j < t.length
  · rw [pk_cpy_out (by omega), h2 j z, h1 j z, List.getD_eq_getElem?_getD, List.getD_eq_getElem?_getD, List.getElem?_append_left z]
  · rw [pk_cpy_in (by omega) (by omega), List.getD_eq_getElem?_getD, List.getD_eq_getElem?_getD, List.getElem?_append_right (by omega), Nat.zero_add]
abbrev rm_asbS : Room := { frames := 4, cells := 1, slots := 150, locals := 94 }
set_option maxRecDepth 100000 in
theorem c_asbS (G : Gx) (l : Launch) (sg : SGt) (dg : Nat × Nat) (sz : Nat) (b v m : Nat) (ml : Int32) (f : Nat → Int32) (t : List Int32) (hA3 : ∀ q, sz ≤ q → sg.2.2.1 q) (hA2 : ∀ p ∈ ([(b, .inr (9, [.ref v, .int (nI 0), .int ml, .int (nI t.length)])), (v, ba G m f)] : va_W), sg.2.2.1 p.1) (hne : ¬ b = v) (hBY : BY sg) (hs : sg.2.1.length = sg.1) (ht : t.length + sg.1 ≤ 70) (hm : m ≤ 150) (hf : ∀ j, fits .byte (.int (f j)) = true) (hc : t.length ≤ m ∧ ∀ j, j < t.length → f j = t.getD j 0) : Jc G l yJ5_append_cf1ce cJ5_append_cf1ce 3 (some (.object "java/lang/AbstractStringBuilder")) rm_asbS [.ref b, .ref sg.2.2.2.1] sg dg sz [(b, .inr (9, [.ref v, .int (nI 0), .int ml, .int (nI t.length)])), (v, ba G m f)] (fun r w => r = some (.ref b) ∧ Bw G b (t ++ sg.2.1) w) 1 150 := by
  refine jc_of (by decide +kernel) (Nat.le_of_ble_eq_true rfl) (by simpa using hne) hA3 hA2 fun X hl hG hL F hnm => ?_
  subst hl
  subst hG
  refine j_aload_n F 1 rfl dJ5_append_cf1ce_0 rfl ?_
  refine j_ifnonnull F (tgt := 9) dJ5_append_cf1ce_1 (by decide) ?_
  refine j_aload_n F 1 rfl dJ5_append_cf1ce_9 rfl ?_
  refine j_roV F jrJ5_32 (sc_length X.1.2.1 sg) (As := []) rfl rfl ⟨⟨rfl, rfl⟩, by decide, by decide⟩ (Nat.le_of_ble_eq_true rfl) ⟨by decide, by decide⟩ dJ5_append_cf1ce_10 ?_
  refine j_istore_n F [(2, .int (nI sg.1)), (0, .ref b), (1, .ref sg.2.2.2.1)] rfl dJ5_append_cf1ce_13 rfl (by rw [hL]; decide) ?_
  refine j_aload_n F 1 rfl dJ5_append_cf1ce_14 rfl ?_
  refine j_aload_n F 1 rfl dJ5_append_cf1ce_15 rfl ?_
  refine j_get F frJ5_79 0 rfl rfl dJ5_append_cf1ce_16 ?_
  refine j_iload_n F 0 rfl dJ5_append_cf1ce_19 rfl ?_
  refine j_iadd F (z := nI (t.length + sg.1)) dJ5_append_cf1ce_20 (nI_add _ _) ?_
  refine j_V F jvJ5_100 (k := 0) rfl (rest := []) (cut_of [0, 1] (by decide) rfl rfl) (fun k h1 h2 => c_ens (xG X) X.1.2.1 sg dg k b v m (t.length + sg.1) ml (nI t.length) f h1 h2 hne hm ht hf) rfl rfl ⟨⟨rfl, rfl⟩, by decide, by decide⟩ (Nat.le_of_ble_eq_true rfl) ⟨Nat.le_of_ble_eq_true rfl, Nat.le_of_ble_eq_true rfl⟩ dJ5_append_cf1ce_21 fun r w hp => ?_
  obtain ⟨rfl, v2, m2, f2, rfl, hq2, hm2, hf2, hg2, hne2⟩ := hp
  refine j_aload_n F 1 rfl dJ5_append_cf1ce_24 rfl ?_
  refine j_aload_n F 1 rfl dJ5_append_cf1ce_25 rfl ?_
  refine j_get F frJ5_79 0 rfl rfl dJ5_append_cf1ce_26 ?_
  refine j_aload_n F 2 rfl dJ5_append_cf1ce_29 rfl ?_
  refine j_V F jvJ5_208 (k := 0) rfl (rest := []) (cut_of [0, 1] (by decide) rfl rfl) (fun k h1 h2 => c_put (xG X) X.1.2.1 sg dg k b v2 m2 t.length ml (nI t.length) f2 h1 h2 hne2 hBY hq2 hm2) rfl rfl ⟨⟨rfl, rfl⟩, by decide, by decide⟩ (Nat.le_of_ble_eq_true rfl) ⟨Nat.le_of_ble_eq_true rfl, Nat.le_of_ble_eq_true rfl⟩ dJ5_append_cf1ce_30 fun r w hp => ?_
  obtain ⟨rfl, rfl⟩ := hp
  refine j_aload_n F 1 rfl dJ5_append_cf1ce_33 rfl ?_
  refine j_dup F rfl dJ5_append_cf1ce_34 ?_
  refine j_get F frJ5_79 0 rfl rfl dJ5_append_cf1ce_35 ?_
  refine j_iload_n F 0 rfl dJ5_append_cf1ce_38 rfl ?_
  refine j_iadd F (z := nI (t.length + sg.1)) dJ5_append_cf1ce_39 (nI_add _ _) ?_
  refine j_put F frJ5_79 rfl 0 rfl rfl rfl (Nat.le_of_ble_eq_true rfl) rfl dJ5_append_cf1ce_40 ?_
  refine j_aload_n F 1 rfl dJ5_append_cf1ce_43 rfl ?_
  have hl2 : (t ++ sg.2.1).length = t.length + sg.1 := by rw [List.length_append, hs]
  refine j_aret F rfl (Or.inl ⟨_, rfl⟩) ⟨rfl, v2, m2, va_cpy (fun j => sg.2.1.getD j 0) f2 0 t.length sg.1, ml, by rw [hl2]; rfl, by rw [hl2]; exact hq2, hm2, ?_, ?_, hne2⟩ (Nat.le_of_ble_eq_true rfl) (Nat.le_of_ble_eq_true rfl) dJ5_append_cf1ce_44
  · rw [← hs]
    exact cpy_app hc.2 (fun j hj => hf2 j (by omega))
  · intro j
    unfold va_cpy
    split
    · rename_i hj
      obtain ⟨x, hx, e⟩ := hBY.2 (0 + (j - t.length)) (by omega)
      show fits .byte (.int (sg.2.1.getD (0 + (j - t.length)) 0)) = true
      rw [e]; exact byt_fit hx
    · exact hg2 _
abbrev rm_sbS : Room := { frames := 5, cells := 1, slots := 150, locals := 116 }
set_option maxRecDepth 100000 in
theorem c_sbS (G : Gx) (l : Launch) (sg : SGt) (dg : Nat × Nat) (sz : Nat) (b : Nat) (t : List Int32) (wb : va_W) (hA3 : ∀ q, sz ≤ q → sg.2.2.1 q) (hA2 : ∀ p ∈ (wb : va_W), sg.2.2.1 p.1) (hB : Bw G b t wb) (hBY : BY sg) (hs : sg.2.1.length = sg.1) (ht : t.length + sg.1 ≤ 70) : Jc G l yJ4_append_15ec4 cJ4_append_15ec4 2 (some (.object "java/lang/StringBuilder")) rm_sbS [.ref b, .ref sg.2.2.2.1] sg dg sz wb (fun r w => r = some (.ref b) ∧ Bw G b (t ++ sg.2.1) w) 1 150 := by
  refine jc_of (by decide +kernel) (Nat.le_of_ble_eq_true rfl) (by obtain ⟨v, m, f, ml, rfl, -, -, -, -, hne⟩ := hB; simpa using hne) hA3 hA2 fun X hl hG hL F hnm => ?_
  subst hl
  subst hG
  obtain ⟨v, m, f, ml, rfl, hc, hm, hf, hg, hne⟩ := hB
  refine j_aload_n F 0 rfl dJ4_append_15ec4_0 rfl ?_
  refine j_aload_n F 1 rfl dJ4_append_15ec4_1 rfl ?_
  refine j_U F juJ4_29 (k := 0) rfl (rest := []) (cut_of [0, 1] (by decide) rfl rfl) (fun k h1 h2 => c_asbS (xG X) X.1.2.1 sg dg k b v m ml f t h1 h2 hne hBY hs ht hm hg ⟨hc, hf⟩) rfl rfl ⟨⟨rfl, rfl⟩, by decide, by decide⟩ (Nat.le_of_ble_eq_true rfl) ⟨Nat.le_of_ble_eq_true rfl, Nat.le_of_ble_eq_true rfl⟩ dJ4_append_15ec4_2 fun r w hp => ?_
  obtain ⟨rfl, hp⟩ := hp
  rw [List.append_nil]
  refine j_pop F rfl dJ4_append_15ec4_5 ?_
  refine j_aload_n F 0 rfl dJ4_append_15ec4_6 rfl ?_
  exact j_aret F rfl (Or.inl ⟨_, rfl⟩) ⟨rfl, hp⟩ (Nat.le_of_ble_eq_true rfl) (Nat.le_of_ble_eq_true rfl) dJ4_append_15ec4_7
