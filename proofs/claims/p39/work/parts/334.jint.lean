-- the JDK's own methods over a builder: numbers, the text made, a new builder
/-- the digits of a number below a thousand -/
def dgL (k : Nat) : List Int32 := if k < 10 then [nI (48 + k)] else if k < 100 then [nI (48 + k / 10), nI (48 + k % 10)] else [nI (48 + k / 100), nI (48 + k / 10 % 10), nI (48 + k % 10)]
theorem dgL_len (k : Nat) : (dgL k).length = if k < 10 then 1 else if k < 100 then 2 else 3 := by unfold dgL; split <;> (try split) <;> rfl
theorem ng_cmp : ∀ k : Fin 1000, (decide (-nI k ≤ -10) = decide (10 ≤ k.val)) ∧ (decide (-nI k ≤ -100) = decide (100 ≤ k.val)) ∧ (decide (-100 < -nI k) = decide (k.val < 100)) ∧ (decide (-9 ≤ -nI k) = decide (k.val ≤ 9)) ∧ - -nI k = nI k ∧ (-nI k) / 100 = -nI (k / 100) ∧ (-nI (k / 100)) * 100 - (-nI k) = nI (k % 100) := by decide +kernel
theorem ng_10 {k : Nat} (h : k < 1000) : (-nI k ≤ -10) = (10 ≤ k) := by have := (ng_cmp ⟨k, h⟩).1; simpa using this
theorem ng_100 {k : Nat} (h : k < 1000) : (-nI k ≤ -100) = (100 ≤ k) := by have := (ng_cmp ⟨k, h⟩).2.1; simpa using this
theorem ng_l100 {k : Nat} (h : k < 1000) : (-100 < -nI k) = (k < 100) := by have := (ng_cmp ⟨k, h⟩).2.2.1; simpa using this
theorem ng_9 {k : Nat} (h : k < 1000) : (-9 ≤ -nI k) = (k ≤ 9) := by have := (ng_cmp ⟨k, h⟩).2.2.2.1; simpa using this
theorem ng_ng {k : Nat} (h : k < 1000) : - -nI k = nI k := (ng_cmp ⟨k, h⟩).2.2.2.2.1
theorem ng_div {k : Nat} (h : k < 1000) : (-nI k) / 100 = -nI (k / 100) := (ng_cmp ⟨k, h⟩).2.2.2.2.2.1
theorem ng_mod {k : Nat} (h : k < 1000) : (-nI (k / 100)) * 100 - (-nI k) = nI (k % 100) := (ng_cmp ⟨k, h⟩).2.2.2.2.2.2
theorem nar_dig : ∀ d : Fin 10, vp_nar .byte (nI (48 + d)) = nI (48 + d) ∧ fits .byte (.int (nI (48 + d))) = true := by decide +kernel
theorem nar_d {d : Nat} (h : d < 10) : vp_nar .byte (nI (48 + d)) = nI (48 + d) := (nar_dig ⟨d, h⟩).1
theorem fit_d {d : Nat} (h : d < 10) : fits .byte (.int (nI (48 + d))) = true := (nar_dig ⟨d, h⟩).2
theorem upd_fit {f : Nat → Int32} {i : Nat} {v : Int32} (hf : ∀ j, fits .byte (.int (f j)) = true) (hv : fits .byte (.int v) = true) (j : Nat) : fits .byte (.int (upd f i v j)) = true := by
  unfold upd
  split
  · exact hv
  · exact hf _
theorem nI_dec {n : Nat} (h : 0 < n) : nI n + Int32.ofInt (-1) = nI (n - 1) := by
  have e := nI_m1 (n - 1)
  rw [Nat.sub_add_cancel h] at e
  exact e
theorem nolt3 {k : Nat} (h : k < 1000) : ¬ (-nI k ≤ -1000) := (show ∀ k : Fin 1000, ¬ (-nI k ≤ -1000) by decide +kernel) ⟨k, h⟩
abbrev rm_ss : Room := { frames := 0, cells := 0, slots := 0, locals := 0 }
set_option maxRecDepth 100000 in
theorem c_ss (G : Gx) (l : Launch) (sg : SGt) (dg : Nat × Nat) (sz : Nat) (k : Nat) (hA3 : ∀ q, sz ≤ q → sg.2.2.1 q) (hA2 : ∀ p ∈ ([] : va_W), sg.2.2.1 p.1) (hk : k < 1000) : Jc G l yJ6_stringSize_0f7a4 cJ6_stringSize_0f7a4 4 (some .int) rm_ss [.int (nI k)] sg dg sz [] (fun r w => r = some (.int (nI (dgL k).length)) ∧ w = []) 0 0 := by
  refine jc_of (by decide +kernel) (Nat.le_of_ble_eq_true rfl) (by simp) hA3 hA2 fun X hl hG hL F hnm => ?_
  subst hl
  subst hG
  by_cases h10 : k < 10
  · skip
    refine j_iconst F (v := nI 1) dJ6_stringSize_0f7a4_0 (by decide) ?_
    refine j_istore_n F [(1, .int (nI 1)), (0, .int (nI k))] rfl dJ6_stringSize_0f7a4_1 rfl (by rw [hL]; decide) ?_
    refine j_iload_n F 1 rfl dJ6_stringSize_0f7a4_2 rfl ?_
    refine j_iflt F (tgt := 11) dJ6_stringSize_0f7a4_3 (by decide) (fun qq => absurd qq (nI_pos (by omega))) (fun _ => ?_)
    refine j_iconst F (v := nI 0) dJ6_stringSize_0f7a4_6 (by decide) ?_
    refine j_istore_n F [(1, .int (nI 0)), (0, .int (nI k))] rfl dJ6_stringSize_0f7a4_7 rfl (by rw [hL]; decide) ?_
    refine j_iload_n F 1 rfl dJ6_stringSize_0f7a4_8 rfl ?_
    refine j_ineg F (z := -nI k) dJ6_stringSize_0f7a4_9 rfl ?_
    refine j_istore_n F [(0, .int (-nI k)), (1, .int (nI 0))] rfl dJ6_stringSize_0f7a4_10 rfl (by rw [hL]; decide) ?_
    refine j_bipush F (v := (-10)) dJ6_stringSize_0f7a4_11 (by decide) ?_
    refine j_istore_n F [(2, .int (-10)), (0, .int (-nI k)), (1, .int (nI 0))] rfl dJ6_stringSize_0f7a4_13 rfl (by rw [hL]; decide) ?_
    refine j_iconst F (v := nI 1) dJ6_stringSize_0f7a4_14 (by decide) ?_
    refine j_istore_n F [(3, .int (nI 1)), (2, .int (-10)), (0, .int (-nI k)), (1, .int (nI 0))] rfl dJ6_stringSize_0f7a4_15 rfl (by rw [hL]; decide) ?_
    refine j_iload_n F 0 rfl dJ6_stringSize_0f7a4_16 rfl ?_
    refine j_bipush F (v := nI 10) dJ6_stringSize_0f7a4_17 (by decide) ?_
    refine j_icmpge F (tgt := 42) dJ6_stringSize_0f7a4_19 (by decide) (fun qq => absurd qq (by decide)) (fun _ => ?_)
    refine j_iload_n F 2 rfl dJ6_stringSize_0f7a4_22 rfl ?_
    refine j_iload_n F 1 rfl dJ6_stringSize_0f7a4_23 rfl ?_
    refine j_icmple F (tgt := 31) dJ6_stringSize_0f7a4_24 (by decide) (fun qq => absurd qq (by rw [ng_10 (by omega)]; omega)) (fun _ => ?_)
    refine j_iload_n F 0 rfl dJ6_stringSize_0f7a4_27 rfl ?_
    refine j_iload_n F 3 rfl dJ6_stringSize_0f7a4_28 rfl ?_
    refine j_iadd F (z := nI 1) dJ6_stringSize_0f7a4_29 (by decide) ?_
    exact j_iret F ⟨by rw [dgL_len]; (repeat (first | rw [if_pos (by omega)] | rw [if_neg (by omega)])), rfl⟩ (Nat.le_refl _) (Nat.le_refl _) dJ6_stringSize_0f7a4_30
  by_cases h100 : k < 100
  · skip
    refine j_iconst F (v := nI 1) dJ6_stringSize_0f7a4_0 (by decide) ?_
    refine j_istore_n F [(1, .int (nI 1)), (0, .int (nI k))] rfl dJ6_stringSize_0f7a4_1 rfl (by rw [hL]; decide) ?_
    refine j_iload_n F 1 rfl dJ6_stringSize_0f7a4_2 rfl ?_
    refine j_iflt F (tgt := 11) dJ6_stringSize_0f7a4_3 (by decide) (fun qq => absurd qq (nI_pos (by omega))) (fun _ => ?_)
    refine j_iconst F (v := nI 0) dJ6_stringSize_0f7a4_6 (by decide) ?_
    refine j_istore_n F [(1, .int (nI 0)), (0, .int (nI k))] rfl dJ6_stringSize_0f7a4_7 rfl (by rw [hL]; decide) ?_
    refine j_iload_n F 1 rfl dJ6_stringSize_0f7a4_8 rfl ?_
    refine j_ineg F (z := -nI k) dJ6_stringSize_0f7a4_9 rfl ?_
    refine j_istore_n F [(0, .int (-nI k)), (1, .int (nI 0))] rfl dJ6_stringSize_0f7a4_10 rfl (by rw [hL]; decide) ?_
    refine j_bipush F (v := (-10)) dJ6_stringSize_0f7a4_11 (by decide) ?_
    refine j_istore_n F [(2, .int (-10)), (0, .int (-nI k)), (1, .int (nI 0))] rfl dJ6_stringSize_0f7a4_13 rfl (by rw [hL]; decide) ?_
    refine j_iconst F (v := nI 1) dJ6_stringSize_0f7a4_14 (by decide) ?_
    refine j_istore_n F [(3, .int (nI 1)), (2, .int (-10)), (0, .int (-nI k)), (1, .int (nI 0))] rfl dJ6_stringSize_0f7a4_15 rfl (by rw [hL]; decide) ?_
    refine j_iload_n F 0 rfl dJ6_stringSize_0f7a4_16 rfl ?_
    refine j_bipush F (v := nI 10) dJ6_stringSize_0f7a4_17 (by decide) ?_
    refine j_icmpge F (tgt := 42) dJ6_stringSize_0f7a4_19 (by decide) (fun qq => absurd qq (by decide)) (fun _ => ?_)
    refine j_iload_n F 2 rfl dJ6_stringSize_0f7a4_22 rfl ?_
    refine j_iload_n F 1 rfl dJ6_stringSize_0f7a4_23 rfl ?_
    refine j_icmple F (tgt := 31) dJ6_stringSize_0f7a4_24 (by decide) (fun _ => ?_) (fun qq => absurd (by rw [ng_10 (by omega)]; omega) qq)
    refine j_bipush F (v := nI 10) dJ6_stringSize_0f7a4_31 (by decide) ?_
    refine j_iload_n F 1 rfl dJ6_stringSize_0f7a4_33 rfl ?_
    refine j_imul F (z := (-100)) dJ6_stringSize_0f7a4_34 (by decide) ?_
    refine j_istore_n F [(2, .int ((-100))), (3, .int (nI 1)), (0, .int (-nI k)), (1, .int (nI 0))] rfl dJ6_stringSize_0f7a4_35 rfl (by rw [hL]; decide) ?_
    refine j_iinc F (w := nI 2) 1 rfl (by decide) [(3, .int (nI 2)), (2, .int ((-100))), (0, .int (-nI k)), (1, .int (nI 0))] rfl dJ6_stringSize_0f7a4_36 (by rw [hL]; decide) ?_
    refine j_goto F (tgt := 16) dJ6_stringSize_0f7a4_39 (by decide) ?_
    refine j_iload_n F 0 rfl dJ6_stringSize_0f7a4_16 rfl ?_
    refine j_bipush F (v := nI 10) dJ6_stringSize_0f7a4_17 (by decide) ?_
    refine j_icmpge F (tgt := 42) dJ6_stringSize_0f7a4_19 (by decide) (fun qq => absurd qq (by decide)) (fun _ => ?_)
    refine j_iload_n F 2 rfl dJ6_stringSize_0f7a4_22 rfl ?_
    refine j_iload_n F 1 rfl dJ6_stringSize_0f7a4_23 rfl ?_
    refine j_icmple F (tgt := 31) dJ6_stringSize_0f7a4_24 (by decide) (fun qq => absurd qq (by rw [ng_100 (by omega)]; omega)) (fun _ => ?_)
    refine j_iload_n F 0 rfl dJ6_stringSize_0f7a4_27 rfl ?_
    refine j_iload_n F 3 rfl dJ6_stringSize_0f7a4_28 rfl ?_
    refine j_iadd F (z := nI 2) dJ6_stringSize_0f7a4_29 (by decide) ?_
    exact j_iret F ⟨by rw [dgL_len]; (repeat (first | rw [if_pos (by omega)] | rw [if_neg (by omega)])), rfl⟩ (Nat.le_refl _) (Nat.le_refl _) dJ6_stringSize_0f7a4_30
  · skip
    refine j_iconst F (v := nI 1) dJ6_stringSize_0f7a4_0 (by decide) ?_
    refine j_istore_n F [(1, .int (nI 1)), (0, .int (nI k))] rfl dJ6_stringSize_0f7a4_1 rfl (by rw [hL]; decide) ?_
    refine j_iload_n F 1 rfl dJ6_stringSize_0f7a4_2 rfl ?_
    refine j_iflt F (tgt := 11) dJ6_stringSize_0f7a4_3 (by decide) (fun qq => absurd qq (nI_pos (by omega))) (fun _ => ?_)
    refine j_iconst F (v := nI 0) dJ6_stringSize_0f7a4_6 (by decide) ?_
    refine j_istore_n F [(1, .int (nI 0)), (0, .int (nI k))] rfl dJ6_stringSize_0f7a4_7 rfl (by rw [hL]; decide) ?_
    refine j_iload_n F 1 rfl dJ6_stringSize_0f7a4_8 rfl ?_
    refine j_ineg F (z := -nI k) dJ6_stringSize_0f7a4_9 rfl ?_
    refine j_istore_n F [(0, .int (-nI k)), (1, .int (nI 0))] rfl dJ6_stringSize_0f7a4_10 rfl (by rw [hL]; decide) ?_
    refine j_bipush F (v := (-10)) dJ6_stringSize_0f7a4_11 (by decide) ?_
    refine j_istore_n F [(2, .int (-10)), (0, .int (-nI k)), (1, .int (nI 0))] rfl dJ6_stringSize_0f7a4_13 rfl (by rw [hL]; decide) ?_
    refine j_iconst F (v := nI 1) dJ6_stringSize_0f7a4_14 (by decide) ?_
    refine j_istore_n F [(3, .int (nI 1)), (2, .int (-10)), (0, .int (-nI k)), (1, .int (nI 0))] rfl dJ6_stringSize_0f7a4_15 rfl (by rw [hL]; decide) ?_
    refine j_iload_n F 0 rfl dJ6_stringSize_0f7a4_16 rfl ?_
    refine j_bipush F (v := nI 10) dJ6_stringSize_0f7a4_17 (by decide) ?_
    refine j_icmpge F (tgt := 42) dJ6_stringSize_0f7a4_19 (by decide) (fun qq => absurd qq (by decide)) (fun _ => ?_)
    refine j_iload_n F 2 rfl dJ6_stringSize_0f7a4_22 rfl ?_
    refine j_iload_n F 1 rfl dJ6_stringSize_0f7a4_23 rfl ?_
    refine j_icmple F (tgt := 31) dJ6_stringSize_0f7a4_24 (by decide) (fun _ => ?_) (fun qq => absurd (by rw [ng_10 (by omega)]; omega) qq)
    refine j_bipush F (v := nI 10) dJ6_stringSize_0f7a4_31 (by decide) ?_
    refine j_iload_n F 1 rfl dJ6_stringSize_0f7a4_33 rfl ?_
    refine j_imul F (z := (-100)) dJ6_stringSize_0f7a4_34 (by decide) ?_
    refine j_istore_n F [(2, .int ((-100))), (3, .int (nI 1)), (0, .int (-nI k)), (1, .int (nI 0))] rfl dJ6_stringSize_0f7a4_35 rfl (by rw [hL]; decide) ?_
    refine j_iinc F (w := nI 2) 1 rfl (by decide) [(3, .int (nI 2)), (2, .int ((-100))), (0, .int (-nI k)), (1, .int (nI 0))] rfl dJ6_stringSize_0f7a4_36 (by rw [hL]; decide) ?_
    refine j_goto F (tgt := 16) dJ6_stringSize_0f7a4_39 (by decide) ?_
    refine j_iload_n F 0 rfl dJ6_stringSize_0f7a4_16 rfl ?_
    refine j_bipush F (v := nI 10) dJ6_stringSize_0f7a4_17 (by decide) ?_
    refine j_icmpge F (tgt := 42) dJ6_stringSize_0f7a4_19 (by decide) (fun qq => absurd qq (by decide)) (fun _ => ?_)
    refine j_iload_n F 2 rfl dJ6_stringSize_0f7a4_22 rfl ?_
    refine j_iload_n F 1 rfl dJ6_stringSize_0f7a4_23 rfl ?_
    refine j_icmple F (tgt := 31) dJ6_stringSize_0f7a4_24 (by decide) (fun _ => ?_) (fun qq => absurd (by rw [ng_100 (by omega)]; omega) qq)
    refine j_bipush F (v := nI 10) dJ6_stringSize_0f7a4_31 (by decide) ?_
    refine j_iload_n F 1 rfl dJ6_stringSize_0f7a4_33 rfl ?_
    refine j_imul F (z := (-1000)) dJ6_stringSize_0f7a4_34 (by decide) ?_
    refine j_istore_n F [(2, .int ((-1000))), (3, .int (nI 2)), (0, .int (-nI k)), (1, .int (nI 0))] rfl dJ6_stringSize_0f7a4_35 rfl (by rw [hL]; decide) ?_
    refine j_iinc F (w := nI 3) 1 rfl (by decide) [(3, .int (nI 3)), (2, .int ((-1000))), (0, .int (-nI k)), (1, .int (nI 0))] rfl dJ6_stringSize_0f7a4_36 (by rw [hL]; decide) ?_
    refine j_goto F (tgt := 16) dJ6_stringSize_0f7a4_39 (by decide) ?_
    refine j_iload_n F 0 rfl dJ6_stringSize_0f7a4_16 rfl ?_
    refine j_bipush F (v := nI 10) dJ6_stringSize_0f7a4_17 (by decide) ?_
    refine j_icmpge F (tgt := 42) dJ6_stringSize_0f7a4_19 (by decide) (fun qq => absurd qq (by decide)) (fun _ => ?_)
    refine j_iload_n F 2 rfl dJ6_stringSize_0f7a4_22 rfl ?_
    refine j_iload_n F 1 rfl dJ6_stringSize_0f7a4_23 rfl ?_
    refine j_icmple F (tgt := 31) dJ6_stringSize_0f7a4_24 (by decide) (fun qq => absurd qq (nolt3 (by omega))) (fun _ => ?_)
    refine j_iload_n F 0 rfl dJ6_stringSize_0f7a4_27 rfl ?_
    refine j_iload_n F 3 rfl dJ6_stringSize_0f7a4_28 rfl ?_
    refine j_iadd F (z := nI 3) dJ6_stringSize_0f7a4_29 (by decide) ?_
    exact j_iret F ⟨by rw [dgL_len]; (repeat (first | rw [if_pos (by omega)] | rw [if_neg (by omega)])), rfl⟩ (Nat.le_refl _) (Nat.le_refl _) dJ6_stringSize_0f7a4_30
abbrev rm_gc : Room := { frames := 0, cells := 0, slots := 0, locals := 0 }
set_option maxRecDepth 100000 in
theorem c_gc (G : Gx) (l : Launch) (sg : SGt) (dg : Nat × Nat) (sz : Nat) (v m n k : Nat) (f : Nat → Int32) (hA3 : ∀ q, sz ≤ q → sg.2.2.1 q) (hA2 : ∀ p ∈ ([(v, ba G m f)] : va_W), sg.2.2.1 p.1) (hk : k < 1000) (hn : n + (dgL k).length ≤ m) (hm : m ≤ 150) (hf : ∀ j, fits .byte (.int (f j)) = true) : Jc G l yJ6_getChars_ba4f3 cJ6_getChars_ba4f3 7 (some .int) rm_gc [.int (nI k), .int (nI (n + (dgL k).length)), .ref v] sg dg sz [(v, ba G m f)] (fun r w => r = some (.int (nI n)) ∧ ∃ f2, w = [(v, ba G m f2)] ∧ (∀ j, j < n → f2 j = f j) ∧ (∀ j, j < (dgL k).length → f2 (n + j) = (dgL k).getD j 0) ∧ ∀ j, fits .byte (.int (f2 j)) = true) 0 0 := by
  refine jc_of (by decide +kernel) (Nat.le_of_ble_eq_true rfl) (by simp) hA3 hA2 fun X hl hG hL F hnm => ?_
  subst hl
  subst hG
  by_cases h10 : k < 10
  · skip
    have hdg : dgL k = [nI (48 + k)] := by unfold dgL; rw [if_pos h10]
    have hlen : (dgL k).length = 1 := by rw [hdg]; rfl
    have hm3 : n + 1 ≤ m := by rw [hlen] at hn; exact hn
    rw [hlen]
    refine j_iload_n F 1 rfl dJ6_getChars_ba4f3_0 rfl ?_
    refine j_istore F [(5, .int (nI (n + 1))), (0, .int (nI k)), (1, .int (nI (n + 1))), (2, .ref v)] rfl dJ6_getChars_ba4f3_1 (by rw [hL]; decide) ?_
    refine j_iload_n F 1 rfl dJ6_getChars_ba4f3_3 rfl ?_
    refine j_ifge F (tgt := 11) dJ6_getChars_ba4f3_4 (by decide) (fun _ => ?_) (fun qq => absurd (nI_pos' (by omega)) qq)
    refine j_iconst F (v := nI 0) dJ6_getChars_ba4f3_11 (by decide) ?_
    refine j_istore F [(6, .int (nI 0)), (5, .int (nI (n + 1))), (0, .int (nI k)), (1, .int (nI (n + 1))), (2, .ref v)] rfl dJ6_getChars_ba4f3_12 (by rw [hL]; decide) ?_
    refine j_iload F 0 rfl dJ6_getChars_ba4f3_14 ?_
    refine j_ifne F (tgt := 22) dJ6_getChars_ba4f3_16 (by decide) (fun qq => absurd qq (fun z => z rfl)) (fun _ => ?_)
    refine j_iload_n F 2 rfl dJ6_getChars_ba4f3_19 rfl ?_
    refine j_ineg F (z := -nI k) dJ6_getChars_ba4f3_20 rfl ?_
    refine j_istore_n F [(0, .int (-nI k)), (6, .int (nI 0)), (5, .int (nI (n + 1))), (1, .int (nI (n + 1))), (2, .ref v)] rfl dJ6_getChars_ba4f3_21 rfl (by rw [hL]; decide) ?_
    refine j_iload_n F 0 rfl dJ6_getChars_ba4f3_22 rfl ?_
    refine j_bipush F (v := (-100)) dJ6_getChars_ba4f3_23 (by decide) ?_
    refine j_icmpgt F (tgt := 72) dJ6_getChars_ba4f3_25 (by decide) (fun _ => ?_) (fun qq => absurd (by rw [ng_l100 (by omega)]; omega) qq)
    refine j_aload_n F 4 rfl dJ6_getChars_ba4f3_72 rfl ?_
    refine j_iinc F (w := nI n) 2 rfl (nI_dec (n := n + 1) (by omega)) [(5, .int (nI n)), (0, .int (-nI k)), (6, .int (nI 0)), (1, .int (nI (n + 1))), (2, .ref v)] rfl dJ6_getChars_ba4f3_73 (by rw [hL]; decide) ?_
    refine j_iload F 0 rfl dJ6_getChars_ba4f3_76 ?_
    refine j_ones F jw_83 dJ6_getChars_ba4f3_78 ?_
    refine j_iload_n F 1 rfl dJ6_getChars_ba4f3_81 rfl ?_
    refine j_ineg F (z := nI (k)) dJ6_getChars_ba4f3_82 (ng_ng (by omega)) ?_
    refine j_one F (j := k) (by omega) dJ6_getChars_ba4f3_83 ?_
    refine j_bast F 0 rfl (inb_n (show n < m by omega) (by omega)) (ws2 := [(v, ba (xG X) m (upd f n (nI (48 + k % 10))))]) (by rw [clN (show n < 2 ^ 31 by omega), nar_d (by omega)]; rfl) dJ6_getChars_ba4f3_84 ?_
    refine j_iload_n F 1 rfl dJ6_getChars_ba4f3_85 rfl ?_
    refine j_bipush F (v := (-9)) dJ6_getChars_ba4f3_86 (by decide) ?_
    refine j_icmpge F (tgt := 104) dJ6_getChars_ba4f3_88 (by decide) (fun _ => ?_) (fun qq => absurd (by rw [ng_9 (by omega)]; omega) qq)
    refine j_iload F 2 rfl dJ6_getChars_ba4f3_104 ?_
    refine j_ifeq F (tgt := 118) dJ6_getChars_ba4f3_106 (by decide) (fun _ => ?_) (fun qq => absurd (show nI 0 = 0 from rfl) qq)
    refine j_iload F 0 rfl dJ6_getChars_ba4f3_118 ?_
    refine j_iret F ⟨rfl, _, rfl, ?_, ?_, ?_⟩ (Nat.le_refl _) (Nat.le_refl _) dJ6_getChars_ba4f3_120
    · intro j hj
      unfold upd
      repeat (first | rw [if_neg (by omega)])
    · intro j hj
      rw [hdg]
      have hj3 : j = 0 := by omega
      subst hj3
      · unfold upd
        simp only [Nat.add_zero]
        repeat (first | rw [if_pos (by omega)] | rw [if_neg (by omega)])
        first | rfl | (show nI _ = nI _; congr 1; omega)
    · exact fun j => upd_fit hf (fit_d (by omega)) j
  by_cases h100 : k < 100
  · skip
    have hdg : dgL k = [nI (48 + k / 10), nI (48 + k % 10)] := by unfold dgL; rw [if_neg h10, if_pos h100]
    have hlen : (dgL k).length = 2 := by rw [hdg]; rfl
    have hm3 : n + 2 ≤ m := by rw [hlen] at hn; exact hn
    rw [hlen]
    refine j_iload_n F 1 rfl dJ6_getChars_ba4f3_0 rfl ?_
    refine j_istore F [(5, .int (nI (n + 2))), (0, .int (nI k)), (1, .int (nI (n + 2))), (2, .ref v)] rfl dJ6_getChars_ba4f3_1 (by rw [hL]; decide) ?_
    refine j_iload_n F 1 rfl dJ6_getChars_ba4f3_3 rfl ?_
    refine j_ifge F (tgt := 11) dJ6_getChars_ba4f3_4 (by decide) (fun _ => ?_) (fun qq => absurd (nI_pos' (by omega)) qq)
    refine j_iconst F (v := nI 0) dJ6_getChars_ba4f3_11 (by decide) ?_
    refine j_istore F [(6, .int (nI 0)), (5, .int (nI (n + 2))), (0, .int (nI k)), (1, .int (nI (n + 2))), (2, .ref v)] rfl dJ6_getChars_ba4f3_12 (by rw [hL]; decide) ?_
    refine j_iload F 0 rfl dJ6_getChars_ba4f3_14 ?_
    refine j_ifne F (tgt := 22) dJ6_getChars_ba4f3_16 (by decide) (fun qq => absurd qq (fun z => z rfl)) (fun _ => ?_)
    refine j_iload_n F 2 rfl dJ6_getChars_ba4f3_19 rfl ?_
    refine j_ineg F (z := -nI k) dJ6_getChars_ba4f3_20 rfl ?_
    refine j_istore_n F [(0, .int (-nI k)), (6, .int (nI 0)), (5, .int (nI (n + 2))), (1, .int (nI (n + 2))), (2, .ref v)] rfl dJ6_getChars_ba4f3_21 rfl (by rw [hL]; decide) ?_
    refine j_iload_n F 0 rfl dJ6_getChars_ba4f3_22 rfl ?_
    refine j_bipush F (v := (-100)) dJ6_getChars_ba4f3_23 (by decide) ?_
    refine j_icmpgt F (tgt := 72) dJ6_getChars_ba4f3_25 (by decide) (fun _ => ?_) (fun qq => absurd (by rw [ng_l100 (by omega)]; omega) qq)
    refine j_aload_n F 4 rfl dJ6_getChars_ba4f3_72 rfl ?_
    refine j_iinc F (w := nI (n + 1)) 2 rfl (nI_dec (n := n + 2) (by omega)) [(5, .int (nI (n + 1))), (0, .int (-nI k)), (6, .int (nI 0)), (1, .int (nI (n + 2))), (2, .ref v)] rfl dJ6_getChars_ba4f3_73 (by rw [hL]; decide) ?_
    refine j_iload F 0 rfl dJ6_getChars_ba4f3_76 ?_
    refine j_ones F jw_83 dJ6_getChars_ba4f3_78 ?_
    refine j_iload_n F 1 rfl dJ6_getChars_ba4f3_81 rfl ?_
    refine j_ineg F (z := nI (k)) dJ6_getChars_ba4f3_82 (ng_ng (by omega)) ?_
    refine j_one F (j := k) (by omega) dJ6_getChars_ba4f3_83 ?_
    refine j_bast F 0 rfl (inb_n (show n + 1 < m by omega) (by omega)) (ws2 := [(v, ba (xG X) m (upd f (n + 1) (nI (48 + k % 10))))]) (by rw [clN (show n + 1 < 2 ^ 31 by omega), nar_d (by omega)]; rfl) dJ6_getChars_ba4f3_84 ?_
    refine j_iload_n F 1 rfl dJ6_getChars_ba4f3_85 rfl ?_
    refine j_bipush F (v := (-9)) dJ6_getChars_ba4f3_86 (by decide) ?_
    refine j_icmpge F (tgt := 104) dJ6_getChars_ba4f3_88 (by decide) (fun qq => absurd qq (by rw [ng_9 (by omega)]; omega)) (fun _ => ?_)
    refine j_aload_n F 4 rfl dJ6_getChars_ba4f3_91 rfl ?_
    refine j_iinc F (w := nI n) 0 rfl (nI_dec (n := n + 1) (by omega)) [(5, .int (nI n)), (0, .int (-nI k)), (6, .int (nI 0)), (1, .int (nI (n + 2))), (2, .ref v)] rfl dJ6_getChars_ba4f3_92 (by rw [hL]; decide) ?_
    refine j_iload F 0 rfl dJ6_getChars_ba4f3_95 ?_
    refine j_tens F jw_87 dJ6_getChars_ba4f3_97 ?_
    refine j_iload_n F 1 rfl dJ6_getChars_ba4f3_100 rfl ?_
    refine j_ineg F (z := nI k) dJ6_getChars_ba4f3_101 (ng_ng (by omega)) ?_
    refine j_ten F (j := k) (by omega) dJ6_getChars_ba4f3_102 ?_
    refine j_bast F 0 rfl (inb_n (show n < m by omega) (by omega)) (ws2 := [(v, ba (xG X) m (upd (upd f (n + 1) (nI (48 + k % 10))) n (nI (48 + k / 10))))]) (by rw [clN (show n < 2 ^ 31 by omega), nar_d (by omega)]; rfl) dJ6_getChars_ba4f3_103 ?_
    refine j_iload F 2 rfl dJ6_getChars_ba4f3_104 ?_
    refine j_ifeq F (tgt := 118) dJ6_getChars_ba4f3_106 (by decide) (fun _ => ?_) (fun qq => absurd (show nI 0 = 0 from rfl) qq)
    refine j_iload F 0 rfl dJ6_getChars_ba4f3_118 ?_
    refine j_iret F ⟨rfl, _, rfl, ?_, ?_, ?_⟩ (Nat.le_refl _) (Nat.le_refl _) dJ6_getChars_ba4f3_120
    · intro j hj
      unfold upd
      repeat (first | rw [if_neg (by omega)])
    · intro j hj
      rw [hdg]
      have hj3 : j = 0 ∨ j = 1 := by omega
      rcases hj3 with rfl | rfl
      · unfold upd
        simp only [Nat.add_zero]
        repeat (first | rw [if_pos (by omega)] | rw [if_neg (by omega)])
        first | rfl | (show nI _ = nI _; congr 1; omega)
      · unfold upd
        simp only [Nat.add_zero]
        repeat (first | rw [if_pos (by omega)] | rw [if_neg (by omega)])
        first | rfl | (show nI _ = nI _; congr 1; omega)
    · exact fun j => upd_fit (upd_fit hf (fit_d (by omega))) (fit_d (by omega)) j
  · skip
    have hdg : dgL k = [nI (48 + k / 100), nI (48 + k / 10 % 10), nI (48 + k % 10)] := by unfold dgL; rw [if_neg h10, if_neg h100]
    have hlen : (dgL k).length = 3 := by rw [hdg]; rfl
    have hm3 : n + 3 ≤ m := by rw [hlen] at hn; exact hn
    rw [hlen]
    refine j_iload_n F 1 rfl dJ6_getChars_ba4f3_0 rfl ?_
    refine j_istore F [(5, .int (nI (n + 3))), (0, .int (nI k)), (1, .int (nI (n + 3))), (2, .ref v)] rfl dJ6_getChars_ba4f3_1 (by rw [hL]; decide) ?_
    refine j_iload_n F 1 rfl dJ6_getChars_ba4f3_3 rfl ?_
    refine j_ifge F (tgt := 11) dJ6_getChars_ba4f3_4 (by decide) (fun _ => ?_) (fun qq => absurd (nI_pos' (by omega)) qq)
    refine j_iconst F (v := nI 0) dJ6_getChars_ba4f3_11 (by decide) ?_
    refine j_istore F [(6, .int (nI 0)), (5, .int (nI (n + 3))), (0, .int (nI k)), (1, .int (nI (n + 3))), (2, .ref v)] rfl dJ6_getChars_ba4f3_12 (by rw [hL]; decide) ?_
    refine j_iload F 0 rfl dJ6_getChars_ba4f3_14 ?_
    refine j_ifne F (tgt := 22) dJ6_getChars_ba4f3_16 (by decide) (fun qq => absurd qq (fun z => z rfl)) (fun _ => ?_)
    refine j_iload_n F 2 rfl dJ6_getChars_ba4f3_19 rfl ?_
    refine j_ineg F (z := -nI k) dJ6_getChars_ba4f3_20 rfl ?_
    refine j_istore_n F [(0, .int (-nI k)), (6, .int (nI 0)), (5, .int (nI (n + 3))), (1, .int (nI (n + 3))), (2, .ref v)] rfl dJ6_getChars_ba4f3_21 rfl (by rw [hL]; decide) ?_
    refine j_iload_n F 0 rfl dJ6_getChars_ba4f3_22 rfl ?_
    refine j_bipush F (v := (-100)) dJ6_getChars_ba4f3_23 (by decide) ?_
    refine j_icmpgt F (tgt := 72) dJ6_getChars_ba4f3_25 (by decide) (fun qq => absurd qq (by rw [ng_l100 (by omega)]; omega)) (fun _ => ?_)
    refine j_iload_n F 0 rfl dJ6_getChars_ba4f3_28 rfl ?_
    refine j_bipush F (v := nI 100) dJ6_getChars_ba4f3_29 (by decide) ?_
    refine j_idiv F (z := -nI (k / 100)) dJ6_getChars_ba4f3_31 (by decide) (ng_div (by omega)) ?_
    refine j_istore_n F [(3, .int (-nI (k / 100))), (0, .int (-nI k)), (6, .int (nI 0)), (5, .int (nI (n + 3))), (1, .int (nI (n + 3))), (2, .ref v)] rfl dJ6_getChars_ba4f3_32 rfl (by rw [hL]; decide) ?_
    refine j_iload_n F 0 rfl dJ6_getChars_ba4f3_33 rfl ?_
    refine j_bipush F (v := nI 100) dJ6_getChars_ba4f3_34 (by decide) ?_
    refine j_imul F (z := (-nI (k / 100)) * 100) dJ6_getChars_ba4f3_36 rfl ?_
    refine j_iload_n F 1 rfl dJ6_getChars_ba4f3_37 rfl ?_
    refine j_isub F (z := nI (k % 100)) dJ6_getChars_ba4f3_38 (ng_mod (by omega)) ?_
    refine j_istore F [(4, .int (nI (k % 100))), (3, .int (-nI (k / 100))), (0, .int (-nI k)), (6, .int (nI 0)), (5, .int (nI (n + 3))), (1, .int (nI (n + 3))), (2, .ref v)] rfl dJ6_getChars_ba4f3_39 (by rw [hL]; decide) ?_
    refine j_iload_n F 1 rfl dJ6_getChars_ba4f3_41 rfl ?_
    refine j_istore_n F [(0, .int (-nI (k / 100))), (4, .int (nI (k % 100))), (3, .int (-nI (k / 100))), (6, .int (nI 0)), (5, .int (nI (n + 3))), (1, .int (nI (n + 3))), (2, .ref v)] rfl dJ6_getChars_ba4f3_42 rfl (by rw [hL]; decide) ?_
    refine j_aload_n F 6 rfl dJ6_getChars_ba4f3_43 rfl ?_
    refine j_iinc F (w := nI (n + 2)) 4 rfl (nI_dec (by omega)) [(5, .int (nI (n + 2))), (0, .int (-nI (k / 100))), (4, .int (nI (k % 100))), (3, .int (-nI (k / 100))), (6, .int (nI 0)), (1, .int (nI (n + 3))), (2, .ref v)] rfl dJ6_getChars_ba4f3_44 (by rw [hL]; decide) ?_
    refine j_iload F 0 rfl dJ6_getChars_ba4f3_47 ?_
    refine j_ones F jw_83 dJ6_getChars_ba4f3_49 ?_
    refine j_iload F 2 rfl dJ6_getChars_ba4f3_52 ?_
    refine j_one F (j := k % 100) (by omega) dJ6_getChars_ba4f3_54 ?_
    refine j_bast F 0 rfl (inb_n (show n + 2 < m by omega) (by omega)) (ws2 := [(v, ba (xG X) m (upd f (n + 2) (nI (48 + k % 100 % 10))))]) (by rw [clN (show n + 2 < 2 ^ 31 by omega), nar_d (by omega)]; rfl) dJ6_getChars_ba4f3_55 ?_
    refine j_aload_n F 6 rfl dJ6_getChars_ba4f3_56 rfl ?_
    refine j_iinc F (w := nI (n + 1)) 0 rfl (nI_dec (by omega)) [(5, .int (nI (n + 1))), (0, .int (-nI (k / 100))), (4, .int (nI (k % 100))), (3, .int (-nI (k / 100))), (6, .int (nI 0)), (1, .int (nI (n + 3))), (2, .ref v)] rfl dJ6_getChars_ba4f3_57 (by rw [hL]; decide) ?_
    refine j_iload F 0 rfl dJ6_getChars_ba4f3_60 ?_
    refine j_tens F jw_87 dJ6_getChars_ba4f3_62 ?_
    refine j_iload F 2 rfl dJ6_getChars_ba4f3_65 ?_
    refine j_ten F (j := k % 100) (by omega) dJ6_getChars_ba4f3_67 ?_
    refine j_bast F 0 rfl (inb_n (show n + 1 < m by omega) (by omega)) (ws2 := [(v, ba (xG X) m (upd (upd f (n + 2) (nI (48 + k % 100 % 10))) (n + 1) (nI (48 + k % 100 / 10))))]) (by rw [clN (show n + 1 < 2 ^ 31 by omega), nar_d (by omega)]; rfl) dJ6_getChars_ba4f3_68 ?_
    refine j_goto F (tgt := 22) dJ6_getChars_ba4f3_69 (by decide) ?_
    refine j_iload_n F 1 rfl dJ6_getChars_ba4f3_22 rfl ?_
    refine j_bipush F (v := (-100)) dJ6_getChars_ba4f3_23 (by decide) ?_
    refine j_icmpgt F (tgt := 72) dJ6_getChars_ba4f3_25 (by decide) (fun _ => ?_) (fun qq => absurd (by rw [ng_l100 (by omega)]; omega) qq)
    refine j_aload_n F 6 rfl dJ6_getChars_ba4f3_72 rfl ?_
    refine j_iinc F (w := nI n) 0 rfl (nI_dec (n := n + 1) (by omega)) [(5, .int (nI n)), (0, .int (-nI (k / 100))), (4, .int (nI (k % 100))), (3, .int (-nI (k / 100))), (6, .int (nI 0)), (1, .int (nI (n + 3))), (2, .ref v)] rfl dJ6_getChars_ba4f3_73 (by rw [hL]; decide) ?_
    refine j_iload F 0 rfl dJ6_getChars_ba4f3_76 ?_
    refine j_ones F jw_83 dJ6_getChars_ba4f3_78 ?_
    refine j_iload_n F 1 rfl dJ6_getChars_ba4f3_81 rfl ?_
    refine j_ineg F (z := nI (k / 100)) dJ6_getChars_ba4f3_82 (ng_ng (by omega)) ?_
    refine j_one F (j := k / 100) (by omega) dJ6_getChars_ba4f3_83 ?_
    refine j_bast F 0 rfl (inb_n (show n < m by omega) (by omega)) (ws2 := [(v, ba (xG X) m (upd (upd (upd f (n + 2) (nI (48 + k % 100 % 10))) (n + 1) (nI (48 + k % 100 / 10))) n (nI (48 + k / 100 % 10))))]) (by rw [clN (show n < 2 ^ 31 by omega), nar_d (by omega)]; rfl) dJ6_getChars_ba4f3_84 ?_
    refine j_iload_n F 1 rfl dJ6_getChars_ba4f3_85 rfl ?_
    refine j_bipush F (v := (-9)) dJ6_getChars_ba4f3_86 (by decide) ?_
    refine j_icmpge F (tgt := 104) dJ6_getChars_ba4f3_88 (by decide) (fun _ => ?_) (fun qq => absurd (by rw [ng_9 (by omega)]; omega) qq)
    refine j_iload F 4 rfl dJ6_getChars_ba4f3_104 ?_
    refine j_ifeq F (tgt := 118) dJ6_getChars_ba4f3_106 (by decide) (fun _ => ?_) (fun qq => absurd (show nI 0 = 0 from rfl) qq)
    refine j_iload F 0 rfl dJ6_getChars_ba4f3_118 ?_
    refine j_iret F ⟨rfl, _, rfl, ?_, ?_, ?_⟩ (Nat.le_refl _) (Nat.le_refl _) dJ6_getChars_ba4f3_120
    · intro j hj
      unfold upd
      repeat (first | rw [if_neg (by omega)])
    · intro j hj
      rw [hdg]
      have hj3 : j = 0 ∨ j = 1 ∨ j = 2 := by omega
      rcases hj3 with rfl | rfl | rfl
      · unfold upd
        simp only [Nat.add_zero]
        repeat (first | rw [if_pos (by omega)] | rw [if_neg (by omega)])
        first | rfl | (show nI _ = nI _; congr 1; omega)
      · unfold upd
        simp only [Nat.add_zero]
        repeat (first | rw [if_pos (by omega)] | rw [if_neg (by omega)])
        first | rfl | (show nI _ = nI _; congr 1; omega)
      · unfold upd
        simp only [Nat.add_zero]
        repeat (first | rw [if_pos (by omega)] | rw [if_neg (by omega)])
        first | rfl | (show nI _ = nI _; congr 1; omega)
    · exact fun j => upd_fit (upd_fit (upd_fit hf (fit_d (by omega))) (fit_d (by omega))) (fit_d (by omega)) j
