-- what holds at the law's entry
theorem iw_0 : Cond.instantiable (RXf 0) (nf 0) ∈ GT := GT_1 227 rfl rfl
theorem iw_1 : Cond.instantiable (RXf 1) (nf 1) ∈ GT := GT_1 125 rfl rfl
theorem iw_2 : Cond.instantiable (RXf 2) (nf 2) ∈ GT := GT_1 174 rfl rfl
theorem iw_3 : Cond.instantiable (RXf 3) (nf 3) ∈ GT := GT_2 125 rfl rfl
theorem iw_4 : Cond.instantiable (RXf 4) (nf 4) ∈ GT := GT_1 35 rfl rfl
theorem iw_5 : Cond.instantiable (RXf 5) (nf 5) ∈ GT := GT_1 221 rfl rfl
theorem iw_6 : Cond.instantiable (RXf 6) (nf 6) ∈ GT := GT_1 201 rfl rfl
theorem iw_7 : Cond.instantiable (RXf 7) (nf 7) ∈ GT := GT_1 27 rfl rfl
theorem iw_8 : Cond.instantiable (RXf 8) (nf 8) ∈ GT := GT_6 64 rfl rfl
theorem iw_9 : Cond.instantiable (RXf 9) (nf 9) ∈ GT := GT_5 150 rfl rfl
set_option maxRecDepth 100000 in
theorem lx_sr18 : Cond.stringRef RX4 18 txtS ∈ lw_tbl := LW_1 40 rfl
set_option maxRecDepth 100000 in
theorem lx_lsC : Cond.laysStatic RJ0 "COMPACT_STRINGS" "Z" ∈ lw_tbl := LW_1 50 rfl
set_option maxRecDepth 100000 in
theorem lx_lsS : Cond.laysStatic RJ3 "SIOOBE_FORMATTER" "Ljava/util/function/BiFunction;" ∈ lw_tbl := LW_1 66 rfl
set_option maxRecDepth 100000 in
theorem lx_lsO : Cond.laysStatic RJ6 "DigitOnes" "[B" ∈ lw_tbl := LW_6 48 rfl
set_option maxRecDepth 100000 in
theorem lx_lsT : Cond.laysStatic RJ6 "DigitTens" "[B" ∈ lw_tbl := LW_6 50 rfl
set_option maxRecDepth 100000 in
theorem lx_inS : Cond.initialized RJ0 ∈ lw_tbl := LW_1 3 rfl
set_option maxRecDepth 100000 in
theorem lx_inP : Cond.initialized RJ3 ∈ lw_tbl := LW_1 5 rfl
set_option maxRecDepth 100000 in
theorem lx_inI : Cond.initialized RJ6 ∈ lw_tbl := LW_1 20 rfl
set_option maxRecDepth 100000 in
theorem lx_n18 : Cond.methodLinkNest RX7 18 yX1_init "WeedStrand" ∈ lw_tbl := LW_1 126 rfl
set_option maxRecDepth 100000 in
theorem lx_n25 : Cond.methodLinkNest RX7 25 yX2_init "WeedStrand" ∈ lw_tbl := LW_1 175 rfl
set_option maxRecDepth 100000 in
theorem lx_n32 : Cond.methodLinkNest RX7 32 yX6_init "WeedStrand" ∈ lw_tbl := LW_1 202 rfl
set_option maxRecDepth 100000 in
theorem lx_n55 : Cond.methodLinkNest RX7 55 yX5_init "WeedStrand" ∈ lw_tbl := LW_1 222 rfl
set_option maxRecDepth 100000 in
theorem lx_n41 : Cond.methodLinkNest RX5 41 yX0_init "WeedStrand" ∈ lw_tbl := LW_1 228 rfl
set_option maxRecDepth 100000 in
theorem lx_n193 : Cond.methodLinkNest RX3 193 yX7_spread "WeedStrand" ∈ lw_tbl := LW_4 96 rfl
set_option maxRecDepth 100000 in
theorem lx_ao : Cond.arrayOver (.object RX3) ∈ lw_tbl := LW_2 196 rfl
set_option maxRecDepth 100000 in
theorem lx_cB : Cond.castable "[B" "java/lang/Cloneable" ∈ lw_tbl := LW_5 215 rfl
set_option maxRecDepth 100000 in
theorem lx_c0 : Cond.stringRef RL (cix 0) (ctx 0) ∈ lw_tbl := LW_6 116 rfl
set_option maxRecDepth 100000 in
theorem lx_c1 : Cond.stringRef RL (cix 1) (ctx 1) ∈ lw_tbl := LW_6 117 rfl
set_option maxRecDepth 100000 in
theorem lx_c2 : Cond.stringRef RL (cix 2) (ctx 2) ∈ lw_tbl := LW_6 118 rfl
set_option maxRecDepth 100000 in
theorem lx_c3 : Cond.stringRef RL (cix 3) (ctx 3) ∈ lw_tbl := LW_6 119 rfl
set_option maxRecDepth 100000 in
theorem lx_c4 : Cond.stringRef RL (cix 4) (ctx 4) ∈ lw_tbl := LW_6 120 rfl
set_option maxRecDepth 100000 in
theorem lx_c5 : Cond.stringRef RL (cix 5) (ctx 5) ∈ lw_tbl := LW_6 121 rfl
set_option maxRecDepth 100000 in
theorem lx_c6 : Cond.stringRef RL (cix 6) (ctx 6) ∈ lw_tbl := LW_6 122 rfl
set_option maxRecDepth 100000 in
theorem lx_c7 : Cond.stringRef RL (cix 7) (ctx 7) ∈ lw_tbl := LW_6 123 rfl
set_option maxRecDepth 100000 in
theorem lx_c8 : Cond.stringRef RL (cix 8) (ctx 8) ∈ lw_tbl := LW_6 124 rfl
set_option maxRecDepth 100000 in
theorem lx_c9 : Cond.stringRef RL (cix 9) (ctx 9) ∈ lw_tbl := LW_6 125 rfl
set_option maxRecDepth 100000 in
theorem lx_c10 : Cond.stringRef RL (cix 10) (ctx 10) ∈ lw_tbl := LW_6 126 rfl
set_option maxRecDepth 100000 in
theorem lx_c11 : Cond.stringRef RL (cix 11) (ctx 11) ∈ lw_tbl := LW_6 127 rfl
set_option maxRecDepth 100000 in
theorem lx_c12 : Cond.stringRef RL (cix 12) (ctx 12) ∈ lw_tbl := LW_6 128 rfl
set_option maxRecDepth 100000 in
theorem lx_c13 : Cond.stringRef RL (cix 13) (ctx 13) ∈ lw_tbl := LW_6 129 rfl
set_option maxRecDepth 100000 in
theorem lx_c14 : Cond.stringRef RL (cix 14) (ctx 14) ∈ lw_tbl := LW_6 130 rfl
set_option maxRecDepth 100000 in
theorem lx_c15 : Cond.stringRef RL (cix 15) (ctx 15) ∈ lw_tbl := LW_6 131 rfl
set_option maxRecDepth 100000 in
theorem lx_c16 : Cond.stringRef RL (cix 16) (ctx 16) ∈ lw_tbl := LW_6 132 rfl
set_option maxRecDepth 100000 in
theorem lx_c17 : Cond.stringRef RL (cix 17) (ctx 17) ∈ lw_tbl := LW_6 133 rfl
set_option maxRecDepth 100000 in
theorem lx_c18 : Cond.stringRef RL (cix 18) (ctx 18) ∈ lw_tbl := LW_6 134 rfl
theorem lx_c : ∀ i, i < nC → Cond.stringRef RL (cix i) (ctx i) ∈ lw_tbl := fun i hi => by
  have hi : i < 19 := hi
  rcases (show i = 0 ∨ i = 1 ∨ i = 2 ∨ i = 3 ∨ i = 4 ∨ i = 5 ∨ i = 6 ∨ i = 7 ∨ i = 8 ∨ i = 9 ∨ i = 10 ∨ i = 11 ∨ i = 12 ∨ i = 13 ∨ i = 14 ∨ i = 15 ∨ i = 16 ∨ i = 17 ∨ i = 18 by omega) with rfl | rfl | rfl | rfl | rfl | rfl | rfl | rfl | rfl | rfl | rfl | rfl | rfl | rfl | rfl | rfl | rfl | rfl | rfl
  · exact lx_c0
  · exact lx_c1
  · exact lx_c2
  · exact lx_c3
  · exact lx_c4
  · exact lx_c5
  · exact lx_c6
  · exact lx_c7
  · exact lx_c8
  · exact lx_c9
  · exact lx_c10
  · exact lx_c11
  · exact lx_c12
  · exact lx_c13
  · exact lx_c14
  · exact lx_c15
  · exact lx_c16
  · exact lx_c17
  · exact lx_c18
set_option maxRecDepth 100000 in
theorem lx_isl : Cond.selects RJ4 yJ5_isLatin1_aae02 yJ5_isLatin1_aae02 ∈ lw_tbl := LW_5 222 rfl
set_option maxRecDepth 100000 in
theorem lx_pJ5_newCapacity_0f7a4 : Cond.privateMethod yJ5_newCapacity_0f7a4 ∈ lw_tbl ∧ Cond.instanceMethod yJ5_newCapacity_0f7a4 ∈ lw_tbl := ⟨LW_5 195 rfl, LW_5 196 rfl⟩
set_option maxRecDepth 100000 in
theorem lx_pJ5_inflateIfNeededFor_a7421 : Cond.privateMethod yJ5_inflateIfNeededFor_a7421 ∈ lw_tbl ∧ Cond.instanceMethod yJ5_inflateIfNeededFor_a7421 ∈ lw_tbl := ⟨LW_6 5 rfl, LW_6 6 rfl⟩
set_option maxRecDepth 100000 in
theorem lx_pJ5_ensureCapacityInternal_d00df : Cond.privateMethod yJ5_ensureCapacityInternal_d00df ∈ lw_tbl ∧ Cond.instanceMethod yJ5_ensureCapacityInternal_d00df ∈ lw_tbl := ⟨LW_5 191 rfl, LW_5 192 rfl⟩
set_option maxRecDepth 100000 in
theorem lx_pJ5_putStringAt_47b60 : Cond.privateMethod yJ5_putStringAt_47b60 ∈ lw_tbl ∧ Cond.instanceMethod yJ5_putStringAt_47b60 ∈ lw_tbl := ⟨LW_6 1 rfl, LW_6 2 rfl⟩
theorem hG_of {s : State} {b : Nat} (hts : ∀ w ∈ lw_tbl, w.before #[Value.ref b] s = true) : ∀ w ∈ GT, w.before #[Value.ref b] s = true := fun w hw => by
  rcases List.mem_append.mp (List.mem_filter.mp hw).1 with q | q
  · have key : ∀ y : MethodName, (y.cls ≠ "java/lang/invoke/MethodHandle" ∧ y.cls ≠ "java/lang/invoke/VarHandle") → RJ5 = y.cls → Cond.privateMethod y ∈ lw_tbl → Cond.instanceMethod y ∈ lw_tbl → (Cond.selects RJ4 y y).before #[Value.ref b] s = true := fun y h1 h2 h3 h4 => sel_up (y0 := yJ5_isLatin1_aae02) h1 (hts _ lx_isl) h2 (hts _ h3) (hts _ h4)
    unfold jxs at q
    simp only [List.mem_cons, List.not_mem_nil, or_false] at q
    rcases q with rfl | rfl | rfl | rfl
    · exact key _ (by decide) rfl lx_pJ5_newCapacity_0f7a4.1 lx_pJ5_newCapacity_0f7a4.2
    · exact key _ (by decide) rfl lx_pJ5_inflateIfNeededFor_a7421.1 lx_pJ5_inflateIfNeededFor_a7421.2
    · exact key _ (by decide) rfl lx_pJ5_ensureCapacityInternal_d00df.1 lx_pJ5_ensureCapacityInternal_d00df.2
    · exact key _ (by decide) rfl lx_pJ5_putStringAt_47b60.1 lx_pJ5_putStringAt_47b60.2
  · exact hts w q
abbrev trm : Term := .string RX4 18
abbrev trL (i : Nat) : Term := .string RL (cix i)
abbrev gvn : Cond := .and given_1 narrow_1
