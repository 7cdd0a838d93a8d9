-- what holds at the law's entry
theorem iw_0 : Cond.instantiable (RXf 0) (nf 0) ∈ GT := GT_1 227 rfl rfl
theorem iw_1 : Cond.instantiable (RXf 1) (nf 1) ∈ GT := GT_1 125 rfl rfl
theorem iw_2 : Cond.instantiable (RXf 2) (nf 2) ∈ GT := GT_1 174 rfl rfl
theorem iw_3 : Cond.instantiable (RXf 3) (nf 3) ∈ GT := GT_2 125 rfl rfl
theorem iw_4 : Cond.instantiable (RXf 4) (nf 4) ∈ GT := GT_1 35 rfl rfl
theorem iw_5 : Cond.instantiable (RXf 5) (nf 5) ∈ GT := GT_1 221 rfl rfl
theorem iw_6 : Cond.instantiable (RXf 6) (nf 6) ∈ GT := GT_1 201 rfl rfl
theorem iw_7 : Cond.instantiable (RXf 7) (nf 7) ∈ GT := GT_1 27 rfl rfl
theorem iw_8 : Cond.instantiable (RXf 8) (nf 8) ∈ GT := GT_6 64 rfl rfl
theorem iw_9 : Cond.instantiable (RXf 9) (nf 9) ∈ GT := GT_5 150 rfl rfl
set_option maxRecDepth 100000 in
theorem lx_sr18 : Cond.stringRef RX4 18 txtS ∈ lw_tbl := LW_1 40 rfl
set_option maxRecDepth 100000 in
theorem lx_lsC : Cond.laysStatic RJ0 "COMPACT_STRINGS" "Z" ∈ lw_tbl := LW_1 50 rfl
set_option maxRecDepth 100000 in
theorem lx_lsS : Cond.laysStatic RJ3 "SIOOBE_FORMATTER" "Ljava/util/function/BiFunction;" ∈ lw_tbl := LW_1 66 rfl
set_option maxRecDepth 100000 in
theorem lx_lsO : Cond.laysStatic RJ6 "DigitOnes" "[B" ∈ lw_tbl := LW_6 48 rfl
set_option maxRecDepth 100000 in
theorem lx_lsT : Cond.laysStatic RJ6 "DigitTens" "[B" ∈ lw_tbl := LW_6 50 rfl
set_option maxRecDepth 100000 in
theorem lx_inS : Cond.initialized RJ0 ∈ lw_tbl := LW_1 3 rfl
set_option maxRecDepth 100000 in
theorem lx_inP : Cond.initialized RJ3 ∈ lw_tbl := LW_1 5 rfl
set_option maxRecDepth 100000 in
theorem lx_inI : Cond.initialized RJ6 ∈ lw_tbl := LW_1 20 rfl
set_option maxRecDepth 100000 in
theorem lx_n18 : Cond.methodLinkNest RX7 18 yX1_init "WeedStrand" ∈ lw_tbl := LW_1 126 rfl
set_option maxRecDepth 100000 in
theorem lx_n25 : Cond.methodLinkNest RX7 25 yX2_init "WeedStrand" ∈ lw_tbl := LW_1 175 rfl
set_option maxRecDepth 100000 in
theorem lx_n32 : Cond.methodLinkNest RX7 32 yX6_init "WeedStrand" ∈ lw_tbl := LW_1 202 rfl
set_option maxRecDepth 100000 in
theorem lx_n55 : Cond.methodLinkNest RX7 55 yX5_init "WeedStrand" ∈ lw_tbl := LW_1 222 rfl
set_option maxRecDepth 100000 in
theorem lx_n41 : Cond.methodLinkNest RX5 41 yX0_init "WeedStrand" ∈ lw_tbl := LW_1 228 rfl
set_option maxRecDepth 100000 in
theorem lx_n193 : Cond.methodLinkNest RX3 193 yX7_spread "WeedStrand" ∈ lw_tbl := LW_4 96 rfl
set_option maxRecDepth 100000 in
theorem lx_ao : Cond.arrayOver (.object RX3) ∈ lw_tbl := LW_2 196 rfl
set_option maxRecDepth 100000 in
theorem lx_cB : Cond.castable "[B" "java/lang/Cloneable" ∈ lw_tbl := LW_5 215 rfl
set_option maxRecDepth 100000 in
theorem lx_c0 : Cond.stringRef RL (cix 0) (ctx 0) ∈ lw_tbl := LW_6 116 rfl
set_option maxRecDepth 100000 in
theorem lx_c1 : Cond.stringRef RL (cix 1) (ctx 1) ∈ lw_tbl := LW_6 117 rfl
set_option maxRecDepth 100000 in
theorem lx_c2 : Cond.stringRef RL (cix 2) (ctx 2) ∈ lw_tbl := LW_6 118 rfl
set_option maxRecDepth 100000 in
theorem lx_c3 : Cond.stringRef RL (cix 3) (ctx 3) ∈ lw_tbl := LW_6 119 rfl
set_option maxRecDepth 100000 in
theorem lx_c4 : Cond.stringRef RL (cix 4) (ctx 4) ∈ lw_tbl := LW_6 120 rfl
set_option maxRecDepth 100000 in
theorem lx_c5 : Cond.stringRef RL (cix 5) (ctx 5) ∈ lw_tbl := LW_6 121 rfl
set_option maxRecDepth 100000 in
theorem lx_c6 : Cond.stringRef RL (cix 6) (ctx 6) ∈ lw_tbl := LW_6 122 rfl
set_option maxRecDepth 100000 in
theorem lx_c7 : Cond.stringRef RL (cix 7) (ctx 7) ∈ lw_tbl := LW_6 123 rfl
set_option maxRecDepth 100000 in
theorem lx_c8 : Cond.stringRef RL (cix 8) (ctx 8) ∈ lw_tbl := LW_6 124 rfl
set_option maxRecDepth 100000 in
theorem lx_c9 : Cond.stringRef RL (cix 9) (ctx 9) ∈ lw_tbl := LW_6 125 rfl
set_option maxRecDepth 100000 in
theorem lx_c10 : Cond.stringRef RL (cix 10) (ctx 10) ∈ lw_tbl := LW_6 126 rfl
set_option maxRecDepth 100000 in
theorem lx_c11 : Cond.stringRef RL (cix 11) (ctx 11) ∈ lw_tbl := LW_6 127 rfl
set_option maxRecDepth 100000 in
theorem lx_c12 : Cond.stringRef RL (cix 12) (ctx 12) ∈ lw_tbl := LW_6 128 rfl
set_option maxRecDepth 100000 in
theorem lx_c13 : Cond.stringRef RL (cix 13) (ctx 13) ∈ lw_tbl := LW_6 129 rfl
set_option maxRecDepth 100000 in
theorem lx_c14 : Cond.stringRef RL (cix 14) (ctx 14) ∈ lw_tbl := LW_6 130 rfl
set_option maxRecDepth 100000 in
theorem lx_c15 : Cond.stringRef RL (cix 15) (ctx 15) ∈ lw_tbl := LW_6 131 rfl
set_option maxRecDepth 100000 in
theorem lx_c16 : Cond.stringRef RL (cix 16) (ctx 16) ∈ lw_tbl := LW_6 132 rfl
set_option maxRecDepth 100000 in
theorem lx_c17 : Cond.stringRef RL (cix 17) (ctx 17) ∈ lw_tbl := LW_6 133 rfl
set_option maxRecDepth 100000 in
theorem lx_c18 : Cond.stringRef RL (cix 18) (ctx 18) ∈ lw_tbl := LW_6 134 rfl
theorem lx_c : ∀ i, i < nC → Cond.stringRef RL (cix i) (ctx i) ∈ lw_tbl := fun i hi => by
  rcases (show i = 0 ∨ i = 1 ∨ i = 2 ∨ i = 3 ∨ i = 4 ∨ i = 5 ∨ i = 6 ∨ i = 7 ∨ i = 8 ∨ i = 9 ∨ i = 10 ∨ i = 11 ∨ i = 12 ∨ i = 13 ∨ i = 14 ∨ i = 15 ∨ i = 16 ∨ i = 17 ∨ i = 18 by omega) with rfl | rfl | rfl | rfl | rfl | rfl | rfl | rfl | rfl | rfl | rfl | rfl | rfl | rfl | rfl | rfl | rfl | rfl | rfl
  · exact lx_c0
  · exact lx_c1
  · exact lx_c2
  · exact lx_c3
  · exact lx_c4
  · exact lx_c5
  · exact lx_c6
  · exact lx_c7
  · exact lx_c8
  · exact lx_c9
  · exact lx_c10
  · exact lx_c11
  · exact lx_c12
  · exact lx_c13
  · exact lx_c14
  · exact lx_c15
  · exact lx_c16
  · exact lx_c17
  · exact lx_c18
set_option maxRecDepth 100000 in
theorem lx_isl : Cond.selects RJ4 yJ5_isLatin1_aae02 yJ5_isLatin1_aae02 ∈ lw_tbl := LW_5 222 rfl
set_option maxRecDepth 100000 in
theorem lx_pJ5_newCapacity_0f7a4 : Cond.privateMethod yJ5_newCapacity_0f7a4 ∈ lw_tbl ∧ Cond.instanceMethod yJ5_newCapacity_0f7a4 ∈ lw_tbl := ⟨LW_5 195 rfl, LW_5 196 rfl⟩
set_option maxRecDepth 100000 in
theorem lx_pJ5_inflateIfNeededFor_a7421 : Cond.privateMethod yJ5_inflateIfNeededFor_a7421 ∈ lw_tbl ∧ Cond.instanceMethod yJ5_inflateIfNeededFor_a7421 ∈ lw_tbl := ⟨LW_6 5 rfl, LW_6 6 rfl⟩
set_option maxRecDepth 100000 in
theorem lx_pJ5_ensureCapacityInternal_d00df : Cond.privateMethod yJ5_ensureCapacityInternal_d00df ∈ lw_tbl ∧ Cond.instanceMethod yJ5_ensureCapacityInternal_d00df ∈ lw_tbl := ⟨LW_5 191 rfl, LW_5 192 rfl⟩
set_option maxRecDepth 100000 in
theorem lx_pJ5_putStringAt_47b60 : Cond.privateMethod yJ5_putStringAt_47b60 ∈ lw_tbl ∧ Cond.instanceMethod yJ5_putStringAt_47b60 ∈ lw_tbl := ⟨LW_6 1 rfl, LW_6 2 rfl⟩
theorem hG_of {s : State} {b : Nat} (hts : ∀ w ∈ lw_tbl, w.before #[Value.ref b] s = true) : ∀ w ∈ GT, w.before #[Value.ref b] s = true := fun w hw => by
  rcases List.mem_append.mp (List.mem_filter.mp hw).1 with q | q
  · have key : ∀ y : MethodName, (y.cls ≠ "java/lang/invoke/MethodHandle" ∧ y.cls ≠ "java/lang/invoke/VarHandle") → RJ5 = y.cls → Cond.privateMethod y ∈ lw_tbl → Cond.instanceMethod y ∈ lw_tbl → (Cond.selects RJ4 y y).before #[Value.ref b] s = true := fun y h1 h2 h3 h4 => sel_up (y0 := yJ5_isLatin1_aae02) h1 (hts _ lx_isl) h2 (hts _ h3) (hts _ h4)
    unfold jxs at q
    simp only [List.mem_cons, List.not_mem_nil, or_false] at q
    rcases q with rfl | rfl | rfl | rfl
    · exact key _ (by decide) rfl lx_pJ5_newCapacity_0f7a4.1 lx_pJ5_newCapacity_0f7a4.2
    · exact key _ (by decide) rfl lx_pJ5_inflateIfNeededFor_a7421.1 lx_pJ5_inflateIfNeededFor_a7421.2
    · exact key _ (by decide) rfl lx_pJ5_ensureCapacityInternal_d00df.1 lx_pJ5_ensureCapacityInternal_d00df.2
    · exact key _ (by decide) rfl lx_pJ5_putStringAt_47b60.1 lx_pJ5_putStringAt_47b60.2
  · exact hts w q
abbrev trm : Term := .string RX4 18
abbrev trL (i : Nat) : Term := .string RL (cix i)
abbrev gvn : Cond := .and given_1 narrow_1
theorem nx_ex : Cond.exactly trm RJ0 ∈ flatC gvn ∧ Cond.eq (.field trm RJ0 "coder" "B") (.int 0) ∈ flatC gvn ∧ Cond.arrayOf (.field trm RJ0 "value" "[B") .byte ∈ flatC gvn ∧ Cond.eq (.length (.field trm RJ0 "value" "[B")) (.int (Int32.ofNat ([130].getD 0 0))) ∈ flatC gvn := by decide +kernel
theorem nx_el : ∀ j, j < 130 → Cond.eq (.elem (.field trm RJ0 "value" "[B") (.int (Int32.ofNat j))) (.int (txtB.getD j 0)) ∈ flatC gvn := by decide +kernel
theorem nx_c : ∀ i, i < nC → Cond.exactly (trL i) RJ0 ∈ flatC gvn ∧ Cond.eq (.field (trL i) RJ0 "coder" "B") (.int 0) ∈ flatC gvn ∧ Cond.arrayOf (.field (trL i) RJ0 "value" "[B") .byte ∈ flatC gvn ∧ Cond.eq (.length (.field (trL i) RJ0 "value" "[B")) (.int (Int32.ofNat (cst i).length)) ∈ flatC gvn := by decide +kernel
theorem nx_ce : ∀ i, i < nC → ∀ j, j < (cst i).length → Cond.eq (.elem (.field (trL i) RJ0 "value" "[B") (.int (Int32.ofNat j))) (.int ((cst i).getD j 0)) ∈ flatC gvn := by decide +kernel
abbrev tr1 : Term := .static RJ6 "DigitOnes" "[B"
abbrev tr2 : Term := .static RJ6 "DigitTens" "[B"
theorem nx_d : Cond.arrayOf tr1 .byte ∈ flatC gvn ∧ Cond.eq (.length tr1) (.int (Int32.ofNat 100)) ∈ flatC gvn ∧ Cond.arrayOf tr2 .byte ∈ flatC gvn ∧ Cond.eq (.length tr2) (.int (Int32.ofNat 100)) ∈ flatC gvn := by decide +kernel
theorem nx_de : ∀ j, j < 100 → Cond.eq (.elem tr1 (.int (Int32.ofNat j))) (.int (nI (48 + j % 10))) ∈ flatC gvn ∧ Cond.eq (.elem tr2 (.int (Int32.ofNat j))) (.int (nI (48 + j / 10))) ∈ flatC gvn := by decide +kernel
theorem nx_st : Cond.eq (.static RJ0 "COMPACT_STRINGS" "Z") (.int 1) ∈ flatC gvn ∧ Cond.isRef (.static RJ3 "SIOOBE_FORMATTER" "Ljava/util/function/BiFunction;") ∈ flatC gvn := by decide +kernel
theorem nots {n0 : Nat} : ∀ a : Nat, a < n0 → ¬ n0 ≤ a := fun a h => Nat.not_le.mpr h
section Entry
variable {s : State} {b : Nat}
theorem ent_S (hts : ∀ w ∈ lw_tbl, w.before #[Value.ref b] s = true) (hgv : gvn.before #[Value.ref b] s = true) (own : String) (ix : Nat) (tx : String) (t : List Int32) (h31 : t.length < 2 ^ 31) (h1 : Cond.exactly (.string own ix) RJ0 ∈ flatC gvn ∧ Cond.eq (.field (.string own ix) RJ0 "coder" "B") (.int 0) ∈ flatC gvn ∧ Cond.arrayOf (.field (.string own ix) RJ0 "value" "[B") .byte ∈ flatC gvn ∧ Cond.eq (.length (.field (.string own ix) RJ0 "value" "[B")) (.int (Int32.ofNat t.length)) ∈ flatC gvn) (h2 : ∀ j, j < t.length → Cond.eq (.elem (.field (.string own ix) RJ0 "value" "[B") (.int (Int32.ofNat j))) (.int (t.getD j 0)) ∈ flatC gvn) (h3 : Cond.stringRef own ix tx ∈ lw_tbl) : ∃ q : Nat × Nat, vk_R own ix tx q.1 s ∧ SKt (t.length, t, (fun q => s.heap.size ≤ q), q.1, q.2) s := by
  have hn := flat_of_before _ hgv
  obtain ⟨adK, adV, hS, hev⟩ := vk_Sof (args := #[Value.ref b]) (s := s) (N := 1) (tm := fun _ => .string own ix) (len := [t.length]) (byt := [t]) (A := fun q => s.heap.size ≤ q) (fun i hi => by
      have e : i = 0 := by omega
      subst e; exact h31) (fun i hi => hn _ h1.1) (fun i hi => hn _ h1.2.1) (fun i hi => hn _ h1.2.2.1) (fun i hi => by
      have e : i = 0 := by omega
      subst e; exact hn _ h1.2.2.2) (fun i hi j hj => by
      have e : i = 0 := by omega
      subst e; exact hn _ (h2 j hj)) (fun i j hi hj hij => absurd (by omega) hij) nots
  have hS' : vk_S 1 [t.length] [t] (fun _ => adK 0) (fun _ => adV 0) (fun q => s.heap.size ≤ q) s s.heap := ⟨fun i hi => by
    have e : i = 0 := by omega
    subst e
    exact hS.1 0 (by decide), fun i j hi hj _ => by omega⟩
  exact ⟨(adK 0, adV 0), vk_R.of (hts _ h3) (hev 0 (by decide)), hS', va_Zof (hts _ lx_lsC) (hts _ lx_inS) (va_eqt (hn _ nx_st.1)) nots, va_Zqof (hts _ lx_lsS) (hts _ lx_inP) (hn _ nx_st.2) nots⟩
theorem ent_SK (hts : ∀ w ∈ lw_tbl, w.before #[Value.ref b] s = true) (hgv : gvn.before #[Value.ref b] s = true) : ∃ aK aV, SKl (s.heap.size, aK, aV) s := by
  obtain ⟨⟨k, v⟩, h1, h2⟩ := ent_S hts hgv RX4 18 txtS txtB (by decide) nx_ex nx_el lx_sr18
  exact ⟨k, v, h1, h2⟩
theorem ent_C (hts : ∀ w ∈ lw_tbl, w.before #[Value.ref b] s = true) (hgv : gvn.before #[Value.ref b] s = true) : ∃ K V : Nat → Nat, ∀ i, i < nC → vk_R RL (cix i) (ctx i) (K i) s ∧ SKt (sgc (fun q => s.heap.size ≤ q) K V i) s := by
  have h0 : ∀ i : Nat, ∃ q : Nat × Nat, i < nC → vk_R RL (cix i) (ctx i) q.1 s ∧ SKt ((cst i).length, cst i, (fun q => s.heap.size ≤ q), q.1, q.2) s := by
    intro i
    by_cases hi : i < nC
    · obtain ⟨q, h⟩ := ent_S hts hgv RL (cix i) (ctx i) (cst i) (by have := (cst_by i hi).1; omega) (nx_c i hi) (nx_ce i hi) (lx_c i hi)
      exact ⟨q, fun _ => h⟩
    · exact ⟨(0, 0), fun h => absurd h hi⟩
  obtain ⟨f, hf⟩ := Classical.axiomOfChoice h0
  exact ⟨fun i => (f i).1, fun i => (f i).2, hf⟩
theorem ent_D (hts : ∀ w ∈ lw_tbl, w.before #[Value.ref b] s = true) (hgv : gvn.before #[Value.ref b] s = true) : ∃ dg : Nat × Nat, (va_Z RJ6 "DigitOnes" "[B" (.ref dg.1) (fun q => s.heap.size ≤ q) s s.heap ∧ va_T .byte dg.1 100 (fun j => .int (nI (48 + j % 10))) (fun q => s.heap.size ≤ q) s s.heap) ∧ va_Z RJ6 "DigitTens" "[B" (.ref dg.2) (fun q => s.heap.size ≤ q) s s.heap ∧ va_T .byte dg.2 100 (fun j => .int (nI (48 + j / 10))) (fun q => s.heap.size ≤ q) s s.heap := by
  have hn := flat_of_before _ hgv
  obtain ⟨t1, e1, T1⟩ := va_Tof (tm := tr1) (f := fun j => .int (nI (48 + j % 10))) (A := fun q => s.heap.size ≤ q) (N := 100) (by decide) (hn _ nx_d.1) (va_eqt (hn _ nx_d.2.1)) (fun j hj => va_eqt (hn _ (nx_de j hj).1)) nots
  obtain ⟨t2, e2, T2⟩ := va_Tof (tm := tr2) (f := fun j => .int (nI (48 + j / 10))) (A := fun q => s.heap.size ≤ q) (N := 100) (by decide) (hn _ nx_d.2.2.1) (va_eqt (hn _ nx_d.2.2.2)) (fun j hj => va_eqt (hn _ (nx_de j hj).2)) nots
  exact ⟨(t1, t2), ⟨va_Zof (hts _ lx_lsO) (hts _ lx_inI) e1 nots, T1⟩, va_Zof (hts _ lx_lsT) (hts _ lx_inI) e2 nots, T2⟩
theorem ent_KK (hts : ∀ w ∈ lw_tbl, w.before #[Value.ref b] s = true) (n0 : Nat) : ∃ (D : va_G) (ids : ClassId × ClassId × ClassId × ClassId), KK (G0 D ids n0) s := by
  have hG : ∀ w ∈ GT, w.before #[Value.ref b] s = true := hG_of hts
  have kn : ∀ c, ∃ q : ClassId × (Nat → Nat), c < 10 → u_Kn s (RXf c) (TXf c) (nf c) q.1 q.2 := by
    intro c
    by_cases hc : c < 10
    · have iw : Cond.instantiable (RXf c) (nf c) ∈ GT := by
        rcases (show c = 0 ∨ c = 1 ∨ c = 2 ∨ c = 3 ∨ c = 4 ∨ c = 5 ∨ c = 6 ∨ c = 7 ∨ c = 8 ∨ c = 9 by omega) with rfl | rfl | rfl | rfl | rfl | rfl | rfl | rfl | rfl | rfl
        · exact iw_0
        · exact iw_1
        · exact iw_2
        · exact iw_3
        · exact iw_4
        · exact iw_5
        · exact iw_6
        · exact iw_7
        · exact iw_8
        · exact iw_9
      obtain ⟨cC, iS, h⟩ := u_known hG (cl_ws c hc) (hG _ iw)
      exact ⟨(cC, iS), fun _ => h⟩
    · exact ⟨(0, fun _ => 0), fun h => absurd h hc⟩
  obtain ⟨f, hf⟩ := Classical.axiomOfChoice kn
  obtain ⟨cI, kI, oI, i1, i2, i3⟩ := Cond.arrayClass_spec (hG _ acw_int)
  obtain ⟨cZ, kZ, oZ, z1, z2, z3⟩ := Cond.arrayClass_spec (hG _ acw_boolean)
  obtain ⟨cL, kL, oL, l1, l2, l3⟩ := Cond.arrayClass_spec (hG _ acw_long)
  obtain ⟨cB9, kB, oB, b1, b2, b3⟩ := Cond.arrayClass_spec (hG _ jw_byte)
  obtain ⟨oS, cS, kS, s1, -, s3, s4, s5⟩ := Cond.arrayOver_spec (hts _ lx_ao)
  refine ⟨(fun c => if c = 100 then cB9 else (f c).1, fun c => (f c).2), (cI, cZ, cL, cS), ⟨fun c q hq => ?_, fun k q hq => ?_⟩, va_Nw.of rfl (hts _ lx_n193), ⟨va_Nw.of rfl (hts _ lx_n18), va_Nw.of rfl (hts _ lx_n25), va_Nw.of rfl (hts _ lx_n32), va_Nw.of rfl (hts _ lx_n55), va_Nw.of rfl (hts _ lx_n41)⟩, va_AO.of (hts _ lx_ao)⟩
  · have hc : c < 10 := (List.getElem?_eq_some_iff.mp hq).1
    have := (cl_at c hc).symm.trans hq
    cases this
    show u_Kn s (RXf c) (TXf c) (nf c) (if c = 100 then cB9 else (f c).1) (f c).2
    rw [if_neg (by omega)]
    exact hf c hc
  · have hk : k < 5 := (List.getElem?_eq_some_iff.mp hq).1
    rcases (show k = 0 ∨ k = 1 ∨ k = 2 ∨ k = 3 ∨ k = 4 by omega) with rfl | rfl | rfl | rfl | rfl
    · cases hq
      exact ⟨fun n z => ⟨fun k h => (by cases h), kI, i2, oI, i3⟩, i1⟩
    · cases hq
      exact ⟨fun n z => ⟨fun k h => (by cases h), kZ, z2, oZ, z3⟩, z1⟩
    · cases hq
      exact ⟨fun n z => ⟨fun k h => (by cases h), kL, l2, oL, l3⟩, l1⟩
    · cases hq
      exact ⟨fun n z => ⟨fun k h => (by cases h), kS, s3, oS, s4⟩, kS, oS, s3, s4, s1, s5⟩
    · cases hq
      exact ⟨fun n z => ⟨fun k h => (by cases h), kB, b2, oB, b3⟩, b1⟩
end Entry
