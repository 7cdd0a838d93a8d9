-- what holds at the law's entry
theorem iw_0 : Cond.instantiable (RXf 0) (nf 0) ∈ GT := GT_1 222 rfl rfl
theorem iw_1 : Cond.instantiable (RXf 1) (nf 1) ∈ GT := GT_1 120 rfl rfl
theorem iw_2 : Cond.instantiable (RXf 2) (nf 2) ∈ GT := GT_1 169 rfl rfl
theorem iw_3 : Cond.instantiable (RXf 3) (nf 3) ∈ GT := GT_2 120 rfl rfl
theorem iw_4 : Cond.instantiable (RXf 4) (nf 4) ∈ GT := GT_1 30 rfl rfl
theorem iw_5 : Cond.instantiable (RXf 5) (nf 5) ∈ GT := GT_1 216 rfl rfl
theorem iw_6 : Cond.instantiable (RXf 6) (nf 6) ∈ GT := GT_1 196 rfl rfl
theorem iw_7 : Cond.instantiable (RXf 7) (nf 7) ∈ GT := GT_1 22 rfl rfl
theorem iw_8 : Cond.instantiable (RXf 8) (nf 8) ∈ GT := GT_5 181 rfl rfl
set_option maxRecDepth 100000 in
theorem lx_sr18 : Cond.stringRef RX4 18 txtS ∈ lw_tbl := LW_1 35 rfl
set_option maxRecDepth 100000 in
theorem lx_sr136 : Cond.stringRef RX7 136 "no such stripe" ∈ lw_tbl := LW_5 138 rfl
set_option maxRecDepth 100000 in
theorem lx_sr143 : Cond.stringRef RX7 143 "no such what" ∈ lw_tbl := LW_5 173 rfl
set_option maxRecDepth 100000 in
theorem lx_lsC : Cond.laysStatic RJ0 "COMPACT_STRINGS" "Z" ∈ lw_tbl := LW_1 45 rfl
set_option maxRecDepth 100000 in
theorem lx_lsS : Cond.laysStatic RJ3 "SIOOBE_FORMATTER" "Ljava/util/function/BiFunction;" ∈ lw_tbl := LW_1 61 rfl
set_option maxRecDepth 100000 in
theorem lx_lsU : Cond.laysStatic Bundle.tN "UNASSIGNED_STACK" Bundle.steD ∈ lw_tbl := LW_5 125 rfl
set_option maxRecDepth 100000 in
theorem lx_lsN : Cond.laysStatic Bundle.tN "SUPPRESSED_SENTINEL" Bundle.listD ∈ lw_tbl := LW_5 127 rfl
set_option maxRecDepth 100000 in
theorem lx_inS : Cond.initialized RJ0 ∈ lw_tbl := LW_1 3 rfl
set_option maxRecDepth 100000 in
theorem lx_inP : Cond.initialized RJ3 ∈ lw_tbl := LW_1 5 rfl
set_option maxRecDepth 100000 in
theorem lx_inT : Cond.initialized Bundle.tN ∈ lw_tbl := LW_1 16 rfl
set_option maxRecDepth 100000 in
theorem lx_n18 : Cond.methodLinkNest RX7 18 yX1_init "WeedStrand" ∈ lw_tbl := LW_1 121 rfl
set_option maxRecDepth 100000 in
theorem lx_n25 : Cond.methodLinkNest RX7 25 yX2_init "WeedStrand" ∈ lw_tbl := LW_1 170 rfl
set_option maxRecDepth 100000 in
theorem lx_n32 : Cond.methodLinkNest RX7 32 yX6_init "WeedStrand" ∈ lw_tbl := LW_1 197 rfl
set_option maxRecDepth 100000 in
theorem lx_n55 : Cond.methodLinkNest RX7 55 yX5_init "WeedStrand" ∈ lw_tbl := LW_1 217 rfl
set_option maxRecDepth 100000 in
theorem lx_n41 : Cond.methodLinkNest RX5 41 yX0_init "WeedStrand" ∈ lw_tbl := LW_1 223 rfl
set_option maxRecDepth 100000 in
theorem lx_n193 : Cond.methodLinkNest RX3 193 yX7_spread "WeedStrand" ∈ lw_tbl := LW_4 202 rfl
set_option maxRecDepth 100000 in
theorem lx_ao : Cond.arrayOver (.object RX3) ∈ lw_tbl := LW_2 194 rfl
set_option maxRecDepth 100000 in
theorem lx_cI : Cond.castable IOE IOE ∈ lw_tbl := LW_5 100 rfl
set_option maxRecDepth 100000 in
theorem lx_cN : Cond.castable NSE NSE ∈ lw_tbl := LW_5 166 rfl
set_option maxRecDepth 100000 in
theorem lx_dR : dcR ∈ lw_tbl := LW_5 102 rfl
set_option maxRecDepth 100000 in
theorem lx_dE : dcE ∈ lw_tbl := LW_5 104 rfl
set_option maxRecDepth 100000 in
theorem lx_dT : dcT ∈ lw_tbl := LW_5 106 rfl
abbrev trm : Term := .string RX4 18
abbrev gvn : Cond := .and given_1 narrow_1
theorem nx_ex : Cond.exactly trm RJ0 ∈ flatC gvn ∧ Cond.eq (.field trm RJ0 "coder" "B") (.int 0) ∈ flatC gvn ∧ Cond.arrayOf (.field trm RJ0 "value" "[B") .byte ∈ flatC gvn ∧ Cond.eq (.length (.field trm RJ0 "value" "[B")) (.int (Int32.ofNat ([130].getD 0 0))) ∈ flatC gvn := by decide +kernel
theorem nx_el : ∀ j, j < 130 → Cond.eq (.elem (.field trm RJ0 "value" "[B") (.int (Int32.ofNat j))) (.int (txtB.getD j 0)) ∈ flatC gvn := by decide +kernel
theorem nx_st : Cond.eq (.static RJ0 "COMPACT_STRINGS" "Z") (.int 1) ∈ flatC gvn ∧ Cond.isRef (.static RJ3 "SIOOBE_FORMATTER" "Ljava/util/function/BiFunction;") ∈ flatC gvn ∧ Cond.isRef (.static Bundle.tN "UNASSIGNED_STACK" Bundle.steD) ∈ flatC gvn ∧ Cond.isRef (.static Bundle.tN "SUPPRESSED_SENTINEL" Bundle.listD) ∈ flatC gvn ∧ Cond.not (.castable NSE IOE) ∈ flatC gvn ∧ Cond.exactly (.string RX7 136) RJ0 ∈ flatC gvn ∧ Cond.exactly (.string RX7 143) RJ0 ∈ flatC gvn := by decide +kernel
theorem nots {n0 : Nat} : ∀ a : Nat, a < n0 → ¬ n0 ≤ a := fun a h => Nat.not_le.mpr h
theorem ent_SK {s : State} {b : Nat} (hts : ∀ w ∈ lw_tbl, w.before #[Value.ref b] s = true) (hgv : gvn.before #[Value.ref b] s = true) : ∃ aK aV, SKt (s.heap.size, aK, aV) s := by
  have hn := flat_of_before _ hgv
  obtain ⟨adK, adV, hS, hev⟩ := vk_Sof (args := #[Value.ref b]) (s := s) (N := 1) (tm := fun _ => trm) (len := [130]) (byt := [txtB]) (A := fun q => s.heap.size ≤ q) (fun i hi => by
      have e : i = 0 := by omega
      subst e; decide) (fun i hi => hn _ nx_ex.1) (fun i hi => hn _ nx_ex.2.1) (fun i hi => hn _ nx_ex.2.2.1) (fun i hi => by
      have e : i = 0 := by omega
      subst e; exact hn _ nx_ex.2.2.2) (fun i hi j hj => by
      have e : i = 0 := by omega
      subst e; exact hn _ (nx_el j hj)) (fun i j hi hj hij => absurd (by omega) hij) nots
  have hS' : vk_S 1 [130] [txtB] (fun _ => adK 0) (fun _ => adV 0) (fun q => s.heap.size ≤ q) s s.heap := ⟨fun i hi => by
    have e : i = 0 := by omega
    subst e
    exact hS.1 0 (by decide), fun i j hi hj _ => by omega⟩
  have he : (Term.string RX4 18).eval #[] s none [] s = some (.ref (adK 0)) := by
    have := hev 0 (by decide)
    rw [← this]
    exact Term.string_eval_of_vm rfl
  exact ⟨adK 0, adV 0, vk_R.of (hts _ lx_sr18) (hev 0 (by decide)), hS', va_Zof (hts _ lx_lsC) (hts _ lx_inS) (va_eqt (hn _ nx_st.1)) nots, va_Zqof (hts _ lx_lsS) (hts _ lx_inP) (hn _ nx_st.2.1) nots⟩
theorem ent_TK {s : State} {b : Nat} (hts : ∀ w ∈ lw_tbl, w.before #[Value.ref b] s = true) (hgv : gvn.before #[Value.ref b] s = true) : ∃ a1 a2, TK (fun q => s.heap.size ≤ q) a1 a2 s := by
  have hn := flat_of_before _ hgv
  obtain ⟨a1, -, -, -, h1, -⟩ := Cond.exactly_spec (hn _ nx_st.2.2.2.2.2.1)
  obtain ⟨a2, -, -, -, h2, -⟩ := Cond.exactly_spec (hn _ nx_st.2.2.2.2.2.2)
  exact ⟨a1, a2, ⟨vk_R.of (hts _ lx_sr136) h1, vk_R.of (hts _ lx_sr143) h2⟩, ⟨vx_Zqof (hts _ lx_lsU) (hts _ lx_inT) (hn _ nx_st.2.2.1) nots, vx_Zqof (hts _ lx_lsN) (hts _ lx_inT) (hn _ nx_st.2.2.2.1) nots⟩, ⟨va_Nw.of rfl (hts _ lx_cI), va_Nw.of rfl (hts _ lx_cN), va_Nc.of (hn _ nx_st.2.2.2.2.1)⟩, va_Nw.of rfl (hts _ lx_dR), va_Nw.of rfl (hts _ lx_dE), va_Nw.of rfl (hts _ lx_dT)⟩
theorem ent_KK {s : State} {b : Nat} (hts : ∀ w ∈ lw_tbl, w.before #[Value.ref b] s = true) (n0 : Nat) : ∃ (D : va_G) (ids : ClassId × ClassId × ClassId × ClassId), KK (G0 D ids n0) s := by
  have hG : ∀ w ∈ GT, w.before #[Value.ref b] s = true := fun w hw => hts w (List.mem_filter.mp hw).1
  have kn : ∀ c, ∃ q : ClassId × (Nat → Nat), c < 9 → u_Kn s (RXf c) (TXf c) (nf c) q.1 q.2 := by
    intro c
    by_cases hc : c < 9
    · have iw : Cond.instantiable (RXf c) (nf c) ∈ GT := by
        rcases (show c = 0 ∨ c = 1 ∨ c = 2 ∨ c = 3 ∨ c = 4 ∨ c = 5 ∨ c = 6 ∨ c = 7 ∨ c = 8 by omega) with rfl | rfl | rfl | rfl | rfl | rfl | rfl | rfl | rfl
        · exact iw_0
        · exact iw_1
        · exact iw_2
        · exact iw_3
        · exact iw_4
        · exact iw_5
        · exact iw_6
        · exact iw_7
        · exact iw_8
      obtain ⟨cC, iS, h⟩ := u_known hG (cl_ws c hc) (hG _ iw)
      exact ⟨(cC, iS), fun _ => h⟩
    · exact ⟨(0, fun _ => 0), fun h => absurd h hc⟩
  obtain ⟨f, hf⟩ := Classical.axiomOfChoice kn
  obtain ⟨cI, kI, oI, i1, i2, i3⟩ := Cond.arrayClass_spec (hG _ acw_int)
  obtain ⟨cZ, kZ, oZ, z1, z2, z3⟩ := Cond.arrayClass_spec (hG _ acw_boolean)
  obtain ⟨cL, kL, oL, l1, l2, l3⟩ := Cond.arrayClass_spec (hG _ acw_long)
  obtain ⟨oS, cS, kS, s1, -, s3, s4, s5⟩ := Cond.arrayOver_spec (hts _ lx_ao)
  refine ⟨(fun c => (f c).1, fun c => (f c).2), (cI, cZ, cL, cS), ⟨fun c q hq => ?_, fun k q hq => ?_⟩, va_Nw.of rfl (hts _ lx_n193), ⟨va_Nw.of rfl (hts _ lx_n18), va_Nw.of rfl (hts _ lx_n25), va_Nw.of rfl (hts _ lx_n32), va_Nw.of rfl (hts _ lx_n55), va_Nw.of rfl (hts _ lx_n41)⟩, va_AO.of (hts _ lx_ao)⟩
  · have hc : c < 9 := (List.getElem?_eq_some_iff.mp hq).1
    have := (cl_at c hc).symm.trans hq
    cases this
    exact hf c hc
  · have hk : k < 4 := (List.getElem?_eq_some_iff.mp hq).1
    rcases (show k = 0 ∨ k = 1 ∨ k = 2 ∨ k = 3 by omega) with rfl | rfl | rfl | rfl
    · cases hq
      exact ⟨fun n z => ⟨fun k h => (by cases h), kI, i2, oI, i3⟩, i1⟩
    · cases hq
      exact ⟨fun n z => ⟨fun k h => (by cases h), kZ, z2, oZ, z3⟩, z1⟩
    · cases hq
      exact ⟨fun n z => ⟨fun k h => (by cases h), kL, l2, oL, l3⟩, l1⟩
    · cases hq
      exact ⟨fun n z => ⟨fun k h => (by cases h), kS, s3, oS, s4⟩, kS, oS, s3, s4, s1, s5⟩
