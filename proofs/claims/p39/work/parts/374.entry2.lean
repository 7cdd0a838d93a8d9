-- what holds at the law's entry
theorem blk_in {own : String} {ix k n : Nat} {t : List Int32} (h : ((flatC gvn).drop k).take n = sblk own ix t) : (Cond.exactly (.string own ix) RJ0 ∈ flatC gvn ∧ Cond.eq (.field (.string own ix) RJ0 "coder" "B") (.int 0) ∈ flatC gvn ∧ Cond.arrayOf (.field (.string own ix) RJ0 "value" "[B") .byte ∈ flatC gvn ∧ Cond.eq (.length (.field (.string own ix) RJ0 "value" "[B")) (.int (Int32.ofNat t.length)) ∈ flatC gvn) ∧ ∀ j, j < t.length → Cond.eq (.elem (.field (.string own ix) RJ0 "value" "[B") (.int (Int32.ofNat j))) (.int (t.getD j 0)) ∈ flatC gvn := by
  have key : ∀ w ∈ sblk own ix t, w ∈ flatC gvn := fun w hw => List.mem_of_mem_drop (List.mem_of_mem_take (by rw [h]; exact hw))
  have m : ∀ w ∈ [Cond.exactly (.string own ix) RJ0, Cond.eq (.field (.string own ix) RJ0 "coder" "B") (.int 0), Cond.arrayOf (.field (.string own ix) RJ0 "value" "[B") .byte, Cond.eq (.length (.field (.string own ix) RJ0 "value" "[B")) (.int (Int32.ofNat t.length))], w ∈ flatC gvn := fun w hw => key w (List.mem_append_left _ hw)
  exact ⟨⟨m _ (by simp), m _ (by simp), m _ (by simp), m _ (by simp)⟩, fun j hj => key _ (List.mem_append_right _ (List.mem_map.mpr ⟨j, List.mem_range.mpr hj, rfl⟩))⟩
theorem dbk_in {n : String} {f : Nat → Int32} {k m : Nat} (h : ((flatC gvn).drop k).take m = dbk n f) : (Cond.arrayOf (.static RJ6 n "[B") .byte ∈ flatC gvn ∧ Cond.eq (.length (.static RJ6 n "[B")) (.int (Int32.ofNat 100)) ∈ flatC gvn) ∧ ∀ j, j < 100 → Cond.eq (.elem (.static RJ6 n "[B") (.int (Int32.ofNat j))) (.int (f j)) ∈ flatC gvn := by
  have key : ∀ w ∈ dbk n f, w ∈ flatC gvn := fun w hw => List.mem_of_mem_drop (List.mem_of_mem_take (by rw [h]; exact hw))
  have m9 : ∀ w ∈ [Cond.arrayOf (.static RJ6 n "[B") .byte, Cond.eq (.length (.static RJ6 n "[B")) (.int (Int32.ofNat 100))], w ∈ flatC gvn := fun w hw => key w (List.mem_append_left _ hw)
  exact ⟨⟨m9 _ (by simp), m9 _ (by simp)⟩, fun j hj => key _ (List.mem_append_right _ (List.mem_map.mpr ⟨j, List.mem_range.mpr hj, rfl⟩))⟩
theorem bk_c : ∀ i, i < nC → ∃ k n, ((flatC gvn).drop k).take n = sblk RL (cix i) (cst i) := fun i hi => by
  have hi : i < 19 := hi
  rcases (show i = 0 ∨ i = 1 ∨ i = 2 ∨ i = 3 ∨ i = 4 ∨ i = 5 ∨ i = 6 ∨ i = 7 ∨ i = 8 ∨ i = 9 ∨ i = 10 ∨ i = 11 ∨ i = 12 ∨ i = 13 ∨ i = 14 ∨ i = 15 ∨ i = 16 ∨ i = 17 ∨ i = 18 by omega) with rfl | rfl | rfl | rfl | rfl | rfl | rfl | rfl | rfl | rfl | rfl | rfl | rfl | rfl | rfl | rfl | rfl | rfl | rfl
  · exact ⟨_, _, bk_0⟩
  · exact ⟨_, _, bk_1⟩
  · exact ⟨_, _, bk_2⟩
  · exact ⟨_, _, bk_3⟩
  · exact ⟨_, _, bk_4⟩
  · exact ⟨_, _, bk_5⟩
  · exact ⟨_, _, bk_6⟩
  · exact ⟨_, _, bk_7⟩
  · exact ⟨_, _, bk_8⟩
  · exact ⟨_, _, bk_9⟩
  · exact ⟨_, _, bk_10⟩
  · exact ⟨_, _, bk_11⟩
  · exact ⟨_, _, bk_12⟩
  · exact ⟨_, _, bk_13⟩
  · exact ⟨_, _, bk_14⟩
  · exact ⟨_, _, bk_15⟩
  · exact ⟨_, _, bk_16⟩
  · exact ⟨_, _, bk_17⟩
  · exact ⟨_, _, bk_18⟩
abbrev tr1 : Term := .static RJ6 "DigitOnes" "[B"
abbrev tr2 : Term := .static RJ6 "DigitTens" "[B"
theorem nx_st : Cond.eq (.static RJ0 "COMPACT_STRINGS" "Z") (.int 1) ∈ flatC gvn ∧ Cond.isRef (.static RJ3 "SIOOBE_FORMATTER" "Ljava/util/function/BiFunction;") ∈ flatC gvn := by decide +kernel
theorem nots {n0 : Nat} : ∀ a : Nat, a < n0 → ¬ n0 ≤ a := fun a h => Nat.not_le.mpr h
section Entry
variable {s : State} {b : Nat}
theorem ent_S (hts : ∀ w ∈ lw_tbl, w.before #[Value.ref b] s = true) (hgv : gvn.before #[Value.ref b] s = true) (own : String) (ix : Nat) (tx : String) (t : List Int32) (h31 : t.length < 2 ^ 31) (h1 : Cond.exactly (.string own ix) RJ0 ∈ flatC gvn ∧ Cond.eq (.field (.string own ix) RJ0 "coder" "B") (.int 0) ∈ flatC gvn ∧ Cond.arrayOf (.field (.string own ix) RJ0 "value" "[B") .byte ∈ flatC gvn ∧ Cond.eq (.length (.field (.string own ix) RJ0 "value" "[B")) (.int (Int32.ofNat t.length)) ∈ flatC gvn) (h2 : ∀ j, j < t.length → Cond.eq (.elem (.field (.string own ix) RJ0 "value" "[B") (.int (Int32.ofNat j))) (.int (t.getD j 0)) ∈ flatC gvn) (h3 : Cond.stringRef own ix tx ∈ lw_tbl) : ∃ q : Nat × Nat, vk_R own ix tx q.1 s ∧ SKt (t.length, t, (fun q => s.heap.size ≤ q), q.1, q.2) s := by
  have hn := flat_of_before _ hgv
  obtain ⟨adK, adV, hS, hev⟩ := vk_Sof (args := #[Value.ref b]) (s := s) (N := 1) (tm := fun _ => .string own ix) (len := [t.length]) (byt := [t]) (A := fun q => s.heap.size ≤ q) (fun i hi => by
      have e : i = 0 := by omega
      subst e; exact h31) (fun i hi => hn _ h1.1) (fun i hi => hn _ h1.2.1) (fun i hi => hn _ h1.2.2.1) (fun i hi => by
      have e : i = 0 := by omega
      subst e; exact hn _ h1.2.2.2) (fun i hi j hj => by
      have e : i = 0 := by omega
      subst e; exact hn _ (h2 j hj)) (fun i j hi hj hij => absurd (by omega) hij) nots
  have hS' : vk_S 1 [t.length] [t] (fun _ => adK 0) (fun _ => adV 0) (fun q => s.heap.size ≤ q) s s.heap := ⟨fun i hi => by
    have e : i = 0 := by omega
    subst e
    exact hS.1 0 (by decide), fun i j hi hj _ => by omega⟩
  exact ⟨(adK 0, adV 0), vk_R.of (hts _ h3) (hev 0 (by decide)), hS', va_Zof (hts _ lx_lsC) (hts _ lx_inS) (va_eqt (hn _ nx_st.1)) nots, va_Zqof (hts _ lx_lsS) (hts _ lx_inP) (hn _ nx_st.2) nots⟩
theorem len_T : txtB.length < 2 ^ 31 := by decide +kernel
theorem ent_SK (hts : ∀ w ∈ lw_tbl, w.before #[Value.ref b] s = true) (hgv : gvn.before #[Value.ref b] s = true) : ∃ aK aV, SKl (s.heap.size, aK, aV) s := by
  obtain ⟨⟨k, v⟩, h1, h2⟩ := ent_S hts hgv RX4 18 txtS txtB len_T (blk_in bk_T).1 (blk_in bk_T).2 lx_sr18
  exact ⟨k, v, h1, h2⟩
theorem ent_C (hts : ∀ w ∈ lw_tbl, w.before #[Value.ref b] s = true) (hgv : gvn.before #[Value.ref b] s = true) : ∃ K V : Nat → Nat, ∀ i, i < nC → vk_R RL (cix i) (ctx i) (K i) s ∧ SKt (sgc (fun q => s.heap.size ≤ q) K V i) s := by
  have h0 : ∀ i : Nat, ∃ q : Nat × Nat, i < nC → vk_R RL (cix i) (ctx i) q.1 s ∧ SKt ((cst i).length, cst i, (fun q => s.heap.size ≤ q), q.1, q.2) s := by
    intro i
    by_cases hi : i < nC
    · obtain ⟨k9, n9, hb9⟩ := bk_c i hi
      obtain ⟨q, h⟩ := ent_S hts hgv RL (cix i) (ctx i) (cst i) (by have := (cst_by i hi).1; omega) (blk_in hb9).1 (blk_in hb9).2 (lx_c i hi)
      exact ⟨q, fun _ => h⟩
    · exact ⟨(0, 0), fun h => absurd h hi⟩
  obtain ⟨f, hf⟩ := Classical.axiomOfChoice h0
  exact ⟨fun i => (f i).1, fun i => (f i).2, hf⟩
theorem ent_D (hts : ∀ w ∈ lw_tbl, w.before #[Value.ref b] s = true) (hgv : gvn.before #[Value.ref b] s = true) : ∃ dg : Nat × Nat, (va_Z RJ6 "DigitOnes" "[B" (.ref dg.1) (fun q => s.heap.size ≤ q) s s.heap ∧ va_T .byte dg.1 100 (fun j => .int (nI (48 + j % 10))) (fun q => s.heap.size ≤ q) s s.heap) ∧ va_Z RJ6 "DigitTens" "[B" (.ref dg.2) (fun q => s.heap.size ≤ q) s s.heap ∧ va_T .byte dg.2 100 (fun j => .int (nI (48 + j / 10))) (fun q => s.heap.size ≤ q) s s.heap := by
  have hn := flat_of_before _ hgv
  obtain ⟨t1, e1, T1⟩ := va_Tof (tm := tr1) (f := fun j => .int (nI (48 + j % 10))) (A := fun q => s.heap.size ≤ q) (N := 100) (by decide) (hn _ (dbk_in bk_O).1.1) (va_eqt (hn _ (dbk_in bk_O).1.2)) (fun j hj => va_eqt (hn _ ((dbk_in bk_O).2 j hj))) nots
  obtain ⟨t2, e2, T2⟩ := va_Tof (tm := tr2) (f := fun j => .int (nI (48 + j / 10))) (A := fun q => s.heap.size ≤ q) (N := 100) (by decide) (hn _ (dbk_in bk_D).1.1) (va_eqt (hn _ (dbk_in bk_D).1.2)) (fun j hj => va_eqt (hn _ ((dbk_in bk_D).2 j hj))) nots
  exact ⟨(t1, t2), ⟨va_Zof (hts _ lx_lsO) (hts _ lx_inI) e1 nots, T1⟩, va_Zof (hts _ lx_lsT) (hts _ lx_inI) e2 nots, T2⟩
theorem ent_KK (hts : ∀ w ∈ lw_tbl, w.before #[Value.ref b] s = true) (n0 : Nat) : ∃ (D : va_G) (ids : ClassId × ClassId × ClassId × ClassId), KK (G0 D ids n0) s := by
  have hG : ∀ w ∈ GT, w.before #[Value.ref b] s = true := hG_of hts
  have kn : ∀ c, ∃ q : ClassId × (Nat → Nat), c < 10 → u_Kn s (RXf c) (TXf c) (nf c) q.1 q.2 := by
    intro c
    by_cases hc : c < 10
    · have iw : Cond.instantiable (RXf c) (nf c) ∈ GT := by
        rcases (show c = 0 ∨ c = 1 ∨ c = 2 ∨ c = 3 ∨ c = 4 ∨ c = 5 ∨ c = 6 ∨ c = 7 ∨ c = 8 ∨ c = 9 by omega) with rfl | rfl | rfl | rfl | rfl | rfl | rfl | rfl | rfl | rfl
        · exact iw_0
        · exact iw_1
        · exact iw_2
        · exact iw_3
        · exact iw_4
        · exact iw_5
        · exact iw_6
        · exact iw_7
        · exact iw_8
        · exact iw_9
      obtain ⟨cC, iS, h⟩ := u_known hG (cl_ws c hc) (hG _ iw)
      exact ⟨(cC, iS), fun _ => h⟩
    · exact ⟨(0, fun _ => 0), fun h => absurd h hc⟩
  obtain ⟨f, hf⟩ := Classical.axiomOfChoice kn
  obtain ⟨cI, kI, oI, i1, i2, i3⟩ := Cond.arrayClass_spec (hG _ acw_int)
  obtain ⟨cZ, kZ, oZ, z1, z2, z3⟩ := Cond.arrayClass_spec (hG _ acw_boolean)
  obtain ⟨cL, kL, oL, l1, l2, l3⟩ := Cond.arrayClass_spec (hG _ acw_long)
  obtain ⟨cB9, kB, oB, b1, b2, b3⟩ := Cond.arrayClass_spec (hG _ jw_byte)
  obtain ⟨oS, cS, kS, s1, -, s3, s4, s5⟩ := Cond.arrayOver_spec (hts _ lx_ao)
  refine ⟨(fun c => if c = 100 then cB9 else (f c).1, fun c => (f c).2), (cI, cZ, cL, cS), ⟨fun c q hq => ?_, fun k q hq => ?_⟩, va_Nw.of rfl (hts _ lx_n193), ⟨va_Nw.of rfl (hts _ lx_n18), va_Nw.of rfl (hts _ lx_n25), va_Nw.of rfl (hts _ lx_n32), va_Nw.of rfl (hts _ lx_n55), va_Nw.of rfl (hts _ lx_n41)⟩, va_AO.of (hts _ lx_ao)⟩
  · have hc : c < 10 := (List.getElem?_eq_some_iff.mp hq).1
    have := (cl_at c hc).symm.trans hq
    cases this
    show u_Kn s (RXf c) (TXf c) (nf c) (if c = 100 then cB9 else (f c).1) (f c).2
    rw [if_neg (by omega)]
    exact hf c hc
  · have hk : k < 5 := (List.getElem?_eq_some_iff.mp hq).1
    rcases (show k = 0 ∨ k = 1 ∨ k = 2 ∨ k = 3 ∨ k = 4 by omega) with rfl | rfl | rfl | rfl | rfl
    · cases hq
      exact ⟨fun n z => ⟨fun k h => (by cases h), kI, i2, oI, i3⟩, i1⟩
    · cases hq
      exact ⟨fun n z => ⟨fun k h => (by cases h), kZ, z2, oZ, z3⟩, z1⟩
    · cases hq
      exact ⟨fun n z => ⟨fun k h => (by cases h), kL, l2, oL, l3⟩, l1⟩
    · cases hq
      exact ⟨fun n z => ⟨fun k h => (by cases h), kS, s3, oS, s4⟩, kS, oS, s3, s4, s1, s5⟩
    · cases hq
      exact ⟨fun n z => ⟨fun k h => (by cases h), kB, b2, oB, b3⟩, b1⟩
end Entry
