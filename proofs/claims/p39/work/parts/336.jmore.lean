-- calls that the class below answers; a row of bytes cloned
set_option maxRecDepth 100000 in
theorem jo_549 : Cond.methodLink RJ0 549 yJ5_length_8abf5 ∈ GT ∧ Cond.sameMethod RJ5 RJ5 "length" "()I" ∈ GT ∧ Cond.instanceMethod yJ5_length_8abf5 ∈ GT ∧ Cond.selects RJ4 yJ5_length_8abf5 yJ4_length_8abf5 ∈ GT ∧ Cond.instanceMethod yJ4_length_8abf5 ∈ GT ∧ Cond.initialized RJ4 ∈ GT ∧ Cond.code yJ4_length_8abf5 cJ4_length_8abf5 1 (some .int) ∈ GT ∧ Cond.code yJ5_length_8abf5 cJ5_length_8abf5 1 (some .int) ∈ GT := ⟨GT_6 77 rfl rfl, GT_6 79 rfl rfl, GT_6 78 rfl rfl, GT_6 80 rfl rfl, GT_6 81 rfl rfl, GT_1 14 rfl rfl, GT_6 82 rfl rfl, GT_6 84 rfl rfl⟩
set_option maxRecDepth 100000 in
theorem jo_310 : Cond.methodLink RJ7 310 ⟨"[B", "clone", "()Ljava/lang/Object;"⟩ ∈ GT ∧ Cond.sameMethod "[B" "java/lang/Object" "clone" "()Ljava/lang/Object;" ∈ GT ∧ Cond.native ⟨"java/lang/Object", "clone", "()Ljava/lang/Object;"⟩ ∈ GT ∧ Cond.instanceMethod ⟨"java/lang/Object", "clone", "()Ljava/lang/Object;"⟩ ∈ GT ∧ Cond.selects "[B" ⟨"[B", "clone", "()Ljava/lang/Object;"⟩ ⟨"java/lang/Object", "clone", "()Ljava/lang/Object;"⟩ ∈ GT ∧ Cond.classLink RJ7 311 "[B" ∈ GT := ⟨GT_5 210 rfl rfl, GT_5 211 rfl rfl, GT_5 212 rfl rfl, GT_5 213 rfl rfl, GT_5 214 rfl rfl, GT_5 216 rfl rfl⟩
section JMo
variable {X : Cx} {Q : State → Prop} {wc ws rest ws0 : va_W} {sg : SGt} {dg : Nat × Nat} {cN sN : Nat} {cc : ByteArray} {own : String} {ret : Option FieldType} {rm : Room} {pc : Nat} {lv : List (Nat × Value)} {st st0 As : List Value}
variable {mL n i mc ms : Nat} {rm' : Room} {Post : Option Value → va_W → Prop}
theorem j_VO (F : Fj X cc RJ0 ret rm sg dg ws0) {b k : Nat} {fs : List Value} (hb9 : wc[k]? = some (b, .inr (9, fs))) (hcut : Cut wc ws rest) (hC : ∀ m, (∀ q, m ≤ q → sg.2.2.1 q) → (∀ p ∈ ws, sg.2.2.1 p.1) → Jc (xG X) X.1.2.1 yJ4_length_8abf5 cJ4_length_8abf5 1 (some .int) rm' [.ref b] sg dg m ws Post mc ms) (hst : st0 = .ref b :: st) (hR : (rm'.cells = mc ∧ rm'.slots = ms) ∧ rm'.frames + 1 ≤ rm.frames ∧ 8 + (1 + 11) + rm'.locals ≤ rm.locals) (hcat : (st.map fun v => v.category).sum ≤ 8) (hcap : cN + mc ≤ rm.cells ∧ sN + ms ≤ rm.slots) (hd : decode cc pc = .ok (.invokevirtual 549, 3)) (K : ∀ r ws', Post r ws' → Wj X Q (ws' ++ rest) (cN + mc) (sN + ms) (pc + 3) lv (r.toList ++ st)) : Wj X Q wc cN sN pc lv st0 := by
  have F' := F
  have hsb := F.sub
  obtain ⟨hx, hb, hml, hown, hts, hlk, hr, hJ, hrm, hA, hA2, hA3⟩ := F
  have hrm' : X.1.2.2.2.1 = rm := hrm
  obtain ⟨o1, o2, o3, o4, o5, o6, o7, o8⟩ := jo_549
  intro H locs ls hP hD hS hl
  have hrec := va_recv hJ.1 hP (cl_at 9 (by decide)) hb9
  have hsz : (xS X).heap.size ≤ H.size := hS.1
  have hws : ∀ p ∈ ws, sg.2.2.1 p.1 := fun p hp => by
    obtain ⟨j, hj⟩ := List.getElem?_of_mem (hcut.1 p hp)
    exact hsb _ (hD.2 j p hj)
  have hPw : va_P (xG X).2.1 vwCl ws H := fun k q hq => by
    obtain ⟨j, hj⟩ := List.getElem?_of_mem (hcut.1 q (List.mem_of_getElem? hq))
    exact hP j q hj
  have good : ∀ w ∈ va_wsO RJ0 549 RJ4 RJ5 yJ5_length_8abf5 yJ4_length_8abf5 (Cond.code yJ4_length_8abf5 cJ4_length_8abf5 1 (some .int) :: GT), w ∈ GT ∧ ((w.onTables && w.keeps) = true ∨ ∃ ty, w = .arrayClass ty) := fun w hw => by
    have hm : w ∈ GT := by
      rcases List.mem_append.mp hw with q | q
      · rcases List.mem_cons.mp q with q | q
        · rw [q]; exact o1
        rcases List.mem_cons.mp q with q | q
        · rw [q]; exact o2
        rcases List.mem_cons.mp q with q | q
        · rw [q]; exact o3
        rcases List.mem_cons.mp q with q | q
        · rw [q]; exact o4
        rcases List.mem_cons.mp q with q | q
        · rw [q]; exact o5
        rw [List.mem_singleton.mp q]; exact o6
      · rcases List.mem_cons.mp q with q | q
        · rw [q]; exact o7
        · exact q
    exact ⟨hm, good_of_word (List.mem_filter.mp hm).2⟩
  exact Wj_at F' hcut hP hD hS hl (va_runU (Ts := GT) (n := 0) (C := RJ4) (owner := RJ5) (own := RJ0) (index := 549) (bytes := cJ4_length_8abf5) (maxL := 1) (ret := some .int) ⟨hx, hb, hml, hown, hts⟩ (hC H.size (fun q h => hA3 q (Nat.le_trans hsz h)) hws) (va_cwO 0 hts good rfl hR.1.1 hR.1.2 o8 ⟨by decide, by decide, by decide +kernel⟩ (by rw [hrm']; exact hR.2)) ⟨JK.blind _ _ _ _ _, hrec, fun U hU hW => ⟨rfl, F'.pre hS hPw hU hW⟩⟩ rfl (As := []) rfl hl.1 hst (by show 2 * 0 + _ ≤ 8; omega) hd (by rw [hrm']; exact hcap)) K
theorem j_clone (F : Fj X cc RJ7 ret rm sg dg ws0) {a m : Nat} {f : Nat → Int32} (k : Nat) (he : wc[k]? = some (a, .inl (cB (xG X), m, .inl f))) (hf : ∀ j, fits .byte (.int (f j)) = true) (hR : 1 ≤ rm.frames ∧ (st.map fun v => v.category).sum + 14 ≤ rm.locals) (hcap : cN + 1 ≤ rm.cells ∧ sN + m ≤ rm.slots) (hd : decode cc pc = .ok (.invokevirtual 310, 3)) (K : ∀ q, Wj X Q (wc ++ [(q, .inl (cB (xG X), m, .inl f))]) (cN + 1) (sN + m) (pc + 3) lv (.ref q :: st)) : Wj X Q wc cN sN pc lv (.ref a :: st) := by
  obtain ⟨hx, hb, hml, hown, hts, hlk, hr, ⟨hK, hcl, -⟩, hrm, hA, hA2, hA3⟩ := F
  have hrm' : X.1.2.2.2.1 = rm := hrm
  obtain ⟨o1, o2, o3, o4, o5, o6⟩ := jo_310
  intro H locs ls hP hD hS hl
  refine va_clone hx hb (hml.trans hl.1.symm) hown (hts _ o1) (hts _ o2) (hts _ o3) (hts _ o4) (hts _ o5) hcl.1 hK hP hD hS (fun q hq => by rw [hA]; exact Or.inr hq) k 4 he rfl (hK.2 4 _ rfl).2 (fun i v hv => ?_) (by rw [hrm']; exact hR.1) (by rw [hrm']; exact hR.2) (by rw [hrm']; exact hcap.1) (by rw [hrm']; exact hcap.2) hd fun q H1 _ a1 a2 a3 => K q H1 locs ls a1 a2 a3 hl
  have hi : i < m := by
    have h1 := (Array.getElem?_eq_some_iff.mp hv).1
    rw [vp_cell_i, arrV_size] at h1
    exact h1
  rw [vp_cell_i, arrV_read _ _ hi] at hv
  cases hv
  exact hf i
theorem j_castB (F : Fj X cc RJ7 ret rm sg dg ws0) {a m : Nat} {f : Nat → Int32} (k : Nat) (he : wc[k]? = some (a, .inl (cB (xG X), m, .inl f))) (hd : decode cc pc = .ok (.checkcast 311, 3)) (K : Wj X Q wc cN sN (pc + 3) lv (.ref a :: st)) : Wj X Q wc cN sN pc lv (.ref a :: st) := by
  obtain ⟨hx, hb, hml, hown, hts, hlk, hr, ⟨hK, hcl, -⟩, hrm, hA, hA2, hA3⟩ := F
  obtain ⟨o1, o2, o3, o4, o5, o6⟩ := jo_310
  intro H locs ls hP hD hS hl
  exact va_castA hx hb hown (hts _ o6) hP k he (hK.2 4 _ rfl).2 hd (K H locs ls hP hD hS hl)
end JMo
