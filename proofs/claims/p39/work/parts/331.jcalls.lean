-- calls of contracts over cells, ends
theorem JK.blind {G : Gx} (av : List Value) (sg : SGt) (dg : Nat × Nat) (n : Nat) (ws : va_W) : FrameBlind (va_Pc av (fun U => JK G sg dg U ∧ U.heap.size = n ∧ va_P G.2.1 vwCl ws U.heap)) := fun a U g mk q => ⟨q.1, q.2.1.calls, q.2.2.1, q.2.2.2⟩
section JC
variable {X : Cx} {Q : State → Prop} {wc ws rest ws0 : va_W} {sg : SGt} {dg : Nat × Nat} {cN sN : Nat} {cc : ByteArray} {own : String} {ret : Option FieldType} {rm : Room} {pc : Nat} {lv : List (Nat × Value)} {st st0 As : List Value}
theorem Fj.pre (F : Fj X cc own ret rm sg dg ws0) {H : Heap} {locs : List Loc} (hS : va_S (xA X) (xS X).heap H locs) (hsub : va_P (xG X).2.1 vwCl ws H) {U : State} (hU : U.heap = H) (hW : (xS X).WarmedH U.vm) : JK (xG X) sg dg U ∧ U.heap.size = H.size ∧ va_P (xG X).2.1 vwCl ws U.heap := by
  have hs := F.sub
  obtain ⟨-, -, -, -, -, -, -, hJ, -⟩ := F
  refine ⟨hJ.keeps hW fun q a b => ?_, by rw [hU], by rw [hU]; exact hsub⟩
  rw [hU]; exact hS.2.1 q a (fun y => b (hs q y))
/-- where the callee's cells lie among ours: first they, then the rest -/
def Cut (wc ws rest : va_W) : Prop := (∀ p ∈ ws, p ∈ wc) ∧ (∀ p ∈ rest, p ∈ wc) ∧ ∀ A, va_D A wc → va_D A (ws ++ rest)
theorem cut_of {wc ws rest : va_W} (ks : List Nat) (hn : ks.Nodup) (hl : ks.filterMap (fun z => wc[z]?) = ws ++ rest) (hlen : (ws ++ rest).length = ks.length) : Cut wc ws rest := by
  have hmem : ∀ q ∈ ws ++ rest, q ∈ wc := fun q hq => by
    rw [← hl] at hq
    obtain ⟨i, -, hi⟩ := List.mem_filterMap.mp hq
    exact List.mem_of_getElem? hi
  exact ⟨fun p hp => hmem p (List.mem_append_left _ hp), fun p hp => hmem p (List.mem_append_right _ hp), fun A d => D_cut ks hn hl hlen d⟩
/-- behind a call: the callee's cells as it leaves them, ours beside them -/
theorem Wj_at {mc ms : Nat} {Post : Option Value → va_W → Prop} (F : Fj X cc own ret rm sg dg ws0) (hcut : Cut wc ws rest) {H : Heap} {locs : List Loc} {ls : Array Slot} (hP : va_P (xG X).2.1 vwCl wc H) (hD : va_D (xA X) wc) (hS : va_S (xA X) (xS X).heap H locs) (hl : lv_has ls (xL X) lv)
    (hrun : va_Run X.1.1 X.1.2.1 X.1.2.2.1 X.1.2.2.2.1 X.1.2.2.2.2.1 X.1.2.2.2.2.2.1 X.1.2.2.2.2.2.2.1 X.1.2.2.2.2.2.2.2.1 X.1.2.2.2.2.2.2.2.2.1 X.1.2.2.2.2.2.2.2.2.2 H locs cN sN mc ms (F0 (xM X) pc ls st0) st (fun st ot t => ∃ r ws', ot = .returned r ∧ Post r ws' ∧ va_P (xG X).2.1 vwCl ws' t.heap ∧ va_D (fun q => Fw ws q ∨ H.size ≤ q) ws' ∧ va_F (Fw ws) st t) (fun q => Fw ws q ∨ H.size ≤ q))
    (K : ∀ r ws', Post r ws' → Wj X Q (ws' ++ rest) (cN + mc) (sN + ms) (pc + 3) lv (r.toList ++ st)) : W X.1.1 X.1.2.1 X.1.2.2.1 X.1.2.2.2.1 X.1.2.2.2.2.1 X.1.2.2.2.2.2.1 X.1.2.2.2.2.2.2.1 X.1.2.2.2.2.2.2.2.1 X.1.2.2.2.2.2.2.2.2.1 X.1.2.2.2.2.2.2.2.2.2 H locs cN sN Q (F0 (xM X) pc ls st0) := by
  obtain ⟨-, -, -, -, -, -, -, -, -, hA, -, -⟩ := F
  obtain ⟨h1, h2, h3⟩ := hcut
  intro T hT Y
  have hD2 := h3 _ hD
  have hPw : va_P (xG X).2.1 vwCl ws H := fun k q hq => by
    obtain ⟨i, hi⟩ := List.getElem?_of_mem (h1 q (List.mem_of_getElem? hq))
    exact hP i q hi
  have hPr : va_P (xG X).2.1 vwCl rest H := fun k q hq => by
    obtain ⟨i, hi⟩ := List.getElem?_of_mem (h2 q (List.mem_of_getElem? hq))
    exact hP i q hi
  have hFA : ∀ q, (Fw ws q ∨ H.size ≤ q) → xA X q := fun q hq => by
    rcases hq with ⟨p, hp, rfl⟩ | hq
    · obtain ⟨i, hi⟩ := List.getElem?_of_mem (h1 p hp)
      exact hD.2 i p hi
    · rw [hA]; exact Or.inr (Nat.le_trans hS.1 hq)
  have hdis : ∀ (j : Nat) (p : Nat × va_E), rest[j]? = some p → ¬ Fw ws p.1 := fun j p hp ⟨q, hq, e⟩ => by
    obtain ⟨i, hi⟩ := List.getElem?_of_mem hq
    have hil := (List.getElem?_eq_some_iff.mp hi).1
    have := hD2.1 i (ws.length + j) q p (by rw [List.getElem?_append_left hil]; exact hi) (by rw [List.getElem?_append_right (Nat.le_add_right _ _), Nat.add_sub_cancel_left]; exact hp) e
    omega
  obtain ⟨v, st₀, t, T', L, h0, Y', hL, e1, e2, ⟨r, ws', hv, hPost, hPt, hDt, hF⟩, go⟩ := hrun T hT Y
  cases hv
  have hz : H.size ≤ T'.heap.size := by rw [e1, ← h0]; exact hF.1
  have hk2 : ∀ q : Nat, q < H.size → ¬ Fw ws q → T'.heap[q]? = H[q]? := fun q g1 g2 => by rw [e1, ← h0]; exact hF.2 q (by rw [h0]; exact g1) g2
  have hPn : va_P (xG X).2.1 vwCl (ws' ++ rest) T'.heap := va_P.app (by rw [e1]; exact hPt) fun k q hq => (hPr k q hq).kept (hk2 q.1 (hPr k q hq).lt (hdis k q hq))
  have hDn : va_D (xA X) (ws' ++ rest) := by
    refine ⟨fun i j x y hi hj e => ?_, fun k q hk => ?_⟩
    · have mix : ∀ (i j : Nat) (x y : Nat × va_E), ws'[i]? = some x → rest[j]? = some y → ¬ x.1 = y.1 := fun i j x y hi hj e => by
        rcases hDt.2 i x hi with z | z
        · exact hdis j y hj (by rw [← e]; exact z)
        · have := (hPr j y hj).lt; omega
      by_cases a : i < ws'.length
      · rw [List.getElem?_append_left a] at hi
        by_cases b : j < ws'.length
        · rw [List.getElem?_append_left b] at hj
          exact hDt.1 i j x y hi hj e
        · rw [List.getElem?_append_right (Nat.le_of_not_lt b)] at hj
          exact absurd e (mix i _ x y hi hj)
      · rw [List.getElem?_append_right (Nat.le_of_not_lt a)] at hi
        by_cases b : j < ws'.length
        · rw [List.getElem?_append_left b] at hj
          exact absurd e.symm (mix j _ y x hj hi)
        · rw [List.getElem?_append_right (Nat.le_of_not_lt b)] at hj
          have := hD2.1 (ws.length + (i - ws'.length)) (ws.length + (j - ws'.length)) x y (by rw [List.getElem?_append_right (Nat.le_add_right _ _), Nat.add_sub_cancel_left]; exact hi) (by rw [List.getElem?_append_right (Nat.le_add_right _ _), Nat.add_sub_cancel_left]; exact hj) e
          omega
    · rcases List.mem_append.mp (List.mem_of_getElem? hk) with z | z
      · obtain ⟨i, hi⟩ := List.getElem?_of_mem z
        exact hFA _ (hDt.2 i q hi)
      · obtain ⟨i, hi⟩ := List.getElem?_of_mem (h2 q z)
        exact hD.2 i q hi
  have hSn : va_S (xA X) (xS X).heap T'.heap (locs ++ L) := ⟨Nat.le_trans hS.1 hz, fun q g1 g2 => by rw [hk2 q (Nat.lt_of_lt_of_le g1 hS.1) (fun z => g2 (hFA q (Or.inl z)))]; exact hS.2.1 q g1 g2, fun q hq => by
    rcases List.mem_append.mp hq with z | z
    · exact hS.2.2 q z
    · exact hFA _ (hL q z)⟩
  obtain ⟨t2, a1, b1⟩ := K _ ws' hPost T'.heap (locs ++ L) ls hPn hDn hSn hl T' rfl Y'
  exact ⟨t2, go t2 a1, b1⟩
/-- a private method of the superclass, upon an object of a class below -/
theorem sel_up {C : String} {y y0 : MethodName} {s : State} {args : Array Value} (hy : y.cls ≠ "java/lang/invoke/MethodHandle" ∧ y.cls ≠ "java/lang/invoke/VarHandle")
    (hins : (Cond.selects C y0 y0).before args s = true) (he : y0.cls = y.cls) (hpriv : (Cond.privateMethod y).before args s = true) (hinst : (Cond.instanceMethod y).before args s = true) :
    (Cond.selects C y y).before args s = true := by
  obtain ⟨c, r, m0, hc, -, h0, -, k, hk, hni⟩ := Cond.selects_spec hins
  obtain ⟨mk, methM, hnamed, hmethM, -, -⟩ := Cond.instanceMethod_spec hinst
  have hfound : s.methodFound? y.cls y.name y.desc = some mk := State.methodFound?_of_named hnamed hy
  have hcls : m0.cls = mk.cls := Option.some.inj ((findClass_of_methodNamed h0).symm.trans (by rw [he]; exact findClass_of_methodNamed hnamed))
  have hsel : selectMethod {} s.vm c mk = .method mk := selectMethod_private hmethM (Cond.privateMethod_at hpriv mk methM hnamed hmethM)
  rw [hcls] at hk
  simp only [Cond.before, Cond.holds, Cond.value, hc, hfound, hnamed, hsel, hk]
  simp; exact hni
/-- the words of a call upon a builder -/
def JV (own : String) (i : Nat) (y : MethodName) (bytes : ByteArray) (mL : Nat) (ret : Option FieldType) (n : Nat) : Prop := CB own i y bytes mL ret n ∧ Cond.instanceMethod y ∈ GT ∧ Cond.selects RJ4 y y ∈ GT
def JS (own : String) (i : Nat) (y : MethodName) (bytes : ByteArray) (mL : Nat) (ret : Option FieldType) (n : Nat) : Prop := CB own i y bytes mL ret n ∧ Cond.static y ∈ GT
/-- .. of super.m(..) -/
def JU (own : String) (i : Nat) (y : MethodName) (bytes : ByteArray) (mL : Nat) (ret : Option FieldType) (n : Nat) : Prop := CB own i y bytes mL ret n ∧ Cond.sameMethod y.cls y.cls y.name y.desc ∈ GT ∧ Cond.superclass own y.cls ∈ GT ∧ Cond.instanceMethod y ∈ GT ∧ y.name ≠ "<init>"
def JI (own : String) (i : Nat) (y : MethodName) (bytes : ByteArray) (mL : Nat) (n : Nat) : Prop := CB own i y bytes mL none n ∧ y.name = "<init>" ∧ Cond.instanceMethod y ∈ GT
variable {y : MethodName} {bytes : ByteArray} {mL n i mc ms : Nat} {ret' : Option FieldType} {rm' : Room} {Post : Option Value → va_W → Prop}
theorem CB.goods (f : CB own i y bytes mL ret' n) {w : Cond} (hw : w ∈ (Cond.code y bytes mL ret' :: GT)) : w ∈ GT ∧ ((w.onTables && w.keeps) = true ∨ ∃ ty, w = .arrayClass ty) := by
  have hm : w ∈ GT := by
    rcases List.mem_cons.mp hw with q | q
    · rw [q]; exact f.1
    · exact q
  exact ⟨hm, good_of_word (List.mem_filter.mp hm).2⟩
theorem j_V (F : Fj X cc own ret rm sg dg ws0) (f : JV own i y bytes mL ret' n) {b k : Nat} {fs : List Value} (hb9 : wc[k]? = some (b, .inr (9, fs))) (hcut : Cut wc ws rest) (hC : ∀ m, (∀ q, m ≤ q → sg.2.2.1 q) → (∀ p ∈ ws, sg.2.2.1 p.1) → Jc (xG X) X.1.2.1 y bytes mL ret' rm' (.ref b :: As) sg dg m ws Post mc ms) (hn : As.length = n) (hst : st0 = As.reverse ++ .ref b :: st) (hR : (rm'.cells = mc ∧ rm'.slots = ms) ∧ rm'.frames + 1 ≤ rm.frames ∧ 8 + (mL + 11) + rm'.locals ≤ rm.locals) (hcat : (st.map fun v => v.category).sum ≤ 8) (hcap : cN + mc ≤ rm.cells ∧ sN + ms ≤ rm.slots) (hd : decode cc pc = .ok (.invokevirtual i, 3)) (K : ∀ r ws', Post r ws' → Wj X Q (ws' ++ rest) (cN + mc) (sN + ms) (pc + 3) lv (r.toList ++ st)) : Wj X Q wc cN sN pc lv st0 := by
  have F' := F
  have hsb := F.sub
  obtain ⟨hx, hb, hml, hown, hts, hlk, hr, hJ, hrm, hA, hA2, hA3⟩ := F
  have hrm' : X.1.2.2.2.1 = rm := hrm
  intro H locs ls hP hD hS hl
  have hrec := va_recv hJ.1 hP (cl_at 9 (by decide)) hb9
  have hsz : (xS X).heap.size ≤ H.size := hS.1
  have hws : ∀ p ∈ ws, sg.2.2.1 p.1 := fun p hp => by
    obtain ⟨j, hj⟩ := List.getElem?_of_mem (hcut.1 p hp)
    exact hsb _ (hD.2 j p hj)
  have hPw : va_P (xG X).2.1 vwCl ws H := fun k q hq => by
    obtain ⟨j, hj⟩ := List.getElem?_of_mem (hcut.1 q (List.mem_of_getElem? hq))
    exact hP j q hj
  exact Wj_at F' hcut hP hD hS hl (va_runV (Ts := GT) (n := n) (C := RJ4) (own := own) (index := i) (bytes := bytes) (maxL := mL) (ret := ret') ⟨hx, hb, hml, hown, hts⟩ (hC H.size (fun q h => hA3 q (Nat.le_trans hsz h)) hws) ⟨callB_of n hts (fun w hw => f.1.goods hw) rfl hR.1.1 hR.1.2 (hts _ f.1.2.2.1) (hts _ f.1.2.1) f.1.2.2.2 (by rw [hrm']; exact hR.2), hts _ f.2.1, hts _ f.2.2⟩ ⟨JK.blind _ _ _ _ _, hrec, fun U hU hW => ⟨rfl, F'.pre hS hPw hU hW⟩⟩ rfl hn hl.1 hst (by show 2 * 0 + _ ≤ 8; omega) hd (by rw [hrm']; exact hcap)) K
theorem j_S (F : Fj X cc own ret rm sg dg ws0) (f : JS own i y bytes mL ret' n) (hcut : Cut wc ws rest) (hC : ∀ m, (∀ q, m ≤ q → sg.2.2.1 q) → (∀ p ∈ ws, sg.2.2.1 p.1) → Jc (xG X) X.1.2.1 y bytes mL ret' rm' As sg dg m ws Post mc ms) (hn : As.length = n) (hst : st0 = As.reverse ++ st) (hR : (rm'.cells = mc ∧ rm'.slots = ms) ∧ rm'.frames + 1 ≤ rm.frames ∧ 8 + (mL + 11) + rm'.locals ≤ rm.locals) (hcat : (st.map fun v => v.category).sum ≤ 8) (hcap : cN + mc ≤ rm.cells ∧ sN + ms ≤ rm.slots) (hd : decode cc pc = .ok (.invokestatic i, 3)) (K : ∀ r ws', Post r ws' → Wj X Q (ws' ++ rest) (cN + mc) (sN + ms) (pc + 3) lv (r.toList ++ st)) : Wj X Q wc cN sN pc lv st0 := by
  have F' := F
  have hsb := F.sub
  obtain ⟨hx, hb, hml, hown, hts, hlk, hr, hJ, hrm, hA, hA2, hA3⟩ := F
  have hrm' : X.1.2.2.2.1 = rm := hrm
  intro H locs ls hP hD hS hl
  have hsz : (xS X).heap.size ≤ H.size := hS.1
  have hws : ∀ p ∈ ws, sg.2.2.1 p.1 := fun p hp => by
    obtain ⟨j, hj⟩ := List.getElem?_of_mem (hcut.1 p hp)
    exact hsb _ (hD.2 j p hj)
  have hPw : va_P (xG X).2.1 vwCl ws H := fun k q hq => by
    obtain ⟨j, hj⟩ := List.getElem?_of_mem (hcut.1 q (List.mem_of_getElem? hq))
    exact hP j q hj
  exact Wj_at F' hcut hP hD hS hl (va_runS (Ts := GT) (n := n) (own := own) (index := i) (bytes := bytes) (maxL := mL) (ret := ret') ⟨hx, hb, hml, hown, hts⟩ (hC H.size (fun q h => hA3 q (Nat.le_trans hsz h)) hws) ⟨callB_of n hts (fun w hw => f.1.goods hw) rfl hR.1.1 hR.1.2 (hts _ f.1.2.2.1) (hts _ f.1.2.1) f.1.2.2.2 (by rw [hrm']; exact hR.2), hts _ f.2⟩ ⟨JK.blind _ _ _ _ _, fun U hU hW => ⟨rfl, F'.pre hS hPw hU hW⟩⟩ rfl hn hl.1 hst (by show 2 * 0 + _ ≤ 8; omega) hd (by rw [hrm']; exact hcap)) K
theorem j_U (F : Fj X cc own ret rm sg dg ws0) (f : JU own i y bytes mL ret' n) {b k : Nat} {fs : List Value} (hb9 : wc[k]? = some (b, .inr (9, fs))) (hcut : Cut wc ws rest) (hC : ∀ m, (∀ q, m ≤ q → sg.2.2.1 q) → (∀ p ∈ ws, sg.2.2.1 p.1) → Jc (xG X) X.1.2.1 y bytes mL ret' rm' (.ref b :: As) sg dg m ws Post mc ms) (hn : As.length = n) (hst : st0 = As.reverse ++ .ref b :: st) (hR : (rm'.cells = mc ∧ rm'.slots = ms) ∧ rm'.frames + 1 ≤ rm.frames ∧ 8 + (mL + 11) + rm'.locals ≤ rm.locals) (hcat : (st.map fun v => v.category).sum ≤ 8) (hcap : cN + mc ≤ rm.cells ∧ sN + ms ≤ rm.slots) (hd : decode cc pc = .ok (.invokespecial i, 3)) (K : ∀ r ws', Post r ws' → Wj X Q (ws' ++ rest) (cN + mc) (sN + ms) (pc + 3) lv (r.toList ++ st)) : Wj X Q wc cN sN pc lv st0 := by
  have F' := F
  have hsb := F.sub
  obtain ⟨hx, hb, hml, hown, hts, hlk, hr, hJ, hrm, hA, hA2, hA3⟩ := F
  have hrm' : X.1.2.2.2.1 = rm := hrm
  intro H locs ls hP hD hS hl
  have hrec := va_recv hJ.1 hP (cl_at 9 (by decide)) hb9
  have hat : ClassAt (xS X) RJ4 ((xG X).2.1.1 9) := (hJ.1.1 9 _ (cl_at 9 (by decide))).2
  have hsz : (xS X).heap.size ≤ H.size := hS.1
  have hws : ∀ p ∈ ws, sg.2.2.1 p.1 := fun p hp => by
    obtain ⟨j, hj⟩ := List.getElem?_of_mem (hcut.1 p hp)
    exact hsb _ (hD.2 j p hj)
  have hPw : va_P (xG X).2.1 vwCl ws H := fun k q hq => by
    obtain ⟨j, hj⟩ := List.getElem?_of_mem (hcut.1 q (List.mem_of_getElem? hq))
    exact hP j q hj
  have cw : va_CS X.1.2.2.2.1 (xS X) X.1.2.2.2.2.2.2.1 own i y bytes mL ret' (Cond.code y bytes mL ret' :: GT) rm' mc ms n := va_cwSU n hts (fun w hw => by
    rcases List.mem_append.mp hw with q | q
    · have hm : w ∈ GT := by
        rcases List.mem_cons.mp q with q | q
        · rw [q]; exact f.1.2.1
        rcases List.mem_cons.mp q with q | q
        · rw [q]; exact f.2.1
        rcases List.mem_cons.mp q with q | q
        · rw [q]; exact f.2.2.1
        rcases List.mem_cons.mp q with q | q
        · rw [q]; exact f.2.2.2.1
        rw [List.mem_singleton.mp q]; exact f.1.2.2.1
      exact ⟨hm, good_of_word (List.mem_filter.mp hm).2⟩
    · exact f.1.goods q) rfl hR.1.1 hR.1.2 ⟨f.2.2.2.2, f.1.2.2.2.2.2⟩ (by rw [hrm']; exact hR.2)
  exact Wj_at F' hcut hP hD hS hl (va_runSU (Ts := GT) (n := n) (C := RJ4) (own := own) (index := i) (bytes := bytes) (ret := ret') hat ⟨hx, hb, hml, hown, hts⟩ (hC H.size (fun q h => hA3 q (Nat.le_trans hsz h)) hws) cw ⟨JK.blind _ _ _ _ _, hrec, fun U hU hW => ⟨rfl, F'.pre hS hPw hU hW⟩⟩ rfl hn hl.1 hst (by show 2 * 0 + _ ≤ 8; omega) hd (by rw [hrm']; exact hcap)) K
theorem j_I (F : Fj X cc own ret rm sg dg ws0) (f : JI own i y bytes mL n) {b : Nat} (hcut : Cut wc ws rest) (hC : ∀ m, (∀ q, m ≤ q → sg.2.2.1 q) → (∀ p ∈ ws, sg.2.2.1 p.1) → Jc (xG X) X.1.2.1 y bytes mL none rm' (.ref b :: As) sg dg m ws Post mc ms) (hn : As.length = n) (hst : st0 = As.reverse ++ .ref b :: st) (hR : (rm'.cells = mc ∧ rm'.slots = ms) ∧ rm'.frames + 1 ≤ rm.frames ∧ 8 + (mL + 11) + rm'.locals ≤ rm.locals) (hcat : (st.map fun v => v.category).sum ≤ 8) (hcap : cN + mc ≤ rm.cells ∧ sN + ms ≤ rm.slots) (hd : decode cc pc = .ok (.invokespecial i, 3)) (K : ∀ r ws', Post r ws' → Wj X Q (ws' ++ rest) (cN + mc) (sN + ms) (pc + 3) lv (r.toList ++ st)) : Wj X Q wc cN sN pc lv st0 := by
  have F' := F
  have hsb := F.sub
  obtain ⟨hx, hb, hml, hown, hts, hlk, hr, hJ, hrm, hA, hA2, hA3⟩ := F
  have hrm' : X.1.2.2.2.1 = rm := hrm
  intro H locs ls hP hD hS hl
  have hsz : (xS X).heap.size ≤ H.size := hS.1
  have hws : ∀ p ∈ ws, sg.2.2.1 p.1 := fun p hp => by
    obtain ⟨j, hj⟩ := List.getElem?_of_mem (hcut.1 p hp)
    exact hsb _ (hD.2 j p hj)
  have hPw : va_P (xG X).2.1 vwCl ws H := fun k q hq => by
    obtain ⟨j, hj⟩ := List.getElem?_of_mem (hcut.1 q (List.mem_of_getElem? hq))
    exact hP j q hj
  exact Wj_at F' hcut hP hD hS hl (va_runI (Ts := GT) (n := n) (own := own) (index := i) (bytes := bytes) (maxL := mL) ⟨hx, hb, hml, hown, hts⟩ (hC H.size (fun q h => hA3 q (Nat.le_trans hsz h)) hws) ⟨callB_of n hts (fun w hw => f.1.goods hw) rfl hR.1.1 hR.1.2 (hts _ f.1.2.2.1) (hts _ f.1.2.1) f.1.2.2.2 (by rw [hrm']; exact hR.2), f.2.1, hts _ f.2.2⟩ ⟨JK.blind _ _ _ _ _, fun U hU hW => ⟨rfl, F'.pre hS hPw hU hW⟩⟩ rfl hn hl.1 hst (by show 2 * 0 + _ ≤ 8; omega) hd (by rw [hrm']; exact hcap)) K
/-- a call upon the text -/
theorem j_VT (F : Fj X cc own ret rm sg dg ws0) (f : CB own i y bytes mL ret' n ∧ Cond.instanceMethod y ∈ GT ∧ Cond.selects RJ0 y y ∈ GT) (hcut : Cut wc ws rest) (hC : ∀ m, (∀ q, m ≤ q → sg.2.2.1 q) → (∀ p ∈ ws, sg.2.2.1 p.1) → Jc (xG X) X.1.2.1 y bytes mL ret' rm' (.ref sg.2.2.2.1 :: As) sg dg m ws Post mc ms) (hn : As.length = n) (hst : st0 = As.reverse ++ .ref sg.2.2.2.1 :: st) (hR : (rm'.cells = mc ∧ rm'.slots = ms) ∧ rm'.frames + 1 ≤ rm.frames ∧ 8 + (mL + 11) + rm'.locals ≤ rm.locals) (hcat : (st.map fun v => v.category).sum ≤ 8) (hcap : cN + mc ≤ rm.cells ∧ sN + ms ≤ rm.slots) (hd : decode cc pc = .ok (.invokevirtual i, 3)) (K : ∀ r ws', Post r ws' → Wj X Q (ws' ++ rest) (cN + mc) (sN + ms) (pc + 3) lv (r.toList ++ st)) : Wj X Q wc cN sN pc lv st0 := by
  have F' := F
  have hsb := F.sub
  obtain ⟨hx, hb, hml, hown, hts, hlk, hr, hJ, hrm, hA, hA2, hA3⟩ := F
  have hrm' : X.1.2.2.2.1 = rm := hrm
  intro H locs ls hP hD hS hl
  have hS' : va_S sg.2.2.1 (xS X).heap H locs := ⟨hS.1, fun q h1 h2 => hS.2.1 q h1 (fun z => h2 (hsb q z)), fun q hq => hsb _ (hS.2.2 q hq)⟩
  have hsz : (xS X).heap.size ≤ H.size := hS.1
  have hws : ∀ p ∈ ws, sg.2.2.1 p.1 := fun p hp => by
    obtain ⟨j, hj⟩ := List.getElem?_of_mem (hcut.1 p hp)
    exact hsb _ (hD.2 j p hj)
  have hPw : va_P (xG X).2.1 vwCl ws H := fun k q hq => by
    obtain ⟨j, hj⟩ := List.getElem?_of_mem (hcut.1 q (List.mem_of_getElem? hq))
    exact hP j q hj
  exact Wj_at F' hcut hP hD hS hl (va_runV (Ts := GT) (n := n) (C := RJ0) (own := own) (index := i) (bytes := bytes) (maxL := mL) (ret := ret') ⟨hx, hb, hml, hown, hts⟩ (hC H.size (fun q h => hA3 q (Nat.le_trans hsz h)) hws) ⟨callB_of n hts (fun w hw => f.1.goods hw) rfl hR.1.1 hR.1.2 (hts _ f.1.2.2.1) (hts _ f.1.2.1) f.1.2.2.2 (by rw [hrm']; exact hR.2), hts _ f.2.1, hts _ f.2.2⟩ ⟨JK.blind _ _ _ _ _, vk_recv (i := 0) hJ.2.2.1.1 (by decide) hS', fun U hU hW => ⟨rfl, F'.pre hS hPw hU hW⟩⟩ rfl hn hl.1 hst (by show 2 * 0 + _ ≤ 8; omega) hd (by rw [hrm']; exact hcap)) K
/-- the cells lie apart -/
theorem Wj_nd (K : (wc.map (·.1)).Nodup → Wj X Q wc cN sN pc lv st) : Wj X Q wc cN sN pc lv st := fun H locs ls p d s l => K (by
  refine List.pairwise_iff_getElem.mpr fun i j hi hj hij e => ?_
  rw [List.length_map] at hi hj
  rw [List.getElem_map, List.getElem_map] at e
  have := d.1 i j _ _ (List.getElem?_eq_getElem hi) (List.getElem?_eq_getElem hj) e
  omega) H locs ls p d s l
end JC
section JE
variable {X : Cx} {ws ws0 : va_W} {sg : SGt} {dg : Nat × Nat} {cN sN mc ms : Nat} {cc : ByteArray} {own : String} {ret : Option FieldType} {rm : Room} {pc : Nat} {lv : List (Nat × Value)} {Post : Option Value → va_W → Prop}
/-- a contract's end, as the walk of its body wants it -/
def Qj (X : Cx) (ws0 : va_W) (Post : Option Value → va_W → Prop) (mc ms : Nat) : State → Prop := MQ X.1.2.2.2.2.2.2.2.1 (fun _ st ot t => ∃ r ws', ot = .returned r ∧ Post r ws' ∧ va_P (xG X).2.1 vwCl ws' t.heap ∧ va_D (fun q => Fw ws0 q ∨ (xS X).heap.size ≤ q) ws' ∧ va_F (Fw ws0) st t) X.1.2.2.2.2.2.2.1 (xS X) mc ms (fun q => Fw ws0 q ∨ (xS X).heap.size ≤ q)
theorem j_end (F : Fj X cc own ret rm sg dg ws0) {r : Option Value} (hp : Post r ws) {H : Heap} {locs : List Loc} (hP : va_P (xG X).2.1 vwCl ws H) (hD : va_D (xA X) ws) (hS : va_S (xA X) (xS X).heap H locs) (t : State) (ht : t.heap = H) : ∃ r' ws', Outcome.returned r = .returned r' ∧ Post r' ws' ∧ va_P (xG X).2.1 vwCl ws' t.heap ∧ va_D (fun q => Fw ws0 q ∨ (xS X).heap.size ≤ q) ws' ∧ va_F (Fw ws0) (xS X) t := by
  obtain ⟨-, -, -, -, -, -, -, -, -, hA, -, -⟩ := F
  refine ⟨r, ws, rfl, hp, by rw [ht]; exact hP, by rw [← hA]; exact hD, by rw [ht]; exact hS.1, fun q h1 h2 => ?_⟩
  rw [ht]
  exact hS.2.1 q h1 (fun z => by
    rw [hA] at z
    rcases z with z | z
    · exact h2 z
    · omega)
theorem Fj.lo (F : Fj X cc own ret rm sg dg ws0) {H : Heap} {locs : List Loc} (hS : va_S (xA X) (xS X).heap H locs) : ∀ q ∈ locs, Fw ws0 q.base ∨ (xS X).heap.size ≤ q.base := fun q hq => by
  obtain ⟨-, -, -, -, -, -, -, -, -, hA, -, -⟩ := F
  have := hS.2.2 q hq
  rw [hA] at this
  exact this
theorem j_iret (F : Fj X cc own (some .int) rm sg dg ws0) {v : Int32} (hp : Post (some (.int v)) ws) (hc : cN ≤ mc) (hs : sN ≤ ms) (hd : decode cc pc = .ok (.ireturn, 1)) : Wj X (Qj X ws0 Post mc ms) ws cN sN pc lv [.int v] := by
  have F' := F
  obtain ⟨hx, hb, hml, hown, hts, hlk, hr, -⟩ := F
  intro H locs ls hP hD hS hl
  exact W.widen hc hs (W.iret hx hb hr (fun t ht _ => j_end F' hp hP hD hS t ht) (F'.lo hS) hd hlk)
theorem j_zret (F : Fj X cc own ret rm sg dg ws0) {ty : FieldType} (hrt : ret = some ty) {v : Int32} (hn : narrow ty (.int v) = .int v) (hp : Post (some (.int v)) ws) (hc : cN ≤ mc) (hs : sN ≤ ms) (hd : decode cc pc = .ok (.ireturn, 1)) : Wj X (Qj X ws0 Post mc ms) ws cN sN pc lv [.int v] := by
  have F' := F
  subst hrt
  obtain ⟨hx, hb, hml, hown, hts, hlk, hr, -⟩ := F
  intro H locs ls hP hD hS hl
  exact W.widen hc hs (W.zret hx hb hr hn (fun t ht _ => j_end F' hp hP hD hS t ht) (F'.lo hS) hd hlk)
theorem j_aret (F : Fj X cc own ret rm sg dg ws0) {rt : FieldType} (hrt : ret = some rt) (h9 : (∃ n, rt = .object n) ∨ ∃ t, rt = .array t) {a : Nat} (hp : Post (some (.ref a)) ws) (hc : cN ≤ mc) (hs : sN ≤ ms) (hd : decode cc pc = .ok (.areturn, 1)) : Wj X (Qj X ws0 Post mc ms) ws cN sN pc lv [.ref a] := by
  have F' := F
  subst hrt
  obtain ⟨hx, hb, hml, hown, hts, hlk, hr, -⟩ := F
  intro H locs ls hP hD hS hl
  exact W.widen hc hs (W.aret hx hb hr h9 (Or.inr ⟨_, rfl⟩) (fun t ht _ => j_end F' hp hP hD hS t ht) (F'.lo hS) hd hlk)
theorem j_vret (F : Fj X cc own none rm sg dg ws0) (hp : Post none ws) (hc : cN ≤ mc) (hs : sN ≤ ms) (hd : decode cc pc = .ok (.return_, 1)) : Wj X (Qj X ws0 Post mc ms) ws cN sN pc lv [] := by
  have F' := F
  obtain ⟨hx, hb, hml, hown, hts, hlk, hr, -⟩ := F
  intro H locs ls hP hD hS hl
  exact W.widen hc hs (W.vret hx hb hr (fun t ht _ => j_end F' hp hP hD hS t ht) (F'.lo hS) hd hlk)
end JE
/-- a contract out of the walk of its body -/
theorem jc_of {G : Gx} {l : Launch} {y : MethodName} {cc : ByteArray} {mL : Nat} {ret : Option FieldType} {rm : Room} {av : List Value} {sg : SGt} {dg : Nat × Nat} {n : Nat} {ws : va_W} {Post : Option Value → va_W → Prop} {mc ms : Nat} (hy : plainName y.cls = true) (hav : (lg_sl av).length ≤ mL) (hnd : (ws.map (·.1)).Nodup) (hA3 : ∀ q, n ≤ q → sg.2.2.1 q) (hA2 : ∀ p ∈ ws, sg.2.2.1 p.1)
    (body : ∀ X : Cx, X.1.2.1 = l → xG X = G → xL X = mL → Fj X cc y.cls ret rm sg dg ws → X.1.2.2.2.2.2.2.2.2.1.name = y.name → Wj X (Qj X ws Post mc ms) ws 0 0 0 (lv_args 0 av) []) : Jc G l y cc mL ret rm av sg dg n ws Post mc ms := by
  refine Met.ofW (cc := cc) (maxL := mL) (ret := ret) hy rfl ?_
  intro p e s m args below meth c s₁ B hml hv
  obtain ⟨rfl, hJ, rfl, hP⟩ := hv
  have hts := atoms_spec (ws := Cond.code y cc mL ret :: GT) B.pre
  have hnm : meth.name = y.name := (name_of_methodNamed B.named B.method).1
  have K := body ((p, l, e, rm, s, m, av.toArray, below, meth, c), G, (fun q => Fw ws q ∨ s.heap.size ≤ q), 0, 0, mL) rfl rfl rfl ⟨B.exec, B.bytes, hml, findClass_of_methodNamed B.named, fun w hw => hts w (List.mem_cons_of_mem _ hw), B.notSynchronized, B.returns, hJ, rfl, rfl, hA2, hA3⟩ hnm
  have hl := lv_entry av (n := mL) hav
  rw [lg_entry_eq]
  refine K s.heap [] _ hP ⟨fun i j x y hi hj e => ?_, fun k q hq => Or.inl ⟨q, List.mem_of_getElem? hq, rfl⟩⟩ va_S.rf hl
  have hi' : i < (ws.map (·.1)).length := by rw [List.length_map]; exact (List.getElem?_eq_some_iff.mp hi).1
  exact (List.getElem?_inj hi' hnd).mp (by rw [List.getElem?_map, List.getElem?_map, hi, hj]; exact congrArg some e)
