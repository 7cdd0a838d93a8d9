-- making objects: arrays written, constructors called, their ends
theorem Ph.one {G : Gx} {a j : Nat} {es : List va_E} {e : va_E} {H : Heap} (h : Ph G a es H) (hj : es[j]? = some e) : va_P G.2.1 vwCl [(a + j, e)] H := fun k q hk => by
  have hz : k < 1 := (List.getElem?_eq_some_iff.mp hk).1
  rw [show k = 0 by omega] at hk
  cases hk
  exact h.2 j e hj
theorem Ph.last {G : Gx} {a : Nat} {es : List va_E} {e : va_E} {H : Heap} (h : Ph G a (es ++ [e]) H) : Ph G (a + es.length) [e] H := by
  refine ⟨by rw [h.1, List.length_append]; show a + (es.length + 1) = a + es.length + 1; omega, fun i e' hi => ?_⟩
  have hz : i < 1 := (List.getElem?_eq_some_iff.mp hi).1
  have e0 : i = 0 := by omega
  subst e0
  cases hi
  exact h.2 es.length e (by rw [List.getElem?_append_right (Nat.le_refl _), Nat.sub_self]; rfl)
theorem Ph.more {G : Gx} {a : Nat} {es post : List va_E} {e : va_E} {H H1 : Heap} (h : Ph G a (es ++ [e]) H) (h1 : Ph G (a + es.length) post H1) (o : ∀ q, q < a + es.length → H1[q]? = H[q]?) : Ph G a (es ++ post) H1 := by
  refine ⟨by rw [h1.1, List.length_append]; omega, fun i e' hi => ?_⟩
  by_cases hl : i < es.length
  · rw [List.getElem?_append_left hl] at hi
    exact (h.2 i e' (by rw [List.getElem?_append_left hl]; exact hi)).kept (o _ (by omega))
  · rw [List.getElem?_append_right (by omega)] at hi
    have := h1.2 _ e' hi
    rw [show a + es.length + (i - es.length) = a + i by omega] at this
    exact this
def Qn (G : Gx) (b : Nat) (post : List va_E) : Array Value → State → Outcome → State → Prop := fun _ st ot t => ot = .returned none ∧ Ph G b post t.heap ∧ ∀ q, q < b → t.heap[q]? = st.heap[q]?
/-- a constructor: from the blank object at b, the block of cells from b on -/
def Cn (G : Gx) (l : Launch) (y : MethodName) (cc : ByteArray) (mL : Nat) (rm : Room) (av : List Value) (b c : Nat) (Kp : State → Prop) (post : List va_E) (mc ms : Nat) : Prop :=
  Met l y (.code y cc mL none :: GT) rm (va_Pc av (fun U => Ph G b [.inr (c, dfl c)] U.heap ∧ KK G U ∧ Kp U)) (Qn G b post) mc ms (fun q => b ≤ q)
theorem KK.call {G : Gx} {U : State} {g : JFrame} {mk : MethodId} {a : Array Value} (k : KK G U) : KK G (U.calling g mk a) :=
  ⟨va_K.moved (u := U) (U := U.calling g mk a) (Vm.Alike.refl U.vm) k.1, va_Nw.same (u := U) rfl rfl k.2.1, ⟨va_Nw.same (u := U) rfl rfl k.2.2.1.1, va_Nw.same (u := U) rfl rfl k.2.2.1.2.1, va_Nw.same (u := U) rfl rfl k.2.2.1.2.2.1, va_Nw.same (u := U) rfl rfl k.2.2.1.2.2.2.1, va_Nw.same (u := U) rfl rfl k.2.2.1.2.2.2.2⟩, va_AO.moved (u := U) (U := U.calling g mk a) (Vm.Alike.refl U.vm) k.2.2.2⟩
theorem KK.warm {G : Gx} {s U : State} (hW : s.WarmedH U.vm) (k : KK G s) : KK G U :=
  ⟨va_K.moved hW.alike k.1, va_Nw.warmM hW k.2.1, ⟨va_Nw.warmM hW k.2.2.1.1, va_Nw.warmM hW k.2.2.1.2.1, va_Nw.warmM hW k.2.2.1.2.2.1, va_Nw.warmM hW k.2.2.1.2.2.2.1, va_Nw.warmM hW k.2.2.1.2.2.2.2⟩, va_AO.moved hW.alike k.2.2.2⟩
/-- what is said of the rest of the machine: it reads no frame, and lasts while the cells below a do -/
def Lasts (a : Nat) (Kp : State → Prop) : Prop := (∀ U g mk a, Kp U → Kp (U.calling g mk a)) ∧ ∀ s U : State, Kp s → s.WarmedH U.vm → (∀ q : Nat, q < a → U.heap[q]? = s.heap[q]?) → Kp U
theorem lasts_t (a : Nat) : Lasts a (fun _ => True) := ⟨fun _ _ _ _ _ => trivial, fun _ _ _ _ _ => trivial⟩
theorem Lasts.le {a b : Nat} {Kp : State → Prop} (h : Lasts a Kp) (hb : a ≤ b) : Lasts b Kp := ⟨h.1, fun s U k hW o => h.2 s U k hW fun q hq => o q (Nat.lt_of_lt_of_le hq hb)⟩
section KS
variable {X : Cx} {Q : State → Prop} {a b : Nat} {es tl : List va_E} {cN sN : Nat} {cc : ByteArray} {own : String} {rm : Room} {pc : Nat} {lv : List (Nat × Value)} {st st0 : List Value}
theorem k_get (F : Fk X cc own rm) {i c s : Nat} {kd : Nat × Nat × Nat} (f : FR own i c s kd) {fs : List Value} {v : Value} (hv : fs[s]? = some v) (hd : decode cc pc = .ok (.getfield i, 3)) (K : Wk X Q a (.inr (c, fs) :: tl) cN sN (pc + 3) lv (v :: st)) : Wk X Q a (.inr (c, fs) :: tl) cN sN pc lv (.ref a :: st) := by
  obtain ⟨hw, hc, hs, hf⟩ := f
  obtain ⟨hx, hb, hml, hown, hts, -, ⟨hK, -⟩, hrm⟩ := F
  intro H locs ls hP hS hlv
  exact va_get (cl := vwCl) (T := TXf c) (N := nf c) (v := v) hx hb hts (cl_ws c hc) hown hK (hP.one (j := 0) rfl) 0 rfl (cl_at c hc) s hs (hts _ hw) (fun _ z => z) hv hd (K H locs ls hP hS hlv)
theorem k_iald (F : Fk X cc own rm) {j n : Nat} {f : Nat → Int32} (hj : es[j]? = some (.inl ((xG X).2.2.1, n, .inl f))) (hb9 : a + j = b) {i : Int32} (hin : inb i n) (hd : decode cc pc = .ok (.iaload, 1)) (K : Wk X Q a es cN sN (pc + 1) lv (.int (f i.toNatClampNeg) :: st)) : Wk X Q a es cN sN pc lv (.int i :: .ref b :: st) := by
  obtain ⟨hx, hb, hml, hown, hts, -, ⟨hK, -⟩, hrm⟩ := F
  subst hb9
  intro H locs ls hP hS hlv
  exact va_iald hx hb hK (hP.one hj) 0 0 rfl rfl (inb_vp hin) hd (K H locs ls hP hS hlv)
theorem k_alenS (F : Fk X cc own rm) {j n : Nat} {f : Nat → Option Nat} (hj : es[j]? = some (.inl ((xG X).2.2.2.2.2, n, .inr (.inr (.inr (.inr f)))))) (hb9 : a + j = b) {v : Int32} (hv : Int32.ofNat n = v) (hd : decode cc pc = .ok (.arraylength, 1)) (K : Wk X Q a es cN sN (pc + 1) lv (.int v :: st)) : Wk X Q a es cN sN pc lv (.ref b :: st) := by
  obtain ⟨hx, hb, hml, hown, hts, -, ⟨hK, -⟩, hrm⟩ := F
  subst hb9
  intro H locs ls hP hS hlv
  exact va_alen (x := (n, .inr (.inr (.inr (.inr f))))) hx hb hK (hP.one hj) 0 3 rfl rfl hv hd (K H locs ls hP hS hlv)
theorem k_iast (F : Fk X cc own rm) {j n : Nat} {f : Nat → Int32} (hj : es[j]? = some (.inl ((xG X).2.2.1, n, .inl f))) (hb9 : a + j = b) {i v : Int32} (hin : inb i n) (hd : decode cc pc = .ok (.iastore, 1)) (K : Wk X Q a (es.set j (.inl ((xG X).2.2.1, n, .inl (upd f i.toNatClampNeg v)))) cN sN (pc + 1) lv st) : Wk X Q a es cN sN pc lv (.int v :: .int i :: .ref b :: st) := by
  obtain ⟨hx, hb, hml, hown, hts, -, ⟨hK, -⟩, hrm⟩ := F
  subst hb9
  intro H locs ls hP hS hlv
  refine W.iast hx hb (hP.2 j _ hj) ((hK.2 0 _ rfl).1 n (fun j => .int (f j))) (fun q => by cases q) (by show ¬ (i < 0 ∨ (arrV _ _ _).slots.size ≤ _); rw [arrV_size]; exact inb_vp hin) rfl rfl hd fun H1 e z oq => ?_
  refine K H1 _ ls (hP.set (List.getElem?_eq_some_iff.mp hj).1 z oq ?_) (hS.put z oq (Nat.le_add_right _ _)) hlv
  show H1[a + j]? = some (vp_cell _ _)
  rw [e]
  rw [vp_cell_i, vp_cell_i, arrV_store]
  congr 2
  funext q
  by_cases hq : q = i.toNatClampNeg
  · subst hq
    simp [updV, upd]
  · simp [updV, upd, hq]
theorem k_aast (F : Fk X cc own rm) {j jv n v : Nat} {vs : List Value} {f : Nat → Option Nat} (hj : es[j]? = some (.inl ((xG X).2.2.2.2.2, n, .inr (.inr (.inr (.inr f)))))) (hb9 : a + j = b) (hjv : es[jv]? = some (.inr (3, vs))) (hv9 : a + jv = v) {i : Int32} (hin : inb i n) (hd : decode cc pc = .ok (.aastore, 1)) (K : Wk X Q a (es.set j (.inl ((xG X).2.2.2.2.2, n, .inr (.inr (.inr (.inr (va_up f i.toNatClampNeg (some v)))))))) cN sN (pc + 1) lv st) : Wk X Q a es cN sN pc lv (.ref v :: .int i :: .ref b :: st) := by
  obtain ⟨hx, hb, hml, hown, hts, -, ⟨hK, -⟩, hrm⟩ := F
  subst hb9
  subst hv9
  intro H locs ls hP hS hlv
  have hlt : i.toNatClampNeg < n := hin.2
  have h0 : ¬ i < 0 := Int32.not_lt.mpr hin.1
  obtain ⟨r', hr', cellV, g1, g2, g3, -⟩ := hP.2 jv _ hjv
  have hcls := (hK.1 3 _ (cl_at 3 (by decide))).2
  obtain ⟨kA, comp, k1, k2, k3, -⟩ := (hK.2 3 _ rfl).2
  have hcomp : comp = (xG X).2.1.1 3 := Option.some.inj (k3.symm.trans hcls.1)
  subst hcomp
  obtain ⟨kC, hkC, -⟩ := hcls.2
  refine W.aast hx hb (hP.2 j _ hj) (fun q h => by cases h) (fun h => by cases h) k1 k2 rfl hkC ⟨h0, by show _ < (arrV _ _ _).slots.size; rw [arrV_size]; exact hlt⟩ g1 (fun q h => by rw [g3] at h; cases h) (by rw [g2]; exact hkC) (by rw [g2]; exact va_assign hcls) rfl rfl hd fun H1 e z oq => ?_
  refine K H1 _ ls (hP.set (List.getElem?_eq_some_iff.mp hj).1 z oq ?_) (hS.put z oq (Nat.le_add_right _ _)) hlv
  show H1[a + j]? = some (vp_cell _ _)
  rw [e]
  rw [vp_cell_q, vp_cell_q, arrV_store]
  congr 2
  funext q
  by_cases hq : q = i.toNatClampNeg
  · subst hq
    simp [updV, va_up, va_rf]
  · simp [updV, va_up, hq]
/-- behind a constructor's call -/
theorem k_initX {mc ms : Nat} {obj : va_E} {post : List va_E} {aa : Array Value} (hb9 : a + es.length = b)
    (hrun : ∀ H locs ls, Ph (xG X) a (es ++ [obj]) H → va_S (fun q => a ≤ q) (xS X).heap H locs → lv_has ls (xL X) lv →
      va_Run X.1.1 X.1.2.1 X.1.2.2.1 X.1.2.2.2.1 X.1.2.2.2.2.1 X.1.2.2.2.2.2.1 X.1.2.2.2.2.2.2.1 X.1.2.2.2.2.2.2.2.1 X.1.2.2.2.2.2.2.2.2.1 X.1.2.2.2.2.2.2.2.2.2 H locs cN sN mc ms (F0 (xM X) pc ls st0) st (Qn (xG X) b post aa) (fun q => b ≤ q))
    (K : Wk X Q a (es ++ post) (cN + mc) (sN + ms) (pc + 3) lv st) : Wk X Q a (es ++ [obj]) cN sN pc lv st0 := by
  subst hb9
  intro H locs ls hP hS hlv T hT Y
  obtain ⟨v, st₀, t, T', L, h0, Y', hL, e1, e2, ⟨hv, hPt, hF⟩, go⟩ := hrun H locs ls hP hS hlv T hT Y
  cases hv
  have ho : ∀ q, q < a + es.length → T'.heap[q]? = H[q]? := fun q hq => by rw [e1, ← h0]; exact hF q hq
  have hPn : Ph (xG X) a (es ++ post) T'.heap := hP.more (by rw [e1]; exact hPt) ho
  have hz : a ≤ H.size := by rw [hP.1]; omega
  have hSn : va_S (fun q => a ≤ q) (xS X).heap T'.heap (locs ++ L) := by
    refine ⟨?_, fun q g1 g2 => ?_, fun q hq => ?_⟩
    · have h1 := hS.1
      have h2 : H.size ≤ T'.heap.size ∨ T'.heap.size < H.size := by omega
      rcases h2 with h2 | h2
      · omega
      · rw [hP.1, List.length_append] at h1
        have h3 : T'.heap.size = a + es.length + post.length := by rw [hPn.1, List.length_append]; omega
        rw [h3]
        have h4 := Y'.same.2.1
        have h5 : (xS X).heap.size ≤ T'.heap.size := h4
        rw [h3] at h5
        exact h5
    · rw [ho q (by have : q < a := Nat.lt_of_not_le g2; omega)]
      exact hS.2.1 q g1 g2
    · rcases List.mem_append.mp hq with z | z
      · exact hS.2.2 q z
      · exact Nat.le_trans (Nat.le_add_right a es.length) (hL q z)
  obtain ⟨t2, a1, b1⟩ := K T'.heap (locs ++ L) ls hPn hSn hlv T' rfl Y'
  exact ⟨t2, go t2 a1, b1⟩
variable {y : MethodName} {bytes : ByteArray} {mL n i c : Nat} {rm' : Room} {As : List Value} {Kp : State → Prop} {post : List va_E} {mc ms : Nat}
/-- a constructor's words: code, initialized, of an object -/
def CKi (y : MethodName) (bytes : ByteArray) (mL n : Nat) : Prop := Cond.code y bytes mL none ∈ GT ∧ Cond.initialized y.cls ∈ GT ∧ (y.cls ≠ "java/lang/invoke/MethodHandle" ∧ y.cls ≠ "java/lang/invoke/VarHandle" ∧ (parseMethodDescriptor y.desc).map (fun d => d.parameters.length) = some n) ∧ y.name = "<init>" ∧ Cond.instanceMethod y ∈ GT
theorem CKi.good {y : MethodName} {bytes : ByteArray} {mL n : Nat} (f : CKi y bytes mL n) : GoodIn GT (Cond.code y bytes mL none :: GT) := fun w hw => by
  have hm : w ∈ GT := by
    rcases List.mem_cons.mp hw with q | q
    · rw [q]; exact f.1
    · exact q
  exact ⟨hm, good_of_word (List.mem_filter.mp hm).2⟩
theorem preI (F : Fk X cc own rm) (hL : Lasts a Kp) (hKp : Kp (xS X)) (hsz : a ≤ (xS X).heap.size) (hb9 : a + es.length = b) {H : Heap} {locs : List Loc} (hP : Ph (xG X) a (es ++ [.inr (c, dfl c)]) H) (hS : va_S (fun q => a ≤ q) (xS X).heap H locs) : PreS (xS X) H (va_Pc (.ref b :: As) (fun U => Ph (xG X) b [.inr (c, dfl c)] U.heap ∧ KK (xG X) U ∧ Kp U)) (.ref b :: As) := by
  subst hb9
  refine ⟨fun v U g mk z => ⟨z.1, z.2.1, KK.call z.2.2.1, hL.1 _ _ _ _ z.2.2.2⟩, fun U hU hW => ⟨rfl, by rw [hU]; exact hP.last, KK.warm hW F.2.2.2.2.2.2.1, hL.2 _ U hKp hW fun q hq => ?_⟩⟩
  rw [hU]
  exact hS.2.1 q (Nat.lt_of_lt_of_le hq hsz) (Nat.not_le.mpr hq)
theorem k_init (F : Fk X cc own rm) (f : CKi y bytes mL n) (hlk : Cond.methodLink own i y ∈ GT) (hC : Cn (xG X) X.1.2.1 y bytes mL rm' (.ref b :: As) b c Kp post mc ms) (hL : Lasts a Kp) (hKp : Kp (xS X)) (hsz : a ≤ (xS X).heap.size) (hb9 : a + es.length = b) (hn : As.length = n) (hst : st0 = As.reverse ++ .ref b :: st) (hR : (rm'.cells = mc ∧ rm'.slots = ms) ∧ rm'.frames + 1 ≤ rm.frames ∧ 8 + (mL + 11) + rm'.locals ≤ rm.locals) (hcat : (st.map fun v => v.category).sum ≤ 8) (hcap : cN + mc ≤ rm.cells ∧ sN + ms ≤ rm.slots) (hd : decode cc pc = .ok (.invokespecial i, 3)) (K : Wk X Q a (es ++ post) (cN + mc) (sN + ms) (pc + 3) lv st) : Wk X Q a (es ++ [.inr (c, dfl c)]) cN sN pc lv st0 := by
  have F' := F
  obtain ⟨hx, hb, hml, hown, hts, -, hK, hrm⟩ := F
  have hrm' : X.1.2.2.2.1 = rm := hrm
  refine k_initX (aa := (Value.ref b :: As).toArray) hb9 (fun H locs ls hP hS hlv => ?_) K
  exact va_runI (Ts := GT) (n := n) (own := own) (index := i) (bytes := bytes) (maxL := mL) ⟨hx, hb, hml, hown, hts⟩ hC ⟨callB_of n hts f.good rfl hR.1.1 hR.1.2 (hts _ f.2.1) (hts _ hlk) f.2.2.1 (by rw [hrm']; exact hR.2), f.2.2.2.1, hts _ f.2.2.2.2⟩ (preI F' hL hKp hsz hb9 hP hS) rfl hn hlv.1 hst (by show 2 * 0 + _ ≤ 8; omega) hd (by rw [hrm']; exact hcap)
theorem k_initN (F : Fk X cc own rm) (f : CKi y bytes mL n) (hlk : va_Nw (.methodLinkNest own i y "WeedStrand") (xS X)) (hC : Cn (xG X) X.1.2.1 y bytes mL rm' (.ref b :: As) b c Kp post mc ms) (hL : Lasts a Kp) (hKp : Kp (xS X)) (hsz : a ≤ (xS X).heap.size) (hb9 : a + es.length = b) (hn : As.length = n) (hst : st0 = As.reverse ++ .ref b :: st) (hR : (rm'.cells = mc ∧ rm'.slots = ms) ∧ rm'.frames + 1 ≤ rm.frames ∧ 8 + (mL + 11) + rm'.locals ≤ rm.locals) (hcat : (st.map fun v => v.category).sum ≤ 8) (hcap : cN + mc ≤ rm.cells ∧ sN + ms ≤ rm.slots) (hd : decode cc pc = .ok (.invokespecial i, 3)) (K : Wk X Q a (es ++ post) (cN + mc) (sN + ms) (pc + 3) lv st) : Wk X Q a (es ++ [.inr (c, dfl c)]) cN sN pc lv st0 := by
  have F' := F
  obtain ⟨hx, hb, hml, hown, hts, -, hK, hrm⟩ := F
  have hrm' : X.1.2.2.2.1 = rm := hrm
  refine k_initX (aa := (Value.ref b :: As).toArray) hb9 (fun H locs ls hP hS hlv => ?_) K
  exact va_runIN (Ts := GT) (n := n) (own := own) (index := i) (host := "WeedStrand") (bytes := bytes) (maxL := mL) ⟨hx, hb, hml, hown, hts⟩ hC ⟨va_cnB n hts f.good rfl hR.1.1 hR.1.2 hlk (hts _ f.2.1) f.2.2.1 (by rw [hrm']; exact hR.2), f.2.2.2.1, hts _ f.2.2.2.2⟩ (preI F' hL hKp hsz hb9 hP hS) rfl hn hlv.1 hst (by show 2 * 0 + _ ≤ 8; omega) hd (by rw [hrm']; exact hcap)
theorem k_vret (F : Fk X cc own rm) (hret : X.1.2.2.2.2.2.2.2.2.1.sig.returnType = none) (hsz : b < (xS X).heap.size) (hes : es = post) (hc : cN = mc) (hs : sN = ms) (hd : decode cc pc = .ok (.return_, 1)) : Wk X (MQ X.1.2.2.2.2.2.2.2.1 (Qn (xG X) b post) X.1.2.2.2.2.2.2.1 (xS X) mc ms (fun q => b ≤ q)) b es cN sN pc lv [] := by
  obtain ⟨hx, hb, hml, hown, hts, hlk, hK, hrm⟩ := F
  subst hes
  subst hc
  subst hs
  intro H locs ls hP hS hlv
  exact W.vret hx hb hret (fun t ht _ => ⟨rfl, by rw [ht]; exact hP, fun q hq => by rw [ht]; exact hS.2.1 q (Nat.lt_trans hq hsz) (Nat.not_le.mpr hq)⟩) hS.2.2 hd hlk
end KS
/-- a constructor's contract out of the walk of its body -/
theorem ctor_of {G : Gx} {l : Launch} {y : MethodName} {cc : ByteArray} {mL : Nat} {rm : Room} {av : List Value} {b c : Nat} {Kp : State → Prop} {post : List va_E} {mc ms : Nat} (hy : plainName y.cls = true) (hn : y.name = "<init>") (hav : (lg_sl av).length ≤ mL)
    (body : ∀ X : Cx, X.1.2.1 = l → xG X = G → xL X = mL → Fk X cc y.cls rm → X.1.2.2.2.2.2.2.2.2.1.name = "<init>" → X.1.2.2.2.2.2.2.2.2.1.sig.returnType = none → Kp (xS X) → b < (xS X).heap.size → Wk X (MQ X.1.2.2.2.2.2.2.2.1 (Qn (xG X) b post) X.1.2.2.2.2.2.2.1 (xS X) mc ms (fun q => b ≤ q)) b [.inr (c, dfl c)] 0 0 0 (lv_args 0 av) []) : Cn G l y cc mL rm av b c Kp post mc ms := by
  refine Met.ofW (cc := cc) (maxL := mL) (ret := none) hy rfl ?_
  intro p e s m args below meth c9 s₁ B hml hv
  obtain ⟨rfl, hP, hK, hKp⟩ := hv
  have hts := atoms_spec (ws := Cond.code y cc mL none :: GT) B.pre
  have hnm : meth.name = "<init>" := (name_of_methodNamed B.named B.method).1.trans hn
  have K := body ((p, l, e, rm, s, m, av.toArray, below, meth, c9), G, (fun _ => True), 0, 0, mL) rfl rfl rfl ⟨B.exec, B.bytes, hml, findClass_of_methodNamed B.named, fun w hw => hts w (List.mem_cons_of_mem _ hw), B.notSynchronized, hK, rfl⟩ hnm B.returns hKp (by show b < s.heap.size; rw [hP.1]; exact Nat.lt_succ_self _)
  have hl := lv_entry av (n := mL) hav
  rw [lg_entry_eq]
  exact K s.heap [] _ hP va_S.rf hl
