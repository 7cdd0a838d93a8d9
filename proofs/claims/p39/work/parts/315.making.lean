-- making objects: cells of a dense block, one behind another
def KK (G : Gx) (U : State) : Prop := va_K G.2.1 vwCl (tys G) U ∧ Nst U ∧ (va_Nw (.methodLinkNest RX7 18 yX1_init "WeedStrand") U ∧ va_Nw (.methodLinkNest RX7 25 yX2_init "WeedStrand") U ∧ va_Nw (.methodLinkNest RX7 32 yX6_init "WeedStrand") U ∧ va_Nw (.methodLinkNest RX7 55 yX5_init "WeedStrand") U ∧ va_Nw (.methodLinkNest RX5 41 yX0_init "WeedStrand") U) ∧ va_AO RX3 U
/-- the block of cells from a on: these, and no more -/
def Ph (G : Gx) (a : Nat) (es : List va_E) (H : Heap) : Prop := H.size = a + es.length ∧ ∀ (i : Nat) (e : va_E), es[i]? = some e → va_at G.2.1 vwCl (a + i, e) H
def Wk (X : Cx) (Q : State → Prop) (a : Nat) (es : List va_E) (cN sN pc : Nat) (lv : List (Nat × Value)) (st : List Value) : Prop :=
  ∀ (H : Heap) (locs : List Loc) (ls : Array Slot), Ph (xG X) a es H → va_S (fun q => a ≤ q) (xS X).heap H locs → lv_has ls (xL X) lv → W X.1.1 X.1.2.1 X.1.2.2.1 X.1.2.2.2.1 X.1.2.2.2.2.1 X.1.2.2.2.2.2.1 X.1.2.2.2.2.2.2.1 X.1.2.2.2.2.2.2.2.1 X.1.2.2.2.2.2.2.2.2.1 X.1.2.2.2.2.2.2.2.2.2 H locs cN sN Q (F0 (xM X) pc ls st)
def Fk (X : Cx) (cc : ByteArray) (own : String) (rm : Room) : Prop :=
  X.1.1.tables.exec = Jvm.exec ∧ X.1.2.2.2.2.2.2.2.2.2.code = cc ∧ X.1.2.2.2.2.2.2.2.2.2.maxLocals = xL X ∧ (xS X).vm.findClass own = some (xM X).cls ∧ (∀ w ∈ GT, w.before X.1.2.2.2.2.2.2.1 (xS X) = true) ∧ X.1.2.2.2.2.2.2.2.2.1.locks = false ∧ KK (xG X) (xS X) ∧ xR X = rm
theorem Ph.lt {G : Gx} {a : Nat} {es : List va_E} {H : Heap} (h : Ph G a es H) {i : Nat} {e : va_E} (hi : es[i]? = some e) : a + i < H.size := by
  rw [h.1]; exact Nat.add_lt_add_left (List.getElem?_eq_some_iff.mp hi).1 _
/-- one more cell -/
theorem Ph.push {G : Gx} {a : Nat} {es : List va_E} {H H1 : Heap} {e : va_E} (h : Ph G a es H) (z : H1.size = H.size + 1) (o : ∀ q, q < H.size → H1[q]? = H[q]?) (he : va_at G.2.1 vwCl (a + es.length, e) H1) : Ph G a (es ++ [e]) H1 := by
  refine ⟨by rw [z, h.1, List.length_append]; rfl, fun i e' hi => ?_⟩
  by_cases hl : i < es.length
  · rw [List.getElem?_append_left hl] at hi
    exact (h.2 i e' hi).kept (o _ (h.lt hi))
  · rw [List.getElem?_append_right (by omega)] at hi
    have hz : i - es.length < 1 := (List.getElem?_eq_some_iff.mp hi).1
    have e0 : i = es.length := by omega
    subst e0
    rw [Nat.sub_self] at hi
    cases hi
    exact he
/-- a cell changed -/
theorem Ph.set {G : Gx} {a j : Nat} {es : List va_E} {H H1 : Heap} {e : va_E} (h : Ph G a es H) (hj : j < es.length) (z : H1.size = H.size) (o : ∀ q, q ≠ a + j → H1[q]? = H[q]?) (he : va_at G.2.1 vwCl (a + j, e) H1) : Ph G a (es.set j e) H1 := by
  refine ⟨by rw [z, h.1, List.length_set], fun i e' hi => ?_⟩
  by_cases hij : j = i
  · subst hij
    rw [List.getElem?_set_self hj] at hi
    cases hi
    exact he
  · rw [List.getElem?_set_ne hij] at hi
    exact (h.2 i e' hi).kept (o _ (by omega))
theorem va_S.psh {a : Nat} {H0 H H1 : Heap} {locs : List Loc} (hS : va_S (fun q => a ≤ q) H0 H locs) (z : H1.size = H.size + 1) (o : ∀ q, q < H.size → H1[q]? = H[q]?) : va_S (fun q => a ≤ q) H0 H1 locs := ⟨Nat.le_trans hS.1 (by omega), fun x h1 h2 => (o x (Nat.lt_of_lt_of_le h1 hS.1)).trans (hS.2.1 x h1 h2), hS.2.2⟩
section KR
variable {X : Cx} {Q : State → Prop} {a b : Nat} {es tl : List va_E} {e0 : va_E} {cN sN : Nat} {cc : ByteArray} {own : String} {rm : Room} {pc : Nat} {lv : List (Nat × Value)} {st : List Value}
theorem Wk_go {pc2 : Nat} {st2 : List Value} (h1 : ∀ H locs ls, lv_has ls (xL X) lv → W X.1.1 X.1.2.1 X.1.2.2.1 X.1.2.2.2.1 X.1.2.2.2.2.1 X.1.2.2.2.2.2.1 X.1.2.2.2.2.2.2.1 X.1.2.2.2.2.2.2.2.1 X.1.2.2.2.2.2.2.2.2.1 X.1.2.2.2.2.2.2.2.2.2 H locs cN sN Q (F0 (xM X) pc2 ls st2) → W X.1.1 X.1.2.1 X.1.2.2.1 X.1.2.2.2.1 X.1.2.2.2.2.1 X.1.2.2.2.2.2.1 X.1.2.2.2.2.2.2.1 X.1.2.2.2.2.2.2.2.1 X.1.2.2.2.2.2.2.2.2.1 X.1.2.2.2.2.2.2.2.2.2 H locs cN sN Q (F0 (xM X) pc ls st)) (K : Wk X Q a es cN sN pc2 lv st2) : Wk X Q a es cN sN pc lv st :=
  fun H locs ls p s l => h1 H locs ls l (K H locs ls p s l)
theorem Wk_st {pc2 : Nat} {st2 : List Value} {lv2 : List (Nat × Value)} (h1 : ∀ H locs ls, lv_has ls (xL X) lv → (∀ ls', lv_has ls' (xL X) lv2 → W X.1.1 X.1.2.1 X.1.2.2.1 X.1.2.2.2.1 X.1.2.2.2.2.1 X.1.2.2.2.2.2.1 X.1.2.2.2.2.2.2.1 X.1.2.2.2.2.2.2.2.1 X.1.2.2.2.2.2.2.2.2.1 X.1.2.2.2.2.2.2.2.2.2 H locs cN sN Q (F0 (xM X) pc2 ls' st2)) → W X.1.1 X.1.2.1 X.1.2.2.1 X.1.2.2.2.1 X.1.2.2.2.2.1 X.1.2.2.2.2.2.1 X.1.2.2.2.2.2.2.1 X.1.2.2.2.2.2.2.2.1 X.1.2.2.2.2.2.2.2.2.1 X.1.2.2.2.2.2.2.2.2.2 H locs cN sN Q (F0 (xM X) pc ls st)) (K : Wk X Q a es cN sN pc2 lv2 st2) : Wk X Q a es cN sN pc lv st :=
  fun H locs ls p s l => h1 H locs ls l fun ls' l' => K H locs ls' p s l'
theorem Wk_pick {lv2 : List (Nat × Value)} (ks : List Nat) (hl : ks.filterMap (fun z => lv[z]?) = lv2) (K : Wk X Q a es cN sN pc lv2 st) : Wk X Q a es cN sN pc lv st := fun H locs ls p s l => K H locs ls p s ⟨l.1, l.2.1, fun q hq => l.2.2 q (by
  rw [← hl] at hq
  obtain ⟨i, -, hi⟩ := List.mem_filterMap.mp hq
  exact List.mem_of_getElem? hi)⟩
theorem k_iconst (F : Fk X cc own rm) {n : Int} {v : Int32} (hd : decode cc pc = .ok (.iconst n, 1)) (hv : Int32.ofInt n = v) (K : Wk X Q a es cN sN (pc + 1) lv (.int v :: st)) : Wk X Q a es cN sN pc lv st := Wk_go (fun _ _ _ _ w => lv_iconst F.1 F.2.1 hd hv w) K
theorem k_bipush (F : Fk X cc own rm) {n : Int} {v : Int32} (hd : decode cc pc = .ok (.bipush n, 2)) (hv : (Int8.ofInt n).toInt32 = v) (K : Wk X Q a es cN sN (pc + 2) lv (.int v :: st)) : Wk X Q a es cN sN pc lv st := Wk_go (fun _ _ _ _ w => lv_bipush F.1 F.2.1 hd hv w) K
theorem k_sipush (F : Fk X cc own rm) {n : Int} {v : Int32} (hd : decode cc pc = .ok (.sipush n, 3)) (hv : (Int16.ofInt n).toInt32 = v) (K : Wk X Q a es cN sN (pc + 3) lv (.int v :: st)) : Wk X Q a es cN sN pc lv st := Wk_go (fun _ _ _ _ w => lv_sipush F.1 F.2.1 hd hv w) K
theorem k_aload_n (F : Fk X cc own rm) {n : Fin 4} {i : Nat} {x : Nat} (z : Nat) (hz : lv[z]? = some (i, .ref x)) (hd : decode cc pc = .ok (.aload_n n, 1)) (hi : (n : Nat) = i) (K : Wk X Q a es cN sN (pc + 1) lv (.ref x :: st)) : Wk X Q a es cN sN pc lv st := Wk_go (fun _ _ _ e w => lv_aload_n F.1 F.2.1 hd hi (lv_at e z hz) w) K
theorem k_iload_n (F : Fk X cc own rm) {n : Fin 4} {i : Nat} {x : Int32} (z : Nat) (hz : lv[z]? = some (i, .int x)) (hd : decode cc pc = .ok (.iload_n n, 1)) (hi : (n : Nat) = i) (K : Wk X Q a es cN sN (pc + 1) lv (.int x :: st)) : Wk X Q a es cN sN pc lv st := Wk_go (fun _ _ _ e w => lv_iload_n F.1 F.2.1 hd hi (lv_at e z hz) w) K
theorem k_iload (F : Fk X cc own rm) {i : Nat} {x : Int32} (z : Nat) (hz : lv[z]? = some (i, .int x)) (hd : decode cc pc = .ok (.iload i, 2)) (K : Wk X Q a es cN sN (pc + 2) lv (.int x :: st)) : Wk X Q a es cN sN pc lv st := Wk_go (fun _ _ _ e w => lv_iload F.1 F.2.1 hd (lv_at e z hz) w) K
theorem k_astore_n (F : Fk X cc own rm) {n : Fin 4} {i : Nat} {x : Nat} (lv2 : List (Nat × Value)) (hl : (i, Value.ref x) :: fil1 i lv = lv2) (hd : decode cc pc = .ok (.astore_n n, 1)) (hi : (n : Nat) = i) (hn : i < xL X) (K : Wk X Q a es cN sN (pc + 1) lv2 st) : Wk X Q a es cN sN pc lv (.ref x :: st) := Wk_st (fun _ _ _ e w => lv_astore_n F.1 F.2.1 hd hi e hn hl w) K
theorem k_istore_n (F : Fk X cc own rm) {n : Fin 4} {i : Nat} {x : Int32} (lv2 : List (Nat × Value)) (hl : (i, Value.int x) :: fil1 i lv = lv2) (hd : decode cc pc = .ok (.istore_n n, 1)) (hi : (n : Nat) = i) (hn : i < xL X) (K : Wk X Q a es cN sN (pc + 1) lv2 st) : Wk X Q a es cN sN pc lv (.int x :: st) := Wk_st (fun _ _ _ e w => lv_istore_n F.1 F.2.1 hd hi e hn hl w) K
theorem k_istore (F : Fk X cc own rm) {i : Nat} {x : Int32} (lv2 : List (Nat × Value)) (hl : (i, Value.int x) :: fil1 i lv = lv2) (hd : decode cc pc = .ok (.istore i, 2)) (hn : i < xL X) (K : Wk X Q a es cN sN (pc + 2) lv2 st) : Wk X Q a es cN sN pc lv (.int x :: st) := Wk_st (fun _ _ _ e w => lv_istore F.1 F.2.1 hd e hn hl w) K
theorem k_iinc (F : Fk X cc own rm) {i : Nat} {n : Int} {x v w : Int32} (z : Nat) (hz : lv[z]? = some (i, .int x)) (hv : Int32.ofInt n = v) (hw : x + v = w) (lv2 : List (Nat × Value)) (hl : (i, Value.int w) :: fil1 i lv = lv2) (hd : decode cc pc = .ok (.iinc i n, 3)) (hn : i < xL X) (K : Wk X Q a es cN sN (pc + 3) lv2 st) : Wk X Q a es cN sN pc lv st :=
  Wk_st (fun _ _ _ e k => lv_iinc F.1 F.2.1 hd e hz (by rw [hv, hw]) hn hl k) K
theorem k_iadd (F : Fk X cc own rm) {x y : Int32} (hd : decode cc pc = .ok (.iadd, 1)) (K : Wk X Q a es cN sN (pc + 1) lv (.int (x + y) :: st)) : Wk X Q a es cN sN pc lv (.int y :: .int x :: st) := Wk_go (fun _ _ _ _ w => lv_iadd F.1 F.2.1 hd w) K
theorem k_isub (F : Fk X cc own rm) {x y : Int32} (hd : decode cc pc = .ok (.isub, 1)) (K : Wk X Q a es cN sN (pc + 1) lv (.int (x - y) :: st)) : Wk X Q a es cN sN pc lv (.int y :: .int x :: st) := Wk_go (fun _ _ _ _ w => lv_isub F.1 F.2.1 hd w) K
theorem k_ior (F : Fk X cc own rm) {x y : Int32} (hd : decode cc pc = .ok (.ior, 1)) (K : Wk X Q a es cN sN (pc + 1) lv (.int (x ||| y) :: st)) : Wk X Q a es cN sN pc lv (.int y :: .int x :: st) := Wk_go (fun _ _ _ _ w => lv_ior F.1 F.2.1 hd w) K
theorem k_ishl (F : Fk X cc own rm) {x y : Int32} (hd : decode cc pc = .ok (.ishl, 1)) (K : Wk X Q a es cN sN (pc + 1) lv (.int (x <<< (y &&& 31)) :: st)) : Wk X Q a es cN sN pc lv (.int y :: .int x :: st) := Wk_go (fun _ _ _ _ w => lv_ishl F.1 F.2.1 hd w) K
theorem k_dup (F : Fk X cc own rm) {v : Value} (hv : v.category = 1) (hd : decode cc pc = .ok (.dup, 1)) (K : Wk X Q a es cN sN (pc + 1) lv (v :: v :: st)) : Wk X Q a es cN sN pc lv (v :: st) := Wk_go (fun _ _ _ _ w => lv_dup F.1 F.2.1 hd hv w) K
theorem k_dup2 (F : Fk X cc own rm) {v u : Value} (hv : v.category = 1) (hu : u.category = 1) (hd : decode cc pc = .ok (.dup2, 1)) (K : Wk X Q a es cN sN (pc + 1) lv (v :: u :: v :: u :: st)) : Wk X Q a es cN sN pc lv (v :: u :: st) := Wk_go (fun _ _ _ _ w => lv_dup2_11 F.1 F.2.1 hd hv hu w) K
theorem k_goto (F : Fk X cc own rm) {off : Int} {tgt : Nat} (hd : decode cc pc = .ok (.goto off, 3)) (ht : (pc : Int) + off = (tgt : Int)) (K : Wk X Q a es cN sN tgt lv st) : Wk X Q a es cN sN pc lv st := Wk_go (fun _ _ _ _ w => lv_goto F.1 F.2.1 hd ht w) K
theorem k_icmpge (F : Fk X cc own rm) {x y : Int32} {off : Int} {tgt : Nat} (hd : decode cc pc = .ok (.if_icmp .ge off, 3)) (ht : (pc : Int) + off = (tgt : Int)) (K1 : y ≤ x → Wk X Q a es cN sN tgt lv st) (K2 : ¬ y ≤ x → Wk X Q a es cN sN (pc + 3) lv st) : Wk X Q a es cN sN pc lv (.int y :: .int x :: st) :=
  fun H locs ls p s l => lv_icmp_ge F.1 F.2.1 hd ht (fun q => K1 q H locs ls p s l) (fun q => K2 q H locs ls p s l)
theorem k_icmpne (F : Fk X cc own rm) {x y : Int32} {off : Int} {tgt : Nat} (hd : decode cc pc = .ok (.if_icmp .ne off, 3)) (ht : (pc : Int) + off = (tgt : Int)) (K1 : ¬ x = y → Wk X Q a es cN sN tgt lv st) (K2 : x = y → Wk X Q a es cN sN (pc + 3) lv st) : Wk X Q a es cN sN pc lv (.int y :: .int x :: st) :=
  fun H locs ls p s l => lv_icmp_ne F.1 F.2.1 hd ht (fun q => K1 q H locs ls p s l) (fun e => K2 e H locs ls p s l)
theorem k_objInit (F : Fk X cc own rm) {idx : Nat} (hw : Cond.methodLink own idx Lib.objectInit ∈ GT ∧ Cond.instanceMethod Lib.objectInit ∈ GT ∧ Cond.code Lib.objectInit ⟨#[0xb1]⟩ 1 none ∈ GT) {x : Nat} (hR : 1 ≤ rm.frames ∧ (st.map fun v => v.category).sum + 12 ≤ rm.locals) (hd : decode cc pc = .ok (.invokespecial idx, 3)) (K : Wk X Q a es cN sN (pc + 3) lv st) : Wk X Q a es cN sN pc lv (.ref x :: st) := by
  obtain ⟨hx, hb, hml, hown, hts, -, -, hrm⟩ := F
  have hrm' : X.1.2.2.2.1 = rm := hrm
  exact Wk_go (pc2 := pc + 3) (st2 := st) (fun H locs ls e w => W.objInit hx hb hown (hts _ hw.1) (hts _ hw.2.1) (hts _ hw.2.2) (g := F0 (xM X) pc ls (.ref x :: st)) rfl (e.1.trans hml.symm) rfl hd (by rw [hrm']; exact hR.1) (by rw [hrm']; show 2 * 0 + _ + 12 ≤ _; omega) w) K
/-- a field of the object that is being made -/
theorem k_put (F : Fk X cc own rm) (hin : X.1.2.2.2.2.2.2.2.2.1.name = "<init>") {i c s : Nat} {kd : Nat × Nat × Nat} (f : FR own i c s kd) (hdecl : (TXf c s).1 = own) {fs : List Value} {v : Value} (hn : narrow (tyf c s) v = v) (hfit : fits (tyf c s) v = true) (hl : s < fs.length) (hd : decode cc pc = .ok (.putfield i, 3)) (K : Wk X Q a (.inr (c, fs.set s v) :: tl) cN sN (pc + 3) lv st) : Wk X Q a (.inr (c, fs) :: tl) cN sN pc lv (v :: .ref a :: st) := by
  obtain ⟨hw, hc, hs, hf⟩ := f
  obtain ⟨hx, hb, hml, hown, hts, -, ⟨hK, -⟩, hrm⟩ := F
  intro H locs ls hP hS hlv
  have hap := va_apart (own := own) hts (cl_ws c hc) (tyf c) (cl_ty c hc) (cl_nm c hc) hK (cl_at c hc)
  obtain ⟨r, h1, cell, q1, q2, q3, q4⟩ := hP.2 0 _ rfl
  have hr : r = (RXf c, TXf c, nf c) := Option.some.inj (h1.symm.trans (cl_at c hc))
  subst hr
  obtain ⟨hSl, hfc, kC, hkC, hkind⟩ := hK.1 c _ (cl_at c hc)
  obtain ⟨cf, kf, fi, fd, hi, hsl⟩ := hSl s hs
  have hlay := hts _ (cl_ws c hc _ (u_in_lay hs))
  have q1' : H[a]? = some cell := q1
  have fin : ∀ H' : Heap, H'[a]? = some (cell.setSlot fd.slot v) → H'.size = H.size → (∀ q, q ≠ a → H'[q]? = H[q]?) → W X.1.1 X.1.2.1 X.1.2.2.1 X.1.2.2.2.1 X.1.2.2.2.2.1 X.1.2.2.2.2.2.1 X.1.2.2.2.2.2.2.1 X.1.2.2.2.2.2.2.2.1 X.1.2.2.2.2.2.2.2.2.1 X.1.2.2.2.2.2.2.2.2.2 H' (locs ++ [⟨a, fd.slot⟩]) cN sN Q (F0 (xM X) (pc + 3) ls st) := by
    intro H' e1 e2 e3
    refine K H' _ ls ?_ (hS.put e2 e3 (Nat.le_refl _)) hlv
    have := hP.set (j := 0) (e := .inr (c, fs.set s v)) (Nat.succ_pos _) e2 e3 ⟨_, cl_at c hc, t_OB.to (V := updV (vp_V fs) s v) ⟨_, e1, q2, q3, by rw [hsl]; exact t_set q4 hap hs v⟩ (fun j _ => vp_updV_set hl v j)⟩
    exact this
  have hst := (u_facts hfc hkC (u_lays hts (cl_ws c hc) hs) hi).1
  by_cases hfin : (TXf c s).2.2.2 = true
  · unfold u_lay at hlay
    rw [if_pos hfin] at hlay
    have hcf : (xM X).cls = cf := by
      obtain ⟨_, _, c', _, _, _, -, -, hf', -, -, -, hown2, -⟩ := Cond.laysFinal_spec hlay
      have e1 : c' = cf := by have := hi.symm.trans hf'; simp at this; exact this.1.symm
      rw [hdecl] at hown2
      rw [← e1]; exact Option.some.inj (hown.symm.trans hown2)
    have h6 := u_fits hfc hkC hkind (Or.inr hlay) hi (cl_ty c hc s hs) hn hfit
    exact W.putFinK hx hb hown (hts _ hw) hi hst hcf hin (by rw [q2]; exact h6) q1' q3 (by rw [hsl]; exact k2_hasslot (q4 s hs)) rfl rfl hd fin
  · unfold u_lay at hlay
    rw [if_neg hfin] at hlay
    have h6 := u_store hfc hkC hkind hlay hi (cl_ty c hc s hs) hn hfit
    exact W.putK hx hb (f := fd) ⟨hown, hts _ hw, ⟨_, _, _, hi⟩, hst⟩ (by rw [q2]; exact h6) q1' q3 (by rw [hsl]; exact k2_hasslot (q4 s hs)) rfl rfl hd fin
/-- a new object -/
def dfl (c : Nat) : List Value := (List.range (nf c)).map fun j => defaultValue (tyf c j)
theorem k_new (F : Fk X cc own rm) {idx c : Nat} (hw : Cond.classLink own idx (RXf c) ∈ GT ∧ Cond.instantiable (RXf c) (nf c) ∈ GT ∧ Cond.initialized (RXf c) ∈ GT) (hc : c < 10) (hcap : cN + 1 ≤ rm.cells ∧ sN + nf c ≤ rm.slots) (hb9 : a + es.length = b) (hd : decode cc pc = .ok (.new idx, 3)) (K : Wk X Q a (es ++ [.inr (c, dfl c)]) (cN + 1) (sN + nf c) (pc + 3) lv (.ref b :: st)) : Wk X Q a es cN sN pc lv st := by
  obtain ⟨hx, hb, hml, hown, hts, -, ⟨hK, -⟩, hrm⟩ := F
  have hrm' : X.1.2.2.2.1 = rm := hrm
  subst hb9
  intro H locs ls hP hS hlv
  have hKn := hK.1 c _ (cl_at c hc)
  refine W.newcK hx hb hown (hts _ hw.1) (hts _ hw.2.1) (hts _ hw.2.2) rfl hd (by rw [hrm']; exact hcap.1) (by rw [hrm']; exact hcap.2) hKn.2.1 hP.1 fun H1 kC hkC e1 z1 o1 => ?_
  rw [← hP.1] at z1 o1
  refine K H1 locs ls (hP.push z1 o1 ⟨_, cl_at c hc, (u_born (tyf c) hts (cl_ws c hc) hKn hkC e1 (cl_ty c hc)).to fun j hj => ?_⟩) (hS.psh z1 o1) hlv
  unfold vp_V dfl
  rw [List.getD_eq_getElem?_getD, List.getElem?_map, List.getElem?_range hj]
  rfl
/-- a new array of ints, of booleans, of longs -/
theorem k_newI (F : Fk X cc own rm) (hw : Cond.arrayClass .int ∈ GT) {n : Int32} {N : Nat} (hn : ¬ n < 0) (hN : n.toNatClampNeg = N) (hbytes : N * componentBytes .int ≤ 536870912) (hcap : cN + 1 ≤ rm.cells ∧ sN + N ≤ rm.slots) (hb9 : a + es.length = b) (hd : decode cc pc = .ok (.newarray .int, 2)) (K : Wk X Q a (es ++ [.inl ((xG X).2.2.1, N, .inl fun _ => 0)]) (cN + 1) (sN + N) (pc + 2) lv (.ref b :: st)) : Wk X Q a es cN sN pc lv (.int n :: st) := by
  obtain ⟨hx, hb, hml, hown, hts, -, ⟨hK, -⟩, hrm⟩ := F
  have hrm' : X.1.2.2.2.1 = rm := hrm
  subst hb9
  intro H locs ls hP hS hlv
  refine va_newaK (atype := .int) hx hb (hts _ hw) rfl hd rfl hn hN hbytes (by rw [hrm']; exact hcap.1) (by rw [hrm']; exact hcap.2) hP.1 fun H1 cA e1 z1 o1 _ hNm => ?_
  rw [← hP.1] at z1 o1
  have hid : cA = (xG X).2.2.1 := Option.some.inj (hNm.symm.trans (hK.2 0 _ rfl).2)
  subst hid
  exact K H1 locs ls (hP.push z1 o1 e1) (hS.psh z1 o1) hlv
theorem k_newZ (F : Fk X cc own rm) (hw : Cond.arrayClass .boolean ∈ GT) {n : Int32} {N : Nat} (hn : ¬ n < 0) (hN : n.toNatClampNeg = N) (hbytes : N * componentBytes .boolean ≤ 536870912) (hcap : cN + 1 ≤ rm.cells ∧ sN + N ≤ rm.slots) (hb9 : a + es.length = b) (hd : decode cc pc = .ok (.newarray .boolean, 2)) (K : Wk X Q a (es ++ [.inl ((xG X).2.2.2.1, N, .inl fun _ => 0)]) (cN + 1) (sN + N) (pc + 2) lv (.ref b :: st)) : Wk X Q a es cN sN pc lv (.int n :: st) := by
  obtain ⟨hx, hb, hml, hown, hts, -, ⟨hK, -⟩, hrm⟩ := F
  have hrm' : X.1.2.2.2.1 = rm := hrm
  subst hb9
  intro H locs ls hP hS hlv
  refine va_newaK (atype := .boolean) hx hb (hts _ hw) rfl hd rfl hn hN hbytes (by rw [hrm']; exact hcap.1) (by rw [hrm']; exact hcap.2) hP.1 fun H1 cA e1 z1 o1 _ hNm => ?_
  rw [← hP.1] at z1 o1
  have hid : cA = (xG X).2.2.2.1 := Option.some.inj (hNm.symm.trans (hK.2 1 _ rfl).2)
  subst hid
  exact K H1 locs ls (hP.push z1 o1 e1) (hS.psh z1 o1) hlv
theorem k_newL (F : Fk X cc own rm) (hw : Cond.arrayClass .long ∈ GT) {n : Int32} {N : Nat} (hn : ¬ n < 0) (hN : n.toNatClampNeg = N) (hbytes : N * componentBytes .long ≤ 536870912) (hcap : cN + 1 ≤ rm.cells ∧ sN + N ≤ rm.slots) (hb9 : a + es.length = b) (hd : decode cc pc = .ok (.newarray .long, 2)) (K : Wk X Q a (es ++ [.inl ((xG X).2.2.2.2.1, N, .inr (.inl fun _ => 0))]) (cN + 1) (sN + N) (pc + 2) lv (.ref b :: st)) : Wk X Q a es cN sN pc lv (.int n :: st) := by
  obtain ⟨hx, hb, hml, hown, hts, -, ⟨hK, -⟩, hrm⟩ := F
  have hrm' : X.1.2.2.2.1 = rm := hrm
  subst hb9
  intro H locs ls hP hS hlv
  refine va_newaK (atype := .long) hx hb (hts _ hw) rfl hd rfl hn hN hbytes (by rw [hrm']; exact hcap.1) (by rw [hrm']; exact hcap.2) hP.1 fun H1 cA e1 z1 o1 _ hNm => ?_
  rw [← hP.1] at z1 o1
  have hid : cA = (xG X).2.2.2.2.1 := Option.some.inj (hNm.symm.trans (hK.2 2 _ rfl).2)
  subst hid
  exact K H1 locs ls (hP.push z1 o1 e1) (hS.psh z1 o1) hlv
/-- a new array of strands -/
theorem k_newS (F : Fk X cc own rm) {idx : Nat} (hw : Cond.classLink own idx RX3 ∈ GT) {n : Int32} {N : Nat} (hn : ¬ n < 0) (hN : n.toNatClampNeg = N) (hbytes : N * 4 ≤ 536870912) (hcap : cN + 1 ≤ rm.cells ∧ sN + N ≤ rm.slots) (hb9 : a + es.length = b) (hd : decode cc pc = .ok (.anewarray idx, 3)) (K : Wk X Q a (es ++ [.inl ((xG X).2.2.2.2.2, N, .inr (.inr (.inr (.inr fun _ => none))))]) (cN + 1) (sN + N) (pc + 3) lv (.ref b :: st)) : Wk X Q a es cN sN pc lv (.int n :: st) := by
  obtain ⟨hx, hb, hml, hown, hts, -, ⟨hK, -, -, hAO⟩, hrm⟩ := F
  have hrm' : X.1.2.2.2.1 = rm := hrm
  subst hb9
  subst hN
  intro H locs ls hP hS hlv
  refine W.anew hx hb hown (hts _ hw) (va_AO.use hAO) rfl hd rfl hn hbytes (by rw [hrm']; exact hcap.1) (by rw [hrm']; exact hcap.2) fun cA kA comp f1 f2 f3 f4 => ?_
  generalize hH1 : H.push ({ cls := cA, slots := Array.replicate n.toNatClampNeg .null, vm := .none } : Cell) = H1
  have z1 : H1.size = H.size + 1 := by rw [← hH1, Array.size_push]
  have e1 : H1[H.size]? = some (arrV cA n.toNatClampNeg (fun _ => .null)) := by rw [← hH1, Array.getElem?_push_size, ← arrV_new]
  have o1 : ∀ q : Nat, q < H.size → H1[q]? = H[q]? := fun q hq => by rw [← hH1, Array.getElem?_push, if_neg (Nat.ne_of_lt hq)]
  obtain ⟨-, -, -, -, -, h4⟩ := (hK.2 3 _ rfl).2
  have hid : cA = (xG X).2.2.2.2.2 := Option.some.inj (f1.symm.trans h4)
  subst hid
  rw [hP.1] at e1
  have K' := K H1 locs ls (hP.push z1 o1 (by show H1[_]? = some (vp_cell _ _); rw [vp_cell_q]; exact e1)) (hS.psh z1 o1) hlv
  rw [← hP.1] at K'
  exact K'
end KR
