-- cells told one by one: the JDK's own methods over a builder
/-- what those methods need of the machine: the classes, a text of the tables, the digits -/
def JK (G : Gx) (sg : SGt) (dg : Nat × Nat) (U : State) : Prop := va_K G.2.1 vwCl (tys G) U ∧ (va_Nw (.castable "[B" "java/lang/Cloneable") U ∧ Nst U) ∧ SKt sg U ∧ (va_Z RJ6 "DigitOnes" "[B" (.ref dg.1) sg.2.2.1 U U.heap ∧ va_T .byte dg.1 100 (fun j => .int (nI (48 + j % 10))) sg.2.2.1 U U.heap) ∧ va_Z RJ6 "DigitTens" "[B" (.ref dg.2) sg.2.2.1 U U.heap ∧ va_T .byte dg.2 100 (fun j => .int (nI (48 + j / 10))) sg.2.2.1 U U.heap
theorem JK.calls {G : Gx} {sg : SGt} {dg : Nat × Nat} {U : State} {g : JFrame} {mk : MethodId} {a : Array Value} (k : JK G sg dg U) : JK G sg dg (U.calling g mk a) := by
  obtain ⟨k1, k2, k3, ⟨k4, k5⟩, k6, k7⟩ := k
  exact ⟨va_K.moved (u := U) (U := U.calling g mk a) (Vm.Alike.refl U.vm) k1, ⟨va_Nw.same (u := U) rfl rfl k2.1, va_Nw.same (u := U) rfl rfl k2.2⟩, k3.calls, ⟨va_Z.moved (u := U) (U := U.calling g mk a) (Vm.Alike.refl U.vm) k4, va_T.moved (u := U) (U := U.calling g mk a) (Vm.Alike.refl U.vm) k5⟩, va_Z.moved (u := U) (U := U.calling g mk a) (Vm.Alike.refl U.vm) k6, va_T.moved (u := U) (U := U.calling g mk a) (Vm.Alike.refl U.vm) k7⟩
theorem JK.keeps {G : Gx} {sg : SGt} {dg : Nat × Nat} {s U : State} (k : JK G sg dg s) (hW : s.WarmedH U.vm) (o : ∀ q : Nat, q < s.heap.size → ¬ sg.2.2.1 q → U.heap[q]? = s.heap[q]?) : JK G sg dg U := by
  obtain ⟨k1, k2, k3, ⟨k4, k5⟩, k6, k7⟩ := k
  exact ⟨va_K.moved hW.alike k1, ⟨va_Nw.warmC hW k2.1, va_Nw.warmM hW k2.2⟩, k3.keeps hW o, ⟨va_Z.moved hW.alike (k4.kept o), va_T.moved hW.alike (k5.kept o)⟩, va_Z.moved hW.alike (k6.kept o), va_T.moved hW.alike (k7.kept o)⟩
def Wj (X : Cx) (Q : State → Prop) (ws : va_W) (cN sN pc : Nat) (lv : List (Nat × Value)) (st : List Value) : Prop :=
  ∀ (H : Heap) (locs : List Loc) (ls : Array Slot), va_P (xG X).2.1 vwCl ws H → va_D (xA X) ws → va_S (xA X) (xS X).heap H locs → lv_has ls (xL X) lv → W X.1.1 X.1.2.1 X.1.2.2.1 X.1.2.2.2.1 X.1.2.2.2.2.1 X.1.2.2.2.2.2.1 X.1.2.2.2.2.2.2.1 X.1.2.2.2.2.2.2.2.1 X.1.2.2.2.2.2.2.2.2.1 X.1.2.2.2.2.2.2.2.2.2 H locs cN sN Q (F0 (xM X) pc ls st)
def Fw (ws : va_W) (q : Nat) : Prop := ∃ p ∈ ws, p.1 = q
/-- the machine, the code, the words; what may be changed: the cells ws0 and all that is made -/
def Fj (X : Cx) (cc : ByteArray) (own : String) (ret : Option FieldType) (rm : Room) (sg : SGt) (dg : Nat × Nat) (ws0 : va_W) : Prop :=
  X.1.1.tables.exec = Jvm.exec ∧ X.1.2.2.2.2.2.2.2.2.2.code = cc ∧ X.1.2.2.2.2.2.2.2.2.2.maxLocals = xL X ∧ (xS X).vm.findClass own = some (xM X).cls ∧ (∀ w ∈ GT, w.before X.1.2.2.2.2.2.2.1 (xS X) = true) ∧ X.1.2.2.2.2.2.2.2.2.1.locks = false ∧ X.1.2.2.2.2.2.2.2.2.1.sig.returnType = ret ∧ JK (xG X) sg dg (xS X) ∧ xR X = rm ∧ (xA X = fun q => Fw ws0 q ∨ (xS X).heap.size ≤ q) ∧ (∀ p ∈ ws0, sg.2.2.1 p.1) ∧ ∀ q, (xS X).heap.size ≤ q → sg.2.2.1 q
/-- a contract: the cells ws as they lie, so many cells in all; an answer and the cells behind it; nothing else is changed -/
def Jc (G : Gx) (l : Launch) (y : MethodName) (cc : ByteArray) (mL : Nat) (ret : Option FieldType) (rm : Room) (av : List Value) (sg : SGt) (dg : Nat × Nat) (n : Nat) (ws : va_W) (Post : Option Value → va_W → Prop) (mc ms : Nat) : Prop :=
  Met l y (.code y cc mL ret :: GT) rm (va_Pc av (fun U => JK G sg dg U ∧ U.heap.size = n ∧ va_P G.2.1 vwCl ws U.heap)) (fun _ st ot t => ∃ r ws', ot = .returned r ∧ Post r ws' ∧ va_P G.2.1 vwCl ws' t.heap ∧ va_D (fun q => Fw ws q ∨ n ≤ q) ws' ∧ va_F (Fw ws) st t) mc ms (fun q => Fw ws q ∨ n ≤ q)
theorem D_cut {A : Nat → Prop} {wc ws : va_W} (ks : List Nat) (hn : ks.Nodup) (hl : ks.filterMap (fun z => wc[z]?) = ws) (hlen : ws.length = ks.length) (d : va_D A wc) : va_D A ws := by
  have hmem : ∀ q ∈ ws, q ∈ wc := fun q hq => by
    rw [← hl] at hq
    obtain ⟨i, -, hi⟩ := List.mem_filterMap.mp hq
    exact List.mem_of_getElem? hi
  have hall : ∀ i ∈ ks, ∃ q, wc[i]? = some q := by
    intro i hi
    cases hz : wc[i]? with
    | some q => exact ⟨q, rfl⟩
    | none =>
      exfalso
      have : (ks.filterMap (fun z => wc[z]?)).length < ks.length := by
        clear hn hlen hmem hl
        induction ks with
        | nil => cases hi
        | cons k ks ih =>
          rcases List.mem_cons.mp hi with e | e
          · subst e
            rw [List.filterMap_cons, hz]
            exact Nat.lt_succ_of_le (List.length_filterMap_le _ _)
          · have := ih e
            rw [List.filterMap_cons]
            split
            · show _ < ks.length + 1; omega
            · show _ + 1 < ks.length + 1; omega
      rw [hl] at this; omega
  have hat : ∀ (ks : List Nat), (∀ i ∈ ks, ∃ q, wc[i]? = some q) → ∀ j i : Nat, ks[j]? = some i → (ks.filterMap (fun z => wc[z]?))[j]? = wc[i]? := by
    intro ks
    induction ks with
    | nil => intro _ j i h; simp at h
    | cons k ks ih =>
      intro ha j i hj
      obtain ⟨q, hq⟩ := ha k List.mem_cons_self
      rw [List.filterMap_cons, hq]
      cases j with
      | zero => simp at hj; subst hj; simpa using hq.symm
      | succ j => simp at hj; simpa using ih (fun i hi => ha i (List.mem_cons_of_mem _ hi)) j i hj
  refine ⟨fun i j x y hi hj e => ?_, fun k q hk => ?_⟩
  · have hik : i < ks.length := by rw [← hlen]; exact (List.getElem?_eq_some_iff.mp hi).1
    have hjk : j < ks.length := by rw [← hlen]; exact (List.getElem?_eq_some_iff.mp hj).1
    have ei := hat ks hall i ks[i] (List.getElem?_eq_getElem hik)
    have ej := hat ks hall j ks[j] (List.getElem?_eq_getElem hjk)
    rw [hl] at ei ej
    have := d.1 ks[i] ks[j] x y (ei ▸ hi) (ej ▸ hj) e
    exact (List.getElem?_inj hik hn).mp (by rw [List.getElem?_eq_getElem hik, List.getElem?_eq_getElem hjk, this])
  · obtain ⟨i, hi⟩ := List.getElem?_of_mem (hmem q (List.mem_of_getElem? hk))
    exact d.2 i q hi
theorem byt_fit {n : Nat} (hn : n < 128) : fits .byte (.int (nI n)) = true := (show ∀ n : Fin 128, fits .byte (.int (nI n)) = true by decide +kernel) ⟨n, hn⟩
theorem Fj.sub {X : Cx} {cc : ByteArray} {own : String} {ret : Option FieldType} {rm : Room} {sg : SGt} {dg : Nat × Nat} {ws0 : va_W} (F : Fj X cc own ret rm sg dg ws0) : ∀ q, xA X q → sg.2.2.1 q := by
  obtain ⟨-, -, -, -, -, -, -, -, -, hA, h2, h3⟩ := F
  intro q hq
  rw [hA] at hq
  rcases hq with ⟨p, hp, rfl⟩ | hq
  · exact h2 p hp
  · exact h3 _ hq
section JR
variable {X : Cx} {Q : State → Prop} {ws ws0 : va_W} {sg : SGt} {dg : Nat × Nat} {cN sN : Nat} {cc : ByteArray} {own : String} {ret : Option FieldType} {rm : Room} {pc : Nat} {lv : List (Nat × Value)} {st : List Value}
theorem Wj_go {pc2 : Nat} {st2 : List Value} (h1 : ∀ H locs ls, lv_has ls (xL X) lv → W X.1.1 X.1.2.1 X.1.2.2.1 X.1.2.2.2.1 X.1.2.2.2.2.1 X.1.2.2.2.2.2.1 X.1.2.2.2.2.2.2.1 X.1.2.2.2.2.2.2.2.1 X.1.2.2.2.2.2.2.2.2.1 X.1.2.2.2.2.2.2.2.2.2 H locs cN sN Q (F0 (xM X) pc2 ls st2) → W X.1.1 X.1.2.1 X.1.2.2.1 X.1.2.2.2.1 X.1.2.2.2.2.1 X.1.2.2.2.2.2.1 X.1.2.2.2.2.2.2.1 X.1.2.2.2.2.2.2.2.1 X.1.2.2.2.2.2.2.2.2.1 X.1.2.2.2.2.2.2.2.2.2 H locs cN sN Q (F0 (xM X) pc ls st)) (K : Wj X Q ws cN sN pc2 lv st2) : Wj X Q ws cN sN pc lv st :=
  fun H locs ls p d s l => h1 H locs ls l (K H locs ls p d s l)
theorem Wj_st {pc2 : Nat} {st2 : List Value} {lv2 : List (Nat × Value)} (h1 : ∀ H locs ls, lv_has ls (xL X) lv → (∀ ls', lv_has ls' (xL X) lv2 → W X.1.1 X.1.2.1 X.1.2.2.1 X.1.2.2.2.1 X.1.2.2.2.2.1 X.1.2.2.2.2.2.1 X.1.2.2.2.2.2.2.1 X.1.2.2.2.2.2.2.2.1 X.1.2.2.2.2.2.2.2.2.1 X.1.2.2.2.2.2.2.2.2.2 H locs cN sN Q (F0 (xM X) pc2 ls' st2)) → W X.1.1 X.1.2.1 X.1.2.2.1 X.1.2.2.2.1 X.1.2.2.2.2.1 X.1.2.2.2.2.2.1 X.1.2.2.2.2.2.2.1 X.1.2.2.2.2.2.2.2.1 X.1.2.2.2.2.2.2.2.2.1 X.1.2.2.2.2.2.2.2.2.2 H locs cN sN Q (F0 (xM X) pc ls st)) (K : Wj X Q ws cN sN pc2 lv2 st2) : Wj X Q ws cN sN pc lv st :=
  fun H locs ls p d s l => h1 H locs ls l fun ls' l' => K H locs ls' p d s l'
theorem Wj_pick {lv2 : List (Nat × Value)} (ks : List Nat) (hl : ks.filterMap (fun z => lv[z]?) = lv2) (K : Wj X Q ws cN sN pc lv2 st) : Wj X Q ws cN sN pc lv st := fun H locs ls p d s l => K H locs ls p d s ⟨l.1, l.2.1, fun q hq => l.2.2 q (by
  rw [← hl] at hq
  obtain ⟨i, -, hi⟩ := List.mem_filterMap.mp hq
  exact List.mem_of_getElem? hi)⟩
/-- other cells in their place, by their places -/
theorem Wj_cut {ws2 : va_W} (ks : List Nat) (hn : ks.Nodup) (hl : ks.filterMap (fun z => ws[z]?) = ws2) (hlen : ws2.length = ks.length) (K : Wj X Q ws2 cN sN pc lv st) : Wj X Q ws cN sN pc lv st := fun H locs ls p d s l =>
  K H locs ls (fun k q hk => by
    have hm : q ∈ ws2 := List.mem_of_getElem? hk
    rw [← hl] at hm
    obtain ⟨i, -, hi⟩ := List.mem_filterMap.mp hm
    exact p i q hi) (D_cut ks hn hl hlen d) s l
theorem j_iconst (F : Fj X cc own ret rm sg dg ws0) {n : Int} {v : Int32} (hd : decode cc pc = .ok (.iconst n, 1)) (hv : Int32.ofInt n = v) (K : Wj X Q ws cN sN (pc + 1) lv (.int v :: st)) : Wj X Q ws cN sN pc lv (st) := Wj_go (pc2 := pc + 1) (st2 := .int v :: st) (fun _ _ _ e w => lv_iconst F.1 F.2.1 hd hv w) K
theorem j_bipush (F : Fj X cc own ret rm sg dg ws0) {n : Int} {v : Int32} (hd : decode cc pc = .ok (.bipush n, 2)) (hv : (Int8.ofInt n).toInt32 = v) (K : Wj X Q ws cN sN (pc + 2) lv (.int v :: st)) : Wj X Q ws cN sN pc lv (st) := Wj_go (pc2 := pc + 2) (st2 := .int v :: st) (fun _ _ _ e w => lv_bipush F.1 F.2.1 hd hv w) K
theorem j_sipush (F : Fj X cc own ret rm sg dg ws0) {n : Int} {v : Int32} (hd : decode cc pc = .ok (.sipush n, 3)) (hv : (Int16.ofInt n).toInt32 = v) (K : Wj X Q ws cN sN (pc + 3) lv (.int v :: st)) : Wj X Q ws cN sN pc lv (st) := Wj_go (pc2 := pc + 3) (st2 := .int v :: st) (fun _ _ _ e w => lv_sipush F.1 F.2.1 hd hv w) K
theorem j_ldc (F : Fj X cc own ret rm sg dg ws0) {i : Nat} {v : Int32} (hw : Cond.constant own i v ∈ GT) (hd : decode cc pc = .ok (.ldc i, 2)) (K : Wj X Q ws cN sN (pc + 2) lv (.int v :: st)) : Wj X Q ws cN sN pc lv (st) := Wj_go (pc2 := pc + 2) (st2 := .int v :: st) (fun _ _ _ e w => lv_ldc F.1 F.2.1 F.2.2.2.1 (F.2.2.2.2.1 _ hw) hd w) K
theorem j_aload_n (F : Fj X cc own ret rm sg dg ws0) {n : Fin 4} {i : Nat} {x : Nat} (z : Nat) (hz : lv[z]? = some (i, .ref x)) (hd : decode cc pc = .ok (.aload_n n, 1)) (hi : (n : Nat) = i) (K : Wj X Q ws cN sN (pc + 1) lv (.ref x :: st)) : Wj X Q ws cN sN pc lv (st) := Wj_go (pc2 := pc + 1) (st2 := .ref x :: st) (fun _ _ _ e w => lv_aload_n F.1 F.2.1 hd hi (lv_at e z hz) w) K
theorem j_aload (F : Fj X cc own ret rm sg dg ws0) {i : Nat} {x : Nat} (z : Nat) (hz : lv[z]? = some (i, .ref x)) (hd : decode cc pc = .ok (.aload i, 2)) (K : Wj X Q ws cN sN (pc + 2) lv (.ref x :: st)) : Wj X Q ws cN sN pc lv (st) := Wj_go (pc2 := pc + 2) (st2 := .ref x :: st) (fun _ _ _ e w => lv_aload F.1 F.2.1 hd (lv_at e z hz) w) K
theorem j_iload_n (F : Fj X cc own ret rm sg dg ws0) {n : Fin 4} {i : Nat} {x : Int32} (z : Nat) (hz : lv[z]? = some (i, .int x)) (hd : decode cc pc = .ok (.iload_n n, 1)) (hi : (n : Nat) = i) (K : Wj X Q ws cN sN (pc + 1) lv (.int x :: st)) : Wj X Q ws cN sN pc lv (st) := Wj_go (pc2 := pc + 1) (st2 := .int x :: st) (fun _ _ _ e w => lv_iload_n F.1 F.2.1 hd hi (lv_at e z hz) w) K
theorem j_iload (F : Fj X cc own ret rm sg dg ws0) {i : Nat} {x : Int32} (z : Nat) (hz : lv[z]? = some (i, .int x)) (hd : decode cc pc = .ok (.iload i, 2)) (K : Wj X Q ws cN sN (pc + 2) lv (.int x :: st)) : Wj X Q ws cN sN pc lv (st) := Wj_go (pc2 := pc + 2) (st2 := .int x :: st) (fun _ _ _ e w => lv_iload F.1 F.2.1 hd (lv_at e z hz) w) K
theorem j_iadd (F : Fj X cc own ret rm sg dg ws0) {x y z : Int32} (hd : decode cc pc = .ok (.iadd, 1)) (hz : x + y = z) (K : Wj X Q ws cN sN (pc + 1) lv (.int z :: st)) : Wj X Q ws cN sN pc lv (.int y :: .int x :: st) := Wj_go (pc2 := pc + 1) (st2 := .int z :: st) (fun _ _ _ e w => lv_iadd F.1 F.2.1 hd (hz ▸ w)) K
theorem j_isub (F : Fj X cc own ret rm sg dg ws0) {x y z : Int32} (hd : decode cc pc = .ok (.isub, 1)) (hz : x - y = z) (K : Wj X Q ws cN sN (pc + 1) lv (.int z :: st)) : Wj X Q ws cN sN pc lv (.int y :: .int x :: st) := Wj_go (pc2 := pc + 1) (st2 := .int z :: st) (fun _ _ _ e w => lv_isub F.1 F.2.1 hd (hz ▸ w)) K
theorem j_imul (F : Fj X cc own ret rm sg dg ws0) {x y z : Int32} (hd : decode cc pc = .ok (.imul, 1)) (hz : x * y = z) (K : Wj X Q ws cN sN (pc + 1) lv (.int z :: st)) : Wj X Q ws cN sN pc lv (.int y :: .int x :: st) := Wj_go (pc2 := pc + 1) (st2 := .int z :: st) (fun _ _ _ e w => lv_imul F.1 F.2.1 hd (hz ▸ w)) K
theorem j_idiv (F : Fj X cc own ret rm sg dg ws0) {x y z : Int32} (hd : decode cc pc = .ok (.idiv, 1)) (hy : ¬ y = 0) (hz : x / y = z) (K : Wj X Q ws cN sN (pc + 1) lv (.int z :: st)) : Wj X Q ws cN sN pc lv (.int y :: .int x :: st) := Wj_go (pc2 := pc + 1) (st2 := .int z :: st) (fun _ _ _ e w => lv_idiv F.1 F.2.1 hd hy (hz ▸ w)) K
theorem j_ineg (F : Fj X cc own ret rm sg dg ws0) {x z : Int32} (hd : decode cc pc = .ok (.ineg, 1)) (hz : -x = z) (K : Wj X Q ws cN sN (pc + 1) lv (.int z :: st)) : Wj X Q ws cN sN pc lv (.int x :: st) := Wj_go (pc2 := pc + 1) (st2 := .int z :: st) (fun _ _ _ e w => lv_ineg F.1 F.2.1 hd (hz ▸ w)) K
theorem j_ishl (F : Fj X cc own ret rm sg dg ws0) {x y z : Int32} (hd : decode cc pc = .ok (.ishl, 1)) (hz : x <<< (y &&& 31) = z) (K : Wj X Q ws cN sN (pc + 1) lv (.int z :: st)) : Wj X Q ws cN sN pc lv (.int y :: .int x :: st) := Wj_go (pc2 := pc + 1) (st2 := .int z :: st) (fun _ _ _ e w => lv_ishl F.1 F.2.1 hd (hz ▸ w)) K
theorem j_ishr (F : Fj X cc own ret rm sg dg ws0) {x y z : Int32} (hd : decode cc pc = .ok (.ishr, 1)) (hz : x >>> (y &&& 31) = z) (K : Wj X Q ws cN sN (pc + 1) lv (.int z :: st)) : Wj X Q ws cN sN pc lv (.int y :: .int x :: st) := Wj_go (pc2 := pc + 1) (st2 := .int z :: st) (fun _ _ _ e w => lv_ishr F.1 F.2.1 hd (hz ▸ w)) K
theorem j_iand (F : Fj X cc own ret rm sg dg ws0) {x y z : Int32} (hd : decode cc pc = .ok (.iand, 1)) (hz : x &&& y = z) (K : Wj X Q ws cN sN (pc + 1) lv (.int z :: st)) : Wj X Q ws cN sN pc lv (.int y :: .int x :: st) := Wj_go (pc2 := pc + 1) (st2 := .int z :: st) (fun _ _ _ e w => lv_iand F.1 F.2.1 hd (hz ▸ w)) K
theorem j_dup (F : Fj X cc own ret rm sg dg ws0) {v : Value} (hv : v.category = 1) (hd : decode cc pc = .ok (.dup, 1)) (K : Wj X Q ws cN sN (pc + 1) lv (v :: v :: st)) : Wj X Q ws cN sN pc lv (v :: st) := Wj_go (pc2 := pc + 1) (st2 := v :: v :: st) (fun _ _ _ e w => lv_dup F.1 F.2.1 hd hv w) K
theorem j_pop (F : Fj X cc own ret rm sg dg ws0) {v : Value} (hv : v.category = 1) (hd : decode cc pc = .ok (.pop, 1)) (K : Wj X Q ws cN sN (pc + 1) lv (st)) : Wj X Q ws cN sN pc lv (v :: st) := Wj_go (pc2 := pc + 1) (st2 := st) (fun _ _ _ e w => lv_pop F.1 F.2.1 hd hv w) K
theorem j_ifnonnull (F : Fj X cc own ret rm sg dg ws0) {x : Nat} {off : Int} {tgt : Nat} (hd : decode cc pc = .ok (.ifnonnull off, 3)) (ht : (pc : Int) + off = (tgt : Int)) (K : Wj X Q ws cN sN tgt lv (st)) : Wj X Q ws cN sN pc lv (.ref x :: st) := Wj_go (pc2 := tgt) (st2 := st) (fun _ _ _ e w => lv_ifnonnull F.1 F.2.1 hd ht w) K
theorem j_goto (F : Fj X cc own ret rm sg dg ws0) {off : Int} {tgt : Nat} (hd : decode cc pc = .ok (.goto off, 3)) (ht : (pc : Int) + off = (tgt : Int)) (K : Wj X Q ws cN sN tgt lv (st)) : Wj X Q ws cN sN pc lv (st) := Wj_go (pc2 := tgt) (st2 := st) (fun _ _ _ e w => lv_goto F.1 F.2.1 hd ht w) K
theorem j_istore_n (F : Fj X cc own ret rm sg dg ws0) {n : Fin 4} {i : Nat} {x : Int32} (lv2 : List (Nat × Value)) (hl : (i, Value.int x) :: fil1 i lv = lv2) (hd : decode cc pc = .ok (.istore_n n, 1)) (hi : (n : Nat) = i) (hn : i < xL X) (K : Wj X Q ws cN sN (pc + 1) lv2 st) : Wj X Q ws cN sN pc lv (.int x :: st) := Wj_st (fun _ _ _ e w => lv_istore_n F.1 F.2.1 hd hi e hn hl w) K
theorem j_istore (F : Fj X cc own ret rm sg dg ws0) {i : Nat} {x : Int32} (lv2 : List (Nat × Value)) (hl : (i, Value.int x) :: fil1 i lv = lv2) (hd : decode cc pc = .ok (.istore i, 2)) (hn : i < xL X) (K : Wj X Q ws cN sN (pc + 2) lv2 st) : Wj X Q ws cN sN pc lv (.int x :: st) := Wj_st (fun _ _ _ e w => lv_istore F.1 F.2.1 hd e hn hl w) K
theorem j_astore_n (F : Fj X cc own ret rm sg dg ws0) {n : Fin 4} {i : Nat} {x : Nat} (lv2 : List (Nat × Value)) (hl : (i, Value.ref x) :: fil1 i lv = lv2) (hd : decode cc pc = .ok (.astore_n n, 1)) (hi : (n : Nat) = i) (hn : i < xL X) (K : Wj X Q ws cN sN (pc + 1) lv2 st) : Wj X Q ws cN sN pc lv (.ref x :: st) := Wj_st (fun _ _ _ e w => lv_astore_n F.1 F.2.1 hd hi e hn hl w) K
theorem j_astore (F : Fj X cc own ret rm sg dg ws0) {i : Nat} {x : Nat} (lv2 : List (Nat × Value)) (hl : (i, Value.ref x) :: fil1 i lv = lv2) (hd : decode cc pc = .ok (.astore i, 2)) (hn : i < xL X) (K : Wj X Q ws cN sN (pc + 2) lv2 st) : Wj X Q ws cN sN pc lv (.ref x :: st) := Wj_st (fun _ _ _ e w => lv_astore F.1 F.2.1 hd e hn hl w) K
theorem j_iinc (F : Fj X cc own ret rm sg dg ws0) {i : Nat} {n : Int} {x w : Int32} (z : Nat) (hz : lv[z]? = some (i, .int x)) (hw : x + Int32.ofInt n = w) (lv2 : List (Nat × Value)) (hl : (i, Value.int w) :: fil1 i lv = lv2) (hd : decode cc pc = .ok (.iinc i n, 3)) (hn : i < xL X) (K : Wj X Q ws cN sN (pc + 3) lv2 st) : Wj X Q ws cN sN pc lv st :=
  Wj_st (fun _ _ _ e k => lv_iinc F.1 F.2.1 hd e hz hw hn hl k) K
theorem j_ifeq (F : Fj X cc own ret rm sg dg ws0) {x : Int32} {off : Int} {tgt : Nat} (hd : decode cc pc = .ok (.ifCond .eq off, 3)) (ht : (pc : Int) + off = (tgt : Int)) (K1 : x = 0 → Wj X Q ws cN sN tgt lv st) (K2 : ¬ (x = 0) → Wj X Q ws cN sN (pc + 3) lv st) : Wj X Q ws cN sN pc lv (.int x :: st) :=
  fun H locs ls p d s l => lv_if_eq F.1 F.2.1 hd ht (fun q => K1 q H locs ls p d s l) (fun q => K2 q H locs ls p d s l)
theorem j_ifne (F : Fj X cc own ret rm sg dg ws0) {x : Int32} {off : Int} {tgt : Nat} (hd : decode cc pc = .ok (.ifCond .ne off, 3)) (ht : (pc : Int) + off = (tgt : Int)) (K1 : ¬ x = 0 → Wj X Q ws cN sN tgt lv st) (K2 : ¬ (¬ x = 0) → Wj X Q ws cN sN (pc + 3) lv st) : Wj X Q ws cN sN pc lv (.int x :: st) :=
  fun H locs ls p d s l => lv_if_ne F.1 F.2.1 hd ht (fun q => K1 q H locs ls p d s l) (fun q => K2 (fun n => n q) H locs ls p d s l)
theorem j_iflt (F : Fj X cc own ret rm sg dg ws0) {x : Int32} {off : Int} {tgt : Nat} (hd : decode cc pc = .ok (.ifCond .lt off, 3)) (ht : (pc : Int) + off = (tgt : Int)) (K1 : x < 0 → Wj X Q ws cN sN tgt lv st) (K2 : ¬ (x < 0) → Wj X Q ws cN sN (pc + 3) lv st) : Wj X Q ws cN sN pc lv (.int x :: st) :=
  fun H locs ls p d s l => lv_if_lt F.1 F.2.1 hd ht (fun q => K1 q H locs ls p d s l) (fun q => K2 q H locs ls p d s l)
theorem j_ifge (F : Fj X cc own ret rm sg dg ws0) {x : Int32} {off : Int} {tgt : Nat} (hd : decode cc pc = .ok (.ifCond .ge off, 3)) (ht : (pc : Int) + off = (tgt : Int)) (K1 : 0 ≤ x → Wj X Q ws cN sN tgt lv st) (K2 : ¬ (0 ≤ x) → Wj X Q ws cN sN (pc + 3) lv st) : Wj X Q ws cN sN pc lv (.int x :: st) :=
  fun H locs ls p d s l => lv_if_ge F.1 F.2.1 hd ht (fun q => K1 q H locs ls p d s l) (fun q => K2 q H locs ls p d s l)
theorem j_ifgt (F : Fj X cc own ret rm sg dg ws0) {x : Int32} {off : Int} {tgt : Nat} (hd : decode cc pc = .ok (.ifCond .gt off, 3)) (ht : (pc : Int) + off = (tgt : Int)) (K1 : 0 < x → Wj X Q ws cN sN tgt lv st) (K2 : ¬ (0 < x) → Wj X Q ws cN sN (pc + 3) lv st) : Wj X Q ws cN sN pc lv (.int x :: st) :=
  fun H locs ls p d s l => lv_if_gt F.1 F.2.1 hd ht (fun q => K1 q H locs ls p d s l) (fun q => K2 q H locs ls p d s l)
theorem j_ifle (F : Fj X cc own ret rm sg dg ws0) {x : Int32} {off : Int} {tgt : Nat} (hd : decode cc pc = .ok (.ifCond .le off, 3)) (ht : (pc : Int) + off = (tgt : Int)) (K1 : x ≤ 0 → Wj X Q ws cN sN tgt lv st) (K2 : ¬ (x ≤ 0) → Wj X Q ws cN sN (pc + 3) lv st) : Wj X Q ws cN sN pc lv (.int x :: st) :=
  fun H locs ls p d s l => lv_if_le F.1 F.2.1 hd ht (fun q => K1 q H locs ls p d s l) (fun q => K2 q H locs ls p d s l)
theorem j_icmpeq (F : Fj X cc own ret rm sg dg ws0) {x y : Int32} {off : Int} {tgt : Nat} (hd : decode cc pc = .ok (.if_icmp .eq off, 3)) (ht : (pc : Int) + off = (tgt : Int)) (K1 : x = y → Wj X Q ws cN sN tgt lv st) (K2 : ¬ (x = y) → Wj X Q ws cN sN (pc + 3) lv st) : Wj X Q ws cN sN pc lv (.int y :: .int x :: st) :=
  fun H locs ls p d s l => lv_icmp_eq F.1 F.2.1 hd ht (fun q => K1 q H locs ls p d s l) (fun q => K2 q H locs ls p d s l)
theorem j_icmpne (F : Fj X cc own ret rm sg dg ws0) {x y : Int32} {off : Int} {tgt : Nat} (hd : decode cc pc = .ok (.if_icmp .ne off, 3)) (ht : (pc : Int) + off = (tgt : Int)) (K1 : ¬ x = y → Wj X Q ws cN sN tgt lv st) (K2 : ¬ (¬ x = y) → Wj X Q ws cN sN (pc + 3) lv st) : Wj X Q ws cN sN pc lv (.int y :: .int x :: st) :=
  fun H locs ls p d s l => lv_icmp_ne F.1 F.2.1 hd ht (fun q => K1 q H locs ls p d s l) (fun q => K2 (fun n => n q) H locs ls p d s l)
theorem j_icmplt (F : Fj X cc own ret rm sg dg ws0) {x y : Int32} {off : Int} {tgt : Nat} (hd : decode cc pc = .ok (.if_icmp .lt off, 3)) (ht : (pc : Int) + off = (tgt : Int)) (K1 : x < y → Wj X Q ws cN sN tgt lv st) (K2 : ¬ (x < y) → Wj X Q ws cN sN (pc + 3) lv st) : Wj X Q ws cN sN pc lv (.int y :: .int x :: st) :=
  fun H locs ls p d s l => lv_icmp_lt F.1 F.2.1 hd ht (fun q => K1 q H locs ls p d s l) (fun q => K2 q H locs ls p d s l)
theorem j_icmpge (F : Fj X cc own ret rm sg dg ws0) {x y : Int32} {off : Int} {tgt : Nat} (hd : decode cc pc = .ok (.if_icmp .ge off, 3)) (ht : (pc : Int) + off = (tgt : Int)) (K1 : y ≤ x → Wj X Q ws cN sN tgt lv st) (K2 : ¬ (y ≤ x) → Wj X Q ws cN sN (pc + 3) lv st) : Wj X Q ws cN sN pc lv (.int y :: .int x :: st) :=
  fun H locs ls p d s l => lv_icmp_ge F.1 F.2.1 hd ht (fun q => K1 q H locs ls p d s l) (fun q => K2 q H locs ls p d s l)
theorem j_icmpgt (F : Fj X cc own ret rm sg dg ws0) {x y : Int32} {off : Int} {tgt : Nat} (hd : decode cc pc = .ok (.if_icmp .gt off, 3)) (ht : (pc : Int) + off = (tgt : Int)) (K1 : y < x → Wj X Q ws cN sN tgt lv st) (K2 : ¬ (y < x) → Wj X Q ws cN sN (pc + 3) lv st) : Wj X Q ws cN sN pc lv (.int y :: .int x :: st) :=
  fun H locs ls p d s l => lv_icmp_gt F.1 F.2.1 hd ht (fun q => K1 q H locs ls p d s l) (fun q => K2 q H locs ls p d s l)
theorem j_icmple (F : Fj X cc own ret rm sg dg ws0) {x y : Int32} {off : Int} {tgt : Nat} (hd : decode cc pc = .ok (.if_icmp .le off, 3)) (ht : (pc : Int) + off = (tgt : Int)) (K1 : x ≤ y → Wj X Q ws cN sN tgt lv st) (K2 : ¬ (x ≤ y) → Wj X Q ws cN sN (pc + 3) lv st) : Wj X Q ws cN sN pc lv (.int y :: .int x :: st) :=
  fun H locs ls p d s l => lv_icmp_le F.1 F.2.1 hd ht (fun q => K1 q H locs ls p d s l) (fun q => K2 q H locs ls p d s l)
theorem j_null (F : Fj X cc own ret rm sg dg ws0) (hd : decode cc pc = .ok (.aconst_null, 1)) (K : Wj X Q ws cN sN (pc + 1) lv (.null :: st)) : Wj X Q ws cN sN pc lv st := Wj_go (pc2 := pc + 1) (st2 := .null :: st) (fun _ _ _ e w => lv_null F.1 F.2.1 hd w) K
/-- a field of a cell -/
def FRj (own : String) (i c s : Nat) : Prop := Cond.fieldLink own i (TXf c s).1 (TXf c s).2.1 (TXf c s).2.2.1 ∈ GT ∧ c < 10 ∧ s < nf c
theorem j_get (F : Fj X cc own ret rm sg dg ws0) {i c s a : Nat} (f : FRj own i c s) (k : Nat) {fs : List Value} {v : Value} (he : ws[k]? = some (a, .inr (c, fs))) (hv : fs[s]? = some v) (hd : decode cc pc = .ok (.getfield i, 3)) (K : Wj X Q ws cN sN (pc + 3) lv (v :: st)) : Wj X Q ws cN sN pc lv (.ref a :: st) := by
  obtain ⟨hw, hc, hs⟩ := f
  obtain ⟨hx, hb, hml, hown, hts, hlk, hr, ⟨hK, -⟩, -⟩ := F
  intro H locs ls p d s9 l
  exact va_get (cl := vwCl) (T := TXf c) (N := nf c) (v := v) hx hb hts (cl_ws c hc) hown hK p k he (cl_at c hc) s hs (hts _ hw) (fun _ z => z) hv hd (K H locs ls p d s9 l)
theorem j_put (F : Fj X cc own ret rm sg dg ws0) {i c s a : Nat} (f : FRj own i c s) (hfin : (TXf c s).2.2.2 = false) (k : Nat) {fs : List Value} {v : Value} (he : ws[k]? = some (a, .inr (c, fs))) (hn : narrow (tyf c s) v = v) (hfit : fits (tyf c s) v = true) (hl : s < fs.length) {ws2 : va_W} (h2 : ws.set k (a, .inr (c, fs.set s v)) = ws2) (hd : decode cc pc = .ok (.putfield i, 3)) (K : Wj X Q ws2 cN sN (pc + 3) lv st) : Wj X Q ws cN sN pc lv (v :: .ref a :: st) := by
  obtain ⟨hw, hc, hs⟩ := f
  obtain ⟨hx, hb, hml, hown, hts, hlk, hr, ⟨hK, -⟩, -⟩ := F
  subst h2
  intro H locs ls p d s9 l
  exact va_put (cl := vwCl) (T := TXf c) (N := nf c) (v := v) (ty := tyf c s) hx hb hts (cl_ws c hc) (tyf c) (cl_ty c hc) (cl_nm c hc) hown hK p d s9 k he (cl_at c hc) s hs (hts _ hw) (fun _ z => z) hfin (cl_ty c hc s hs) hn hfit hl hd fun H1 locs1 a1 a2 a3 => K H1 locs1 ls a1 a2 a3 l
theorem j_putF (F : Fj X cc own ret rm sg dg ws0) (hin : X.1.2.2.2.2.2.2.2.2.1.name = "<init>") {i c s a : Nat} (f : FRj own i c s) (hfin : (TXf c s).2.2.2 = true) (hdecl : (TXf c s).1 = own) (k : Nat) {fs : List Value} {v : Value} (he : ws[k]? = some (a, .inr (c, fs))) (hn : narrow (tyf c s) v = v) (hfit : fits (tyf c s) v = true) (hl : s < fs.length) {ws2 : va_W} (h2 : ws.set k (a, .inr (c, fs.set s v)) = ws2) (hd : decode cc pc = .ok (.putfield i, 3)) (K : Wj X Q ws2 cN sN (pc + 3) lv st) : Wj X Q ws cN sN pc lv (v :: .ref a :: st) := by
  obtain ⟨hw, hc, hs⟩ := f
  obtain ⟨hx, hb, hml, hown, hts, hlk, hr, ⟨hK, -⟩, -⟩ := F
  subst h2
  intro H locs ls p d s9 l
  exact va_putF (cl := vwCl) (T := TXf c) (N := nf c) (v := v) (ty := tyf c s) hx hb hts (cl_ws c hc) (tyf c) (cl_ty c hc) (cl_nm c hc) hown hK p d s9 k he (cl_at c hc) s hs (hts _ hw) (fun _ z => z) hfin hin hdecl (cl_ty c hc s hs) hn hfit hl hd fun H1 locs1 a1 a2 a3 => K H1 locs1 ls a1 a2 a3 l
abbrev cB (G : Gx) : ClassId := G.2.1.1 100
theorem j_bald (F : Fj X cc own ret rm sg dg ws0) {a n : Nat} {f : Nat → Int32} (k : Nat) (he : ws[k]? = some (a, .inl (cB (xG X), n, .inl f))) {i v : Int32} (hin : inb i n) (hv : f i.toNatClampNeg = v) (hd : decode cc pc = .ok (.baload, 1)) (K : Wj X Q ws cN sN (pc + 1) lv (.int v :: st)) : Wj X Q ws cN sN pc lv (.int i :: .ref a :: st) := by
  obtain ⟨hx, hb, hml, hown, hts, hlk, hr, ⟨hK, -⟩, -⟩ := F
  subst hv
  intro H locs ls p d s9 l
  exact va_bald hx hb hK p k 4 he rfl (inb_vp hin) hd (K H locs ls p d s9 l)
theorem j_bast (F : Fj X cc own ret rm sg dg ws0) {a n : Nat} {f : Nat → Int32} (k : Nat) (he : ws[k]? = some (a, .inl (cB (xG X), n, .inl f))) {i x : Int32} (hin : inb i n) {ws2 : va_W} (h2 : ws.set k (a, .inl (cB (xG X), n, .inl (upd f i.toNatClampNeg (vp_nar .byte x)))) = ws2) (hd : decode cc pc = .ok (.bastore, 1)) (K : Wj X Q ws2 cN sN (pc + 1) lv st) : Wj X Q ws cN sN pc lv (.int x :: .int i :: .ref a :: st) := by
  obtain ⟨hx, hb, hml, hown, hts, hlk, hr, ⟨hK, -⟩, -⟩ := F
  subst h2
  intro H locs ls p d s9 l
  exact va_bast hx hb hK p d s9 k 4 he rfl (inb_vp hin) hd fun H1 locs1 a1 a2 a3 => K H1 locs1 ls a1 a2 a3 l
theorem j_alen (F : Fj X cc own ret rm sg dg ws0) {a n : Nat} {f : Nat → Int32} (k : Nat) (he : ws[k]? = some (a, .inl (cB (xG X), n, .inl f))) (hd : decode cc pc = .ok (.arraylength, 1)) (K : Wj X Q ws cN sN (pc + 1) lv (.int (nI n) :: st)) : Wj X Q ws cN sN pc lv (.ref a :: st) := by
  obtain ⟨hx, hb, hml, hown, hts, hlk, hr, ⟨hK, -⟩, -⟩ := F
  intro H locs ls p d s9 l
  exact va_alen (x := (n, .inl f)) hx hb hK p k 4 he rfl rfl hd (K H locs ls p d s9 l)
/-- a new row of bytes -/
theorem j_newB (F : Fj X cc own ret rm sg dg ws0) (hw : Cond.arrayClass .byte ∈ GT) {n : Int32} {N : Nat} (hn : ¬ n < 0) (hN : n.toNatClampNeg = N) (hbytes : N ≤ 536870912) (hcap : cN + 1 ≤ rm.cells ∧ sN + N ≤ rm.slots) (hd : decode cc pc = .ok (.newarray .byte, 2)) (K : ∀ q, Wj X Q (ws ++ [(q, .inl (cB (xG X), N, .inl fun _ => 0))]) (cN + 1) (sN + N) (pc + 2) lv (.ref q :: st)) : Wj X Q ws cN sN pc lv (.int n :: st) := by
  obtain ⟨hx, hb, hml, hown, hts, hlk, hr, ⟨hK, -⟩, hrm, hA, -⟩ := F
  have hrm' : X.1.2.2.2.1 = rm := hrm
  intro H locs ls p d s9 l
  refine va_newaK (atype := .byte) hx hb (hts _ hw) rfl hd rfl hn hN (show N * 1 ≤ 536870912 by omega) (by rw [hrm']; exact hcap.1) (by rw [hrm']; exact hcap.2) rfl fun H1 cA e1 z1 o1 _ hNm => ?_
  have hid : cA = cB (xG X) := Option.some.inj (hNm.symm.trans (hK.2 4 _ rfl).2)
  subst hid
  have hk : ∀ (k : Nat) (x : Nat × va_E), ws[k]? = some x → H1[x.1]? = H[x.1]? := fun k x hx => o1 x.1 ((p k x hx).lt)
  refine K H.size H1 locs ls ((p.kept hk).app (fun k x hx => ?_)) (d.push p rfl (by rw [hA]; exact Or.inr s9.1)) ⟨Nat.le_trans s9.1 (by omega), fun x h1 h2 => (o1 x (Nat.lt_of_lt_of_le h1 s9.1)).trans (s9.2.1 x h1 h2), s9.2.2⟩ l
  have hz : k < 1 := (List.getElem?_eq_some_iff.mp hx).1
  rw [show k = 0 by omega] at hx
  cases hx
  exact e1
/-- a new object -/
theorem j_new (F : Fj X cc own ret rm sg dg ws0) {idx c : Nat} (hw : Cond.classLink own idx (RXf c) ∈ GT ∧ Cond.instantiable (RXf c) (nf c) ∈ GT ∧ Cond.initialized (RXf c) ∈ GT) (hc : c < 10) (hcap : cN + 1 ≤ rm.cells ∧ sN + nf c ≤ rm.slots) (hd : decode cc pc = .ok (.new idx, 3)) (K : ∀ q, Wj X Q (ws ++ [(q, .inr (c, dfl c))]) (cN + 1) (sN + nf c) (pc + 3) lv (.ref q :: st)) : Wj X Q ws cN sN pc lv st := by
  obtain ⟨hx, hb, hml, hown, hts, hlk, hr, ⟨hK, -⟩, hrm, hA, -⟩ := F
  have hrm' : X.1.2.2.2.1 = rm := hrm
  intro H locs ls p d s9 l
  have hKn := hK.1 c _ (cl_at c hc)
  refine W.newcK hx hb hown (hts _ hw.1) (hts _ hw.2.1) (hts _ hw.2.2) rfl hd (by rw [hrm']; exact hcap.1) (by rw [hrm']; exact hcap.2) hKn.2.1 rfl fun H1 kC hkC e1 z1 o1 => ?_
  have hk : ∀ (k : Nat) (x : Nat × va_E), ws[k]? = some x → H1[x.1]? = H[x.1]? := fun k x hx => o1 x.1 ((p k x hx).lt)
  refine K H.size H1 locs ls ((p.kept hk).app (fun k x hx => ?_)) (d.push p rfl (by rw [hA]; exact Or.inr s9.1)) ⟨Nat.le_trans s9.1 (by omega), fun x h1 h2 => (o1 x (Nat.lt_of_lt_of_le h1 s9.1)).trans (s9.2.1 x h1 h2), s9.2.2⟩ l
  have hz : k < 1 := (List.getElem?_eq_some_iff.mp hx).1
  rw [show k = 0 by omega] at hx
  cases hx
  refine ⟨_, cl_at c hc, (u_born (tyf c) hts (cl_ws c hc) hKn hkC e1 (cl_ty c hc)).to fun j hj => ?_⟩
  unfold vp_V dfl
  rw [List.getD_eq_getElem?_getD, List.getElem?_map, List.getElem?_range hj]
  rfl
theorem j_objInit (F : Fj X cc own ret rm sg dg ws0) {idx : Nat} (hw : Cond.methodLink own idx Lib.objectInit ∈ GT ∧ Cond.instanceMethod Lib.objectInit ∈ GT ∧ Cond.code Lib.objectInit ⟨#[0xb1]⟩ 1 none ∈ GT) {x : Nat} (hR : 1 ≤ rm.frames ∧ (st.map fun v => v.category).sum + 12 ≤ rm.locals) (hd : decode cc pc = .ok (.invokespecial idx, 3)) (K : Wj X Q ws cN sN (pc + 3) lv st) : Wj X Q ws cN sN pc lv (.ref x :: st) := by
  obtain ⟨hx, hb, hml, hown, hts, hlk, hr, hJ, hrm, -⟩ := F
  have hrm' : X.1.2.2.2.1 = rm := hrm
  exact Wj_go (pc2 := pc + 3) (st2 := st) (fun H locs ls e w => W.objInit hx hb hown (hts _ hw.1) (hts _ hw.2.1) (hts _ hw.2.2) (g := F0 (xM X) pc ls (.ref x :: st)) rfl (e.1.trans hml.symm) rfl hd (by rw [hrm']; exact hR.1) (by rw [hrm']; show 2 * 0 + _ + 12 ≤ _; omega) w) K
theorem j_max (F : Fj X cc own ret rm sg dg ws0) {i : Nat} (hw : Cond.methodLink own i Lib.Math.max.name ∈ GT) (hm : Cond.static Lib.Math.max.name ∈ GT ∧ Cond.initialized "java/lang/Math" ∈ GT ∧ Cond.code Lib.Math.max.name Lib.Math.max.code 2 (some .int) ∈ GT) {x y z : Int32} (hz : (if x < y then y else x) = z) (hR : 1 ≤ rm.frames ∧ (st.map fun v => v.category).sum + 13 ≤ rm.locals) (hcap : cN ≤ rm.cells ∧ sN ≤ rm.slots) (hd : decode cc pc = .ok (.invokestatic i, 3)) (K : Wj X Q ws cN sN (pc + 3) lv (.int z :: st)) : Wj X Q ws cN sN pc lv (.int y :: .int x :: st) := by
  obtain ⟨hx, hb, hml, hown, hts, hlk, hr, hJ, hrm, -⟩ := F
  have hrm' : X.1.2.2.2.1 = rm := hrm
  subst hz
  exact Wj_go (pc2 := pc + 3) (st2 := _) (fun H locs ls e w => va_mmax hx hb (hml.trans e.1.symm) hown (hts _ hw) (hts _ hm.1) (hts _ hm.2.1) (hts _ hm.2.2) (by rw [hrm']; exact hR.1) (by rw [hrm']; exact hR.2) (by rw [hrm']; exact hcap.1) (by rw [hrm']; exact hcap.2) hd w) K
theorem j_min (F : Fj X cc own ret rm sg dg ws0) {i : Nat} (hw : Cond.methodLink own i Lib.Math.min.name ∈ GT) (hm : Cond.static Lib.Math.min.name ∈ GT ∧ Cond.initialized "java/lang/Math" ∈ GT ∧ Cond.code Lib.Math.min.name Lib.Math.min.code 2 (some .int) ∈ GT) {x y z : Int32} (hz : (if y < x then y else x) = z) (hR : 1 ≤ rm.frames ∧ (st.map fun v => v.category).sum + 13 ≤ rm.locals) (hcap : cN ≤ rm.cells ∧ sN ≤ rm.slots) (hd : decode cc pc = .ok (.invokestatic i, 3)) (K : Wj X Q ws cN sN (pc + 3) lv (.int z :: st)) : Wj X Q ws cN sN pc lv (.int y :: .int x :: st) := by
  obtain ⟨hx, hb, hml, hown, hts, hlk, hr, hJ, hrm, -⟩ := F
  have hrm' : X.1.2.2.2.1 = rm := hrm
  subst hz
  exact Wj_go (pc2 := pc + 3) (st2 := _) (fun H locs ls e w => va_mmin hx hb (hml.trans e.1.symm) hown (hts _ hw) (hts _ hm.1) (hts _ hm.2.1) (hts _ hm.2.2) (by rw [hrm']; exact hR.1) (by rw [hrm']; exact hR.2) (by rw [hrm']; exact hcap.1) (by rw [hrm']; exact hcap.2) hd w) K
/-- bytes copied from one cell to another -/
theorem j_copy (F : Fj X cc own ret rm sg dg ws0) {i : Nat} (hw : Cond.methodLink own i arraycopyName ∈ GT) (hm : Cond.native arraycopyName ∈ GT ∧ Cond.static arraycopyName ∈ GT ∧ Cond.initialized "java/lang/System" ∈ GT) (k0 k1 : Nat) {a0 a1 n0 n1 : Nat} {f g : Nat → Int32} (h0 : ws[k0]? = some (a0, .inl (cB (xG X), n0, .inl f))) (h1 : ws[k1]? = some (a1, .inl (cB (xG X), n1, .inl g))) {sp dp n : Nat} (hb31 : sp < 2 ^ 31 ∧ dp < 2 ^ 31 ∧ n < 2 ^ 31) (h4 : sp + n ≤ n0) (h5 : dp + n ≤ n1) (hfit : ∀ j, fits .byte (.int (f j)) = true) (hR : 1 ≤ rm.frames ∧ (st.map fun v => v.category).sum + (nativeFrameWords "java/lang/System" "arraycopy" 5 + 11) ≤ rm.locals) {ws2 : va_W} (h2 : ws.set k1 (a1, .inl (cB (xG X), n1, .inl (va_cpy f g sp dp n))) = ws2) (hd : decode cc pc = .ok (.invokestatic i, 3)) (K : Wj X Q ws2 cN sN (pc + 3) lv st) : Wj X Q ws cN sN pc lv (.int (nI n) :: .int (nI dp) :: .ref a1 :: .int (nI sp) :: .ref a0 :: st) := by
  obtain ⟨hx, hb, hml, hown, hts, hlk, hr, ⟨hK, -⟩, hrm, -⟩ := F
  have hrm' : X.1.2.2.2.1 = rm := hrm
  subst h2
  intro H locs ls p d s9 l
  have e1 : (nI sp).toNatClampNeg = sp := clN hb31.1
  have e2 : (nI dp).toNatClampNeg = dp := clN hb31.2.1
  have e3 : (nI n).toNatClampNeg = n := clN hb31.2.2
  refine va_copyi (ty := .byte) hx hb (hml.trans l.1.symm) hown (hts _ hw) (hts _ hm.1) (hts _ hm.2.1) (hts _ hm.2.2) hK p d s9 k0 k1 4 4 h0 h1 rfl rfl rfl (nI_pos hb31.1) (nI_pos hb31.2.1) (nI_pos hb31.2.2) (by rw [e1, e3]; exact h4) (by rw [e2, e3]; exact h5) (fun _ _ => hfit _) (by rw [hrm']; exact hR.1) (by rw [hrm']; exact hR.2) hd fun H1 locs1 a1 a2 a3 => ?_
  rw [e1, e2, e3] at a1 a2
  exact K H1 locs1 ls a1 a2 a3 l
/-- bytes copied out of the text -/
theorem j_copyT (F : Fj X cc own ret rm sg dg ws0) {i : Nat} (hw : Cond.methodLink own i arraycopyName ∈ GT) (hm : Cond.native arraycopyName ∈ GT ∧ Cond.static arraycopyName ∈ GT ∧ Cond.initialized "java/lang/System" ∈ GT) (k1 : Nat) {a1 n1 : Nat} {g : Nat → Int32} (h1 : ws[k1]? = some (a1, .inl (cB (xG X), n1, .inl g))) {dp : Nat} (hBY : BY sg) (hb31 : dp < 2 ^ 31) (h5 : dp + sg.1 ≤ n1) (hR : 1 ≤ rm.frames ∧ (st.map fun v => v.category).sum + (nativeFrameWords "java/lang/System" "arraycopy" 5 + 11) ≤ rm.locals) {ws2 : va_W} (h2 : ws.set k1 (a1, .inl (cB (xG X), n1, .inl (va_cpy (fun j => sg.2.1.getD j 0) g 0 dp sg.1))) = ws2) (hd : decode cc pc = .ok (.invokestatic i, 3)) (K : Wj X Q ws2 cN sN (pc + 3) lv st) : Wj X Q ws cN sN pc lv (.int (nI sg.1) :: .int (nI dp) :: .ref a1 :: .int (nI 0) :: .ref sg.2.2.2.2 :: st) := by
  have F' := F
  obtain ⟨hx, hb, hml, hown, hts, hlk, hr, ⟨hK, -, k3, -⟩, hrm, hA, -⟩ := F
  have hrm' : X.1.2.2.2.1 = rm := hrm
  subst h2
  intro H locs ls p d s9 l
  have e2 : (nI dp).toNatClampNeg = dp := clN hb31
  have e3 : (nI sg.1).toNatClampNeg = sg.1 := clN hBY.1
  have hT := va_T.narrow (k3.1.1 0 (by decide)).2.2.2 F'.sub
  refine vk_copyt (f := fun j => sg.2.1.getD j 0) hx hb (hml.trans l.1.symm) hown (hts _ hw) (hts _ hm.1) (hts _ hm.2.1) (hts _ hm.2.2) hK p d s9 (n0 := sg.1) hT k1 4 h1 rfl (by decide) (nI_pos hb31) (nI_pos hBY.1) (by rw [e3]; show 0 + sg.1 ≤ sg.1; omega) (by rw [e2, e3]; exact h5) (fun j hj => ?_) (by rw [hrm']; exact hR.1) (by rw [hrm']; exact hR.2) hd fun H1 locs1 a1 a2 a3 => ?_
  · rw [e3] at hj
    obtain ⟨n, hn, e⟩ := hBY.2 j hj
    show fits .byte (.int (sg.2.1.getD (0 + j) 0)) = true
    rw [Nat.zero_add, e]
    exact byt_fit hn
  · rw [e2, e3] at a1 a2
    exact K H1 locs1 ls a1 a2 a3 l
/-- the text's own methods -/
theorem j_roV (F : Fj X cc own ret rm sg dg ws0) {y : MethodName} {bytes : ByteArray} {mL n i : Nat} {ret' : Option FieldType} {rm' : Room} {r : Option Value} {As st0 : List Value} (f : CB own i y bytes mL ret' n ∧ Cond.instanceMethod y ∈ GT ∧ Cond.selects RJ0 y y ∈ GT) (hC : Rc X.1.2.1 y bytes mL ret' rm' (.ref sg.2.2.2.1 :: As) sg r) (hn : As.length = n) (hst : st0 = As.reverse ++ .ref sg.2.2.2.1 :: st) (hR : (rm'.cells = 0 ∧ rm'.slots = 0) ∧ rm'.frames + 1 ≤ rm.frames ∧ 8 + (mL + 11) + rm'.locals ≤ rm.locals) (hcat : (st.map fun v => v.category).sum ≤ 8) (hcap : cN ≤ rm.cells ∧ sN ≤ rm.slots) (hd : decode cc pc = .ok (.invokevirtual i, 3)) (K : Wj X Q ws cN sN (pc + 3) lv (r.toList ++ st)) : Wj X Q ws cN sN pc lv st0 := by
  have F' := F
  obtain ⟨hx, hb, hml, hown, hts, hlk, hr, ⟨hK, -, k3, -⟩, hrm, hA, -⟩ := F
  have hrm' : X.1.2.2.2.1 = rm := hrm
  intro H locs ls p d s9 l
  exact ro_V (A := xA X) hx hb hml hown hts f hC k3 F'.sub s9 hn l.1 hst (by rw [hrm']; exact hR) hcat (by rw [hrm']; exact hcap) hd (K H locs ls p d s9 l)
theorem j_tval (F : Fj X cc own ret rm sg dg ws0) {i : Nat} (hw : Cond.fieldLink own i RJ0 "value" "[B" ∈ GT) (hd : decode cc pc = .ok (.getfield i, 3)) (K : Wj X Q ws cN sN (pc + 3) lv (.ref sg.2.2.2.2 :: st)) : Wj X Q ws cN sN pc lv (.ref sg.2.2.2.1 :: st) := by
  have F' := F
  obtain ⟨hx, hb, hml, hown, hts, hlk, hr, ⟨hK, -, k3, -⟩, hrm, hA, -⟩ := F
  intro H locs ls p d s9 l
  exact vk_getf hx hb (va_OF.narrow (k3.1.1 0 (by decide)).2.2.1 F'.sub) s9 hown (hts _ hw) (fun _ z => z) hd (K H locs ls p d s9 l)
theorem j_tlen (F : Fj X cc own ret rm sg dg ws0) (hd : decode cc pc = .ok (.arraylength, 1)) (K : Wj X Q ws cN sN (pc + 1) lv (.int (nI sg.1) :: st)) : Wj X Q ws cN sN pc lv (.ref sg.2.2.2.2 :: st) := by
  have F' := F
  obtain ⟨hx, hb, hml, hown, hts, hlk, hr, ⟨hK, -, k3, -⟩, hrm, hA, -⟩ := F
  intro H locs ls p d s9 l
  exact va_tlen hx hb (va_T.narrow (k3.1.1 0 (by decide)).2.2.2 F'.sub) s9 (v := nI sg.1) rfl hd (K H locs ls p d s9 l)
theorem j_compact (F : Fj X cc own ret rm sg dg ws0) {i : Nat} (hw : Cond.fieldLink own i RJ0 "COMPACT_STRINGS" "Z" ∈ GT) (hd : decode cc pc = .ok (.getstatic i, 3)) (K : Wj X Q ws cN sN (pc + 3) lv (.int 1 :: st)) : Wj X Q ws cN sN pc lv st := by
  have F' := F
  obtain ⟨hx, hb, hml, hown, hts, hlk, hr, ⟨hK, -, k3, -⟩, hrm, hA, -⟩ := F
  intro H locs ls p d s9 l
  exact va_gets hx hb (va_Z.narrow k3.2.1 F'.sub) s9 hown (hts _ hw) (fun _ z => z) hd (K H locs ls p d s9 l)
theorem j_ones (F : Fj X cc own ret rm sg dg ws0) {i : Nat} (hw : Cond.fieldLink own i RJ6 "DigitOnes" "[B" ∈ GT) (hd : decode cc pc = .ok (.getstatic i, 3)) (K : Wj X Q ws cN sN (pc + 3) lv (.ref dg.1 :: st)) : Wj X Q ws cN sN pc lv st := by
  have F' := F
  obtain ⟨hx, hb, hml, hown, hts, hlk, hr, ⟨hK, -, k3, ⟨k4, k5⟩, k6, k7⟩, hrm, hA, -⟩ := F
  intro H locs ls p d s9 l
  exact va_gets hx hb (va_Z.narrow k4 F'.sub) s9 hown (hts _ hw) (fun _ z => z) hd (K H locs ls p d s9 l)
theorem j_tens (F : Fj X cc own ret rm sg dg ws0) {i : Nat} (hw : Cond.fieldLink own i RJ6 "DigitTens" "[B" ∈ GT) (hd : decode cc pc = .ok (.getstatic i, 3)) (K : Wj X Q ws cN sN (pc + 3) lv (.ref dg.2 :: st)) : Wj X Q ws cN sN pc lv st := by
  have F' := F
  obtain ⟨hx, hb, hml, hown, hts, hlk, hr, ⟨hK, -, k3, ⟨k4, k5⟩, k6, k7⟩, hrm, hA, -⟩ := F
  intro H locs ls p d s9 l
  exact va_gets hx hb (va_Z.narrow k6 F'.sub) s9 hown (hts _ hw) (fun _ z => z) hd (K H locs ls p d s9 l)
theorem j_one (F : Fj X cc own ret rm sg dg ws0) {j : Nat} (hj : j < 100) (hd : decode cc pc = .ok (.baload, 1)) (K : Wj X Q ws cN sN (pc + 1) lv (.int (nI (48 + j % 10)) :: st)) : Wj X Q ws cN sN pc lv (.int (nI j) :: .ref dg.1 :: st) := by
  have F' := F
  obtain ⟨hx, hb, hml, hown, hts, hlk, hr, ⟨hK, -, k3, ⟨k4, k5⟩, k6, k7⟩, hrm, hA, -⟩ := F
  intro H locs ls p d s9 l
  exact va_tb hx hb (va_T.narrow k5 F'.sub) s9 (nI_in hj (by decide)) (v := .int (nI (48 + j % 10))) (by show Value.int (nI (48 + (nI j).toNatClampNeg % 10)) = _; rw [clN (show j < 2 ^ 31 by omega)]) hd (K H locs ls p d s9 l)
theorem j_ten (F : Fj X cc own ret rm sg dg ws0) {j : Nat} (hj : j < 100) (hd : decode cc pc = .ok (.baload, 1)) (K : Wj X Q ws cN sN (pc + 1) lv (.int (nI (48 + j / 10)) :: st)) : Wj X Q ws cN sN pc lv (.int (nI j) :: .ref dg.2 :: st) := by
  have F' := F
  obtain ⟨hx, hb, hml, hown, hts, hlk, hr, ⟨hK, -, k3, ⟨k4, k5⟩, k6, k7⟩, hrm, hA, -⟩ := F
  intro H locs ls p d s9 l
  exact va_tb hx hb (va_T.narrow k7 F'.sub) s9 (nI_in hj (by decide)) (v := .int (nI (48 + j / 10))) (by show Value.int (nI (48 + (nI j).toNatClampNeg / 10)) = _; rw [clN (show j < 2 ^ 31 by omega)]) hd (K H locs ls p d s9 l)

end JR
