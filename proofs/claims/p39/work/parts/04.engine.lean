-- the walk of a method, said of the memory
abbrev Cx : Type := (Program × Launch × Env × Room × State × MethodId × Array Value × List Frame × Method × Code) × Gx × (Nat → Prop) × Nat × Nat × Nat
def xS (X : Cx) : State := X.1.2.2.2.2.1
def xM (X : Cx) : MethodId := X.1.2.2.2.2.2.1
def xR (X : Cx) : Room := X.1.2.2.2.1
def xG (X : Cx) : Gx := X.2.1
def xA (X : Cx) : Nat → Prop := X.2.2.1
def xC (X : Cx) : Nat := X.2.2.2.1
def xN (X : Cx) : Nat := X.2.2.2.2.1
def xL (X : Cx) : Nat := X.2.2.2.2.2
abbrev Wx (X : Cx) (H : Heap) (locs : List Loc) (Q : State → Prop) (g : JFrame) : Prop := W X.1.1 X.1.2.1 X.1.2.2.1 X.1.2.2.2.1 X.1.2.2.2.2.1 X.1.2.2.2.2.2.1 X.1.2.2.2.2.2.2.1 X.1.2.2.2.2.2.2.2.1 X.1.2.2.2.2.2.2.2.2.1 X.1.2.2.2.2.2.2.2.2.2 H locs (xC X) (xN X) Q g
def okH (h : Hp) : Prop := ∀ c o s u, gO h c o s = some u → u < cnt (fk c s).2.1
/-- which of the world's cells there are -/
def Aw (G : Gx) : Nat → Prop := fun a => ∃ q ∈ locL, a = adr G q.1 q.2.1 q.2.2
def Dst (G : Gx) : Prop := ∀ q ∈ locL, ∀ q' ∈ locL, adr G q.1 q.2.1 q.2.2 = adr G q'.1 q'.2.1 q'.2.2 → q = q'
/-- the one word of the tables that no list of words can hold: a nest mate's static method -/
def Nst (U : State) : Prop := va_Nw (.methodLinkNest RX3 193 yX7_spread "WeedStrand") U
/-- the machine, the code, the words, the tables -/
def Fx (X : Cx) (cc : ByteArray) (own : String) (ret : Option FieldType) (rm : Room) : Prop :=
  X.1.1.tables.exec = Jvm.exec ∧ X.1.2.2.2.2.2.2.2.2.2.code = cc ∧ X.1.2.2.2.2.2.2.2.2.2.maxLocals = xL X ∧ (xS X).vm.findClass own = some (xM X).cls ∧ (∀ w ∈ GT, w.before X.1.2.2.2.2.2.2.1 (xS X) = true) ∧ X.1.2.2.2.2.2.2.2.2.1.locks = false ∧ X.1.2.2.2.2.2.2.2.2.1.sig.returnType = ret ∧ va_K (xG X).2.1 vwCl (tys (xG X)) (xS X) ∧ Dst (xG X) ∧ (∀ a, Aw (xG X) a → xA X a) ∧ xR X = rm ∧ (xC X ≤ rm.cells ∧ xN X ≤ rm.slots) ∧ Nst (xS X)
/-- from the place pc, locals lv, stack st, memory h (and other cells ex): whatever k says the rest comes to, the machine comes to -/
def Wt (X : Cx) {α : Type} (Qf : α → State → Prop) (ex : va_W) (pc : Nat) (lv : List (Nat × Value)) (st : List Value) (h : Hp) (k : Option α) : Prop :=
  ∀ (H : Heap) (locs : List Loc) (ls : Array Slot), okH h → va_P (xG X).2.1 vwCl (ex ++ enc (xG X) h) H → va_D (xA X) (ex ++ enc (xG X) h) → va_S (xA X) (xS X).heap H locs → lv_has ls (xL X) lv → ∀ out, k = some out → Wx X H locs (Qf out) (F0 (xM X) pc ls st)
abbrev inb (i : Int32) (n : Nat) : Prop := 0 ≤ i ∧ i.toNatClampNeg < n
def grd {α : Type} (c : Prop) [Decidable c] (k : Option α) : Option α := if c then k else none
def lt_ {β α : Type} (x : β) (k : β → Option α) : Option α := k x
def jn {F α : Type} (f : F) (k : F → Option α) : Option α := k f
def iter {F : Type} (bot : F) (b : F → F) (n : Nat) : F := Nat.rec bot (fun _ r => b r) n
def onO {α : Type} (x : Option Nat) (k : Nat → Option α) : Option α := match x with
  | some u => k u
  | none => none
theorem inb_vp {i : Int32} {n : Nat} (h : inb i n) : vp_in i n := fun z => by
  rcases z with z | z
  · exact absurd h.1 (Int32.not_le.mpr z)
  · exact absurd h.2 (Nat.not_lt.mpr z)
section Rows
variable {X : Cx} {α : Type} {Qf : α → State → Prop} {ex : va_W} {cc : ByteArray} {own : String} {ret : Option FieldType} {rm : Room} {pc : Nat} {lv : List (Nat × Value)} {st : List Value} {h : Hp} {k : Option α}
theorem Wt_none {pc : Nat} {lv : List (Nat × Value)} {st : List Value} {h : Hp} : Wt X Qf ex pc lv st h none := fun _ _ _ _ _ _ _ _ out ho => by cases ho
theorem Wt_let {β : Type} {x : β} {k : β → Option α} (K : ∀ y, Wt X Qf ex pc lv st h (k y)) : Wt X Qf ex pc lv st h (lt_ x k) := K x
theorem Wt_jn {F : Type} {f : F} {k : F → Option α} (P : F → Prop) (hf : P f) (K : ∀ j, P j → Wt X Qf ex pc lv st h (k j)) : Wt X Qf ex pc lv st h (jn f k) := K f hf
theorem Wt_grd {c : Prop} [Decidable c] (K : c → Wt X Qf ex pc lv st h k) : Wt X Qf ex pc lv st h (grd c k) := by
  intro H locs ls a b c1 d e out ho
  by_cases hc : c
  · rw [grd, if_pos hc] at ho; exact K hc H locs ls a b c1 d e out ho
  · rw [grd, if_neg hc] at ho; cases ho
theorem Wt_if {c : Prop} [Decidable c] {k1 k2 : Option α} (K1 : c → Wt X Qf ex pc lv st h k1) (K2 : ¬ c → Wt X Qf ex pc lv st h k2) : Wt X Qf ex pc lv st h (if c then k1 else k2) := by
  by_cases hc : c
  · rw [if_pos hc]; exact K1 hc
  · rw [if_neg hc]; exact K2 hc
theorem Wt_onO {x : Option Nat} {k : Nat → Option α} (K : ∀ u, x = some u → Wt X Qf ex pc lv st h (k u)) : Wt X Qf ex pc lv st h (onO x k) := by
  cases x with
  | none => exact Wt_none
  | some u => exact K u rfl
/-- a row of the kit that touches neither memory nor locals -/
theorem Wt_go {pc2 : Nat} {st2 : List Value} (h1 : ∀ H locs ls Q, lv_has ls (xL X) lv → Wx X H locs Q (F0 (xM X) pc2 ls st2) → Wx X H locs Q (F0 (xM X) pc ls st)) (K : Wt X Qf ex pc2 lv st2 h k) : Wt X Qf ex pc lv st h k :=
  fun H locs ls a b c d e out ho => h1 H locs ls _ e (K H locs ls a b c d e out ho)
/-- .. that writes a local -/
theorem Wt_st {pc2 : Nat} {st2 : List Value} {lv2 : List (Nat × Value)} (h1 : ∀ H locs ls Q, lv_has ls (xL X) lv → (∀ ls', lv_has ls' (xL X) lv2 → Wx X H locs Q (F0 (xM X) pc2 ls' st2)) → Wx X H locs Q (F0 (xM X) pc ls st)) (K : Wt X Qf ex pc2 lv2 st2 h k) : Wt X Qf ex pc lv st h k :=
  fun H locs ls a b c d e out ho => h1 H locs ls _ e fun ls' e' => K H locs ls' a b c d e' out ho
theorem Wt_sub {lv2 : List (Nat × Value)} (hs : ∀ q ∈ lv2, q ∈ lv) (K : Wt X Qf ex pc lv2 st h k) : Wt X Qf ex pc lv st h k :=
  fun H locs ls a b c d e out ho => K H locs ls a b c d ⟨e.1, e.2.1, fun q hq => e.2.2 q (hs q hq)⟩ out ho
theorem r_iconst (F : Fx X cc own ret rm) {n : Int} {v : Int32} (hd : decode cc pc = .ok (.iconst n, 1)) (hv : Int32.ofInt n = v) (K : Wt X Qf ex (pc + 1) lv (.int v :: st) h k) : Wt X Qf ex pc lv st h k := Wt_go (fun _ _ _ _ _ w => lv_iconst F.1 F.2.1 hd hv w) K
theorem r_bipush (F : Fx X cc own ret rm) {n : Int} {v : Int32} (hd : decode cc pc = .ok (.bipush n, 2)) (hv : (Int8.ofInt n).toInt32 = v) (K : Wt X Qf ex (pc + 2) lv (.int v :: st) h k) : Wt X Qf ex pc lv st h k := Wt_go (fun _ _ _ _ _ w => lv_bipush F.1 F.2.1 hd hv w) K
theorem r_sipush (F : Fx X cc own ret rm) {n : Int} {v : Int32} (hd : decode cc pc = .ok (.sipush n, 3)) (hv : (Int16.ofInt n).toInt32 = v) (K : Wt X Qf ex (pc + 3) lv (.int v :: st) h k) : Wt X Qf ex pc lv st h k := Wt_go (fun _ _ _ _ _ w => lv_sipush F.1 F.2.1 hd hv w) K
theorem r_ldc (F : Fx X cc own ret rm) {i : Nat} {v : Int32} (hw : Cond.constant own i v ∈ GT) (hd : decode cc pc = .ok (.ldc i, 2)) (K : Wt X Qf ex (pc + 2) lv (.int v :: st) h k) : Wt X Qf ex pc lv st h k := Wt_go (fun _ _ _ _ _ w => lv_ldc F.1 F.2.1 F.2.2.2.1 (F.2.2.2.2.1 _ hw) hd w) K
theorem r_ldcw (F : Fx X cc own ret rm) {i : Nat} {v : Int32} (hw : Cond.constant own i v ∈ GT) (hd : decode cc pc = .ok (.ldc_w i, 3)) (K : Wt X Qf ex (pc + 3) lv (.int v :: st) h k) : Wt X Qf ex pc lv st h k := Wt_go (fun _ _ _ _ _ w => lv_ldcw F.1 F.2.1 F.2.2.2.1 (F.2.2.2.2.1 _ hw) hd w) K
theorem r_ldc2 (F : Fx X cc own ret rm) {i : Nat} {v : Int64} (hw : Cond.constantLong own i v ∈ GT) (hd : decode cc pc = .ok (.ldc2_w i, 3)) (K : Wt X Qf ex (pc + 3) lv (.long v :: st) h k) : Wt X Qf ex pc lv st h k := Wt_go (fun _ _ _ _ _ w => lv_ldc2 F.1 F.2.1 F.2.2.2.1 (F.2.2.2.2.1 _ hw) hd w) K
theorem r_lconst (F : Fx X cc own ret rm) {n : Fin 2} {v : Int64} (hd : decode cc pc = .ok (.lconst n, 1)) (hv : Int64.ofNat (n : Nat) = v) (K : Wt X Qf ex (pc + 1) lv (.long v :: st) h k) : Wt X Qf ex pc lv st h k := Wt_go (fun _ _ _ _ _ w => lv_lconst F.1 F.2.1 hd hv w) K
theorem r_iload_n (F : Fx X cc own ret rm) {n : Fin 4} {i : Nat} {x : Int32} (z : Nat) (hz : lv[z]? = some (i, .int x)) (hd : decode cc pc = .ok (.iload_n n, 1)) (hi : (n : Nat) = i) (K : Wt X Qf ex (pc + 1) lv (.int x :: st) h k) : Wt X Qf ex pc lv st h k := Wt_go (fun _ _ _ _ e w => lv_iload_n F.1 F.2.1 hd hi (lv_at e z hz) w) K
theorem r_iload (F : Fx X cc own ret rm) {i : Nat} {x : Int32} (z : Nat) (hz : lv[z]? = some (i, .int x)) (hd : decode cc pc = .ok (.iload i, 2)) (K : Wt X Qf ex (pc + 2) lv (.int x :: st) h k) : Wt X Qf ex pc lv st h k := Wt_go (fun _ _ _ _ e w => lv_iload F.1 F.2.1 hd (lv_at e z hz) w) K
theorem r_lload_n (F : Fx X cc own ret rm) {n : Fin 4} {i : Nat} {x : Int64} (z : Nat) (hz : lv[z]? = some (i, .long x)) (hd : decode cc pc = .ok (.lload_n n, 1)) (hi : (n : Nat) = i) (K : Wt X Qf ex (pc + 1) lv (.long x :: st) h k) : Wt X Qf ex pc lv st h k := Wt_go (fun _ _ _ _ e w => lv_lload_n F.1 F.2.1 hd hi (lv_at e z hz) w) K
theorem r_lload (F : Fx X cc own ret rm) {i : Nat} {x : Int64} (z : Nat) (hz : lv[z]? = some (i, .long x)) (hd : decode cc pc = .ok (.lload i, 2)) (K : Wt X Qf ex (pc + 2) lv (.long x :: st) h k) : Wt X Qf ex pc lv st h k := Wt_go (fun _ _ _ _ e w => lv_lload F.1 F.2.1 hd (lv_at e z hz) w) K
theorem r_aload_n (F : Fx X cc own ret rm) {n : Fin 4} {i : Nat} {x : Nat} (z : Nat) (hz : lv[z]? = some (i, .ref x)) (hd : decode cc pc = .ok (.aload_n n, 1)) (hi : (n : Nat) = i) (K : Wt X Qf ex (pc + 1) lv (.ref x :: st) h k) : Wt X Qf ex pc lv st h k := Wt_go (fun _ _ _ _ e w => lv_aload_n F.1 F.2.1 hd hi (lv_at e z hz) w) K
theorem r_aload (F : Fx X cc own ret rm) {i : Nat} {x : Nat} (z : Nat) (hz : lv[z]? = some (i, .ref x)) (hd : decode cc pc = .ok (.aload i, 2)) (K : Wt X Qf ex (pc + 2) lv (.ref x :: st) h k) : Wt X Qf ex pc lv st h k := Wt_go (fun _ _ _ _ e w => lv_aload F.1 F.2.1 hd (lv_at e z hz) w) K
abbrev fil1 (i : Nat) (lv : List (Nat × Value)) : List (Nat × Value) := lv.filter (fun q => !(q.1 == i) && !(q.1 + 1 == i && q.2.category == 2))
abbrev fil2 (i : Nat) (lv : List (Nat × Value)) : List (Nat × Value) := lv.filter (fun q => !(q.1 == i) && (!(q.1 == i + 1) && !(q.1 + 1 == i && q.2.category == 2)))
theorem r_istore_n (F : Fx X cc own ret rm) {n : Fin 4} {i : Nat} {x : Int32} (lv2 : List (Nat × Value)) (hl : (i, Value.int x) :: fil1 i lv = lv2) (hd : decode cc pc = .ok (.istore_n n, 1)) (hi : (n : Nat) = i) (hn : i < xL X) (K : Wt X Qf ex (pc + 1) lv2 st h k) : Wt X Qf ex pc lv (.int x :: st) h k := Wt_st (fun _ _ _ _ e w => lv_istore_n F.1 F.2.1 hd hi e hn hl w) K
theorem r_istore (F : Fx X cc own ret rm) {i : Nat} {x : Int32} (lv2 : List (Nat × Value)) (hl : (i, Value.int x) :: fil1 i lv = lv2) (hd : decode cc pc = .ok (.istore i, 2)) (hn : i < xL X) (K : Wt X Qf ex (pc + 2) lv2 st h k) : Wt X Qf ex pc lv (.int x :: st) h k := Wt_st (fun _ _ _ _ e w => lv_istore F.1 F.2.1 hd e hn hl w) K
theorem r_lstore_n (F : Fx X cc own ret rm) {n : Fin 4} {i : Nat} {x : Int64} (lv2 : List (Nat × Value)) (hl : (i, Value.long x) :: fil2 i lv = lv2) (hd : decode cc pc = .ok (.lstore_n n, 1)) (hi : (n : Nat) = i) (hn : i + 1 < xL X) (K : Wt X Qf ex (pc + 1) lv2 st h k) : Wt X Qf ex pc lv (.long x :: st) h k := Wt_st (fun _ _ _ _ e w => lv_lstore_n F.1 F.2.1 hd hi e hn hl w) K
theorem r_lstore (F : Fx X cc own ret rm) {i : Nat} {x : Int64} (lv2 : List (Nat × Value)) (hl : (i, Value.long x) :: fil2 i lv = lv2) (hd : decode cc pc = .ok (.lstore i, 2)) (hn : i + 1 < xL X) (K : Wt X Qf ex (pc + 2) lv2 st h k) : Wt X Qf ex pc lv (.long x :: st) h k := Wt_st (fun _ _ _ _ e w => lv_lstore F.1 F.2.1 hd e hn hl w) K
theorem r_astore_n (F : Fx X cc own ret rm) {n : Fin 4} {i : Nat} {x : Nat} (lv2 : List (Nat × Value)) (hl : (i, Value.ref x) :: fil1 i lv = lv2) (hd : decode cc pc = .ok (.astore_n n, 1)) (hi : (n : Nat) = i) (hn : i < xL X) (K : Wt X Qf ex (pc + 1) lv2 st h k) : Wt X Qf ex pc lv (.ref x :: st) h k := Wt_st (fun _ _ _ _ e w => lv_astore_n F.1 F.2.1 hd hi e hn hl w) K
theorem r_astore (F : Fx X cc own ret rm) {i : Nat} {x : Nat} (lv2 : List (Nat × Value)) (hl : (i, Value.ref x) :: fil1 i lv = lv2) (hd : decode cc pc = .ok (.astore i, 2)) (hn : i < xL X) (K : Wt X Qf ex (pc + 2) lv2 st h k) : Wt X Qf ex pc lv (.ref x :: st) h k := Wt_st (fun _ _ _ _ e w => lv_astore F.1 F.2.1 hd e hn hl w) K
theorem r_iinc (F : Fx X cc own ret rm) {i : Nat} {n : Int} {x v : Int32} {k : Int32 → Option α} (z : Nat) (hz : lv[z]? = some (i, .int x)) (hv : Int32.ofInt n = v) (lv2 : Int32 → List (Nat × Value)) (hl : ∀ w, (i, Value.int w) :: fil1 i lv = lv2 w) (hd : decode cc pc = .ok (.iinc i n, 3)) (hn : i < xL X) (K : ∀ w, Wt X Qf ex (pc + 3) (lv2 w) st h (k w)) : Wt X Qf ex pc lv st h (lt_ (x + v) k) :=
  Wt_st (fun _ _ _ _ e w => lv_iinc F.1 F.2.1 hd e hz (by rw [hv]) hn (hl _) w) (K (x + v))
theorem r_iadd (F : Fx X cc own ret rm) {x y : Int32} (hd : decode cc pc = .ok (.iadd, 1)) (K : Wt X Qf ex (pc + 1) lv (.int (x + y) :: st) h k) : Wt X Qf ex pc lv (.int y :: .int x :: st) h k := Wt_go (fun _ _ _ _ _ w => lv_iadd F.1 F.2.1 hd w) K
theorem r_isub (F : Fx X cc own ret rm) {x y : Int32} (hd : decode cc pc = .ok (.isub, 1)) (K : Wt X Qf ex (pc + 1) lv (.int (x - y) :: st) h k) : Wt X Qf ex pc lv (.int y :: .int x :: st) h k := Wt_go (fun _ _ _ _ _ w => lv_isub F.1 F.2.1 hd w) K
theorem r_imul (F : Fx X cc own ret rm) {x y : Int32} (hd : decode cc pc = .ok (.imul, 1)) (K : Wt X Qf ex (pc + 1) lv (.int (x * y) :: st) h k) : Wt X Qf ex pc lv (.int y :: .int x :: st) h k := Wt_go (fun _ _ _ _ _ w => lv_imul F.1 F.2.1 hd w) K
theorem r_iand (F : Fx X cc own ret rm) {x y : Int32} (hd : decode cc pc = .ok (.iand, 1)) (K : Wt X Qf ex (pc + 1) lv (.int (x &&& y) :: st) h k) : Wt X Qf ex pc lv (.int y :: .int x :: st) h k := Wt_go (fun _ _ _ _ _ w => lv_iand F.1 F.2.1 hd w) K
theorem r_ior (F : Fx X cc own ret rm) {x y : Int32} (hd : decode cc pc = .ok (.ior, 1)) (K : Wt X Qf ex (pc + 1) lv (.int (x ||| y) :: st) h k) : Wt X Qf ex pc lv (.int y :: .int x :: st) h k := Wt_go (fun _ _ _ _ _ w => lv_ior F.1 F.2.1 hd w) K
theorem r_ishl (F : Fx X cc own ret rm) {x y : Int32} (hd : decode cc pc = .ok (.ishl, 1)) (K : Wt X Qf ex (pc + 1) lv (.int (x <<< (y &&& 31)) :: st) h k) : Wt X Qf ex pc lv (.int y :: .int x :: st) h k := Wt_go (fun _ _ _ _ _ w => lv_ishl F.1 F.2.1 hd w) K
theorem r_ishr (F : Fx X cc own ret rm) {x y : Int32} (hd : decode cc pc = .ok (.ishr, 1)) (K : Wt X Qf ex (pc + 1) lv (.int (x >>> (y &&& 31)) :: st) h k) : Wt X Qf ex pc lv (.int y :: .int x :: st) h k := Wt_go (fun _ _ _ _ _ w => lv_ishr F.1 F.2.1 hd w) K
theorem r_iushr (F : Fx X cc own ret rm) {x y : Int32} (hd : decode cc pc = .ok (.iushr, 1)) (K : Wt X Qf ex (pc + 1) lv (.int (x.toUInt32 >>> (y.toUInt32 &&& Int32.toUInt32 31)).toInt32 :: st) h k) : Wt X Qf ex pc lv (.int y :: .int x :: st) h k := Wt_go (fun _ _ _ _ _ w => lv_iushr F.1 F.2.1 hd rfl w) K
theorem r_idiv (F : Fx X cc own ret rm) {x y : Int32} (hd : decode cc pc = .ok (.idiv, 1)) (K : Wt X Qf ex (pc + 1) lv (.int (x / y) :: st) h k) : Wt X Qf ex pc lv (.int y :: .int x :: st) h (grd (¬ y = 0) k) := Wt_grd fun hc => Wt_go (fun _ _ _ _ _ w => lv_idiv F.1 F.2.1 hd hc w) K
theorem r_irem (F : Fx X cc own ret rm) {x y : Int32} (hd : decode cc pc = .ok (.irem, 1)) (K : Wt X Qf ex (pc + 1) lv (.int (x - x / y * y) :: st) h k) : Wt X Qf ex pc lv (.int y :: .int x :: st) h (grd (¬ y = 0) k) := Wt_grd fun hc => Wt_go (fun _ _ _ _ _ w => lv_irem F.1 F.2.1 hd hc w) K
theorem r_idivc (F : Fx X cc own ret rm) {x y : Int32} (hy : ¬ y = 0) (hd : decode cc pc = .ok (.idiv, 1)) (K : Wt X Qf ex (pc + 1) lv (.int (x / y) :: st) h k) : Wt X Qf ex pc lv (.int y :: .int x :: st) h k := Wt_go (fun _ _ _ _ _ w => lv_idiv F.1 F.2.1 hd hy w) K
theorem r_iremc (F : Fx X cc own ret rm) {x y : Int32} (hy : ¬ y = 0) (hd : decode cc pc = .ok (.irem, 1)) (K : Wt X Qf ex (pc + 1) lv (.int (x - x / y * y) :: st) h k) : Wt X Qf ex pc lv (.int y :: .int x :: st) h k := Wt_go (fun _ _ _ _ _ w => lv_irem F.1 F.2.1 hd hy w) K
theorem r_ineg (F : Fx X cc own ret rm) {x : Int32} (hd : decode cc pc = .ok (.ineg, 1)) (K : Wt X Qf ex (pc + 1) lv (.int (-x) :: st) h k) : Wt X Qf ex pc lv (.int x :: st) h k := Wt_go (fun _ _ _ _ _ w => lv_ineg F.1 F.2.1 hd w) K
theorem r_ladd (F : Fx X cc own ret rm) {x y : Int64} (hd : decode cc pc = .ok (.ladd, 1)) (K : Wt X Qf ex (pc + 1) lv (.long (x + y) :: st) h k) : Wt X Qf ex pc lv (.long y :: .long x :: st) h k := Wt_go (fun _ _ _ _ _ w => lv_ladd F.1 F.2.1 hd w) K
theorem r_lsub (F : Fx X cc own ret rm) {x y : Int64} (hd : decode cc pc = .ok (.lsub, 1)) (K : Wt X Qf ex (pc + 1) lv (.long (x - y) :: st) h k) : Wt X Qf ex pc lv (.long y :: .long x :: st) h k := Wt_go (fun _ _ _ _ _ w => lv_lsub F.1 F.2.1 hd w) K
theorem r_lmul (F : Fx X cc own ret rm) {x y : Int64} (hd : decode cc pc = .ok (.lmul, 1)) (K : Wt X Qf ex (pc + 1) lv (.long (x * y) :: st) h k) : Wt X Qf ex pc lv (.long y :: .long x :: st) h k := Wt_go (fun _ _ _ _ _ w => lv_lmul F.1 F.2.1 hd w) K
theorem r_land (F : Fx X cc own ret rm) {x y : Int64} (hd : decode cc pc = .ok (.land, 1)) (K : Wt X Qf ex (pc + 1) lv (.long (x &&& y) :: st) h k) : Wt X Qf ex pc lv (.long y :: .long x :: st) h k := Wt_go (fun _ _ _ _ _ w => lv_land F.1 F.2.1 hd w) K
theorem r_ldiv (F : Fx X cc own ret rm) {x y : Int64} (hd : decode cc pc = .ok (.ldiv, 1)) (K : Wt X Qf ex (pc + 1) lv (.long (x / y) :: st) h k) : Wt X Qf ex pc lv (.long y :: .long x :: st) h (grd (¬ y = 0) k) := Wt_grd fun hc => Wt_go (fun _ _ _ _ _ w => lv_ldiv F.1 F.2.1 hd hc w) K
theorem r_lrem (F : Fx X cc own ret rm) {x y : Int64} (hd : decode cc pc = .ok (.lrem, 1)) (K : Wt X Qf ex (pc + 1) lv (.long (x - x / y * y) :: st) h k) : Wt X Qf ex pc lv (.long y :: .long x :: st) h (grd (¬ y = 0) k) := Wt_grd fun hc => Wt_go (fun _ _ _ _ _ w => lv_lrem F.1 F.2.1 hd hc w) K
theorem r_lneg (F : Fx X cc own ret rm) {x : Int64} (hd : decode cc pc = .ok (.lneg, 1)) (K : Wt X Qf ex (pc + 1) lv (.long (-x) :: st) h k) : Wt X Qf ex pc lv (.long x :: st) h k := Wt_go (fun _ _ _ _ _ w => lv_lneg F.1 F.2.1 hd w) K
theorem r_lcmp (F : Fx X cc own ret rm) {x y : Int64} (hd : decode cc pc = .ok (.lcmp, 1)) (K : Wt X Qf ex (pc + 1) lv (.int (lg_cmp x y) :: st) h k) : Wt X Qf ex pc lv (.long y :: .long x :: st) h k := Wt_go (fun _ _ _ _ _ w => W.lcmp F.1 F.2.1 hd w) K
theorem r_i2l (F : Fx X cc own ret rm) {x : Int32} (hd : decode cc pc = .ok (.i2l, 1)) (K : Wt X Qf ex (pc + 1) lv (.long x.toInt64 :: st) h k) : Wt X Qf ex pc lv (.int x :: st) h k := Wt_go (fun _ _ _ _ _ w => lv_i2l F.1 F.2.1 hd rfl w) K
theorem r_l2i (F : Fx X cc own ret rm) {x : Int64} (hd : decode cc pc = .ok (.l2i, 1)) (K : Wt X Qf ex (pc + 1) lv (.int x.toInt32 :: st) h k) : Wt X Qf ex pc lv (.long x :: st) h k := Wt_go (fun _ _ _ _ _ w => lv_l2i F.1 F.2.1 hd rfl w) K
theorem r_dup (F : Fx X cc own ret rm) {v : Value} (hv : v.category = 1) (hd : decode cc pc = .ok (.dup, 1)) (K : Wt X Qf ex (pc + 1) lv (v :: v :: st) h k) : Wt X Qf ex pc lv (v :: st) h k := Wt_go (fun _ _ _ _ _ w => lv_dup F.1 F.2.1 hd hv w) K
theorem r_dup_x1 (F : Fx X cc own ret rm) {v u : Value} (hv : v.category = 1) (hu : u.category = 1) (hd : decode cc pc = .ok (.dup_x1, 1)) (K : Wt X Qf ex (pc + 1) lv (v :: u :: v :: st) h k) : Wt X Qf ex pc lv (v :: u :: st) h k := Wt_go (fun _ _ _ _ _ w => lv_dup_x1 F.1 F.2.1 hd hv hu w) K
theorem r_dup2 (F : Fx X cc own ret rm) {v u : Value} (hv : v.category = 1) (hu : u.category = 1) (hd : decode cc pc = .ok (.dup2, 1)) (K : Wt X Qf ex (pc + 1) lv (v :: u :: v :: u :: st) h k) : Wt X Qf ex pc lv (v :: u :: st) h k := Wt_go (fun _ _ _ _ _ w => lv_dup2_11 F.1 F.2.1 hd hv hu w) K
theorem r_pop (F : Fx X cc own ret rm) {v : Value} (hv : v.category = 1) (hd : decode cc pc = .ok (.pop, 1)) (K : Wt X Qf ex (pc + 1) lv st h k) : Wt X Qf ex pc lv (v :: st) h k := Wt_go (fun _ _ _ _ _ w => lv_pop F.1 F.2.1 hd hv w) K
theorem r_goto (F : Fx X cc own ret rm) {off : Int} {tgt : Nat} (hd : decode cc pc = .ok (.goto off, 3)) (ht : (pc : Int) + off = (tgt : Int)) (K : Wt X Qf ex tgt lv st h k) : Wt X Qf ex pc lv st h k := Wt_go (fun _ _ _ _ _ w => lv_goto F.1 F.2.1 hd ht w) K
/-- a branch -/
theorem Wt_br {c : Prop} [Decidable c] {p1 p2 : Nat} {k1 k2 : Option α} {st0 : List Value} (h1 : ∀ H locs ls Q, (c → Wx X H locs Q (F0 (xM X) p1 ls st)) → (¬ c → Wx X H locs Q (F0 (xM X) p2 ls st)) → Wx X H locs Q (F0 (xM X) pc ls st0)) (K1 : Wt X Qf ex p1 lv st h k1) (K2 : Wt X Qf ex p2 lv st h k2) : Wt X Qf ex pc lv st0 h (if c then k1 else k2) := by
  intro H locs ls a b c1 d e out ho
  refine h1 H locs ls _ (fun hc => ?_) (fun hc => ?_)
  · rw [if_pos hc] at ho; exact K1 H locs ls a b c1 d e out ho
  · rw [if_neg hc] at ho; exact K2 H locs ls a b c1 d e out ho
theorem r_ifeq (F : Fx X cc own ret rm) {x : Int32} {off : Int} {tgt : Nat} {k1 k2 : Option α} (hd : decode cc pc = .ok (.ifCond .eq off, 3)) (ht : (pc : Int) + off = (tgt : Int)) (K1 : Wt X Qf ex tgt lv st h k1) (K2 : Wt X Qf ex (pc + 3) lv st h k2) : Wt X Qf ex pc lv (.int x :: st) h (if x = 0 then k1 else k2) := Wt_br (fun _ _ _ _ a b => lv_if_eq F.1 F.2.1 hd ht a b) K1 K2
theorem r_ifne (F : Fx X cc own ret rm) {x : Int32} {off : Int} {tgt : Nat} {k1 k2 : Option α} (hd : decode cc pc = .ok (.ifCond .ne off, 3)) (ht : (pc : Int) + off = (tgt : Int)) (K1 : Wt X Qf ex tgt lv st h k1) (K2 : Wt X Qf ex (pc + 3) lv st h k2) : Wt X Qf ex pc lv (.int x :: st) h (if ¬ x = 0 then k1 else k2) := Wt_br (fun _ _ _ _ a b => lv_if_ne F.1 F.2.1 hd ht a (fun e => b fun n => n e)) K1 K2
theorem r_iflt (F : Fx X cc own ret rm) {x : Int32} {off : Int} {tgt : Nat} {k1 k2 : Option α} (hd : decode cc pc = .ok (.ifCond .lt off, 3)) (ht : (pc : Int) + off = (tgt : Int)) (K1 : Wt X Qf ex tgt lv st h k1) (K2 : Wt X Qf ex (pc + 3) lv st h k2) : Wt X Qf ex pc lv (.int x :: st) h (if x < 0 then k1 else k2) := Wt_br (fun _ _ _ _ a b => lv_if_lt F.1 F.2.1 hd ht a b) K1 K2
theorem r_ifge (F : Fx X cc own ret rm) {x : Int32} {off : Int} {tgt : Nat} {k1 k2 : Option α} (hd : decode cc pc = .ok (.ifCond .ge off, 3)) (ht : (pc : Int) + off = (tgt : Int)) (K1 : Wt X Qf ex tgt lv st h k1) (K2 : Wt X Qf ex (pc + 3) lv st h k2) : Wt X Qf ex pc lv (.int x :: st) h (if 0 ≤ x then k1 else k2) := Wt_br (fun _ _ _ _ a b => lv_if_ge F.1 F.2.1 hd ht a b) K1 K2
theorem r_ifgt (F : Fx X cc own ret rm) {x : Int32} {off : Int} {tgt : Nat} {k1 k2 : Option α} (hd : decode cc pc = .ok (.ifCond .gt off, 3)) (ht : (pc : Int) + off = (tgt : Int)) (K1 : Wt X Qf ex tgt lv st h k1) (K2 : Wt X Qf ex (pc + 3) lv st h k2) : Wt X Qf ex pc lv (.int x :: st) h (if 0 < x then k1 else k2) := Wt_br (fun _ _ _ _ a b => lv_if_gt F.1 F.2.1 hd ht a b) K1 K2
theorem r_ifle (F : Fx X cc own ret rm) {x : Int32} {off : Int} {tgt : Nat} {k1 k2 : Option α} (hd : decode cc pc = .ok (.ifCond .le off, 3)) (ht : (pc : Int) + off = (tgt : Int)) (K1 : Wt X Qf ex tgt lv st h k1) (K2 : Wt X Qf ex (pc + 3) lv st h k2) : Wt X Qf ex pc lv (.int x :: st) h (if x ≤ 0 then k1 else k2) := Wt_br (fun _ _ _ _ a b => lv_if_le F.1 F.2.1 hd ht a b) K1 K2
theorem r_icmpeq (F : Fx X cc own ret rm) {x y : Int32} {off : Int} {tgt : Nat} {k1 k2 : Option α} (hd : decode cc pc = .ok (.if_icmp .eq off, 3)) (ht : (pc : Int) + off = (tgt : Int)) (K1 : Wt X Qf ex tgt lv st h k1) (K2 : Wt X Qf ex (pc + 3) lv st h k2) : Wt X Qf ex pc lv (.int y :: .int x :: st) h (if x = y then k1 else k2) := Wt_br (fun _ _ _ _ a b => lv_icmp_eq F.1 F.2.1 hd ht a b) K1 K2
theorem r_icmpne (F : Fx X cc own ret rm) {x y : Int32} {off : Int} {tgt : Nat} {k1 k2 : Option α} (hd : decode cc pc = .ok (.if_icmp .ne off, 3)) (ht : (pc : Int) + off = (tgt : Int)) (K1 : Wt X Qf ex tgt lv st h k1) (K2 : Wt X Qf ex (pc + 3) lv st h k2) : Wt X Qf ex pc lv (.int y :: .int x :: st) h (if ¬ x = y then k1 else k2) := Wt_br (fun _ _ _ _ a b => lv_icmp_ne F.1 F.2.1 hd ht a (fun e => b fun n => n e)) K1 K2
theorem r_icmplt (F : Fx X cc own ret rm) {x y : Int32} {off : Int} {tgt : Nat} {k1 k2 : Option α} (hd : decode cc pc = .ok (.if_icmp .lt off, 3)) (ht : (pc : Int) + off = (tgt : Int)) (K1 : Wt X Qf ex tgt lv st h k1) (K2 : Wt X Qf ex (pc + 3) lv st h k2) : Wt X Qf ex pc lv (.int y :: .int x :: st) h (if x < y then k1 else k2) := Wt_br (fun _ _ _ _ a b => lv_icmp_lt F.1 F.2.1 hd ht a b) K1 K2
theorem r_icmpge (F : Fx X cc own ret rm) {x y : Int32} {off : Int} {tgt : Nat} {k1 k2 : Option α} (hd : decode cc pc = .ok (.if_icmp .ge off, 3)) (ht : (pc : Int) + off = (tgt : Int)) (K1 : Wt X Qf ex tgt lv st h k1) (K2 : Wt X Qf ex (pc + 3) lv st h k2) : Wt X Qf ex pc lv (.int y :: .int x :: st) h (if y ≤ x then k1 else k2) := Wt_br (fun _ _ _ _ a b => lv_icmp_ge F.1 F.2.1 hd ht a b) K1 K2
theorem r_icmpgt (F : Fx X cc own ret rm) {x y : Int32} {off : Int} {tgt : Nat} {k1 k2 : Option α} (hd : decode cc pc = .ok (.if_icmp .gt off, 3)) (ht : (pc : Int) + off = (tgt : Int)) (K1 : Wt X Qf ex tgt lv st h k1) (K2 : Wt X Qf ex (pc + 3) lv st h k2) : Wt X Qf ex pc lv (.int y :: .int x :: st) h (if y < x then k1 else k2) := Wt_br (fun _ _ _ _ a b => lv_icmp_gt F.1 F.2.1 hd ht a b) K1 K2
theorem r_icmple (F : Fx X cc own ret rm) {x y : Int32} {off : Int} {tgt : Nat} {k1 k2 : Option α} (hd : decode cc pc = .ok (.if_icmp .le off, 3)) (ht : (pc : Int) + off = (tgt : Int)) (K1 : Wt X Qf ex tgt lv st h k1) (K2 : Wt X Qf ex (pc + 3) lv st h k2) : Wt X Qf ex pc lv (.int y :: .int x :: st) h (if x ≤ y then k1 else k2) := Wt_br (fun _ _ _ _ a b => lv_icmp_le F.1 F.2.1 hd ht a b) K1 K2
end Rows
