-- fields, arrays, ends and calls
def FR (own : String) (i c s : Nat) (kd : Nat × Nat × Nat) : Prop := Cond.fieldLink own i (TXf c s).1 (TXf c s).2.1 (TXf c s).2.2.1 ∈ GT ∧ c < 10 ∧ s < nf c ∧ fk c s = kd
def AR (c o k t n : Nat) : Prop := c < 10 ∧ k < na c ∧ o < cnt c ∧ ak c k = (t, n)
def Qw (G : Gx) (v : Option Value) (h : Hp) (P : Prop) : Array Value → State → Outcome → State → Prop := fun _ st oc t => oc = .returned v ∧ P ∧ okH h ∧ va_P G.2.1 vwCl (enc G h) t.heap ∧ va_F (Aw G) st t
def Pw (G : Gx) (h : Hp) : State → Prop := fun U => va_P G.2.1 vwCl (enc G h) U.heap ∧ va_K G.2.1 vwCl (tys G) U ∧ Dst G ∧ Nst U
def Ctr (G : Gx) (l : Launch) (y : MethodName) (ws : List Cond) (rm : Room) (av : List Value) (h : Hp) {β : Type} (res : Option β) (rv : β → Option Value) (hp : β → Hp) (P : β → Prop) : Prop :=
  ∀ out, res = some out → okH h → Met l y ws rm (va_Pc av (Pw G h)) (Qw G (rv out) (hp out) (P out)) 0 0 (Aw G)
def Qm (X : Cx) (v : Option Value) (h : Hp) (P : Prop) : State → Prop := MQ X.1.2.2.2.2.2.2.2.1 (Qw (xG X) v h P) X.1.2.2.2.2.2.2.1 (xS X) (xC X) (xN X) (Aw (xG X))
abbrev Wm (X : Cx) {β : Type} (rv : β → Option Value) (hp : β → Hp) (P : β → Prop) (pc : Nat) (lv : List (Nat × Value)) (st : List Value) (h : Hp) (k : Option β) : Prop := Wt X (fun out => Qm X (rv out) (hp out) (P out)) [] pc lv st h k
theorem enc_map (G : Gx) (h : Hp) : (enc G h).map (·.1) = locL.map fun q => adr G q.1 q.2.1 q.2.2 := by simp [enc, Function.comp_def]
theorem D_map {A : Nat → Prop} {w1 w2 : va_W} (h : va_D A w1) (e : w2.map (·.1) = w1.map (·.1)) : va_D A w2 := by
  have key : ∀ (k : Nat) (q : Nat × va_E), w2[k]? = some q → ∃ q', w1[k]? = some q' ∧ q'.1 = q.1 := by
    intro k q hq
    have h1 : (w2.map (·.1))[k]? = some q.1 := by rw [List.getElem?_map, hq]; rfl
    rw [e, List.getElem?_map] at h1
    cases hz : w1[k]? with
    | none => rw [hz] at h1; cases h1
    | some q' => rw [hz] at h1; exact ⟨q', rfl, Option.some.inj h1⟩
  refine ⟨fun i j x y hi hj hxy => ?_, fun k q hk => ?_⟩
  · obtain ⟨x', a1, a2⟩ := key i x hi
    obtain ⟨y', b1, b2⟩ := key j y hj
    exact h.1 i j x' y' a1 b1 (by rw [a2, b2]; exact hxy)
  · obtain ⟨q', a1, a2⟩ := key k q hk
    rw [← a2]; exact h.2 k q' a1
theorem D_enc {A : Nat → Prop} {G : Gx} {ex : va_W} {h : Hp} (h' : Hp) (hD : va_D A (ex ++ enc G h)) : va_D A (ex ++ enc G h') := D_map hD (by rw [List.map_append, List.map_append, enc_map, enc_map])
theorem P_enc {D : va_G} {cl : List vw_C} {ex w : va_W} {H : Heap} (hP : va_P D cl (ex ++ w) H) : va_P D cl w H := fun k q hk => hP (ex.length + k) q (by rw [List.getElem?_append_right (Nat.le_add_right _ _), Nat.add_sub_cancel_left]; exact hk)
theorem P_ex {D : va_G} {cl : List vw_C} {ex w : va_W} {H : Heap} (hP : va_P D cl (ex ++ w) H) : va_P D cl ex H := fun k q hk => hP k q (by rw [List.getElem?_append_left (List.getElem?_eq_some_iff.mp hk).1]; exact hk)
theorem Aw_in {G : Gx} {h : Hp} {k : Nat} {q : Nat × va_E} (hk : (enc G h)[k]? = some q) : Aw G q.1 := by
  rw [enc, List.getElem?_map] at hk
  cases hz : locL[k]? with
  | none => rw [hz] at hk; cases hk
  | some z =>
    rw [hz] at hk
    exact ⟨z, List.mem_of_getElem? hz, by rw [← Option.some.inj hk]⟩
theorem Aw_at {G : Gx} (h : Hp) {a : Nat} (ha : Aw G a) : ∃ (k : Nat) (q : Nat × va_E), (enc G h)[k]? = some q ∧ q.1 = a := by
  obtain ⟨z, hz, rfl⟩ := ha
  obtain ⟨i, hi⟩ := List.getElem?_of_mem hz
  exact ⟨i, (adr G z.1 z.2.1 z.2.2, cont G h z), by rw [enc, List.getElem?_map, hi]; rfl, rfl⟩
theorem Dst_D {G : Gx} (hd : Dst G) (h : Hp) : va_D (Aw G) (enc G h) := by
  refine ⟨fun i j x y hi hj hxy => ?_, fun k q hk => Aw_in hk⟩
  rw [enc, List.getElem?_map] at hi hj
  cases hz : locL[i]? with
  | none => rw [hz] at hi; cases hi
  | some z =>
    cases hw : locL[j]? with
    | none => rw [hw] at hj; cases hj
    | some w =>
      rw [hz] at hi; rw [hw] at hj
      have e1 := Option.some.inj hi
      have e2 := Option.some.inj hj
      rw [← e1, ← e2] at hxy
      have e := hd z (List.mem_of_getElem? hz) w (List.mem_of_getElem? hw) hxy
      subst e
      exact nodup_ix loc_nd hz hw
section Rows2
variable {X : Cx} {α : Type} {Qf : α → State → Prop} {ex : va_W} {cc : ByteArray} {own : String} {ret : Option FieldType} {rm : Room} {pc : Nat} {lv : List (Nat × Value)} {st : List Value} {h : Hp} {k : Option α}
theorem r_nmI {e : Int32} {k : Int32 → Option α} (K : ∀ v, Wt X Qf ex pc lv (.int v :: st) h (k v)) : Wt X Qf ex pc lv (.int e :: st) h (lt_ e k) := K e
theorem r_nmZ {e : Bool} {k : Bool → Option α} (K : ∀ v, Wt X Qf ex pc lv (.int (b2i v) :: st) h (k v)) : Wt X Qf ex pc lv (.int (b2i e) :: st) h (lt_ e k) := K e
theorem r_nmJ {e : Int64} {k : Int64 → Option α} (K : ∀ v, Wt X Qf ex pc lv (.long v :: st) h (k v)) : Wt X Qf ex pc lv (.long e :: st) h (lt_ e k) := K e
theorem Wt_pick {lv2 : List (Nat × Value)} (ks : List Nat) (hl : ks.filterMap (fun z => lv[z]?) = lv2) (K : Wt X Qf ex pc lv2 st h k) : Wt X Qf ex pc lv st h k := Wt_sub (fun q hq => by
  rw [← hl] at hq
  obtain ⟨i, -, hi⟩ := List.mem_filterMap.mp hq
  exact List.mem_of_getElem? hi) K
theorem r_tsc (F : Fx X cc own ret rm) {x : Int32} {dflt lo hi off : Int} {offs : Array Int} {len tgt : Nat} {k1 k2 : Option α} (v : Int32) (i : Nat) (hd : decode cc pc = .ok (.tableswitch dflt lo hi offs, len)) (ho : offs[i]? = some off) (hv : v.toInt = lo + i) (hb : lo + i ≤ hi) (ht : (pc : Int) + off = (tgt : Int)) (K1 : Wt X Qf ex tgt lv st h k1) (K2 : ¬ x = v → Wt X Qf ex pc lv (.int x :: st) h k2) : Wt X Qf ex pc lv (.int x :: st) h (if x = v then k1 else k2) :=
  Wt_if (fun e => Wt_go (fun _ _ _ _ _ w => lv_tableIn F.1 F.2.1 hd (by rw [e, hv]; omega) (by rw [e, hv]; omega) (by rw [e, hv]; rw [show (lo + (i : Int) - lo).toNat = i by omega]; exact ho) ht w) K1) K2
theorem r_tsd (F : Fx X cc own ret rm) {x : Int32} {dflt lo hi : Int} {offs : Array Int} {len tgt : Nat} (hd : decode cc pc = .ok (.tableswitch dflt lo hi offs, len)) (hx : x.toInt < lo ∨ hi < x.toInt) (ht : (pc : Int) + dflt = (tgt : Int)) (K : Wt X Qf ex tgt lv st h k) : Wt X Qf ex pc lv (.int x :: st) h k :=
  Wt_go (fun _ _ _ _ _ w => lv_tableOut F.1 F.2.1 hd hx ht w) K
theorem r_tsh (F : Fx X cc own ret rm) {x : Int32} {dflt lo hi : Int} {offs : Array Int} {len tgt : Nat} (hd : decode cc pc = .ok (.tableswitch dflt lo hi offs, len)) (hx : x.toInt < lo ∨ hi < x.toInt ∨ ∃ i : Nat, x.toInt = lo + i ∧ lo + i ≤ hi ∧ offs[i]? = some dflt) (ht : (pc : Int) + dflt = (tgt : Int)) (K : Wt X Qf ex tgt lv st h k) : Wt X Qf ex pc lv (.int x :: st) h k := by
  rcases hx with z | z | ⟨i, z1, z2, z3⟩
  · exact r_tsd F hd (Or.inl z) ht K
  · exact r_tsd F hd (Or.inr z) ht K
  · exact Wt_go (fun _ _ _ _ _ w => lv_tableIn F.1 F.2.1 hd (by rw [z1]; omega) (by rw [z1]; omega) (by rw [z1, show (lo + (i : Int) - lo).toNat = i by omega]; exact z3) ht w) K
theorem r_lsc (F : Fx X cc own ret rm) {x : Int32} {dflt off : Int} {ps : Array (Int × Int)} {len tgt : Nat} {k1 k2 : Option α} (v : Int32) (hd : decode cc pc = .ok (.lookupswitch dflt ps, len)) (hp : (ps.toList.zip (ps.toList.drop 1)).all (fun (a, next) => a.1 < next.1) = true) (ho : Op.lookupswitch.offset ps.toList dflt v.toInt = off) (ht : (pc : Int) + off = (tgt : Int)) (K1 : Wt X Qf ex tgt lv st h k1) (K2 : ¬ x = v → Wt X Qf ex pc lv (.int x :: st) h k2) : Wt X Qf ex pc lv (.int x :: st) h (if x = v then k1 else k2) :=
  Wt_if (fun e => Wt_go (fun _ _ _ _ _ w => lv_lookup F.1 F.2.1 hd hp (by rw [e]; exact ho) ht w) K1) K2
theorem r_lsd (F : Fx X cc own ret rm) {x : Int32} {dflt : Int} {ps : Array (Int × Int)} {len tgt : Nat} (hd : decode cc pc = .ok (.lookupswitch dflt ps, len)) (hp : (ps.toList.zip (ps.toList.drop 1)).all (fun (a, next) => a.1 < next.1) = true) (ho : Op.lookupswitch.offset ps.toList dflt x.toInt = dflt) (ht : (pc : Int) + dflt = (tgt : Int)) (K : Wt X Qf ex tgt lv st h k) : Wt X Qf ex pc lv (.int x :: st) h k :=
  Wt_go (fun _ _ _ _ _ w => lv_lookup F.1 F.2.1 hd hp ho ht w) K
theorem r_get (F : Fx X cc own ret rm) {i c o s : Nat} {kd : Nat × Nat × Nat} (f : FR own i c s kd) (ho : o < cnt c) {v : Value} (hv : fval (xG X) h c o s = v) (hd : decode cc pc = .ok (.getfield i, 3)) (K : Wt X Qf ex (pc + 3) lv (v :: st) h k) : Wt X Qf ex pc lv (.ref (adr (xG X) c o 0) :: st) h k := by
  obtain ⟨hw, hc, hs, hf⟩ := f
  obtain ⟨hx, hb, hml, hown, hts, -, -, hK, -⟩ := F
  intro H locs ls hO hP hD hS hl out ho2
  obtain ⟨q0, -, hq⟩ := enc_at (xG X) ex hc ho (Nat.succ_pos (na c))
  exact va_get (cl := vwCl) (T := TXf c) (N := nf c) (v := v) hx hb hts (cl_ws c hc) hown hK hP q0 (hq h) (cl_at c hc) s hs (hts _ hw) (fun _ z => z) (by rw [flds_at _ _ hs, hv]) hd (K H locs ls hO hP hD hS hl out ho2)
theorem r_getI (F : Fx X cc own ret rm) {i c o s : Nat} (f : FR own i c s (0, 0, 0)) (ho : o < cnt c) (hd : decode cc pc = .ok (.getfield i, 3)) (K : Wt X Qf ex (pc + 3) lv (.int (gI h c o s) :: st) h k) : Wt X Qf ex pc lv (.ref (adr (xG X) c o 0) :: st) h k := r_get F f ho (by simp only [fval, f.2.2.2]) hd K
theorem r_getZ (F : Fx X cc own ret rm) {i c o s : Nat} (f : FR own i c s (5, 0, 0)) (ho : o < cnt c) (hd : decode cc pc = .ok (.getfield i, 3)) (K : Wt X Qf ex (pc + 3) lv (.int (b2i (gZ h c o s)) :: st) h k) : Wt X Qf ex pc lv (.ref (adr (xG X) c o 0) :: st) h k := r_get F f ho (by simp only [fval, f.2.2.2]) hd K
theorem r_getL (F : Fx X cc own ret rm) {i c o s : Nat} (f : FR own i c s (1, 0, 0)) (ho : o < cnt c) (hd : decode cc pc = .ok (.getfield i, 3)) (K : Wt X Qf ex (pc + 3) lv (.long (gL h c o s) :: st) h k) : Wt X Qf ex pc lv (.ref (adr (xG X) c o 0) :: st) h k := r_get F f ho (by simp only [fval, f.2.2.2]) hd K
theorem r_getA (F : Fx X cc own ret rm) {i c o s a : Nat} (f : FR own i c s (3, a, 0)) (ho : o < cnt c) (hd : decode cc pc = .ok (.getfield i, 3)) (K : Wt X Qf ex (pc + 3) lv (.ref (adr (xG X) c o (a + 1)) :: st) h k) : Wt X Qf ex pc lv (.ref (adr (xG X) c o 0) :: st) h k := r_get F f ho (by simp only [fval, f.2.2.2]) hd K
theorem r_getS (F : Fx X cc own ret rm) {i c o s t b : Nat} (f : FR own i c s (4, t, b)) (ho : o < cnt c) (o2 : Nat) (he : o + b = o2) (hd : decode cc pc = .ok (.getfield i, 3)) (K : Wt X Qf ex (pc + 3) lv (.ref (adr (xG X) t o2 0) :: st) h k) : Wt X Qf ex pc lv (.ref (adr (xG X) c o 0) :: st) h k := r_get F f ho (by subst he; simp only [fval, f.2.2.2]) hd K
theorem Wt_ok (K : okH h → Wt X Qf ex pc lv st h k) : Wt X Qf ex pc lv st h k := fun H locs ls hO => K hO H locs ls hO
theorem r_getO (F : Fx X cc own ret rm) {i c o s t : Nat} {k : Nat → Option α} (f : FR own i c s (2, t, 0)) (ho : o < cnt c) (hd : decode cc pc = .ok (.getfield i, 3)) (K : ∀ u, u < cnt t → Wt X Qf ex (pc + 3) lv (.ref (adr (xG X) t u 0) :: st) h (k u)) : Wt X Qf ex pc lv (.ref (adr (xG X) c o 0) :: st) h (onO (gO h c o s) k) :=
  Wt_ok fun hO => Wt_onO fun u hu => r_get F f ho (by simp only [fval, f.2.2.2, hu]; rfl) hd (K u (by have := hO c o s u hu; rw [f.2.2.2] at this; exact this))
theorem r_getO1 (F : Fx X cc own ret rm) {i c o s t : Nat} {k : Option α} (f : FR own i c s (2, t, 0)) (ho : o < cnt c) (h1 : cnt t = 1) (hd : decode cc pc = .ok (.getfield i, 3)) (K : Wt X Qf ex (pc + 3) lv (.ref (adr (xG X) t 0 0) :: st) h k) : Wt X Qf ex pc lv (.ref (adr (xG X) c o 0) :: st) h (onO (gO h c o s) fun _ => k) :=
  r_getO F f ho hd fun u hu => by
    rw [h1] at hu
    have : u = 0 := by omega
    subst this
    exact K
theorem r_put (F : Fx X cc own ret rm) {i c o s : Nat} {kd : Nat × Nat × Nat} (f : FR own i c s kd) (ho : o < cnt c) (hfin : (TXf c s).2.2.2 = false) {v : Value} (hn : narrow (tyf c s) v = v) (hfit : fits (tyf c s) v = true) {h' : Hp} (hv : v = fval (xG X) h' c o s) (hne : ∀ z, z ≠ s → fval (xG X) h' c o z = fval (xG X) h c o z) (hq' : ∀ q, q ≠ (c, o, 0) → cont (xG X) h' q = cont (xG X) h q) (hOk : okH h → okH h') (hd : decode cc pc = .ok (.putfield i, 3)) (K : Wt X Qf ex (pc + 3) lv st h' k) : Wt X Qf ex pc lv (v :: .ref (adr (xG X) c o 0) :: st) h k := by
  obtain ⟨hw, hc, hs, hf⟩ := f
  obtain ⟨hx, hb, hml, hown, hts, -, -, hK, -⟩ := F
  intro H locs ls hO hP hD hS hl out ho2
  obtain ⟨q0, hq0, hq⟩ := enc_at (xG X) ex hc ho (Nat.succ_pos (na c))
  have e : (ex ++ enc (xG X) h).set q0 (adr (xG X) c o 0, .inr (c, (flds (xG X) h c o).set s v)) = ex ++ enc (xG X) h' := enc_set (xG X) ex hq0 (by rw [flds_set (xG X) hs hv hne]; rfl) hq'
  exact va_put (cl := vwCl) (T := TXf c) (N := nf c) (v := v) (ty := tyf c s) hx hb hts (cl_ws c hc) (tyf c) (cl_ty c hc) (cl_nm c hc) hown hK hP hD hS q0 (hq h) (cl_at c hc) s hs (hts _ hw) (fun _ z => z) hfin (cl_ty c hc s hs) hn hfit (by rw [flds_len]; exact hs) hd
    (fun H1 locs1 a1 a2 a3 => by rw [e] at a1 a2; exact K H1 locs1 ls (hOk hO) a1 a2 a3 hl out ho2)
theorem fval_sI (G : Gx) (h : Hp) {c o s z : Nat} (v : Int32) (hz : z ≠ s) : fval G (sI h c o s v) c o z = fval G h c o z := by
  have e1 : gI (sI h c o s v) c o z = gI h c o z := by rw [gI_sI, if_neg fun y => hz y.2.2]
  simp only [fval, gZ, e1]
  rfl
theorem fval_sL (G : Gx) (h : Hp) {c o s z : Nat} (v : Int64) (hz : z ≠ s) : fval G (sL h c o s v) c o z = fval G h c o z := by
  have e1 : gL (sL h c o s v) c o z = gL h c o z := by rw [gL_sL, if_neg fun y => hz y.2.2]
  simp only [fval, e1]
  rfl
theorem fval_sO (G : Gx) (h : Hp) {c o s z v : Nat} (hz : z ≠ s) : fval G (sO h c o s v) c o z = fval G h c o z := by
  have e1 : gO (sO h c o s v) c o z = gO h c o z := by rw [gO_sO, if_neg fun y => hz y.2.2]
  simp only [fval, e1]
  rfl
theorem r_putI (F : Fx X cc own ret rm) {i c o s : Nat} {v : Int32} {k : Hp → Option α} (f : FR own i c s (0, 0, 0)) (ho : o < cnt c) (hfin : (TXf c s).2.2.2 = false) (ht : tyf c s = .int) (hd : decode cc pc = .ok (.putfield i, 3)) (K : ∀ h', Wt X Qf ex (pc + 3) lv st h' (k h')) : Wt X Qf ex pc lv (.int v :: .ref (adr (xG X) c o 0) :: st) h (lt_ (sI h c o s v) k) :=
  r_put F f ho hfin (by rw [ht]; rfl) (by rw [ht]; rfl) (h' := sI h c o s v) (by simp only [fval, f.2.2.2, gI_sI]; simp) (fun z hz => fval_sI _ _ _ hz) (fun q hq => cont_sI _ _ _ hq) (fun z => z) hd (K _)
theorem nar_b (b : Bool) : narrow .boolean (.int (b2i b)) = .int (b2i b) := by cases b <;> rfl
theorem fit_b (b : Bool) : fits .boolean (.int (b2i b)) = true := by cases b <;> rfl
theorem r_putZ (F : Fx X cc own ret rm) {i c o s : Nat} {v : Int32} (b : Bool) (hb : v = b2i b) {k : Hp → Option α} (f : FR own i c s (5, 0, 0)) (ho : o < cnt c) (hfin : (TXf c s).2.2.2 = false) (ht : tyf c s = .boolean) (hd : decode cc pc = .ok (.putfield i, 3)) (K : ∀ h', Wt X Qf ex (pc + 3) lv st h' (k h')) : Wt X Qf ex pc lv (.int v :: .ref (adr (xG X) c o 0) :: st) h (lt_ (sZ h c o s b) k) :=
  r_put F f ho hfin (by rw [ht, hb]; exact nar_b b) (by rw [ht, hb]; exact fit_b b) (h' := sZ h c o s b) (by simp only [fval, f.2.2.2, gZ_sZ, hb]; simp) (fun z hz => fval_sI _ _ _ hz) (fun q hq => cont_sI _ _ _ hq) (fun z => z) hd (K _)
theorem r_putL (F : Fx X cc own ret rm) {i c o s : Nat} {v : Int64} {k : Hp → Option α} (f : FR own i c s (1, 0, 0)) (ho : o < cnt c) (hfin : (TXf c s).2.2.2 = false) (ht : tyf c s = .long) (hd : decode cc pc = .ok (.putfield i, 3)) (K : ∀ h', Wt X Qf ex (pc + 3) lv st h' (k h')) : Wt X Qf ex pc lv (.long v :: .ref (adr (xG X) c o 0) :: st) h (lt_ (sL h c o s v) k) :=
  r_put F f ho hfin (by rw [ht]; rfl) (by rw [ht]; rfl) (h' := sL h c o s v) (by simp only [fval, f.2.2.2, gL_sL]; simp) (fun z hz => fval_sL _ _ _ hz) (fun q hq => cont_sL _ _ _ hq) (fun z => z) hd (K _)
theorem okH_sO {h : Hp} {c o s v t : Nat} (hf : fk c s = (2, t, 0)) (hv : v < cnt t) (hO : okH h) : okH (sO h c o s v) := by
  intro c' o' s' u hu
  rw [gO_sO] at hu
  by_cases hz : c' = c ∧ o' = o ∧ s' = s
  · rw [if_pos hz] at hu
    cases hu
    rw [hz.1, hz.2.2, hf]
    exact hv
  · rw [if_neg hz] at hu
    exact hO c' o' s' u hu
theorem r_putO (F : Fx X cc own ret rm) {i c o s t v : Nat} {nm : String} {k : Hp → Option α} (f : FR own i c s (2, t, 0)) (ho : o < cnt c) (hv : v < cnt t) (hfin : (TXf c s).2.2.2 = false) (ht : tyf c s = .object nm) (hd : decode cc pc = .ok (.putfield i, 3)) (K : ∀ h', Wt X Qf ex (pc + 3) lv st h' (k h')) : Wt X Qf ex pc lv (.ref (adr (xG X) t v 0) :: .ref (adr (xG X) c o 0) :: st) h (lt_ (sO h c o s v) k) :=
  r_put F f ho hfin (by rw [ht]; rfl) (by rw [ht]; rfl) (h' := sO h c o s v) (by simp only [fval, f.2.2.2, gO_sO]; simp; rfl) (fun z hz => fval_sO _ _ hz) (fun q hq => cont_sO _ _ hq) (fun z => okH_sO f.2.2.2 hv z) hd (K _)
theorem ac_0 (G : Gx) (h : Hp) {c o a n : Nat} (e : ak c a = (0, n)) : cont G h (c, o, a + 1) = .inl (G.2.2.1, n, .inl (gA h c o a)) := by simp only [cont, acell, e]
theorem ac_1 (G : Gx) (h : Hp) {c o a n : Nat} (e : ak c a = (1, n)) : cont G h (c, o, a + 1) = .inl (G.2.2.2.1, n, .inl fun i => b2i (gY h c o a i)) := by simp only [cont, acell, e]
theorem ac_2 (G : Gx) (h : Hp) {c o a n : Nat} (e : ak c a = (2, n)) : cont G h (c, o, a + 1) = .inl (G.2.2.2.2.1, n, .inr (.inl (gB h c o a))) := by simp only [cont, acell, e]
theorem ac_3 (G : Gx) (h : Hp) {c o a n : Nat} (e : ak c a = (3, n)) : cont G h (c, o, a + 1) = .inl (G.2.2.2.2.2, n, .inr (.inr (.inr (.inr fun i => some (adr G 3 (3 + i) 0))))) := by simp only [cont, acell, e]
theorem r_iaload (F : Fx X cc own ret rm) {c o a n : Nat} {i : Int32} (f : AR c o a 0 n) (hd : decode cc pc = .ok (.iaload, 1)) (K : Wt X Qf ex (pc + 1) lv (.int (gA h c o a i.toNatClampNeg) :: st) h k) : Wt X Qf ex pc lv (.int i :: .ref (adr (xG X) c o (a + 1)) :: st) h (grd (inb i n) k) := by
  obtain ⟨hc, ha, ho, hk⟩ := f
  obtain ⟨hx, hb, hml, hown, hts, -, -, hK, -⟩ := F
  refine Wt_grd fun hi => ?_
  intro H locs ls hO hP hD hS hl out ho2
  obtain ⟨q0, -, hq⟩ := enc_at (xG X) ex hc ho (Nat.succ_lt_succ ha)
  exact va_iald hx hb hK hP q0 0 (by rw [hq h, ac_0 _ _ hk]) rfl (inb_vp hi) hd (K H locs ls hO hP hD hS hl out ho2)
theorem r_baload (F : Fx X cc own ret rm) {c o a n : Nat} {i : Int32} (f : AR c o a 1 n) (hd : decode cc pc = .ok (.baload, 1)) (K : Wt X Qf ex (pc + 1) lv (.int (b2i (gY h c o a i.toNatClampNeg)) :: st) h k) : Wt X Qf ex pc lv (.int i :: .ref (adr (xG X) c o (a + 1)) :: st) h (grd (inb i n) k) := by
  obtain ⟨hc, ha, ho, hk⟩ := f
  obtain ⟨hx, hb, hml, hown, hts, -, -, hK, -⟩ := F
  refine Wt_grd fun hi => ?_
  intro H locs ls hO hP hD hS hl out ho2
  obtain ⟨q0, -, hq⟩ := enc_at (xG X) ex hc ho (Nat.succ_lt_succ ha)
  exact va_zald (f := fun i => b2i (gY h c o a i)) hx hb hK hP q0 1 (by rw [hq h, ac_1 _ _ hk]) rfl (inb_vp hi) hd (K H locs ls hO hP hD hS hl out ho2)
theorem r_laload (F : Fx X cc own ret rm) {c o a n : Nat} {i : Int32} (f : AR c o a 2 n) (hd : decode cc pc = .ok (.laload, 1)) (K : Wt X Qf ex (pc + 1) lv (.long (gB h c o a i.toNatClampNeg) :: st) h k) : Wt X Qf ex pc lv (.int i :: .ref (adr (xG X) c o (a + 1)) :: st) h (grd (inb i n) k) := by
  obtain ⟨hc, ha, ho, hk⟩ := f
  obtain ⟨hx, hb, hml, hown, hts, -, -, hK, -⟩ := F
  refine Wt_grd fun hi => ?_
  intro H locs ls hO hP hD hS hl out ho2
  obtain ⟨q0, -, hq⟩ := enc_at (xG X) ex hc ho (Nat.succ_lt_succ ha)
  exact va_lald hx hb hK hP q0 2 (by rw [hq h, ac_2 _ _ hk]) rfl (inb_vp hi) hd (K H locs ls hO hP hD hS hl out ho2)
theorem r_aaload (F : Fx X cc own ret rm) {i : Int32} {k : Nat → Option α} (hd : decode cc pc = .ok (.aaload, 1)) (K : ∀ o, o < cnt 3 → Wt X Qf ex (pc + 1) lv (.ref (adr (xG X) 3 o 0) :: st) h (k o)) : Wt X Qf ex pc lv (.int i :: .ref (adr (xG X) 7 0 6) :: st) h (grd (inb i 7) (lt_ (3 + i.toNatClampNeg) k)) := by
  obtain ⟨hx, hb, hml, hown, hts, -, -, hK, -⟩ := F
  refine Wt_grd fun hi => ?_
  intro H locs ls hO hP hD hS hl out ho2
  obtain ⟨q0, -, hq⟩ := enc_at (xG X) ex (c := 7) (o := 0) (j := 6) (by decide) (by decide) (by decide)
  exact va_aldq (f := fun i => some (adr (xG X) 3 (3 + i) 0)) hx hb hK hP q0 3 (by rw [hq h, ac_3 (n := 7) _ _ rfl]) rfl (inb_vp hi) hd (K _ (show 3 + i.toNatClampNeg < 10 by have := hi.2; omega) H locs ls hO hP hD hS hl out ho2)
theorem r_iastore (F : Fx X cc own ret rm) {c o a n : Nat} {i v : Int32} {k : Hp → Option α} (f : AR c o a 0 n) (hd : decode cc pc = .ok (.iastore, 1)) (K : ∀ h', Wt X Qf ex (pc + 1) lv st h' (k h')) : Wt X Qf ex pc lv (.int v :: .int i :: .ref (adr (xG X) c o (a + 1)) :: st) h (grd (inb i n) (lt_ (sA h c o a i.toNatClampNeg v) k)) := by
  obtain ⟨hc, ha, ho, hk⟩ := f
  obtain ⟨hx, hb, hml, hown, hts, -, -, hK, -⟩ := F
  refine Wt_grd fun hi => ?_
  intro H locs ls hO hP hD hS hl out ho2
  obtain ⟨q0, hq0, hq⟩ := enc_at (xG X) ex hc ho (Nat.succ_lt_succ ha)
  have e : (ex ++ enc (xG X) h).set q0 (adr (xG X) c o (a + 1), .inl ((xG X).2.2.1, n, .inl (upd (gA h c o a) i.toNatClampNeg v))) = ex ++ enc (xG X) (sA h c o a i.toNatClampNeg v) :=
    enc_set (xG X) ex hq0 (by rw [ac_0 _ _ hk, sA, gA_sAf, if_pos ⟨rfl, rfl, rfl⟩]) (fun q z => cont_sAf _ _ _ z)
  exact va_iast hx hb hK hP hD hS q0 0 (by rw [hq h, ac_0 _ _ hk]) rfl (inb_vp hi) hd (fun H1 locs1 a1 a2 a3 => by rw [e] at a1 a2; exact K (sA h c o a i.toNatClampNeg v) H1 locs1 ls hO a1 a2 a3 hl out ho2)
theorem vnar_b (b : Bool) : vp_nar .boolean (b2i b) = b2i b := by cases b <;> rfl
theorem gY_sY (h : Hp) (c o a i j : Nat) (b : Bool) : gY (sY h c o a i b) c o a j = if j = i then b else gY h c o a j := by
  have e : gA (sY h c o a i b) c o a = upd (gA h c o a) i (b2i b) := by rw [sY, sA, gA_sAf, if_pos ⟨rfl, rfl, rfl⟩]
  rw [gY, e, upd]
  by_cases z : j = i
  · rw [if_pos z, if_pos z, b2i_d]
  · rw [if_neg z, if_neg z, gY]
theorem r_bastore (F : Fx X cc own ret rm) {c o a n : Nat} {i v : Int32} (b : Bool) (hbv : v = b2i b) {k : Hp → Option α} (f : AR c o a 1 n) (hd : decode cc pc = .ok (.bastore, 1)) (K : ∀ h', Wt X Qf ex (pc + 1) lv st h' (k h')) : Wt X Qf ex pc lv (.int v :: .int i :: .ref (adr (xG X) c o (a + 1)) :: st) h (grd (inb i n) (lt_ (sY h c o a i.toNatClampNeg b) k)) := by
  obtain ⟨hc, ha, ho, hk⟩ := f
  obtain ⟨hx, hb, hml, hown, hts, -, -, hK, -⟩ := F
  refine Wt_grd fun hi => ?_
  intro H locs ls hO hP hD hS hl out ho2
  obtain ⟨q0, hq0, hq⟩ := enc_at (xG X) ex hc ho (Nat.succ_lt_succ ha)
  have e0 : upd (fun z => b2i (gY h c o a z)) i.toNatClampNeg (vp_nar .boolean v) = fun z => b2i (gY (sY h c o a i.toNatClampNeg b) c o a z) := by
    funext z
    rw [gY_sY, upd, hbv, vnar_b]
    by_cases hz : z = i.toNatClampNeg
    · rw [if_pos hz, if_pos hz]
    · rw [if_neg hz, if_neg hz]
  have e : (ex ++ enc (xG X) h).set q0 (adr (xG X) c o (a + 1), .inl ((xG X).2.2.2.1, n, .inl (upd (fun z => b2i (gY h c o a z)) i.toNatClampNeg (vp_nar .boolean v)))) = ex ++ enc (xG X) (sY h c o a i.toNatClampNeg b) :=
    enc_set (xG X) ex hq0 (by rw [ac_1 _ _ hk, e0]) (fun q z => cont_sAf _ _ _ z)
  exact va_zast (f := fun i => b2i (gY h c o a i)) hx hb hK hP hD hS q0 1 (by rw [hq h, ac_1 _ _ hk]) rfl (inb_vp hi) hd (fun H1 locs1 a1 a2 a3 => by rw [e] at a1 a2; exact K (sY h c o a i.toNatClampNeg b) H1 locs1 ls hO a1 a2 a3 hl out ho2)
theorem r_lastore (F : Fx X cc own ret rm) {c o a n : Nat} {i : Int32} {v : Int64} {k : Hp → Option α} (f : AR c o a 2 n) (hd : decode cc pc = .ok (.lastore, 1)) (K : ∀ h', Wt X Qf ex (pc + 1) lv st h' (k h')) : Wt X Qf ex pc lv (.long v :: .int i :: .ref (adr (xG X) c o (a + 1)) :: st) h (grd (inb i n) (lt_ (sB h c o a i.toNatClampNeg v) k)) := by
  obtain ⟨hc, ha, ho, hk⟩ := f
  obtain ⟨hx, hb, hml, hown, hts, -, -, hK, -⟩ := F
  refine Wt_grd fun hi => ?_
  intro H locs ls hO hP hD hS hl out ho2
  obtain ⟨q0, hq0, hq⟩ := enc_at (xG X) ex hc ho (Nat.succ_lt_succ ha)
  have e : (ex ++ enc (xG X) h).set q0 (adr (xG X) c o (a + 1), .inl ((xG X).2.2.2.2.1, n, .inr (.inl (vp_updL (gB h c o a) i.toNatClampNeg v)))) = ex ++ enc (xG X) (sB h c o a i.toNatClampNeg v) :=
    enc_set (xG X) ex hq0 (by rw [ac_2 _ _ hk, sB, gB_sBf, if_pos ⟨rfl, rfl, rfl⟩]) (fun q z => cont_sBf _ _ _ z)
  exact va_last hx hb hK hP hD hS q0 2 (by rw [hq h, ac_2 _ _ hk]) rfl (inb_vp hi) hd (fun H1 locs1 a1 a2 a3 => by rw [e] at a1 a2; exact K (sB h c o a i.toNatClampNeg v) H1 locs1 ls hO a1 a2 a3 hl out ho2)
theorem r_alen0 (F : Fx X cc own ret rm) {c o a n : Nat} {v : Int32} (f : AR c o a 0 n) (hv : Int32.ofNat n = v) (hd : decode cc pc = .ok (.arraylength, 1)) (K : Wt X Qf ex (pc + 1) lv (.int v :: st) h k) : Wt X Qf ex pc lv (.ref (adr (xG X) c o (a + 1)) :: st) h k := by
  obtain ⟨hc, ha, ho, hk⟩ := f
  obtain ⟨hx, hb, hml, hown, hts, -, -, hK, -⟩ := F
  intro H locs ls hO hP hD hS hl out ho2
  obtain ⟨q0, -, hq⟩ := enc_at (xG X) ex hc ho (Nat.succ_lt_succ ha)
  exact va_alen (x := (n, .inl (gA h c o a))) hx hb hK hP q0 0 (by rw [hq h, ac_0 _ _ hk]) rfl hv hd (K H locs ls hO hP hD hS hl out ho2)
theorem r_alen3 (F : Fx X cc own ret rm) {v : Int32} (hv : Int32.ofNat 7 = v) (hd : decode cc pc = .ok (.arraylength, 1)) (K : Wt X Qf ex (pc + 1) lv (.int v :: st) h k) : Wt X Qf ex pc lv (.ref (adr (xG X) 7 0 6) :: st) h k := by
  obtain ⟨hx, hb, hml, hown, hts, -, -, hK, -⟩ := F
  intro H locs ls hO hP hD hS hl out ho2
  obtain ⟨q0, -, hq⟩ := enc_at (xG X) ex (c := 7) (o := 0) (j := 6) (by decide) (by decide) (by decide)
  exact va_alen (x := (7, .inr (.inr (.inr (.inr fun i => some (adr (xG X) 3 (3 + i) 0)))))) hx hb hK hP q0 3 (by rw [hq h, ac_3 (n := 7) _ _ rfl]) rfl hv hd (K H locs ls hO hP hD hS hl out ho2)
theorem r_copy (F : Fx X cc own ret rm) {c o a n c' o' a' n' ix : Nat} {sp dp m : Int32} {k : Hp → Option α} (f : AR c o a 0 n) (f' : AR c' o' a' 0 n') (hl0 : Cond.methodLink own ix arraycopyName ∈ GT) (hw : Cond.native arraycopyName ∈ GT ∧ Cond.static arraycopyName ∈ GT ∧ Cond.initialized "java/lang/System" ∈ GT) (hR : 1 ≤ rm.frames ∧ (st.map fun v => v.category).sum + 18 ≤ rm.locals) (hd : decode cc pc = .ok (.invokestatic ix, 3)) (K : ∀ h', Wt X Qf ex (pc + 3) lv st h' (k h')) :
    Wt X Qf ex pc lv (.int m :: .int dp :: .ref (adr (xG X) c' o' (a' + 1)) :: .int sp :: .ref (adr (xG X) c o (a + 1)) :: st) h (grd ((0 ≤ sp ∧ 0 ≤ dp ∧ 0 ≤ m) ∧ sp.toNatClampNeg + m.toNatClampNeg ≤ n ∧ dp.toNatClampNeg + m.toNatClampNeg ≤ n') (lt_ (sAf h c' o' a' (va_cpy (gA h c o a) (gA h c' o' a') sp.toNatClampNeg dp.toNatClampNeg m.toNatClampNeg)) k)) := by
  obtain ⟨hc, ha, ho, hk⟩ := f
  obtain ⟨hc', ha', ho', hk'⟩ := f'
  obtain ⟨hx, hb, hml, hown, hts, -, -, hK, -, -, hrm, -⟩ := F
  refine Wt_grd fun hi => ?_
  intro H locs ls hO hP hD hS hl out ho2
  obtain ⟨q0, -, hq⟩ := enc_at (xG X) ex hc ho (Nat.succ_lt_succ ha)
  obtain ⟨q1, hq1, hq'⟩ := enc_at (xG X) ex hc' ho' (Nat.succ_lt_succ ha')
  have e : (ex ++ enc (xG X) h).set q1 (adr (xG X) c' o' (a' + 1), .inl ((xG X).2.2.1, n', .inl (va_cpy (gA h c o a) (gA h c' o' a') sp.toNatClampNeg dp.toNatClampNeg m.toNatClampNeg))) = ex ++ enc (xG X) (sAf h c' o' a' (va_cpy (gA h c o a) (gA h c' o' a') sp.toNatClampNeg dp.toNatClampNeg m.toNatClampNeg)) :=
    enc_set (xG X) ex hq1 (by rw [ac_0 _ _ hk', gA_sAf, if_pos ⟨rfl, rfl, rfl⟩]) (fun q z => cont_sAf _ _ _ z)
  have hrm' : X.1.2.2.2.1 = rm := hrm
  exact va_copyi (ty := .int) hx hb (hml.trans hl.1.symm) hown (hts _ hl0) (hts _ hw.1) (hts _ hw.2.1) (hts _ hw.2.2) hK hP hD hS q0 q1 0 0 (by rw [hq h, ac_0 _ _ hk]) (by rw [hq' h, ac_0 _ _ hk']) rfl rfl rfl
    (Int32.not_lt.mpr hi.1.1) (Int32.not_lt.mpr hi.1.2.1) (Int32.not_lt.mpr hi.1.2.2) hi.2.1 hi.2.2 (fun _ _ => rfl) (by rw [hrm']; exact hR.1) (by rw [hrm']; exact hR.2) hd (fun H1 locs1 a1 a2 a3 => by rw [e] at a1 a2; exact K (sAf h c' o' a' (va_cpy (gA h c o a) (gA h c' o' a') sp.toNatClampNeg dp.toNatClampNeg m.toNatClampNeg)) H1 locs1 ls hO a1 a2 a3 hl out ho2)
theorem r_max (F : Fx X cc own ret rm) {ix : Nat} {x y : Int32} (hl0 : Cond.methodLink own ix Lib.Math.max.name ∈ GT) (hw : Cond.static Lib.Math.max.name ∈ GT ∧ Cond.initialized "java/lang/Math" ∈ GT ∧ Cond.code Lib.Math.max.name Lib.Math.max.code 2 (some .int) ∈ GT) (hR : 1 ≤ rm.frames ∧ (st.map fun v => v.category).sum + 13 ≤ rm.locals) (hd : decode cc pc = .ok (.invokestatic ix, 3)) (K : Wt X Qf ex (pc + 3) lv (.int (if x < y then y else x) :: st) h k) : Wt X Qf ex pc lv (.int y :: .int x :: st) h k := by
  obtain ⟨hx, hb, hml, hown, hts, -, -, hK, -, -, hrm, hcs, hN⟩ := F
  have hrm' : X.1.2.2.2.1 = rm := hrm
  exact Wt_go (fun H locs ls Q e w => va_mmax hx hb (hml.trans e.1.symm) hown (hts _ hl0) (hts _ hw.1) (hts _ hw.2.1) (hts _ hw.2.2) (by rw [hrm']; exact hR.1) (by rw [hrm']; exact hR.2) (by rw [hrm']; exact hcs.1) (by rw [hrm']; exact hcs.2) hd w) K
theorem r_min (F : Fx X cc own ret rm) {ix : Nat} {x y : Int32} (hl0 : Cond.methodLink own ix Lib.Math.min.name ∈ GT) (hw : Cond.static Lib.Math.min.name ∈ GT ∧ Cond.initialized "java/lang/Math" ∈ GT ∧ Cond.code Lib.Math.min.name Lib.Math.min.code 2 (some .int) ∈ GT) (hR : 1 ≤ rm.frames ∧ (st.map fun v => v.category).sum + 13 ≤ rm.locals) (hd : decode cc pc = .ok (.invokestatic ix, 3)) (K : Wt X Qf ex (pc + 3) lv (.int (if y < x then y else x) :: st) h k) : Wt X Qf ex pc lv (.int y :: .int x :: st) h k := by
  obtain ⟨hx, hb, hml, hown, hts, -, -, hK, -, -, hrm, hcs, hN⟩ := F
  have hrm' : X.1.2.2.2.1 = rm := hrm
  exact Wt_go (fun H locs ls Q e w => va_mmin hx hb (hml.trans e.1.symm) hown (hts _ hl0) (hts _ hw.1) (hts _ hw.2.1) (hts _ hw.2.2) (by rw [hrm']; exact hR.1) (by rw [hrm']; exact hR.2) (by rw [hrm']; exact hcs.1) (by rw [hrm']; exact hcs.2) hd w) K
end Rows2
section Ends
variable {X : Cx} {β : Type} {rv : β → Option Value} {hp : β → Hp} {P : β → Prop} {cc : ByteArray} {own : String} {ret : Option FieldType} {rm : Room} {pc : Nat} {lv : List (Nat × Value)} {h : Hp} {out : β}
theorem r_iret (F : Fx X cc own (some .int) rm) (hA : xA X = Aw (xG X)) {v : Int32} (hr : rv out = some (.int v)) (hh : hp out = h) (hp' : P out) (hd : decode cc pc = .ok (.ireturn, 1)) : Wm X rv hp P pc lv [.int v] h (some out) := by
  obtain ⟨hx, hb, hml, hown, hts, hlocks, hret, -⟩ := F
  intro H locs ls hO hP hD hS hl o ho
  cases ho
  show Wx X H locs (MQ _ (Qw (xG X) (rv out) (hp out) (P out)) _ _ _ _ _) _
  rw [hr, hh]
  rw [hA] at hS
  exact W.iret hx hb hret (fun t ht _ => ⟨rfl, hp', hO, by rw [ht]; exact P_enc hP, hS.F ht⟩) hS.2.2 hd hlocks
theorem r_zret (F : Fx X cc own (some .boolean) rm) (hA : xA X = Aw (xG X)) {v : Int32} (b : Bool) (hv : v = b2i b) (hr : rv out = some (.int v)) (hh : hp out = h) (hp' : P out) (hd : decode cc pc = .ok (.ireturn, 1)) : Wm X rv hp P pc lv [.int v] h (some out) := by
  obtain ⟨hx, hb, hml, hown, hts, hlocks, hret, -⟩ := F
  intro H locs ls hO hP hD hS hl o ho
  cases ho
  show Wx X H locs (MQ _ (Qw (xG X) (rv out) (hp out) (P out)) _ _ _ _ _) _
  rw [hr, hh]
  rw [hA] at hS
  exact W.zret hx hb hret (by rw [hv]; exact nar_b b) (fun t ht _ => ⟨rfl, hp', hO, by rw [ht]; exact P_enc hP, hS.F ht⟩) hS.2.2 hd hlocks
theorem r_lret (F : Fx X cc own (some .long) rm) (hA : xA X = Aw (xG X)) {v : Int64} (hr : rv out = some (.long v)) (hh : hp out = h) (hp' : P out) (hd : decode cc pc = .ok (.lreturn, 1)) : Wm X rv hp P pc lv [.long v] h (some out) := by
  obtain ⟨hx, hb, hml, hown, hts, hlocks, hret, -⟩ := F
  intro H locs ls hO hP hD hS hl o ho
  cases ho
  show Wx X H locs (MQ _ (Qw (xG X) (rv out) (hp out) (P out)) _ _ _ _ _) _
  rw [hr, hh]
  rw [hA] at hS
  exact W.lret hx hb hret (fun t ht _ => ⟨rfl, hp', hO, by rw [ht]; exact P_enc hP, hS.F ht⟩) hS.2.2 hd hlocks
theorem r_aret (F : Fx X cc own ret rm) (hA : xA X = Aw (xG X)) {rt : String} (hrt : ret = some (.object rt)) {a : Nat} (hr : rv out = some (.ref a)) (hh : hp out = h) (hp' : P out) (hd : decode cc pc = .ok (.areturn, 1)) : Wm X rv hp P pc lv [.ref a] h (some out) := by
  subst hrt
  obtain ⟨hx, hb, hml, hown, hts, hlocks, hret, -⟩ := F
  intro H locs ls hO hP hD hS hl o ho
  cases ho
  show Wx X H locs (MQ _ (Qw (xG X) (rv out) (hp out) (P out)) _ _ _ _ _) _
  rw [hr, hh]
  rw [hA] at hS
  exact W.aret hx hb hret (Or.inl ⟨_, rfl⟩) (Or.inr ⟨_, rfl⟩) (fun t ht _ => ⟨rfl, hp', hO, by rw [ht]; exact P_enc hP, hS.F ht⟩) hS.2.2 hd hlocks
theorem r_vret (F : Fx X cc own none rm) (hA : xA X = Aw (xG X)) (hr : rv out = none) (hh : hp out = h) (hp' : P out) (hd : decode cc pc = .ok (.return_, 1)) : Wm X rv hp P pc lv [] h (some out) := by
  obtain ⟨hx, hb, hml, hown, hts, hlocks, hret, -⟩ := F
  intro H locs ls hO hP hD hS hl o ho
  cases ho
  show Wx X H locs (MQ _ (Qw (xG X) (rv out) (hp out) (P out)) _ _ _ _ _) _
  rw [hr, hh]
  rw [hA] at hS
  exact W.vret hx hb hret (fun t ht _ => ⟨rfl, hp', hO, by rw [ht]; exact P_enc hP, hS.F ht⟩) hS.2.2 hd hlocks
end Ends
theorem Pw_blind (G : Gx) (av : List Value) (h : Hp) : FrameBlind (va_Pc av (Pw G h)) := fun a U g mk q => by
  obtain ⟨q0, qP, qK, qD, qN⟩ := q
  exact ⟨q0, qP, va_K.moved (u := U) (U := U.calling g mk a) (Vm.Alike.refl U.vm) qK, qD, va_Nw.same (u := U) (U := U.calling g mk a) rfl rfl qN⟩
/-- a method's contract out of the walk of its body -/
theorem ctr_of {G : Gx} {l : Launch} {y : MethodName} {cc : ByteArray} {mL : Nat} {ret : Option FieldType} {rm : Room} {av : List Value} {h : Hp} {β : Type} {res : Option β} {rv : β → Option Value} {hp : β → Hp} {P : β → Prop}
    (hy : plainName y.cls = true) (hav : (lg_sl av).length ≤ mL) (hz : rm.cells = 0 ∧ rm.slots = 0)
    (body : ∀ X : Cx, X.1.2.1 = l → xG X = G → xA X = Aw (xG X) → xL X = mL → Fx X cc y.cls ret rm → Wm X rv hp P 0 (lv_args 0 av) [] h res) : Ctr G l y (.code y cc mL ret :: GT) rm av h res rv hp P := by
  intro out ho hO
  refine Met.ofW (cc := cc) (maxL := mL) (ret := ret) hy rfl ?_
  intro p e s m args below meth c s₁ B hml hv
  obtain ⟨rfl, hP, hK, hD, hN⟩ := hv
  have hts := atoms_spec (ws := Cond.code y cc mL ret :: GT) B.pre
  have K := body ((p, l, e, rm, s, m, av.toArray, below, meth, c), G, Aw G, 0, 0, mL) rfl rfl rfl rfl ⟨B.exec, B.bytes, hml, findClass_of_methodNamed B.named, fun w hw => hts w (List.mem_cons_of_mem _ hw), B.notSynchronized, B.returns, hK, hD, fun _ z => z, rfl, ⟨by rw [hz.1]; exact Nat.le_refl _, by rw [hz.2]; exact Nat.le_refl _⟩, hN⟩
  have hl := lv_entry av (n := mL) hav
  rw [lg_entry_eq]
  exact K s.heap [] _ hO hP (Dst_D hD h) va_S.rf hl out ho
def CB (own : String) (i : Nat) (y : MethodName) (bytes : ByteArray) (mL : Nat) (ret : Option FieldType) (n : Nat) : Prop := Cond.code y bytes mL ret ∈ GT ∧ Cond.methodLink own i y ∈ GT ∧ Cond.initialized y.cls ∈ GT ∧ (y.cls ≠ "java/lang/invoke/MethodHandle" ∧ y.cls ≠ "java/lang/invoke/VarHandle" ∧ (parseMethodDescriptor y.desc).map (fun d => d.parameters.length) = some n)
def CV (own : String) (i : Nat) (y : MethodName) (bytes : ByteArray) (mL : Nat) (ret : Option FieldType) (n c : Nat) : Prop := CB own i y bytes mL ret n ∧ Cond.instanceMethod y ∈ GT ∧ Cond.selects (RXf c) y y ∈ GT ∧ c < 10
def CS (own : String) (i : Nat) (y : MethodName) (bytes : ByteArray) (mL : Nat) (ret : Option FieldType) (n : Nat) : Prop := CB own i y bytes mL ret n ∧ Cond.static y ∈ GT
def CN (own : String) (i : Nat) (y : MethodName) (host : String) (bytes : ByteArray) (mL : Nat) (ret : Option FieldType) (n : Nat) : Prop := Cond.code y bytes mL ret ∈ GT ∧ Cond.methodLinkNest own i y host ∈ lw_tbl ∧ Cond.initialized y.cls ∈ GT ∧ (y.cls ≠ "java/lang/invoke/MethodHandle" ∧ y.cls ≠ "java/lang/invoke/VarHandle" ∧ (parseMethodDescriptor y.desc).map (fun d => d.parameters.length) = some n) ∧ Cond.static y ∈ GT
section Calls
variable {X : Cx} {α β : Type} {Qf : α → State → Prop} {ex : va_W} {cc : ByteArray} {own : String} {ret : Option FieldType} {rm : Room} {pc : Nat} {lv : List (Nat × Value)} {st st0 As : List Value} {h : Hp}
variable {y : MethodName} {bytes : ByteArray} {mL n i : Nat} {ret' : Option FieldType} {rm' : Room} {res : Option β} {rv : β → Option Value} {hp : β → Hp} {P : β → Prop} {k' : β → Option α}
/-- a call, as it's used: behind it the rest, for whatever it answers -/
def RunP (X : Cx) (ex : va_W) (pc : Nat) (lv : List (Nat × Value)) (st0 st : List Value) (h : Hp) {β : Type} (res : Option β) (rv : β → Option Value) (hp : β → Hp) (P : β → Prop) : Prop :=
  ∀ (α : Type) (Qf : α → State → Prop) (k' : β → Option α), (∀ out, P out → Wt X Qf ex (pc + 3) lv ((rv out).toList ++ st) (hp out) (k' out)) → Wt X Qf ex pc lv st0 h (res.bind k')
theorem run_any (F : Fx X cc own ret rm) {a : Array Value} (hrun : ∀ H locs ls out, res = some out → okH h → va_P (xG X).2.1 vwCl (enc (xG X) h) H → lv_has ls (xL X) lv →
    va_Run X.1.1 X.1.2.1 X.1.2.2.1 X.1.2.2.2.1 X.1.2.2.2.2.1 X.1.2.2.2.2.2.1 X.1.2.2.2.2.2.2.1 X.1.2.2.2.2.2.2.2.1 X.1.2.2.2.2.2.2.2.2.1 X.1.2.2.2.2.2.2.2.2.2 H locs (xC X) (xN X) 0 0 (F0 (xM X) pc ls st0) st (Qw (xG X) (rv out) (hp out) (P out) a) (Aw (xG X))) : RunP X ex pc lv st0 st h res rv hp P := by
  intro α Qf k' K H locs ls hO hP hD hS hl out ho
  obtain ⟨v0, hv0, hk⟩ := Option.bind_eq_some_iff.mp ho
  obtain ⟨-, -, -, -, -, -, -, -, -, hAw, -⟩ := F
  intro T hT Y
  obtain ⟨v, st₀, t, T', L, h0, Y', hL, e1, e2, ⟨hv, hp1, hO', hP', hF⟩, go⟩ := hrun H locs ls v0 hv0 hO (P_enc hP) hl T hT Y
  cases hv
  have hz : H.size ≤ T'.heap.size := by rw [e1, ← h0]; exact hF.1
  have hk2 : ∀ q : Nat, q < H.size → ¬ Aw (xG X) q → T'.heap[q]? = H[q]? := fun q g1 g2 => by rw [e1, ← h0]; exact hF.2 q (by rw [h0]; exact g1) g2
  have hPn : va_P (xG X).2.1 vwCl (ex ++ enc (xG X) (hp v0)) T'.heap := by
    refine va_P.app (fun k q hq => ?_) (by rw [e1]; exact hP')
    have hq1 := P_ex hP k q hq
    refine hq1.kept (hk2 q.1 hq1.lt fun z => ?_)
    obtain ⟨j, q', hj, he⟩ := Aw_at h z
    have hkl := (List.getElem?_eq_some_iff.mp hq).1
    have := hD.1 k (ex.length + j) q q' (by rw [List.getElem?_append_left hkl]; exact hq) (by rw [List.getElem?_append_right (Nat.le_add_right _ _), Nat.add_sub_cancel_left]; exact hj) he.symm
    omega
  have hSn : va_S (xA X) (xS X).heap T'.heap (locs ++ L) := ⟨Nat.le_trans hS.1 hz, fun q g1 g2 => by rw [hk2 q (Nat.lt_of_lt_of_le g1 hS.1) (fun z => g2 (hAw q z))]; exact hS.2.1 q g1 g2, fun q hq => by
    rcases List.mem_append.mp hq with z | z
    · exact hS.2.2 q z
    · exact hAw _ (hL q z)⟩
  obtain ⟨t2, a1, b1⟩ := K v0 hp1 T'.heap (locs ++ L) ls hO' hPn (D_enc _ hD) hSn hl out hk T' rfl Y'
  exact ⟨t2, go t2 a1, b1⟩
theorem run_V (F : Fx X cc own ret rm) {c o : Nat} (f : CV own i y bytes mL ret' n c) (ho : o < cnt c) (hC : Ctr (xG X) X.1.2.1 y (.code y bytes mL ret' :: GT) rm' (.ref (adr (xG X) c o 0) :: As) h res rv hp P) (hn : As.length = n) (hst : st0 = As.reverse ++ .ref (adr (xG X) c o 0) :: st) (hR : (rm'.cells = 0 ∧ rm'.slots = 0) ∧ rm'.frames + 1 ≤ rm.frames ∧ 8 + (mL + 11) + rm'.locals ≤ rm.locals) (hcat : (st.map fun v => v.category).sum ≤ 8) (hd : decode cc pc = .ok (.invokevirtual i, 3)) : RunP X ex pc lv st0 st h res rv hp P := by
  obtain ⟨⟨f1, f2, f3, f4⟩, f5, f6, hc⟩ := f
  have F' := F
  obtain ⟨hx, hb, hml, hown, hts, -, -, hK, hDst, -, hrm, hcs, hN⟩ := F
  have hrm' : X.1.2.2.2.1 = rm := hrm
  have hG : GoodIn GT (Cond.code y bytes mL ret' :: GT) := fun w hw => by
    have hm : w ∈ GT := by
      rcases List.mem_cons.mp hw with q | q
      · rw [q]; exact f1
      · exact q
    exact ⟨hm, good_of_word (List.mem_filter.mp hm).2⟩
  refine run_any F' (a := (Value.ref (adr (xG X) c o 0) :: As).toArray) fun H locs ls out hres hO hPe hl => ?_
  obtain ⟨q0, -, hq⟩ := enc_at (xG X) [] hc ho (Nat.succ_pos (na c))
  refine va_runV (Ts := GT) (n := n) (C := RXf c) (own := own) (index := i) (bytes := bytes) (maxL := mL) (ret := ret') ⟨hx, hb, hml, hown, hts⟩ (hC out hres hO) ⟨callB_of n hts hG rfl hR.1.1 hR.1.2 (hts _ f3) (hts _ f2) f4 (by rw [hrm']; exact hR.2), hts _ f5, hts _ f6⟩ ⟨Pw_blind _ _ _, va_recv hK hPe (cl_at c hc) (hq h), fun U hU hW => ⟨rfl, by rw [hU]; exact hPe, va_K.moved hW.alike hK, hDst, va_Nw.warmM hW hN⟩⟩ rfl hn hl.1 hst (by show 2 * 0 + _ ≤ 8; omega) hd (by rw [hrm']; exact hcs)
theorem run_S (F : Fx X cc own ret rm) (f : CS own i y bytes mL ret' n) (hC : Ctr (xG X) X.1.2.1 y (.code y bytes mL ret' :: GT) rm' As h res rv hp P) (hn : As.length = n) (hst : st0 = As.reverse ++ st) (hR : (rm'.cells = 0 ∧ rm'.slots = 0) ∧ rm'.frames + 1 ≤ rm.frames ∧ 8 + (mL + 11) + rm'.locals ≤ rm.locals) (hcat : (st.map fun v => v.category).sum ≤ 8) (hd : decode cc pc = .ok (.invokestatic i, 3)) : RunP X ex pc lv st0 st h res rv hp P := by
  obtain ⟨⟨f1, f2, f3, f4⟩, f5⟩ := f
  have F' := F
  obtain ⟨hx, hb, hml, hown, hts, -, -, hK, hDst, -, hrm, hcs, hN⟩ := F
  have hrm' : X.1.2.2.2.1 = rm := hrm
  have hG : GoodIn GT (Cond.code y bytes mL ret' :: GT) := fun w hw => by
    have hm : w ∈ GT := by
      rcases List.mem_cons.mp hw with q | q
      · rw [q]; exact f1
      · exact q
    exact ⟨hm, good_of_word (List.mem_filter.mp hm).2⟩
  refine run_any F' (a := As.toArray) fun H locs ls out hres hO hPe hl => ?_
  refine va_runS (Ts := GT) (n := n) (own := own) (index := i) (bytes := bytes) (maxL := mL) (ret := ret') ⟨hx, hb, hml, hown, hts⟩ (hC out hres hO) ⟨callB_of n hts hG rfl hR.1.1 hR.1.2 (hts _ f3) (hts _ f2) f4 (by rw [hrm']; exact hR.2), hts _ f5⟩ ⟨Pw_blind _ _ _, fun U hU hW => ⟨rfl, by rw [hU]; exact hPe, va_K.moved hW.alike hK, hDst, va_Nw.warmM hW hN⟩⟩ rfl hn hl.1 hst (by show 2 * 0 + _ ≤ 8; omega) hd (by rw [hrm']; exact hcs)
theorem run_SN {cc : ByteArray} {rm rm' : Room} {res : Option β} {rv : β → Option Value} {hp : β → Hp} {P : β → Prop} (F : Fx X cc RX3 ret rm) (f : CN RX3 193 yX7_spread "WeedStrand" bytes mL ret' n) (hC : Ctr (xG X) X.1.2.1 yX7_spread (.code yX7_spread bytes mL ret' :: GT) rm' As h res rv hp P) (hn : As.length = n) (hst : st0 = As.reverse ++ st) (hR : (rm'.cells = 0 ∧ rm'.slots = 0) ∧ rm'.frames + 1 ≤ rm.frames ∧ 8 + (mL + 11) + rm'.locals ≤ rm.locals) (hcat : (st.map fun v => v.category).sum ≤ 8) (hd : decode cc pc = .ok (.invokestatic 193, 3)) : RunP X ex pc lv st0 st h res rv hp P := by
  obtain ⟨f1, f2, f3, f4, f5⟩ := f
  have F' := F
  obtain ⟨hx, hb, hml, hown, hts, -, -, hK, hDst, -, hrm, hcs, hN⟩ := F
  have hrm' : X.1.2.2.2.1 = rm := hrm
  have hG : GoodIn GT (Cond.code yX7_spread bytes mL ret' :: GT) := fun w hw => by
    have hm : w ∈ GT := by
      rcases List.mem_cons.mp hw with q | q
      · rw [q]; exact f1
      · exact q
    exact ⟨hm, good_of_word (List.mem_filter.mp hm).2⟩
  refine run_any F' (a := As.toArray) fun H locs ls out hres hO hPe hl => ?_
  refine va_runSN (Ts := GT) (n := n) (own := RX3) (index := 193) (host := "WeedStrand") (bytes := bytes) (maxL := mL) (ret := ret') ⟨hx, hb, hml, hown, hts⟩ (hC out hres hO) ⟨va_cnB n hts hG rfl hR.1.1 hR.1.2 hN (hts _ f3) f4 (by rw [hrm']; exact hR.2), hts _ f5, trivial⟩ ⟨Pw_blind _ _ _, fun U hU hW => ⟨rfl, by rw [hU]; exact hPe, va_K.moved hW.alike hK, hDst, va_Nw.warmM hW hN⟩⟩ rfl hn hl.1 hst (by show 2 * 0 + _ ≤ 8; omega) hd (by rw [hrm']; exact hcs)
abbrev bd2 {α β : Type} (x : Option (β × Hp)) (k : β → Hp → Option α) : Option α := x.bind fun o => k o.1 o.2
theorem k_iP {res : Option Int32} {P : Int32 → Prop} {k : Int32 → Option α} (r : RunP X ex pc lv st0 st h res (fun v => some (.int v)) (fun _ => h) P) (K : ∀ v, P v → Wt X Qf ex (pc + 3) lv (.int v :: st) h (k v)) : Wt X Qf ex pc lv st0 h (res.bind k) := r α Qf k K
theorem k_zP {res : Option Bool} {P : Bool → Prop} {k : Bool → Option α} (r : RunP X ex pc lv st0 st h res (fun v => some (.int (b2i v))) (fun _ => h) P) (K : ∀ v, P v → Wt X Qf ex (pc + 3) lv (.int (b2i v) :: st) h (k v)) : Wt X Qf ex pc lv st0 h (res.bind k) := r α Qf k K
theorem k_lP {res : Option Int64} {P : Int64 → Prop} {k : Int64 → Option α} (r : RunP X ex pc lv st0 st h res (fun v => some (.long v)) (fun _ => h) P) (K : ∀ v, P v → Wt X Qf ex (pc + 3) lv (.long v :: st) h (k v)) : Wt X Qf ex pc lv st0 h (res.bind k) := r α Qf k K
theorem k_iH {res : Option (Int32 × Hp)} {P : Int32 × Hp → Prop} {k : Int32 → Hp → Option α} (r : RunP X ex pc lv st0 st h res (fun v => some (.int v.1)) (fun v => v.2) P) (K : ∀ v h', Wt X Qf ex (pc + 3) lv (.int v :: st) h' (k v h')) : Wt X Qf ex pc lv st0 h (bd2 res k) := r α Qf _ fun out _ => K out.1 out.2
theorem k_zH {res : Option (Bool × Hp)} {P : Bool × Hp → Prop} {k : Bool → Hp → Option α} (r : RunP X ex pc lv st0 st h res (fun v => some (.int (b2i v.1))) (fun v => v.2) P) (K : ∀ v h', Wt X Qf ex (pc + 3) lv (.int (b2i v) :: st) h' (k v h')) : Wt X Qf ex pc lv st0 h (bd2 res k) := r α Qf _ fun out _ => K out.1 out.2
theorem k_lH {res : Option (Int64 × Hp)} {P : Int64 × Hp → Prop} {k : Int64 → Hp → Option α} (r : RunP X ex pc lv st0 st h res (fun v => some (.long v.1)) (fun v => v.2) P) (K : ∀ v h', Wt X Qf ex (pc + 3) lv (.long v :: st) h' (k v h')) : Wt X Qf ex pc lv st0 h (bd2 res k) := r α Qf _ fun out _ => K out.1 out.2
theorem k_rH {c : Nat} {res : Option (Nat × Hp)} {k : Nat → Hp → Option α} (r : RunP X ex pc lv st0 st h res (fun v => some (.ref (adr (xG X) c v.1 0))) (fun v => v.2) (fun v => v.1 < cnt c)) (K : ∀ v h', v < cnt c → Wt X Qf ex (pc + 3) lv (.ref (adr (xG X) c v 0) :: st) h' (k v h')) : Wt X Qf ex pc lv st0 h (bd2 res k) := r α Qf _ fun out hq => K out.1 out.2 hq
theorem k_vH {res : Option Hp} {P : Hp → Prop} {k : Hp → Option α} (r : RunP X ex pc lv st0 st h res (fun _ => none) (fun v => v) P) (K : ∀ h', Wt X Qf ex (pc + 3) lv st h' (k h')) : Wt X Qf ex pc lv st0 h (res.bind k) := r α Qf k fun out _ => K out
end Calls
