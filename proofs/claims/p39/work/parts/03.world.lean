-- the memory of the system, told by five functions; the cells that it is
abbrev Hp : Type := (Nat → Nat → Nat → Int32) × (Nat → Nat → Nat → Int64) × (Nat → Nat → Nat → Option Nat) × (Nat → Nat → Nat → Nat → Int32) × (Nat → Nat → Nat → Nat → Int64)
def gI (h : Hp) (c o k : Nat) : Int32 := h.1 c o k
def gL (h : Hp) (c o k : Nat) : Int64 := h.2.1 c o k
def gO (h : Hp) (c o k : Nat) : Option Nat := h.2.2.1 c o k
def gA (h : Hp) (c o k : Nat) : Nat → Int32 := h.2.2.2.1 c o k
def gZ (h : Hp) (c o k : Nat) : Bool := decide (¬ gI h c o k = 0)
def gB (h : Hp) (c o k : Nat) : Nat → Int64 := h.2.2.2.2 c o k
def at3 {α : Type} (f : Nat → Nat → Nat → α) (c o k : Nat) (v : α) : Nat → Nat → Nat → α := fun c' o' k' => if c' = c ∧ o' = o ∧ k' = k then v else f c' o' k'
def sI (h : Hp) (c o k : Nat) (v : Int32) : Hp := (at3 h.1 c o k v, h.2.1, h.2.2.1, h.2.2.2.1, h.2.2.2.2)
def sL (h : Hp) (c o k : Nat) (v : Int64) : Hp := (h.1, at3 h.2.1 c o k v, h.2.2.1, h.2.2.2.1, h.2.2.2.2)
def sO (h : Hp) (c o k : Nat) (v : Nat) : Hp := (h.1, h.2.1, at3 h.2.2.1 c o k (some v), h.2.2.2.1, h.2.2.2.2)
def sAf (h : Hp) (c o k : Nat) (f : Nat → Int32) : Hp := (h.1, h.2.1, h.2.2.1, at3 h.2.2.2.1 c o k f, h.2.2.2.2)
def sBf (h : Hp) (c o k : Nat) (f : Nat → Int64) : Hp := (h.1, h.2.1, h.2.2.1, h.2.2.2.1, at3 h.2.2.2.2 c o k f)
def sA (h : Hp) (c o k : Nat) (i : Nat) (v : Int32) : Hp := sAf h c o k (upd (gA h c o k) i v)
def sB (h : Hp) (c o k : Nat) (i : Nat) (v : Int64) : Hp := sBf h c o k (vp_updL (gB h c o k) i v)
def gY (h : Hp) (c o k i : Nat) : Bool := decide (¬ gA h c o k i = 0)
def b2i (b : Bool) : Int32 := if b then 1 else 0
def sZ (h : Hp) (c o k : Nat) (b : Bool) : Hp := sI h c o k (b2i b)
def sY (h : Hp) (c o k i : Nat) (b : Bool) : Hp := sA h c o k i (b2i b)
theorem b2i_d (b : Bool) : decide (¬ b2i b = 0) = b := by cases b <;> decide
theorem at3_s {α : Type} (f : Nat → Nat → Nat → α) (c o k : Nat) (v : α) : at3 f c o k v c o k = v := by simp [at3]
theorem at3_n {α : Type} (f : Nat → Nat → Nat → α) {c o k c' o' k' : Nat} (v : α) (h : ¬ (c' = c ∧ o' = o ∧ k' = k)) : at3 f c o k v c' o' k' = f c' o' k' := by simp [at3, h]
-- where the cells lie, the classes' numbers, their slots, the arrays' classes
abbrev Gx : Type := (Nat → Nat → Nat → Nat) × va_G × (ClassId × ClassId × ClassId × ClassId)
def adr (G : Gx) (c o j : Nat) : Nat := G.1 c o j
def locs0 (cs : List Nat) : List (Nat × Nat × Nat) := cs.flatMap fun c => (List.range (cnt c)).flatMap fun o => (List.range (na c + 1)).map fun j => (c, o, j)
def locL : List (Nat × Nat × Nat) := locs0 [0, 1, 2, 3, 4, 5, 6, 7, 8, 9]
def fval (G : Gx) (h : Hp) (c o s : Nat) : Value := match fk c s with
  | (0, _, _) => .int (gI h c o s)
  | (1, _, _) => .long (gL h c o s)
  | (2, t, _) => va_rf ((gO h c o s).map fun u => adr G t u 0)
  | (3, k, _) => .ref (adr G c o (k + 1))
  | (5, _, _) => .int (b2i (gZ h c o s))
  | (_, t, b) => .ref (adr G t (o + b) 0)
def acell (G : Gx) (h : Hp) (c o k : Nat) : va_E := match ak c k with
  | (0, n) => .inl (G.2.2.1, n, .inl (gA h c o k))
  | (1, n) => .inl (G.2.2.2.1, n, .inl fun i => b2i (gY h c o k i))
  | (2, n) => .inl (G.2.2.2.2.1, n, .inr (.inl (gB h c o k)))
  | (_, n) => .inl (G.2.2.2.2.2, n, .inr (.inr (.inr (.inr fun i => some (adr G 3 (3 + i) 0)))))
def flds (G : Gx) (h : Hp) (c o : Nat) : List Value := (List.range (nf c)).map (fval G h c o)
def cont (G : Gx) (h : Hp) (q : Nat × Nat × Nat) : va_E := match q.2.2 with
  | 0 => .inr (q.1, flds G h q.1 q.2.1)
  | k + 1 => acell G h q.1 q.2.1 k
def enc (G : Gx) (h : Hp) : va_W := locL.map fun q => (adr G q.1 q.2.1 q.2.2, cont G h q)
def tys (G : Gx) : List (ClassId × FieldType) := [(G.2.2.1, .int), (G.2.2.2.1, .boolean), (G.2.2.2.2.1, .long), (G.2.2.2.2.2, .object "WeedStrand$Strand"), (G.2.1.1 100, .byte)]
theorem loc_in (c : Nat) (hc : c < 10) (o : Nat) (ho : o < cnt c) (j : Nat) (hj : j < na c + 1) : (c, o, j) ∈ locL := by
  have h9 : c ∈ [0, 1, 2, 3, 4, 5, 6, 7, 8, 9] := by
    have : c = 0 ∨ c = 1 ∨ c = 2 ∨ c = 3 ∨ c = 4 ∨ c = 5 ∨ c = 6 ∨ c = 7 ∨ c = 8 ∨ c = 9 := by omega
    rcases this with h | h | h | h | h | h | h | h | h | h <;> subst h <;> decide
  exact List.mem_flatMap.mpr ⟨c, h9, List.mem_flatMap.mpr ⟨o, List.mem_range.mpr ho, List.mem_map.mpr ⟨j, List.mem_range.mpr hj, rfl⟩⟩⟩
set_option maxRecDepth 100000 in
theorem loc_nd : locL.Nodup := by decide +kernel
theorem cl_at : ∀ c, c < 10 → vwCl[c]? = some (RXf c, TXf c, nf c)
  | 0, _ => rfl | 1, _ => rfl | 2, _ => rfl | 3, _ => rfl | 4, _ => rfl | 5, _ => rfl | 6, _ => rfl | 7, _ => rfl | 8, _ => rfl | 9, _ => rfl
  | n + 10, h => absurd h (by omega)
set_option maxRecDepth 100000 in
theorem cl_ws : ∀ c, c < 10 → ∀ w ∈ u_ws (RXf c) (TXf c) (nf c), w ∈ GT
  | 0, _ => by decide +kernel | 1, _ => by decide +kernel | 2, _ => by decide +kernel | 3, _ => by decide +kernel | 4, _ => by decide +kernel
  | 5, _ => by decide +kernel | 6, _ => by decide +kernel | 7, _ => by decide +kernel | 8, _ => by decide +kernel | 9, _ => by decide +kernel
  | n + 10, h => absurd h (by omega)
theorem cl_ty : ∀ c, c < 10 → ∀ k, k < nf c → parseFieldDescriptor (TXf c k).2.2.1 = some (tyf c k)
  | 0, _ => tyX0_ok | 1, _ => tyX1_ok | 2, _ => tyX2_ok | 3, _ => tyX3_ok | 4, _ => tyX4_ok | 5, _ => tyX5_ok | 6, _ => tyX6_ok | 7, _ => tyX7_ok | 8, _ => tyJ0_ok | 9, _ => tyJ4_ok
  | n + 10, h => absurd h (by omega)
theorem cl_nm : ∀ c, c < 10 → ∀ a, a < nf c → ∀ b, b < nf c → a ≠ b → (TXf c a).2.1 ≠ (TXf c b).2.1
  | 0, _ => nmX0 | 1, _ => nmX1 | 2, _ => nmX2 | 3, _ => nmX3 | 4, _ => nmX4 | 5, _ => nmX5 | 6, _ => nmX6 | 7, _ => nmX7 | 8, _ => nmJ0 | 9, _ => nmJ4
  | n + 10, h => absurd h (by omega)
theorem nodup_ix {α : Type} {l : List α} (hn : l.Nodup) {i j : Nat} {a : α} (hi : l[i]? = some a) (hj : l[j]? = some a) : i = j := by
  exact (List.getElem?_inj (List.getElem?_eq_some_iff.mp hi).1 hn).mp (hi.trans hj.symm)
/-- a cell of the world, by its place -/
theorem enc_at (G : Gx) (ex : va_W) {c o j : Nat} (hc : c < 10) (ho : o < cnt c) (hj : j < na c + 1) : ∃ q0 : Nat, (∃ i, q0 = ex.length + i ∧ locL[i]? = some (c, o, j)) ∧ ∀ h : Hp, (ex ++ enc G h)[q0]? = some (adr G c o j, cont G h (c, o, j)) := by
  obtain ⟨i, hi⟩ := List.getElem?_of_mem (loc_in c hc o ho j hj)
  refine ⟨ex.length + i, ⟨i, rfl, hi⟩, fun h => ?_⟩
  rw [List.getElem?_append_right (Nat.le_add_right _ _), Nat.add_sub_cancel_left, enc, List.getElem?_map, hi]
  rfl
/-- .. and the world behind a change of that cell alone -/
theorem enc_set (G : Gx) (ex : va_W) {c o j q0 : Nat} (hq : ∃ i, q0 = ex.length + i ∧ locL[i]? = some (c, o, j)) {h h' : Hp} {e : va_E} (he : e = cont G h' (c, o, j)) (hne : ∀ q, q ≠ (c, o, j) → cont G h' q = cont G h q) : (ex ++ enc G h).set q0 (adr G c o j, e) = ex ++ enc G h' := by
  obtain ⟨i, rfl, hi⟩ := hq
  subst he
  rw [List.set_append_right _ _ (Nat.le_add_right _ _), Nat.add_sub_cancel_left]
  congr 1
  refine List.ext_getElem? fun k => ?_
  by_cases hk : i = k
  · subst hk
    have hl : i < (enc G h).length := by rw [enc, List.length_map]; exact (List.getElem?_eq_some_iff.mp hi).1
    rw [List.getElem?_set_self hl, enc, List.getElem?_map, hi]
    rfl
  · rw [List.getElem?_set_ne hk, enc, enc, List.getElem?_map, List.getElem?_map]
    cases hz : locL[k]? with
    | none => rfl
    | some q =>
      have hqn : q ≠ (c, o, j) := fun z => hk (nodup_ix loc_nd hi (z ▸ hz))
      exact congrArg (fun e => some (adr G q.1 q.2.1 q.2.2, e)) (hne q hqn).symm
theorem flds_at (G : Gx) (h : Hp) {c o s : Nat} (hs : s < nf c) : (flds G h c o)[s]? = some (fval G h c o s) := by simp [flds, hs]
theorem flds_len (G : Gx) (h : Hp) (c o : Nat) : (flds G h c o).length = nf c := by simp [flds]
theorem flds_set (G : Gx) {h h' : Hp} {c o s : Nat} (hs : s < nf c) {v : Value} (hv : v = fval G h' c o s) (hne : ∀ k, k ≠ s → fval G h' c o k = fval G h c o k) : (flds G h c o).set s v = flds G h' c o := by
  subst hv
  refine List.ext_getElem? fun k => ?_
  by_cases hk : s = k
  · subst hk
    rw [List.getElem?_set_self (by rw [flds_len]; exact hs), flds_at G h' hs]
  · rw [List.getElem?_set_ne hk]
    simp only [flds, List.getElem?_map]
    cases hz : (List.range (nf c))[k]? with
    | none => rfl
    | some q =>
      have hq : q = k := by
        obtain ⟨z1, z2⟩ := List.getElem?_eq_some_iff.mp hz
        simpa using z2.symm
      subst hq
      show some _ = some _
      rw [hne q (Ne.symm hk)]
theorem gI_sI (h : Hp) (c o k c' o' k' : Nat) (v : Int32) : gI (sI h c o k v) c' o' k' = if c' = c ∧ o' = o ∧ k' = k then v else gI h c' o' k' := rfl
theorem gL_sL (h : Hp) (c o k c' o' k' : Nat) (v : Int64) : gL (sL h c o k v) c' o' k' = if c' = c ∧ o' = o ∧ k' = k then v else gL h c' o' k' := rfl
theorem gO_sO (h : Hp) (c o k c' o' k' v : Nat) : gO (sO h c o k v) c' o' k' = if c' = c ∧ o' = o ∧ k' = k then some v else gO h c' o' k' := rfl
theorem gA_sAf (h : Hp) (c o k c' o' k' : Nat) (v : Nat → Int32) : gA (sAf h c o k v) c' o' k' = if c' = c ∧ o' = o ∧ k' = k then v else gA h c' o' k' := rfl
theorem gB_sBf (h : Hp) (c o k c' o' k' : Nat) (v : Nat → Int64) : gB (sBf h c o k v) c' o' k' = if c' = c ∧ o' = o ∧ k' = k then v else gB h c' o' k' := rfl
theorem cont_sI (G : Gx) (h : Hp) {c o s : Nat} (v : Int32) {q : Nat × Nat × Nat} (hq : q ≠ (c, o, 0)) : cont G (sI h c o s v) q = cont G h q := by
  obtain ⟨c', o', j⟩ := q
  cases j with
  | zero =>
    have : ¬ (c' = c ∧ o' = o) := fun z => hq (by rw [z.1, z.2])
    show Sum.inr (c', flds G (sI h c o s v) c' o') = Sum.inr (c', flds G h c' o')
    have e : fval G (sI h c o s v) c' o' = fval G h c' o' := by
      funext k
      have e1 : gI (sI h c o s v) c' o' k = gI h c' o' k := by rw [gI_sI, if_neg fun z => this ⟨z.1, z.2.1⟩]
      simp only [fval, gZ, e1]
      rfl
    simp only [flds, e]
  | succ k => rfl
theorem cont_sL (G : Gx) (h : Hp) {c o s : Nat} (v : Int64) {q : Nat × Nat × Nat} (hq : q ≠ (c, o, 0)) : cont G (sL h c o s v) q = cont G h q := by
  obtain ⟨c', o', j⟩ := q
  cases j with
  | zero =>
    have : ¬ (c' = c ∧ o' = o) := fun z => hq (by rw [z.1, z.2])
    show Sum.inr (c', flds G (sL h c o s v) c' o') = Sum.inr (c', flds G h c' o')
    have e : fval G (sL h c o s v) c' o' = fval G h c' o' := by
      funext k
      have e1 : gL (sL h c o s v) c' o' k = gL h c' o' k := by rw [gL_sL, if_neg fun z => this ⟨z.1, z.2.1⟩]
      simp only [fval, e1]
      rfl
    simp only [flds, e]
  | succ k => rfl
theorem cont_sO (G : Gx) (h : Hp) {c o s v : Nat} {q : Nat × Nat × Nat} (hq : q ≠ (c, o, 0)) : cont G (sO h c o s v) q = cont G h q := by
  obtain ⟨c', o', j⟩ := q
  cases j with
  | zero =>
    have : ¬ (c' = c ∧ o' = o) := fun z => hq (by rw [z.1, z.2])
    show Sum.inr (c', flds G (sO h c o s v) c' o') = Sum.inr (c', flds G h c' o')
    have e : fval G (sO h c o s v) c' o' = fval G h c' o' := by
      funext k
      have e1 : gO (sO h c o s v) c' o' k = gO h c' o' k := by rw [gO_sO, if_neg fun z => this ⟨z.1, z.2.1⟩]
      simp only [fval, e1]
      rfl
    simp only [flds, e]
  | succ k => rfl
theorem cont_sAf (G : Gx) (h : Hp) {c o k : Nat} (v : Nat → Int32) {q : Nat × Nat × Nat} (hq : q ≠ (c, o, k + 1)) : cont G (sAf h c o k v) q = cont G h q := by
  obtain ⟨c', o', j⟩ := q
  cases j with
  | zero => rfl
  | succ k' =>
    have e1 : gA (sAf h c o k v) c' o' k' = gA h c' o' k' := by rw [gA_sAf, if_neg fun z => hq (by rw [z.1, z.2.1, z.2.2])]
    show acell _ _ _ _ _ = acell _ _ _ _ _
    simp only [acell, gY, e1]
    rfl
theorem cont_sBf (G : Gx) (h : Hp) {c o k : Nat} (v : Nat → Int64) {q : Nat × Nat × Nat} (hq : q ≠ (c, o, k + 1)) : cont G (sBf h c o k v) q = cont G h q := by
  obtain ⟨c', o', j⟩ := q
  cases j with
  | zero => rfl
  | succ k' =>
    have e1 : gB (sBf h c o k v) c' o' k' = gB h c' o' k' := by rw [gB_sBf, if_neg fun z => hq (by rw [z.1, z.2.1, z.2.2])]
    show acell _ _ _ _ _ = acell _ _ _ _ _
    simp only [acell, e1]
    rfl
theorem gZ_sZ (h : Hp) (c o k c' o' k' : Nat) (v : Bool) : gZ (sZ h c o k v) c' o' k' = if c' = c ∧ o' = o ∧ k' = k then v else gZ h c' o' k' := by
  unfold gZ sZ
  rw [gI_sI]
  by_cases z : c' = c ∧ o' = o ∧ k' = k
  · rw [if_pos z, if_pos z, b2i_d]
  · rw [if_neg z, if_neg z]
