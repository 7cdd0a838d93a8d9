-- PURE: what the reference's memory tells; a half laid
def kpI (k : Nat) : Bool := [1, 4, 5, 12, 13, 14, 15, 16, 61, 72, 73, 76, 78, 84, 85, 86].contains k
def kpA (k : Nat) : Bool := (decide (k ≤ 18) && !(k == 2)) || k == 37 || (decide (39 ≤ k) && decide (k ≤ 44))
def hn (k : Nat) : Nat := if k = 23 ∨ k = 24 then 8 else if k = 30 then 6 else if 31 ≤ k then 1 else 4
/-- nothing of the class changed (but long arrays) -/
def K7 (g g' : Hp) : Prop := ∀ c o k, c ≠ 8 → gI g' c o k = gI g c o k ∧ gL g' c o k = gL g c o k ∧ gO g' c o k = gO g c o k ∧ gA g' c o k = gA g c o k
def N49 (g : Hp) : Prop := gI g 8 0 49 = b2i (gZ g 8 0 49)
/-- a question to the reference: what stays -/
def F8 (g g' : Hp) : Prop := K7 g g' ∧ (∀ k, kpI k = true → gI g' 8 0 k = gI g 8 0 k) ∧ (gL g' 8 0 62 = gL g 8 0 62 ∧ gL g' 8 0 87 = gL g 8 0 87 ∧ (N49 g → N49 g')) ∧ (∀ k, kpA k = true → gA g' 8 0 k = gA g 8 0 k) ∧ ∀ k i, 23 ≤ k → k ≤ 33 → i < hn k → gA g' 8 0 k i = gA g 8 0 k i
theorem K7.rf (g : Hp) : K7 g g := fun _ _ _ _ => ⟨rfl, rfl, rfl, rfl⟩
theorem K7.tr {g g' g'' : Hp} (a : K7 g g') (b : K7 g' g'') : K7 g g'' := fun c o k q => ⟨(b c o k q).1.trans (a c o k q).1, (b c o k q).2.1.trans (a c o k q).2.1, (b c o k q).2.2.1.trans (a c o k q).2.2.1, (b c o k q).2.2.2.trans (a c o k q).2.2.2⟩
theorem F8.rf (g : Hp) : F8 g g := ⟨K7.rf g, fun _ _ => rfl, ⟨rfl, rfl, id⟩, fun _ _ => rfl, fun _ _ _ _ _ => rfl⟩
theorem F8.tr {g g' g'' : Hp} (a : F8 g g') (b : F8 g' g'') : F8 g g'' := ⟨a.1.tr b.1, fun k q => (b.2.1 k q).trans (a.2.1 k q), ⟨b.2.2.1.1.trans a.2.2.1.1, b.2.2.1.2.1.trans a.2.2.1.2.1, fun q => b.2.2.1.2.2 (a.2.2.1.2.2 q)⟩, fun k q => (b.2.2.2.1 k q).trans (a.2.2.2.1 k q), fun k i q r s => (b.2.2.2.2 k i q r s).trans (a.2.2.2.2 k i q r s)⟩
theorem I_at (g : Hp) (k : Nat) (v : Int32) (j : Nat) : gI (sI g 8 0 k v) 8 0 j = if j = k then v else gI g 8 0 j := by
  show at3 g.1 8 0 k v 8 0 j = _
  unfold at3
  by_cases z : j = k
  · rw [if_pos z, if_pos ⟨rfl, rfl, z⟩]
  · rw [if_neg z, if_neg (fun q => z q.2.2)]
    rfl
theorem A_at (g : Hp) (k i : Nat) (v : Int32) (j u : Nat) : gA (sA g 8 0 k i v) 8 0 j u = if j = k ∧ u = i then v else gA g 8 0 j u := by
  show at3 g.2.2.2.1 8 0 k (upd (gA g 8 0 k) i v) 8 0 j u = _
  unfold at3
  by_cases z : j = k
  · subst z
    rw [if_pos ⟨rfl, rfl, rfl⟩]
    show (if u = i then v else gA g 8 0 j u) = _
    by_cases w : u = i
    · rw [if_pos w, if_pos ⟨rfl, w⟩]
    · rw [if_neg w, if_neg (fun q => w q.2)]
  · rw [if_neg (fun q => z q.2.2), if_neg (fun q => z q.1)]
    rfl
theorem K7.i (g : Hp) (k : Nat) (v : Int32) : K7 g (sI g 8 0 k v) := fun c o j hc => ⟨if_neg (fun q => hc q.1), rfl, rfl, rfl⟩
theorem K7.a (g : Hp) (k i : Nat) (v : Int32) : K7 g (sA g 8 0 k i v) := fun c o j hc => ⟨rfl, rfl, rfl, if_neg (fun q => hc q.1)⟩
theorem F8.i (g : Hp) {k : Nat} (v : Int32) (hk : kpI k = false ∧ ¬ k = 49) : F8 g (sI g 8 0 k v) := by
  have h49 : gI (sI g 8 0 k v) 8 0 49 = gI g 8 0 49 := by rw [I_at, if_neg (fun q => hk.2 q.symm)]
  refine ⟨K7.i g k v, fun j hj => ?_, ⟨rfl, rfl, fun q => ?_⟩, fun _ _ => rfl, fun _ _ _ _ _ => rfl⟩
  · rw [I_at, if_neg]
    rintro rfl
    rw [hk.1] at hj
    exact Bool.noConfusion hj
  · unfold N49 gZ at q ⊢
    rw [h49]; exact q
theorem F8.a (g : Hp) {k i : Nat} (v : Int32) (hk : kpA k = false) (hi : 23 ≤ k → k ≤ 33 → hn k ≤ i) : F8 g (sA g 8 0 k i v) := by
  refine ⟨K7.a g k i v, fun _ _ => rfl, ⟨rfl, rfl, id⟩, fun j hj => ?_, fun j u h1 h2 h3 => ?_⟩
  · funext u
    rw [A_at, if_neg]
    rintro ⟨rfl, -⟩
    rw [hk] at hj
    exact Bool.noConfusion hj
  · rw [A_at, if_neg]
    rintro ⟨rfl, rfl⟩
    have := hi h1 h2
    omega
/-- a half of the reference, as a strand; the plain view, without what is tried -/
def b8 (g : Hp) (b : Nat) : Str := (fun k i => if k = 0 then gA g 8 0 23 (8 * b + i) else if k = 1 then gA g 8 0 24 (8 * b + i) else if k = 2 then gA g 8 0 25 (4 * b + i) else if k = 3 then gA g 8 0 7 i else if k = 4 then gA g 8 0 26 (4 * b + i) else if k = 5 then gA g 8 0 27 (4 * b + i) else if k = 6 then gA g 8 0 28 (4 * b + i) else if k = 7 then gA g 8 0 29 (4 * b + i) else if k = 9 then gA g 8 0 30 (6 * b + i) else 0, fun k => if k = 11 then gA g 8 0 33 b else if k = 12 then gA g 8 0 31 b else if k = 13 then gA g 8 0 32 b else if k = 14 then gI g 8 0 61 else if k = 15 then (gL g 8 0 62).toInt32 else if k = 16 then 1 else 0)
def Plain (g : Hp) : Prop := gZ g 8 0 63 = false ∧ gZ g 8 0 64 = false ∧ gZ g 8 0 65 = false ∧ gI g 8 0 66 = -1
section Lay
variable {N : Nat} {g : Hp}
end Lay

