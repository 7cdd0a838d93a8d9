-- PURE: changes by call, by the reference
/-- nothing changed but undo's rows -/
def FM (g g' : Hp) : Prop := K7 g g' ∧ (∀ k, k ≠ 76 → gI g' 8 0 k = gI g 8 0 k) ∧ (∀ k, gL g' 8 0 k = gL g 8 0 k) ∧ ∀ k, k ≠ 39 → gA g' 8 0 k = gA g 8 0 k
theorem FM.tr {g g' g'' : Hp} (x : FM g g') (y : FM g' g'') : FM g g'' := ⟨x.1.tr y.1, fun k q => (y.2.1 k q).trans (x.2.1 k q), fun k => (y.2.2.1 k).trans (x.2.2.1 k), fun k q => (y.2.2.2 k q).trans (x.2.2.2 k q)⟩
theorem FM.i (g : Hp) (v : Int32) : FM g (sI g 8 0 76 v) := ⟨K7.i g 76 v, fun k hk => by rw [I_at, if_neg hk], fun _ => rfl, fun _ _ => rfl⟩
section MChange
variable {N : Nat} {g : Hp} {T : Txt} {S I : Str} {X : Xs}
theorem R8a.act (r : R8a g T S) {i : Nat} (v : Int32) (hi : i < 4) : R8a (sA g 8 0 27 i v) T (upA S 5 i v) := by
  obtain ⟨hT, R, X, q, h49⟩ := r
  refine ⟨hT, R, X.arr (fun _ _ _ => rfl) (fun k hk => funext fun u => by rw [A_at, if_neg (fun q => by omega)]), Sq.tr ?_ (q.upA 5 i v), h49⟩
  refine ⟨fun s hs => ⟨rfl, rfl⟩, fun c _ => ⟨rfl, rfl, rfl, ?_, rfl, rfl⟩, fun f _ => rfl, fun k _ _ => rfl⟩
  rw [upA_at]
  show gA (sA g 8 0 27 i v) 8 0 27 (4 * 0 + c) = if c = i then v else gA g 8 0 27 (4 * 0 + c)
  rw [A_at]
  by_cases z : c = i
  · rw [if_pos z, if_pos ⟨rfl, by omega⟩]
  · rw [if_neg z, if_neg (by omega)]
theorem R8a.cart (r : R8a g T S) {i : Nat} (v : Int32) (hi : i < 4) : R8a (sA g 8 0 25 i v) T (upA S 2 i v) := by
  obtain ⟨hT, R, X, q, h49⟩ := r
  refine ⟨hT, R, X.arr (fun _ _ _ => rfl) (fun k hk => funext fun u => by rw [A_at, if_neg (fun q => by omega)]), Sq.tr ?_ (q.upA 2 i v), h49⟩
  refine ⟨fun s hs => ⟨rfl, rfl⟩, fun c _ => ⟨?_, rfl, rfl, rfl, rfl, rfl⟩, fun f _ => rfl, fun k _ _ => rfl⟩
  rw [upA_at]
  show gA (sA g 8 0 25 i v) 8 0 25 (4 * 0 + c) = if c = i then v else gA g 8 0 25 (4 * 0 + c)
  rw [A_at]
  by_cases z : c = i
  · rw [if_pos z, if_pos ⟨rfl, by omega⟩]
  · rw [if_neg z, if_neg (by omega)]
end MChange

