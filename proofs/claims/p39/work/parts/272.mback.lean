-- PURE: back, by the reference
/-- nothing changed but half 0's amounts, undo's number and what was drawn -/
def BF (g g' : Hp) : Prop := K7 g g' ∧ (∀ k, k ≠ 76 → gI g' 8 0 k = gI g 8 0 k) ∧ (∀ k, k ≠ 62 → gL g' 8 0 k = gL g 8 0 k) ∧ ∀ k, (k < 23 ∨ (23 < k ∧ k < 28) ∨ 33 < k) → gA g' 8 0 k = gA g 8 0 k
theorem BF.rf (g : Hp) : BF g g := ⟨K7.rf g, fun _ _ => rfl, fun _ _ => rfl, fun _ _ => rfl⟩
theorem BF.tr {g g' g'' : Hp} (x : BF g g') (y : BF g' g'') : BF g g'' := ⟨x.1.tr y.1, fun k q => (y.2.1 k q).trans (x.2.1 k q), fun k q => (y.2.2.1 k q).trans (x.2.2.1 k q), fun k q => (y.2.2.2 k q).trans (x.2.2.2 k q)⟩
theorem BF.a (k i : Nat) (g : Hp) (v : Int32) (hk : k = 23 ∨ (28 ≤ k ∧ k ≤ 33)) : BF g (sA g 8 0 k i v) := ⟨K7.a g k i v, fun _ _ => rfl, fun _ _ => rfl, fun j hj => funext fun u => by rw [A_at, if_neg (fun q => by omega)]⟩
theorem BF.i (g : Hp) (v : Int32) : BF g (sI g 8 0 76 v) := ⟨K7.i g 76 v, fun j hj => by rw [I_at, if_neg hj], fun _ _ => rfl, fun _ _ => rfl⟩
section Back
variable {N : Nat} {g : Hp} {T : Txt} {S I : Str} {X : Xs}
end Back

