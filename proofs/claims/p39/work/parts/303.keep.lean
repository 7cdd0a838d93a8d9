-- PURE: a text kept by the reference
/-- rows 3 .. below d copied down -/
def Cpd (d : Nat) (g g' : Hp) : Prop := K7 g g' ∧ (∀ k, gI g' 8 0 k = gI g 8 0 k) ∧ (∀ k, gL g' 8 0 k = gL g 8 0 k) ∧ (∀ k, (k < 3 ∨ d ≤ k) → gA g' 8 0 k = gA g 8 0 k) ∧ ∀ k i, 3 ≤ k → k < d → i < hfT k → gA g' 8 0 k i = gA g 8 0 k (hfT k + i)
section Keep
variable {N : Nat} {g g1 : Hp}
theorem Cpd.rf (g : Hp) : Cpd 3 g g := ⟨K7.rf g, fun _ => rfl, fun _ => rfl, fun _ _ => rfl, fun k i h1 h2 => by omega⟩
end Keep

