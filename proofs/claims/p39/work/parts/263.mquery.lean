section MQuery
variable {N : Nat} {g : Hp} {T : Txt} {S I : Str} {X : Xs}
theorem R8a.row (r : R8a g T S) {c : Nat} (hc : c < nCr T) : gA g 8 0 25 c = S.1 2 c ∧ gA g 8 0 7 c = S.1 3 c ∧ gA g 8 0 26 c = S.1 4 c ∧ gA g 8 0 27 c = S.1 5 c ∧ gA g 8 0 28 c = S.1 6 c ∧ gA g 8 0 29 c = S.1 7 c := by
  obtain ⟨a, b, d, e, f, k⟩ := r.2.2.2.1.2.1 c hc
  have z : 4 * 0 + c = c := by omega
  have a' : gA g 8 0 25 (4 * 0 + c) = S.1 2 c := a
  have d' : gA g 8 0 26 (4 * 0 + c) = S.1 4 c := d
  have e' : gA g 8 0 27 (4 * 0 + c) = S.1 5 c := e
  have f' : gA g 8 0 28 (4 * 0 + c) = S.1 6 c := f
  have k' : gA g 8 0 29 (4 * 0 + c) = S.1 7 c := k
  rw [z] at a' d' e' f' k'
  exact ⟨a', b, d', e', f', k'⟩
theorem R8a.num (r : R8a g T S) : gA g 8 0 33 0 = S.2 11 ∧ gA g 8 0 31 0 = S.2 12 ∧ gA g 8 0 32 0 = S.2 13 ∧ gI g 8 0 61 = S.2 14 := by
  have q := r.2.2.2.1.2.2.2
  refine ⟨?_, ?_, ?_, ?_⟩
  · rw [← b8_11]; exact q 11 (by omega) (by omega)
  · rw [← b8_12]; exact q 12 (by omega) (by omega)
  · rw [← b8_13]; exact q 13 (by omega) (by omega)
  · rw [← b8_14 g 0]; exact q 14 (by omega) (by omega)
end MQuery

