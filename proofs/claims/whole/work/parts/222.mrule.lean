-- PURE: a rule tried by the reference
def R8a (g : Hp) (T : Txt) (S : Str) : Prop := TOK T ∧ TR T ∧ MT g T ∧ Sq T (b8 g 0) S ∧ gI g 8 0 49 = b2i (gZ g 8 0 49)
section MRule
variable {N : Nat} {g : Hp} {ru : Int32} {T : Txt} {S : Str}
theorem Sm.act1 (s : Sm g 1 ru T S) {j : Nat} (v : Int32) (hj : j < 4) : F8 g (sA g 8 0 27 (4 + j) v) ∧ Sm (sA g 8 0 27 (4 + j) v) 1 ru T (upA S 5 j v) := by
  have f : F8 g (sA g 8 0 27 (4 + j) v) := F8.a g v (by decide) (fun _ _ => by rw [h4x 27 (by omega) (by omega)]; omega)
  obtain ⟨hT, R, X, q, h49⟩ := s
  refine ⟨f, hT, R, f.mt X, Sq.tr ?_ (q.upA 5 j v), h49⟩
  refine ⟨fun s _ => ⟨rfl, rfl⟩, fun c _ => ⟨rfl, rfl, rfl, ?_, rfl, rfl⟩, fun i _ => rfl, fun k _ _ => rfl⟩
  rw [upA_at]
  show gA (sA g 8 0 27 (4 + j) v) 8 0 27 (4 * 1 + c) = if c = j then v else gA g 8 0 27 (4 * 1 + c)
  rw [A_at]
  by_cases z : c = j
  · rw [if_pos z, if_pos ⟨rfl, by omega⟩]
  · rw [if_neg z, if_neg (by omega)]
end MRule
