/-- nothing changed but what is drawn and what lies on half b -/
def Gf (b : Nat) (g g' : Hp) : Prop := K7 g g' ∧ (∀ k, gI g' 8 0 k = gI g 8 0 k) ∧ (∀ k, k ≠ 62 → gL g' 8 0 k = gL g 8 0 k) ∧ ∀ k i, ¬ (k = 23 ∧ 8 * b ≤ i ∧ i < 8 * b + 8) → gA g' 8 0 k i = gA g 8 0 k i
theorem Gf.rf (b : Nat) (g : Hp) : Gf b g g := ⟨K7.rf g, fun _ => rfl, fun _ _ => rfl, fun _ _ _ => rfl⟩
theorem Gf.tr {b : Nat} {g g' g'' : Hp} (a : Gf b g g') (c : Gf b g' g'') : Gf b g g'' := ⟨a.1.tr c.1, fun k => (c.2.1 k).trans (a.2.1 k), fun k q => (c.2.2.1 k q).trans (a.2.2.1 k q), fun k i q => (c.2.2.2 k i q).trans (a.2.2.2 k i q)⟩
theorem Gf.a (b : Nat) (g : Hp) {i : Nat} (v : Int32) (hi : i < 8) : Gf b g (sA g 8 0 23 (8 * b + i) v) := ⟨K7.a g 23 _ v, fun _ => rfl, fun _ _ => rfl, fun k u hu => by rw [A_at, if_neg (fun q => hu ⟨q.1, by omega, by omega⟩)]⟩
section Gale
variable {N : Nat} {g : Hp} {b : Nat} {ru : Int32} {T : Txt} {S : Str}
/-- half b counts as S, the number drawn too -/
def Sg (g : Hp) (b : Nat) (ru : Int32) (T : Txt) (S : Str) : Prop := Sm g b ru T S ∧ gL g 8 0 62 = (S.2 15).toInt64
theorem Sg.lie (s : Sg g b ru T S) {i : Nat} (v : Int32) (hi : i < 8) : Sg (sA g 8 0 23 (8 * b + i) v) b ru T (upA S 0 i v) := by
  obtain ⟨⟨hT, R, X, q, h49⟩, l⟩ := s
  refine ⟨⟨hT, R, X.arr (fun _ _ _ => rfl) (fun k hk => funext fun u => by rw [A_at, if_neg (fun q => by omega)]), Sq.tr ?_ (q.upA 0 i v), h49⟩, l⟩
  refine ⟨fun s hs => ⟨?_, rfl⟩, fun c _ => ⟨rfl, rfl, rfl, rfl, rfl, rfl⟩, fun f _ => rfl, fun k _ _ => rfl⟩
  rw [upA_at]
  show gA (sA g 8 0 23 (8 * b + i) v) 8 0 23 (8 * b + s) = if s = i then v else gA g 8 0 23 (8 * b + s)
  rw [A_at]
  by_cases z : s = i
  · rw [if_pos z, if_pos ⟨rfl, by omega⟩]
  · rw [if_neg z, if_neg (by omega)]
end Gale

