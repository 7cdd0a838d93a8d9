-- PURE: a text taken by both
section TextBoth
variable {N : Nat} {h g g' : Hp} {u t n p : Nat} {T : Txt} {S I : Str} {X : Xs}
theorem LPA.cg {td fi la kn pa ot td' fi' la' kn' pa' ot' : Nat → Int32} {L : Nat → (Nat → Int64) → Int64} (l : LPA td fi la kn pa ot L) (a : ∀ k, k < 4 → td' k = td k ∧ fi' k = fi k ∧ la' k = la k) (b : ∀ i, i < 64 → kn' i = kn i ∧ pa' i = pa i ∧ ot' i = ot i) : LPA td' fi' la' kn' pa' ot' L := by
  obtain ⟨A, l1, l2⟩ := l
  refine ⟨A, l1, fun k hk => ?_⟩
  unfold LPK
  rw [(a k hk).1, (a k hk).2.1, (a k hk).2.2]
  rcases l2 k hk with q | ⟨q, x, y, h1, h2, h3, h4, h5, h6, st, h7, h8, h9⟩
  · exact Or.inl q
  · refine Or.inr ⟨q, x, y, h1, h2, h3, h4, h5, h6, st, h7, fun i a1 a2 => ?_, h9⟩
    rw [(b i (by omega)).1, (b i (by omega)).2.1, (b i (by omega)).2.2]
    exact h8 i a1 a2
end TextBoth

