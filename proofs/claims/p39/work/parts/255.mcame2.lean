theorem Plain.k {g g' : Hp} (p : Plain g) (e : ∀ k, k ≠ 49 → gI g' 8 0 k = gI g 8 0 k) : Plain g' := by
  obtain ⟨p1, p2, p3, p4⟩ := p
  unfold Plain gZ at *
  rw [e 63 (by decide), e 64 (by decide), e 65 (by decide), e 66 (by decide)]
  exact ⟨p1, p2, p3, p4⟩
section Came
variable {N : Nat} {g : Hp} {T : Txt} {S : Str} {X : Xs}
end Came

