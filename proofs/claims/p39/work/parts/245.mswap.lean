-- PURE: the swap that makes lots fairer, by the reference
theorem MT.arr {g g' : Hp} {T : Txt} (m : MT g T) (hi : ∀ k, 12 ≤ k → k ≤ 15 → gI g' 8 0 k = gI g 8 0 k) (ha : ∀ k, k < 23 → gA g' 8 0 k = gA g 8 0 k) : MT g' T := by
  obtain ⟨m1, m2, m3, m4, m5, m6, m7, m8, m9⟩ := m
  refine ⟨by rw [hi 12 (by omega) (by omega)]; exact m1, by rw [hi 13 (by omega) (by omega)]; exact m2, by rw [hi 14 (by omega) (by omega)]; exact m3, by rw [hi 15 (by omega) (by omega)]; exact m4, by rw [ha 9 (by omega), ha 10 (by omega), ha 11 (by omega)]; exact m5, by rw [ha 12 (by omega)]; exact m6, by rw [ha 3 (by omega)]; exact m7, by rw [ha 3 (by omega)]; exact m8, ?_⟩
  intro k hk
  have y : gY g' 8 0 13 k = gY g 8 0 13 k := by unfold gY; rw [ha 13 (by omega)]
  rw [y]
  rcases m9 k hk with q | ⟨q1, q2⟩
  · exact Or.inl q
  · exact Or.inr ⟨q1, fun N x hN hx hn => q2 N x hN (fun c h1 h2 => by rw [hx c h1 h2, ha c (by omega)]) hn⟩
section MSwap
variable {N : Nat} {g : Hp} {T : Txt} {S : Str}
end MSwap

