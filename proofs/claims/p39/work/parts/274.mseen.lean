-- PURE: see, strike, known, by the reference
/-- the state told anew: seen's rows -/
theorem R8.seen {g g' : Hp} {T : Txt} {S I : Str} {X X' : Xs} (r : R8 g T S I X) (hi : ∀ k, k ≠ 72 → k ≠ 73 → gI g' 8 0 k = gI g 8 0 k) (hl : ∀ k, gL g' 8 0 k = gL g 8 0 k) (ha : ∀ k, k ≠ 37 → gA g' 8 0 k = gA g 8 0 k) (x1 : ∀ j, j ≠ 3 → j ≠ 4 → j ≠ 5 → X'.1 j = X.1 j) (x2 : ∀ j, j ≠ 1 → j ≠ 2 → X'.2 j = X.2 j) (s : SR g' X') : R8 g' T S I X' := by
  obtain ⟨r1, r2, r3, r4, r5, r6, r7, r8, r9, r10, r11⟩ := r
  refine ⟨r1.cg (fun k hk => hi k (by omega) (by omega)) (hl 62) (fun k hk => ha k (by omega)), ?_, ?_, (hl 62).trans r4, s, ?_, ?_, ?_, ?_, ?_, ?_⟩
  · unfold TX; rw [ha 4 (by decide), ha 5 (by decide), ha 6 (by decide), ha 7 (by decide), ha 8 (by decide), ha 3 (by decide), ha 1 (by decide), ha 13 (by decide), ha 14 (by decide), ha 15 (by decide), ha 16 (by decide), ha 17 (by decide), ha 18 (by decide)]; exact r2
  · unfold gZ; rw [hi 64 (by decide) (by decide)]; exact r3
  · rw [hi 76 (by decide) (by decide), ha 39 (by decide), x2 0 (by decide) (by decide)]
    refine ⟨r6.1, UR_cg r1.1 (s := 0) _ S r6.2 (fun k j hk hj => ?_) (fun j i _ _ => rfl)⟩
    rw [x1 k (by omega) (by omega) (by omega)]
    rfl
  · rw [hi 78 (by decide) (by decide), x2 7 (by decide) (by decide)]
    refine ⟨r7.1, fun q => ?_⟩
    have := r7.2 q
    unfold IMr
    rw [ha 40 (by decide), ha 41 (by decide), ha 42 (by decide), ha 43 (by decide), ha 44 (by decide), hi 84 (by decide) (by decide), hi 85 (by decide) (by decide), hi 86 (by decide) (by decide), hl]
    exact this
  · rw [hi 1 (by decide) (by decide), ha 0 (by decide), x2 3 (by decide) (by decide), x1 6 (by decide) (by decide) (by decide)]; exact r8
  · rw [hi 4 (by decide) (by decide), x2 4 (by decide) (by decide)]; exact r9
  · rw [hi 5 (by decide) (by decide), x2 5 (by decide) (by decide)]; exact r10
  · rw [hi 16 (by decide) (by decide), x2 6 (by decide) (by decide)]; exact r11
section MSeen
variable {N : Nat} {g : Hp} {T : Txt} {S I : Str} {X : Xs}
end MSeen

