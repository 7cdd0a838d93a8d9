-- what the class answers on the last text
def S13_0 : Str := bgM (T0 D13)
def X13_1 (c : Nat) : Xs := seX X00 0 (nI (c + 2)) (nI 16)
def X13_2 (c : Nat) : Xs := seX (X13_1 c) 1 (nI (c + 1)) (nI 16)
def X13_3 (c : Nat) : Xs := seX (X13_2 c) 2 0 (nI 0)
def X13_4 (c : Nat) : Xs := uX2 (X13_3 c) 2 (nI 0)
theorem sx_see {X0 : Xs} (s : SX X0) (hk : kzM X0 = szN X0) {k : Int32} (h : k = 0 ∨ k = 1) {q : Nat} (h1 : 1 ≤ q) (h2 : q ≤ 99) (o : Int32) (hz : szN X0 < 24) (e2 : X0.2 2 = -1) : SX (seX X0 k (nI q) o) := by
  obtain ⟨z, a1, a2, a3, a4⟩ := s
  have ez : szN X0 = z := by unfold szN; rw [a2, clN (by omega)]
  refine ⟨z + 1, by omega, ?_, Or.inl e2, fun i hi => ?_⟩
  · show nI (szN X0 + 1) = _
    rw [ez]
  · show (upd (X0.1 3) (szN X0) k i = 2 ∧ upd (X0.1 4) (szN X0) (nI q) i = 0 ∧ ∃ j, j < i ∧ upd (X0.1 5) (szN X0) o i = nI j) ∨ ((upd (X0.1 3) (szN X0) k i = 0 ∨ upd (X0.1 3) (szN X0) k i = 1) ∧ ∃ q', 1 ≤ q' ∧ q' ≤ 99 ∧ upd (X0.1 4) (szN X0) (nI q) i = nI q')
    by_cases y : i = szN X0
    · subst y
      rw [up_p, up_p, up_p]
      exact Or.inr ⟨h, q, h1, h2, rfl⟩
    · rw [up_n y, up_n y, up_n y]
      exact a4 i (by omega)
theorem sx_strike {X0 : Xs} (s : SX X0) {j : Nat} (hj : j < szN X0) (hz : szN X0 < 24) (e2 : X0.2 2 = -1) : SX (seX X0 2 0 (nI j)) := by
  obtain ⟨z, a1, a2, a3, a4⟩ := s
  have ez : szN X0 = z := by unfold szN; rw [a2, clN (by omega)]
  refine ⟨z + 1, by omega, ?_, Or.inl e2, fun i hi => ?_⟩
  · show nI (szN X0 + 1) = _
    rw [ez]
  · show (upd (X0.1 3) (szN X0) 2 i = 2 ∧ upd (X0.1 4) (szN X0) 0 i = 0 ∧ ∃ j', j' < i ∧ upd (X0.1 5) (szN X0) (nI j) i = nI j') ∨ ((upd (X0.1 3) (szN X0) 2 i = 0 ∨ upd (X0.1 3) (szN X0) 2 i = 1) ∧ ∃ q', 1 ≤ q' ∧ q' ≤ 99 ∧ upd (X0.1 4) (szN X0) 0 i = nI q')
    by_cases y : i = szN X0
    · subst y
      rw [up_p, up_p, up_p]
      exact Or.inl ⟨rfl, rfl, j, hj, rfl⟩
    · rw [up_n y, up_n y, up_n y]
      exact a4 i (by omega)
theorem sz13 (c : Nat) : szN (X13_1 c) = 1 ∧ szN (X13_2 c) = 2 ∧ szN (X13_3 c) = 3 := by
  have h1 : szN (X13_1 c) = 1 := by
    show (nI (szN X00 + 1)).toNatClampNeg = 1
    decide
  have h2 : szN (X13_2 c) = 2 := by
    show (nI (szN (X13_1 c) + 1)).toNatClampNeg = 2
    rw [h1]; decide
  have h3 : szN (X13_3 c) = 3 := by
    show (nI (szN (X13_2 c) + 1)).toNatClampNeg = 3
    rw [h2]; decide
  exact ⟨h1, h2, h3⟩
theorem sx13_1 (c : Nat) (hc : c < 12) : SX (X13_1 c) := sx_see sx00 (by decide) (Or.inl rfl) (by omega) (by omega) _ (by decide) (by decide)
theorem sx13_2 (c : Nat) (hc : c < 12) : SX (X13_2 c) := by
  obtain ⟨h1, h2, h3⟩ := sz13 c
  have e2 : (X13_1 c).2 2 = -1 := rfl
  refine sx_see (sx13_1 c hc) ?_ (Or.inr rfl) (by omega) (by omega) _ (by rw [h1]; omega) e2
  unfold kzM
  rw [if_pos e2]
  rfl
theorem sx13_3 (c : Nat) (hc : c < 12) : SX (X13_3 c) := by
  obtain ⟨h1, h2, h3⟩ := sz13 c
  exact sx_strike (sx13_2 c hc) (by rw [h2]; omega) (by rw [h2]; omega) rfl
theorem sx13_4 (c : Nat) (hc : c < 12) : SX (X13_4 c) := by
  obtain ⟨z, a1, a2, a3, a4⟩ := sx13_3 c hc
  exact ⟨z, a1, a2, Or.inr ⟨0, Nat.zero_le _, rfl⟩, a4⟩
theorem w13_0 : camM (T0 D13) X00 (nI 0) = nI 16777215 := by decide +kernel
theorem w13_1 : ∀ c : Fin 12, camM (T0 D13) (X13_1 c) (nI 0) = (nI 1 <<< (nI (c + 1) &&& 31)) - nI 1 := by decide +kernel
theorem w13_2 : ∀ c : Fin 12, camM (T0 D13) (X13_2 c) (nI 0) = nI 1 <<< (nI c &&& 31) := by decide +kernel
theorem w13_3 : ∀ c : Fin 12, camM (T0 D13) (X13_3 c) (nI 0) = 16777215 &&& -(nI 1 <<< (nI c &&& 31)) := by decide +kernel
theorem w13_4 : ∀ c : Fin 12, camM (T0 D13) (X13_4 c) (nI 0) = nI 16777215 := by decide +kernel
theorem w13_q : ∀ c : Fin 12, seeQ X00 (nI (c + 2)) (nI 16) = true ∧ seeQ (X13_1 c) (nI (c + 1)) (nI 16) = true ∧ stkQ (X13_2 c) (nI 0) = true ∧ knoQ (X13_3 c) (nI 0) = true := by decide +kernel
theorem h13 : S13_0.2 16 = 1 := by decide +kernel
theorem w13_5 : tri (T0 D13) S13_0 (nI 0) (nI 0) (nI 60) = nI 0 := by decide +kernel
theorem w13_6 : tabM (T0 D13) S13_0 (nI 2) (nI 51 : Int32).toNatClampNeg (nI 2) = nI 8 := by decide +kernel
theorem w13_7 : chaM (T0 D13) S13_0 (nI 5) (nI 5) (nI 0) (nI 1) = nI 0 := by decide +kernel
