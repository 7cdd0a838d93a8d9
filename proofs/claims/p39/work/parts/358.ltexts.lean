-- what the law's texts tell (closed)
def dtE : DecidableEq DT := @instDecidableEqProd _ _ inferInstance (@instDecidableEqProd _ _ inferInstance (@instDecidableEqProd _ _ inferInstance (@instDecidableEqProd _ _ inferInstance (@instDecidableEqProd _ _ inferInstance inferInstance))))
def dtO (x : Option DT) (d : DT) : Bool := match x with
  | some y => @decide (y = d) (dtE y d)
  | none => false
theorem dtO_e {x : Option DT} {d : DT} (h : dtO x d = true) : x = some d := by
  cases x with
  | none => exact absurd h (by simp [dtO])
  | some y => exact congrArg some (@of_decide_eq_true _ (dtE y d) h)
theorem dok_of {D : DT} (h : ((D.1.length ≤ 8 ∧ ∀ x ∈ D.1, x ≤ 999) ∧ (D.2.1.length ≤ 4 ∧ ∀ x ∈ D.2.1, x.2.1 ≤ 5 ∧ x.2.2.1 ≤ 9 ∧ x.2.2.2 ≤ 99) ∧ (D.2.2.1.length ≤ 6 ∧ ∀ x ∈ D.2.2.1, x.1 < D.2.1.length ∧ x.2.1 ≤ 99 ∧ x.2.2 ≤ 9) ∧ (D.2.2.2.1.length ≤ 4 ∧ ∀ x ∈ D.2.2.2.1, x ≤ 23) ∧ (D.2.2.2.2.1.1 ≤ 999 ∧ D.2.2.2.2.1.2.1 ≤ 2 ∧ D.2.2.2.2.1.2.2.1 ≤ 100 ∧ D.2.2.2.2.1.2.2.2.1 ≤ 99)) ∧ D.2.2.2.2.2.getD 0 ≤ 9999) : DOK D := by
  obtain ⟨⟨h1, h2, h3, h4, h5⟩, h6⟩ := h
  refine ⟨h1, h2, h3, h4, h5, fun v hv => ?_⟩
  rw [hv] at h6
  exact h6
theorem tok_of (D : DT) (k : DOK D) : TOK (T0 D) := by
  obtain ⟨n1, n2, n3, n4⟩ := T0_n D k
  obtain ⟨⟨s1, -⟩, ⟨c1, -⟩, ⟨f1, f2⟩, ⟨t1, -⟩, -⟩ := k
  refine ⟨⟨by rw [n1]; rfl, by omega⟩, ⟨by rw [n2]; rfl, by omega⟩, ⟨by rw [n3]; rfl, by omega⟩, ⟨by rw [n4]; rfl, by omega⟩, fun f hf => ?_, fun k nm nm' _ => ?_⟩
  · rw [n3] at hf
    exact ⟨_, by rw [n2]; exact (f2 _ (gd_mem hf dF)).1, rfl⟩
  · rfl
def D2 : DT := ([20], [(33554432, 2, 0, 0)], [(0, 50, 0)], [], (0, 2, 0, 0, 32, 4), none)
theorem dp_2 : pL 20 (cst 5) D0 = some D2 := dtO_e (by decide +kernel)
theorem dk_2 : DOK D2 := dok_of (by decide +kernel)
def D4 : DT := ([5, 9, 2], [(33554432, 1, 0, 0), (67108864, 1, 0, 0)], [(0, 9, 0), (1, 9, 0)], [], (1, 1, 0, 0, 48, 9), none)
theorem dp_4 : pL 20 (cst 8) D0 = some D4 := dtO_e (by decide +kernel)
theorem dk_4 : DOK D4 := dok_of (by decide +kernel)
def D5 : DT := ([10, 1, 2, 3], [(33554432, 1, 0, 0), (67108864, 1, 0, 0)], [], [], (0, 0, 0, 0, 0, 6), none)
theorem dp_5 : pL 20 (cst 9) D0 = some D5 := dtO_e (by decide +kernel)
theorem dk_5 : DOK D5 := dok_of (by decide +kernel)
def D6 : DT := ([100], [(33554432, 2, 0, 0)], [(0, 30, 0)], [], (0, 0, 0, 0, 0, 3), none)
theorem dp_6 : pL 20 (cst 10) D0 = some D6 := dtO_e (by decide +kernel)
theorem dk_6 : DOK D6 := dok_of (by decide +kernel)
def D7 : DT := ([999], [(33554432, 3, 9, 0), (67108864, 1, 0, 0)], [(1, 9, 0)], [], (0, 0, 0, 0, 0, 5), some 2)
theorem dp_7 : pL 20 (cst 11) D0 = some D7 := dtO_e (by decide +kernel)
theorem dk_7 : DOK D7 := dok_of (by decide +kernel)
def D8 : DT := ([100], [(33554432, 0, 0, 9), (67108864, 0, 0, 9)], [], [], (0, 0, 0, 0, 0, 3), none)
theorem dp_8 : pL 20 (cst 12) D0 = some D8 := dtO_e (by decide +kernel)
theorem dk_8 : DOK D8 := dok_of (by decide +kernel)
def D9 : DT := ([10], [(33554432, 2, 0, 5), (67108864, 2, 0, 5)], [(0, 9, 0), (1, 9, 0)], [], (0, 0, 0, 0, 0, 6), some 3)
theorem dp_9 : pL 20 (cst 13) D0 = some D9 := dtO_e (by decide +kernel)
theorem dk_9 : DOK D9 := dok_of (by decide +kernel)
def D11 : DT := ([], [], [], [], (0, 0, 50, 5, 64, 1), none)
theorem dp_11 : pL 20 (cst 16) D0 = some D11 := dtO_e (by decide +kernel)
theorem dk_11 : DOK D11 := dok_of (by decide +kernel)
def D12 : DT := ([3, 0], [], [], [], (0, 0, 100, 5, 64, 3), none)
theorem dp_12 : pL 20 (cst 17) D0 = some D12 := dtO_e (by decide +kernel)
theorem dk_12 : DOK D12 := dok_of (by decide +kernel)
def D13 : DT := ([999], [(33554432, 0, 0, 50)], [], [], (0, 2, 0, 0, 32, 3), none)
theorem dp_13 : pL 20 (cst 18) D0 = some D13 := dtO_e (by decide +kernel)
theorem dk_13 : DOK D13 := dok_of (by decide +kernel)
def D3 (t : Nat) : DT := ([101, 7], [(33554432, 1, 0, 0)], [], [t], (0, 0, 0, 0, 0, 4), none)
theorem dp_3 : ∀ t : Fin 24, pL 20 ((cst 6 ++ dgL t) ++ cst 7) D0 = some (D3 t) := fun t => dtO_e ((by decide +kernel : ∀ t : Fin 24, dtO (pL 20 ((cst 6 ++ dgL t) ++ cst 7) D0) (D3 t) = true) t)
theorem dk_3 : ∀ t : Fin 24, DOK (D3 t) := fun t => dok_of ((by decide +kernel : ∀ t : Fin 24, (((D3 t).1.length ≤ 8 ∧ ∀ x ∈ (D3 t).1, x ≤ 999) ∧ ((D3 t).2.1.length ≤ 4 ∧ ∀ x ∈ (D3 t).2.1, x.2.1 ≤ 5 ∧ x.2.2.1 ≤ 9 ∧ x.2.2.2 ≤ 99) ∧ ((D3 t).2.2.1.length ≤ 6 ∧ ∀ x ∈ (D3 t).2.2.1, x.1 < (D3 t).2.1.length ∧ x.2.1 ≤ 99 ∧ x.2.2 ≤ 9) ∧ ((D3 t).2.2.2.1.length ≤ 4 ∧ ∀ x ∈ (D3 t).2.2.2.1, x ≤ 23) ∧ ((D3 t).2.2.2.2.1.1 ≤ 999 ∧ (D3 t).2.2.2.2.1.2.1 ≤ 2 ∧ (D3 t).2.2.2.2.1.2.2.1 ≤ 100 ∧ (D3 t).2.2.2.2.1.2.2.2.1 ≤ 99)) ∧ (D3 t).2.2.2.2.2.getD 0 ≤ 9999) t)
def D10 (t : Nat) : DT := ([0], [(33554432, 0, 0, 0)], [], [], (0, 0, t, 5, 64, 3), none)
theorem dp_10 : ∀ t : Fin 101, pL 20 ((cst 14 ++ dgL t) ++ cst 15) D0 = some (D10 t) := fun t => dtO_e ((by decide +kernel : ∀ t : Fin 101, dtO (pL 20 ((cst 14 ++ dgL t) ++ cst 15) D0) (D10 t) = true) t)
theorem dk_10 : ∀ t : Fin 101, DOK (D10 t) := fun t => dok_of ((by decide +kernel : ∀ t : Fin 101, (((D10 t).1.length ≤ 8 ∧ ∀ x ∈ (D10 t).1, x ≤ 999) ∧ ((D10 t).2.1.length ≤ 4 ∧ ∀ x ∈ (D10 t).2.1, x.2.1 ≤ 5 ∧ x.2.2.1 ≤ 9 ∧ x.2.2.2 ≤ 99) ∧ ((D10 t).2.2.1.length ≤ 6 ∧ ∀ x ∈ (D10 t).2.2.1, x.1 < (D10 t).2.1.length ∧ x.2.1 ≤ 99 ∧ x.2.2 ≤ 9) ∧ ((D10 t).2.2.2.1.length ≤ 4 ∧ ∀ x ∈ (D10 t).2.2.2.1, x ≤ 23) ∧ ((D10 t).2.2.2.2.1.1 ≤ 999 ∧ (D10 t).2.2.2.2.1.2.1 ≤ 2 ∧ (D10 t).2.2.2.2.1.2.2.1 ≤ 100 ∧ (D10 t).2.2.2.2.1.2.2.2.1 ≤ 99)) ∧ (D10 t).2.2.2.2.2.getD 0 ≤ 9999) t)
