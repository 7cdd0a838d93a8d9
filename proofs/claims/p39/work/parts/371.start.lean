-- PURE: the start: what the class's constructor leaves
theorem ex7 (h : Hp) (t : Nat) : (ex h t).1 7 = gA h 4 0 1 := rfl
theorem gA_h0 (c o k : Nat) : gA h0m c o k = if c = 4 ∧ k = 1 then tspF 130 else fun _ => 0 := rfl
theorem start_AQ : AQ h0m := by
  have pd : PD 0 h0m D0 := by
    refine ⟨⟨fun k a b => ?_, fun i hi => absurd hi (Nat.not_lt_zero _), fun i hi => absurd hi (Nat.not_lt_zero _), fun i hi => absurd hi (Nat.not_lt_zero _), fun i hi => absurd hi (Nat.not_lt_zero _)⟩, rfl, rfl, rfl, fun i hi => ⟨rfl, rfl⟩⟩
    rcases (show k = 10 ∨ k = 11 ∨ k = 12 ∨ k = 13 ∨ k = 14 ∨ k = 15 ∨ k = 16 ∨ k = 17 ∨ k = 18 ∨ k = 19 by omega) with rfl | rfl | rfl | rfl | rfl | rfl | rfl | rfl | rfl | rfl <;> rfl
  have dk : DOK D0 := dok_of (by decide)
  obtain ⟨ri, ra, o7, td⟩ := pd_td dk pd
  obtain ⟨tok, tr, si⟩ := td_ok td
  obtain ⟨tq, tb, lok⟩ := pd_tq dk pd
  have n0 : nSt (txt h0m 0) = 0 ∧ nCr (txt h0m 0) = 0 ∧ nFi (txt h0m 0) = 0 := ⟨rfl, rfl, rfl⟩
  have sq : ∀ o, Sq (txt h0m 0) (vw h0m o) (bgM (txt h0m 0)) := fun o => by
    refine ⟨fun s hs => ?_, fun c hc => ?_, fun c hc => ?_, fun k a b => ?_⟩
    · rw [n0.1] at hs; exact absurd hs (Nat.not_lt_zero s)
    · rw [n0.2.1] at hc; exact absurd hc (Nat.not_lt_zero c)
    · rw [n0.2.2] at hc; exact absurd hc (Nat.not_lt_zero c)
    · rcases (show k = 11 ∨ k = 12 ∨ k = 13 ∨ k = 14 ∨ k = 15 ∨ k = 16 by omega) with rfl | rfl | rfl | rfl | rfl | rfl <;> rfl
  have rc : RC h0m 0 (txt h0m 0) (bgM (txt h0m 0)) (bgM (txt h0m 0)) (ex h0m 0) := ⟨⟨by decide, rfl, rfl, rfl, tok, lok⟩, ⟨rfl, sq 1⟩, ⟨rfl, sq 0⟩, rfl, fun q => absurd rfl q⟩
  have spl0 : SPL ((ex h0m 0).1 7) := by
    rw [ex7, gA_h0, if_pos (show (4 : Nat) = 4 ∧ (1 : Nat) = 1 from ⟨rfl, rfl⟩)]
    exact tsp_spl
  exact ⟨0, _, _, _, _, rc, spl0, rfl⟩
theorem len7 (G : Gx) (b : Nat) : (qX7 G b).length = 166 := es7_len G _ _ 7 (show (tl7 G b).length = 87 from rfl)
