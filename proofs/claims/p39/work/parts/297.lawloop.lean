-- PURE: a law's text read by both
def Bd2 (u : Nat) (h g h' g' : Hp) : Prop := RF u h h' ∧ MF g g' ∧ gI h' 5 u 10 = gI h 5 u 10 ∧ REF u h' ∧ ¬ gI h' 4 0 6 = 59 ∧ gI g' 8 0 4 = 1 ∧ gI g' 8 0 5 = gI h' 4 0 5
/-- a law read: both fail; the class thinks that it ends, where no ';' stands, and the reference fails; both end -/
def LBt (u n z0 kk : Nat) (h g : Hp) (p : Nat) (A B : Option (Bool × Hp)) : Prop := (∃ h' g', A = some (false, h') ∧ B = some (false, g') ∧ Bad u h g h' g') ∨ (∃ h' g', A = some (true, h') ∧ B = some (false, g') ∧ Bd2 u h g h' g') ∨ (∃ h' g' z st p', A = some (true, sA h' 0 u 3 kk (nI z)) ∧ B = some (true, g') ∧ LW u z0 h h' ∧ LV z0 g g' ∧ p ≤ p' ∧ (LX n h' g' p' ∧ REF u h' ∧ FT h' g') ∧ gI h' 4 0 6 = 59 ∧ (z0 < z ∧ z ≤ 64 ∧ gI h' 0 u 6 = nI z ∧ gI h' 1 0 10 = nI z ∧ gI g' 8 0 21 = nI z ∧ gI g' 8 0 44 = nI z) ∧ SPS z0 z (gA h' 0 u 0) (gA h' 0 u 1) (gA g' 8 0 16) (gA g' 8 0 17) (gA g' 8 0 18) st ∧ st z = [z - 1])
section LawLoop
variable {N : Nat} {h h' g g' : Hp} {u n p p' z0 z o kk : Nat} {W : Wtg} {H : List Nat} {st : Nat → List Nat}
theorem LBt.tr {A B : Option (Bool × Hp)} (a : LW u z0 h h') (b : LV z0 g g') (c : p ≤ p') (t : LBt u n z0 kk h' g' p' A B) : LBt u n z0 kk h g p A B := by
  rcases t with ⟨h2, g2, t1, t2, t3⟩ | ⟨h2, g2, t1, t2, t3⟩ | ⟨h2, g2, z, st, p2, t1, t2, t3, t4, t5, t6⟩
  · exact Or.inl ⟨h2, g2, t1, t2, a.1.tr t3.1, b.1.tr t3.2.1, t3.2.2.1, t3.2.2.2.trans (congrFun a.2.2.1.1 10)⟩
  · exact Or.inr (Or.inl ⟨h2, g2, t1, t2, a.1.tr t3.1, b.1.tr t3.2.1, t3.2.2.1.trans (congrFun a.2.2.1.1 10), t3.2.2.2⟩)
  · exact Or.inr (Or.inr ⟨h2, g2, z, st, p2, t1, t2, a.tr t3, b.tr t4, by omega, t6⟩)
theorem cl_end (hk : kk < 4) (h : Hp) : f_X0_end h u (nI kk) = some (sA h 0 u 3 kk (gI h 0 u 6)) := by
  unfold f_X0_end
  simp only [jn_e, lt_e]
  rw [if_neg (show ¬ nI kk < 0 from Int32.not_lt.mpr (leN (a := 0) (Nat.zero_le _) (by omega))), if_neg (show ¬ (4 : Int32) ≤ nI kk from nleN (a := 4) hk (by omega)), grd_p (inb_n hk (by omega)), clN (by omega)]
end LawLoop

