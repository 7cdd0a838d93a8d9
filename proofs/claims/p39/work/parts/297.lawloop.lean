section LawLoop
variable {N : Nat} {h h' g g' : Hp} {u n p p' z0 z o kk : Nat}  {H : List Nat} {st : Nat → List Nat}
theorem cl_end (hk : kk < 4) (h : Hp) : f_X0_end h u (nI kk) = some (sA h 0 u 3 kk (gI h 0 u 6)) := by
  unfold f_X0_end
  simp only [jn_e, lt_e]
  rw [if_neg (show ¬ nI kk < 0 from Int32.not_lt.mpr (leN (a := 0) (Nat.zero_le _) (by omega))), if_neg (show ¬ (4 : Int32) ≤ nI kk from nleN (a := 4) hk (by omega)), grd_p (inb_n hk (by omega)), clN (by omega)]
end LawLoop

