section Stack
variable {N : Nat} {h g : Hp} {u z : Nat}
def putH (h : Hp) (u z : Nat) (kn nu : Int32) : Hp := sI (sA (sA h 0 u 0 z kn) 0 u 1 z nu) 0 u 6 (nI (z + 1))
theorem cl_put0 (e : gI h 0 u 6 = nI z) (hz : z < 64) (kn nu : Int32) : f_X0_put h u kn nu = some (putH h u z kn nu) := by
  unfold f_X0_put
  have e2 : gI (sA h 0 u 0 z kn) 0 u 6 = nI z := e
  have e3 : gI (sA (sA h 0 u 0 z kn) 0 u 1 z nu) 0 u 6 = nI z := e
  simp only [jn_e, lt_e]
  rw [e, if_neg (show ¬ (64 : Int32) ≤ nI z from nleN (a := 64) hz (by omega)), grd_p (inb_n hz (by omega)), clN (by omega), e2, grd_p (inb_n hz (by omega)), clN (by omega), e3, nI_1]
  rfl
end Stack

