section Operand
variable {N : Nat} {h h' g g' : Hp} {u n p z0 z o : Nat}  {H : List Nat} {st : Nat → List Nat}
theorem cl_push {w : Nat} (e : gI h 1 0 8 = nI w) (hw : w < 72) (k : Int32) : f_X1_push h k = some (sI (sA h 1 0 0 w k) 1 0 8 (nI (w + 1))) := by
  unfold f_X1_push
  have e2 : gI (sA h 1 0 0 w k) 1 0 8 = nI w := e
  simp only [jn_e, lt_e]
  rw [e, if_neg (show ¬ (72 : Int32) ≤ nI w from nleN (a := 72) hw (by omega)), grd_p (inb_n hw (by omega)), clN (by omega), e2, nI_1]
end Operand

