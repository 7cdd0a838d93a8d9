def semC (N : Nat) (A : Option (Bool × Hp)) : Option (Bool × Hp) := bd2 A fun v13 h12 => if (b2i v13) = 0 then some (false, h12) else bd2 (f_X1_takeSemicolon N h12) fun v16 h15 => if ¬ (b2i v16) = 0 then some (true, h15) else some (false, h15)
section LawLine
variable {N : Nat} {h h' g g' : Hp} {u n p p' z0 z kk : Nat}
theorem cl_semi (r : REF u h) : f_X1_takeSemicolon N h = if gI h 4 0 6 = 59 then ((f_X4_advance N h).bind fun h1 => some (true, h1)) else bd2 (f_X1_fails h 1) fun v3 h2 => some (v3, h2) := by
  unfold f_X1_takeSemicolon
  simp only [r.1, onO_s]
theorem semC_t (r : REF u h) (e : gI h 4 0 6 = 59) (a : f_X4_advance N h = some h') : semC N (some (true, h)) = some (true, h') := by
  unfold semC
  rw [bd2_s, if_neg (show ¬ b2i true = 0 by decide), cl_semi r, if_pos e, a, bind_s, bd2_s, if_pos (show ¬ b2i true = 0 by decide)]
theorem cl_lawTold (hk : kk < 4) (h : Hp) : f_X0_isTold h u (nI kk) = some (decide (¬ gA h 0 u 3 kk ≤ gA h 0 u 2 kk)) := by
  unfold f_X0_isTold
  simp only [jn_e]
  rw [if_neg (show ¬ nI kk < 0 from Int32.not_lt.mpr (leN (a := 0) (Nat.zero_le _) (by omega))), if_neg (show ¬ (4 : Int32) ≤ nI kk from nleN (a := 4) hk (by omega)), grd_p (inb_n hk (by omega)), grd_p (inb_n hk (by omega)), clN (by omega)]
  by_cases z : gA h 0 u 3 kk ≤ gA h 0 u 2 kk
  · rw [if_pos z, decide_eq_false (fun q => q z)]
  · rw [if_neg z, decide_eq_true z]
theorem cl_beginLaw (hk : kk < 4) (h : Hp) : f_X0_begin h u (nI kk) = some (sA h 0 u 2 kk (gI h 0 u 6)) := by
  unfold f_X0_begin
  simp only [jn_e, lt_e]
  rw [if_neg (show ¬ nI kk < 0 from Int32.not_lt.mpr (leN (a := 0) (Nat.zero_le _) (by omega))), if_neg (show ¬ (4 : Int32) ≤ nI kk from nleN (a := 4) hk (by omega)), grd_p (inb_n hk (by omega)), clN (by omega)]
end LawLine

