section MTable
variable {N : Nat} {g : Hp} {T : Txt} {S : Str}
theorem SOK.act0 {n : Nat} (K : SOK T n S) {j : Nat} {v : Int32} (hv : v = 0 ∨ v = 1 ∨ v = 2 ∨ v = 3) : SOK T n (upA S 5 j v) := by
  obtain ⟨a, c, d, e1, e2, e3, e4, e5⟩ := K
  refine ⟨fun s hs => ?_, fun q hq => ?_, fun f hf => ?_, e1, e2, e3, e4, fun q hq => ?_⟩
  · rw [upA_n S j v (show (0 : Nat) ≠ 5 by decide)]; exact a s hs
  · rw [upA_n S j v (show (2 : Nat) ≠ 5 by decide), upA_n S j v (show (3 : Nat) ≠ 5 by decide), upA_at]
    obtain ⟨c1, c2, c3, c4, c5⟩ := c q hq
    refine ⟨c1, c2, c3, c4, ?_⟩
    by_cases z : q = j
    · rw [if_pos z]; exact hv
    · rw [if_neg z]; exact c5
  · rw [upA_n S j v (show (9 : Nat) ≠ 5 by decide)]; exact d f hf
  · rw [upA_n S j v (show (7 : Nat) ≠ 5 by decide)]; exact e5 q hq
end MTable
section MTable2
variable {N : Nat} {g : Hp} {T : Txt} {S : Str}
end MTable2
section MTable3
variable {N : Nat} {g : Hp} {T : Txt} {S : Str}
end MTable3

