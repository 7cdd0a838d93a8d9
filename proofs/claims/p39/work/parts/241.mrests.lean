-- PURE: rests, rest by the reference
section MRests
variable {N : Nat} {g : Hp} {ru : Int32} {T : Txt} {S : Str}
theorem SOK.come {n : Nat} (K : SOK T n S) {j : Nat} {v : Int32} : SOK T n (upA S 4 j v) := by
  obtain ⟨a, c, d, e1, e2, e3, e4, e5⟩ := K
  refine ⟨fun s hs => ?_, fun q hq => ?_, fun f hf => ?_, e1, e2, e3, e4, fun q hq => ?_⟩
  · rw [upA_n S j v (show (0 : Nat) ≠ 4 by decide)]; exact a s hs
  · rw [upA_n S j v (show (5 : Nat) ≠ 4 by decide), upA_n S j v (show (3 : Nat) ≠ 4 by decide), upA_n S j v (show (2 : Nat) ≠ 4 by decide)]; exact c q hq
  · rw [upA_n S j v (show (9 : Nat) ≠ 4 by decide)]; exact d f hf
  · rw [upA_n S j v (show (7 : Nat) ≠ 4 by decide)]; exact e5 q hq
end MRests

