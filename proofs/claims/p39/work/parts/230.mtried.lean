theorem Z_b (b : Bool) : decide (¬ b2i b = 0) = b := by cases b <;> decide
section MTried
variable {N : Nat} {g : Hp} {ru : Int32} {T : Txt} {S : Str}
end MTried

