def hn (k : Nat) : Nat := if k = 23 ∨ k = 24 then 8 else if k = 30 then 6 else if 31 ≤ k then 1 else 4
section Lay
variable {N : Nat} {g : Hp}
end Lay

