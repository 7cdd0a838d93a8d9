def REF (u : Nat) (h : Hp) : Prop := gO h 1 0 2 = some 0 ∧ gO h 1 0 3 = some u
section Line
variable {N : Nat} {h g : Hp} {n p u : Nat}
end Line

