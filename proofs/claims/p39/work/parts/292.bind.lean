theorem BV.i (z : Nat) (g : Hp) (k : Nat) (v : Int32) (hk : k = 21 ∨ k = 41 ∨ k = 42) : BV z g (sI g 8 0 k v) := ⟨MF.i g k v (by unfold mfI; omega), fun j a b c => by rw [I_at, if_neg (by omega)], fun _ _ => rfl, fun _ _ _ _ _ => rfl⟩
section Bind
variable {N : Nat} {h g : Hp} {u z z0 : Nat} {W w : Wtg} {H : List Nat} {st : Nat → List Nat} {e : Int32 × Int32}
end Bind

