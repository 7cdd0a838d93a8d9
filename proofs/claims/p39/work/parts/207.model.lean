/-- what an hour doesn't change -/
def SameC (S S' : Str) : Prop := S'.1 1 = S.1 1 ∧ S'.1 2 = S.1 2 ∧ S'.1 3 = S.1 3 ∧ S'.1 4 = S.1 4 ∧ S'.1 5 = S.1 5 ∧ S'.2 14 = S.2 14 ∧ S'.2 16 = S.2 16
theorem SameC.rf (S : Str) : SameC S S := ⟨rfl, rfl, rfl, rfl, rfl, rfl, rfl⟩
theorem SameC.tr {S S' S'' : Str} (a : SameC S S') (b : SameC S' S'') : SameC S S'' := ⟨b.1.trans a.1, b.2.1.trans a.2.1, b.2.2.1.trans a.2.2.1, b.2.2.2.1.trans a.2.2.2.1, b.2.2.2.2.1.trans a.2.2.2.2.1, b.2.2.2.2.2.1.trans a.2.2.2.2.2.1, b.2.2.2.2.2.2.trans a.2.2.2.2.2.2⟩
theorem SameC.upA {S : Str} {k : Nat} (i : Nat) (v : Int32) (hk : k = 0 ∨ k = 6 ∨ k = 7 ∨ k = 9) : SameC S (upA S k i v) := ⟨upA_n S i v (by omega), upA_n S i v (by omega), upA_n S i v (by omega), upA_n S i v (by omega), upA_n S i v (by omega), rfl, rfl⟩
theorem SameC.upI {S : Str} {k : Nat} (v : Int32) (hk : k = 11 ∨ k = 12 ∨ k = 13 ∨ k = 15) : SameC S (upI S k v) := ⟨rfl, rfl, rfl, rfl, rfl, upI_n S v (by omega), upI_n S v (by omega)⟩
section Model
variable {N : Nat} {h : Hp} {b : Nat} {ru : Int32} {T : Txt} {S : Str} {e : Bool} {B : Scr}
end Model

