-- PURE: a rule tried by the reference
def R8a (g : Hp) (T : Txt) (S : Str) : Prop := TOK T ∧ TR T ∧ MT g T ∧ Sq T (b8 g 0) S ∧ gI g 8 0 49 = b2i (gZ g 8 0 49)
section MRule
variable {N : Nat} {g : Hp} {ru : Int32} {T : Txt} {S : Str}
end MRule

