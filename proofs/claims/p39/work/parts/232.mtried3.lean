-- PURE: tried, by the reference
section MTried
variable {N : Nat} {g : Hp} {ru : Int32} {T : Txt} {S : Str}
theorem Sm.eqv (s : Sm g 1 ru T S) {S' : Str} (q : Sq T S S') : Sm g 1 ru T S' := ⟨s.1, s.2.1, s.2.2.1, s.2.2.2.1.tr q, s.2.2.2.2⟩
end MTried

