-- PURE: the reference reads its real half
/-- V, but coming and tides as in S -/
def n4 (V S : Str) : Str := (fun k i => if k = 4 then S.1 4 i else V.1 k i, fun k => if k = 16 then S.2 16 else V.2 k)
section Read
variable {N : Nat} {g : Hp} {T : Txt} {S : Str}
end Read

