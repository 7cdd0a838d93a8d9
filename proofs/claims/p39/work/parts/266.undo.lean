theorem C5.sq {T : Txt} {S S' : Str} (c : C5 T S) (q : Sq T S S') : C5 T S' := fun i hi => by rw [← (q.2.1 i hi).1]; exact c i hi
section Put
variable {N : Nat} {g : Hp} {T : Txt} {S : Str}
end Put

