theorem SN_cg {T : Txt} (hT : TOK T) {S : Str} {A A' : Nat → Int32} {i i' : Nat} (s : SN T A i S) (e : ∀ j, j < 17 → A' (i' + j) = A (i + j)) : SN T A' i' S := by
  have hc4 := hT.2.1.2
  have h8 := hT.1.2
  refine ⟨fun c hc => ⟨(e c (by omega)).trans (s.1 c hc).1, ?_⟩, fun u hu => ?_, (e 16 (by omega)).trans s.2.2⟩
  · rw [Nat.add_assoc]
    refine (e (4 + c) (by omega)).trans ?_
    rw [← Nat.add_assoc]
    exact (s.1 c hc).2
  · rw [Nat.add_assoc]
    refine (e (8 + u) (by omega)).trans ?_
    rw [← Nat.add_assoc]
    exact s.2.1 u hu
theorem C5.sq {T : Txt} {S S' : Str} (c : C5 T S) (q : Sq T S S') : C5 T S' := fun i hi => by rw [← (q.2.1 i hi).1]; exact c i hi
theorem UR_cg {T : Txt} (hT : TOK T) {E E' : Nat → Nat → Int32} {A A' : Nat → Int32} {s : Nat} : ∀ n (S : Str), UR T E A (n + s) S → (∀ k j, k < 3 → j < n → E' k j = E k (j + s)) → (∀ j i, j < n → i < 17 → A' (17 * j + i) = A (17 * (j + s) + i)) → UR T E' A' n S
  | 0, _, _, _, _ => trivial
  | n + 1, S, u, he, ha => by
    rw [show n + 1 + s = (n + s) + 1 by omega] at u
    obtain ⟨a, b, c, d, e⟩ := u
    have e0 := he 0 n (by omega) (by omega)
    have e1 := he 1 n (by omega) (by omega)
    have e2 := he 2 n (by omega) (by omega)
    unfold UR
    rw [e0, e1, e2]
    exact ⟨a, SN_cg hT b (fun j hj => ha n j (by omega) hj), c, d, UR_cg hT n _ e (fun k j hk hj => he k j hk (by omega)) (fun j i hj hi => ha j i (by omega) hi)⟩
/-- nothing changed but one row of the reference -/
def PA (a : Nat) (g g' : Hp) : Prop := K7 g g' ∧ (∀ k, gI g' 8 0 k = gI g 8 0 k) ∧ (∀ k, gL g' 8 0 k = gL g 8 0 k) ∧ ∀ k, k ≠ a → gA g' 8 0 k = gA g 8 0 k
theorem PA.rf (a : Nat) (g : Hp) : PA a g g := ⟨K7.rf g, fun _ => rfl, fun _ => rfl, fun _ _ => rfl⟩
theorem PA.tr {a : Nat} {g g' g'' : Hp} (x : PA a g g') (y : PA a g' g'') : PA a g g'' := ⟨x.1.tr y.1, fun k => (y.2.1 k).trans (x.2.1 k), fun k => (y.2.2.1 k).trans (x.2.2.1 k), fun k q => (y.2.2.2 k q).trans (x.2.2.2 k q)⟩
theorem PA.a (a i : Nat) (g : Hp) (v : Int32) : PA a g (sA g 8 0 a i v) := ⟨K7.a g a i v, fun _ => rfl, fun _ => rfl, fun k hk => funext fun u => by rw [A_at, if_neg (fun q => hk q.1)]⟩
section Put
variable {N : Nat} {g : Hp} {T : Txt} {S : Str}
end Put

