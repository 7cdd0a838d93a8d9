-- PURE: images, by the reference
/-- nothing changed but what an image holds -/
def KF (g g' : Hp) : Prop := K7 g g' ∧ (∀ k, (k < 84 ∨ 86 < k) → gI g' 8 0 k = gI g 8 0 k) ∧ (∀ k, k ≠ 87 → gL g' 8 0 k = gL g 8 0 k) ∧ ∀ k, (k < 41 ∨ 44 < k) → gA g' 8 0 k = gA g 8 0 k
theorem KF.rf (g : Hp) : KF g g := ⟨K7.rf g, fun _ _ => rfl, fun _ _ => rfl, fun _ _ => rfl⟩
theorem KF.tr {g g' g'' : Hp} (x : KF g g') (y : KF g' g'') : KF g g'' := ⟨x.1.tr y.1, fun k q => (y.2.1 k q).trans (x.2.1 k q), fun k q => (y.2.2.1 k q).trans (x.2.2.1 k q), fun k q => (y.2.2.2 k q).trans (x.2.2.2 k q)⟩
theorem KF.a (k i : Nat) (g : Hp) (v : Int32) (hk : 41 ≤ k ∧ k ≤ 44) : KF g (sA g 8 0 k i v) := ⟨K7.a g k i v, fun _ _ => rfl, fun _ _ => rfl, fun j hj => funext fun u => by rw [A_at, if_neg (fun q => by omega)]⟩
theorem KF.i (k : Nat) (g : Hp) (v : Int32) (hk : 84 ≤ k ∧ k ≤ 86) : KF g (sI g 8 0 k v) := ⟨K7.i g k v, fun j hj => by rw [I_at, if_neg (fun q => by omega)], fun _ _ => rfl, fun _ _ => rfl⟩
theorem R8a.cg {g g' : Hp} {T : Txt} {S : Str} (r : R8a g T S) (hi : ∀ k, k < 62 → gI g' 8 0 k = gI g 8 0 k) (hl : gL g' 8 0 62 = gL g 8 0 62) (ha : ∀ k, k < 34 → gA g' 8 0 k = gA g 8 0 k) : R8a g' T S := by
  obtain ⟨q1, q2, q3, q4, q5⟩ := r
  have e : b8 g' 0 = b8 g 0 := by
    unfold b8
    rw [hi 61 (by decide), hl, ha 23 (by decide), ha 24 (by decide), ha 25 (by decide), ha 7 (by decide), ha 26 (by decide), ha 27 (by decide), ha 28 (by decide), ha 29 (by decide), ha 30 (by decide), ha 31 (by decide), ha 32 (by decide), ha 33 (by decide)]
  refine ⟨q1, q2, q3.arr (fun k h1 h2 => hi k (by omega)) (fun k hk => ha k (by omega)), by rw [e]; exact q4, ?_⟩
  unfold gZ at q5 ⊢
  rw [hi 49 (by decide)]
  exact q5
section Image
variable {N : Nat} {g : Hp} {T : Txt} {S I : Str} {X : Xs}
end Image

