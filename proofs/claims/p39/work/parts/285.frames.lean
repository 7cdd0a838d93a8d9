-- PURE: what reading changes; tokens and numbers taken, by both
theorem GI (h : Hp) (c o k : Nat) (v : Int32) (c' o' k' : Nat) : gI (sI h c o k v) c' o' k' = if c' = c ∧ o' = o ∧ k' = k then v else gI h c' o' k' := rfl
theorem GA (h : Hp) (c o k i : Nat) (v : Int32) (c' o' k' : Nat) : gA (sA h c o k i v) c' o' k' = if c' = c ∧ o' = o ∧ k' = k then upd (gA h c o k) i v else gA h c' o' k' := rfl
/-- the class, reading: nothing changed but the reader, the tokens, what is told into u -/
def RF (u : Nat) (h h' : Hp) : Prop := K8 h h' ∧ (∀ c o k, c ≠ 8 → gO h' c o k = gO h c o k) ∧ (∀ c o k, ¬ c = 1 → ¬ (c = 4 ∧ o = 0 ∧ 4 ≤ k ∧ k ≤ 8) → ¬ (c = 5 ∧ o = u) → ¬ (c = 0 ∧ o = u) → gI h' c o k = gI h c o k) ∧ ∀ c o k, ¬ c = 1 → ¬ (c = 5 ∧ o = u) → ¬ (c = 0 ∧ o = u) → gA h' c o k = gA h c o k
theorem RF.rf (u : Nat) (h : Hp) : RF u h h := ⟨K8.rf h, fun _ _ _ _ => rfl, fun _ _ _ _ _ _ _ => rfl, fun _ _ _ _ _ _ => rfl⟩
theorem RF.tr {u : Nat} {h g k : Hp} (a : RF u h g) (b : RF u g k) : RF u h k := ⟨a.1.tr b.1, fun c o i q => (b.2.1 c o i q).trans (a.2.1 c o i q), fun c o i q r s t => (b.2.2.1 c o i q r s t).trans (a.2.2.1 c o i q r s t), fun c o i q r s => (b.2.2.2 c o i q r s).trans (a.2.2.2 c o i q r s)⟩
theorem RF.i (u : Nat) (h : Hp) (c o k : Nat) (v : Int32) (hc : c = 1 ∨ (c = 5 ∧ o = u) ∨ (c = 0 ∧ o = u)) : RF u h (sI h c o k v) := ⟨K8.i h c o k v (by omega), fun _ _ _ _ => rfl, fun c' o' i q r s t => if_neg (fun z => by
  obtain ⟨rfl, rfl, rfl⟩ := z
  rcases hc with hc | hc | hc
  · exact q hc
  · exact s hc
  · exact t hc), fun _ _ _ _ _ _ => rfl⟩
theorem RF.a (u : Nat) (h : Hp) (c o k i : Nat) (v : Int32) (hc : c = 1 ∨ (c = 5 ∧ o = u) ∨ (c = 0 ∧ o = u)) : RF u h (sA h c o k i v) := ⟨K8.a h c o k i v (by omega), fun _ _ _ _ => rfl, fun _ _ _ _ _ _ _ => rfl, fun c' o' i q s t => if_neg (fun z => by
  obtain ⟨rfl, rfl, rfl⟩ := z
  rcases hc with hc | hc | hc
  · exact q hc
  · exact s hc
  · exact t hc)⟩
section Take
variable {N : Nat} {h g h' g' : Hp} {n p u : Nat}
theorem cl_fails (r : gO h 1 0 2 = some 0) (w : Int32) : f_X1_fails h w = some (false, sI (sI h 1 0 4 w) 1 0 5 (gI h 4 0 5)) := by
  unfold f_X1_fails
  rw [lt_e, show gO (sI h 1 0 4 w) 1 0 2 = gO h 1 0 2 from rfl, r, onO_s, lt_e]
  rfl
end Take

