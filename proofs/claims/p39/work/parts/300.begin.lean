-- PURE: reading begun and done, by both
/-- the class, a text read: what may change -/
def RT (u : Nat) (h h' : Hp) : Prop := K8 h h' ∧ (∀ c o k, c ≠ 8 → c ≠ 1 → gO h' c o k = gO h c o k) ∧ (∀ c o k, ¬ c = 1 → ¬ (c = 4 ∧ o = 0 ∧ 3 ≤ k ∧ k ≤ 8) → ¬ (c = 5 ∧ o = u) → ¬ (c = 0 ∧ o = u) → gI h' c o k = gI h c o k) ∧ ∀ c o k, ¬ c = 1 → ¬ (c = 5 ∧ o = u) → ¬ (c = 0 ∧ o = u) → gA h' c o k = gA h c o k
theorem RT.tr {u : Nat} {h g k : Hp} (a : RT u h g) (b : RT u g k) : RT u h k := ⟨a.1.tr b.1, fun c o i q r => (b.2.1 c o i q r).trans (a.2.1 c o i q r), fun c o i q r s t => (b.2.2.1 c o i q r s t).trans (a.2.2.1 c o i q r s t), fun c o i q r s => (b.2.2.2 c o i q r s).trans (a.2.2.2 c o i q r s)⟩
theorem RF.rt {u : Nat} {h h' : Hp} (a : RF u h h') : RT u h h' := ⟨a.1, fun c o k q _ => a.2.1 c o k q, fun c o k q r s t => a.2.2.1 c o k q (fun z => r ⟨z.1, z.2.1, by omega, by omega⟩) s t, a.2.2.2⟩
theorem K8.so (h : Hp) (c o k v : Nat) (hc : c ≠ 8) : K8 h (sO h c o k v) := fun j => ⟨rfl, rfl, if_neg (fun z => hc z.1.symm), rfl⟩
theorem RT.so (u : Nat) (h : Hp) (k v : Nat) : RT u h (sO h 1 0 k v) := ⟨K8.so h 1 0 k v (by decide), fun c o i _ q => if_neg (fun z => q z.1), fun _ _ _ _ _ _ _ => rfl, fun _ _ _ _ _ _ => rfl⟩
theorem RT.i4 (u : Nat) (h : Hp) (k : Nat) (v : Int32) (hk : 3 ≤ k ∧ k ≤ 8) : RT u h (sI h 4 0 k v) := ⟨K8.i h 4 0 k v (by decide), fun _ _ _ _ _ => rfl, fun c o i _ q _ _ => if_neg (fun z => q ⟨z.1, z.2.1, by omega, by omega⟩), fun _ _ _ _ _ _ => rfl⟩
section Begin
variable {N : Nat} {h g : Hp} {u n : Nat}
theorem cl_clear0 (hN : 1000 ≤ N) (h : Hp) (u : Nat) : ∃ h', f_X0_clear N h u = some h' ∧ RF u h h' ∧ gI h' 0 u 6 = 0 ∧ (∀ i, i < 4 → gA h' 0 u 2 i = 0 ∧ gA h' 0 u 3 i = 0) := by
  unfold f_X0_clear
  rw [lt_e]
  refine iter_inv (bot := fun _ _ => none) (b := f_X0_clear_7 u) (fun m r => ∀ k h1, k ≤ 4 → 4 < m + k → RF u h h1 → gI h1 0 u 6 = 0 → (∀ i, i < k → gA h1 0 u 2 i = 0 ∧ gA h1 0 u 3 i = 0) → ∃ h', r (nI k) h1 = some h' ∧ RF u h h' ∧ gI h' 0 u 6 = 0 ∧ (∀ i, i < 4 → gA h' 0 u 2 i = 0 ∧ gA h' 0 u 3 i = 0)) (fun k _ _ _ => by omega) (fun m r ih k h1 hk hm f e b => ?_) N 0 _ (by omega) (by omega) (RF.i u h 0 u 6 0 (by omega)) (by rw [GI, if_pos ⟨rfl, rfl, rfl⟩]) (fun i hi => by omega)
  unfold f_X0_clear_7
  by_cases y : k = 4
  · subst y
    rw [if_pos (show (4 : Int32) ≤ nI 4 by decide)]
    exact ⟨h1, rfl, f, e, b⟩
  · rw [if_neg (show ¬ (4 : Int32) ≤ nI k from nleN (a := 4) (show k < 4 by omega) (by omega)), grd_p (inb_n (by omega) (by omega)), lt_e, grd_p (inb_n (by omega) (by omega)), lt_e, lt_e, clN (by omega), nI_1]
    refine ih (k + 1) _ (by omega) (by omega) (f.tr ((RF.a u h1 0 u 2 k 0 (by omega)).tr (RF.a u _ 0 u 3 k 0 (by omega)))) e (fun i hi => ?_)
    have a2 : gA (sA (sA h1 0 u 2 k 0) 0 u 3 k 0) 0 u 2 = upd (gA h1 0 u 2) k 0 := by
      rw [GA, if_neg (by omega), GA, if_pos ⟨rfl, rfl, rfl⟩]
    have a3 : gA (sA (sA h1 0 u 2 k 0) 0 u 3 k 0) 0 u 3 = upd (gA h1 0 u 3) k 0 := by
      rw [GA, if_pos ⟨rfl, rfl, rfl⟩, GA, if_neg (by omega)]
    rw [a2, a3]
    by_cases w : i = k
    · rw [w, up_p, up_p]; exact ⟨rfl, rfl⟩
    · rw [up_n w, up_n w]; exact b i (by omega)
theorem cl_clear (hN : 1000 ≤ N) (h : Hp) (u : Nat) : ∃ h', f_X5_clear N h u = some h' ∧ RF u h h' ∧ gI h' 0 u 6 = 0 ∧ (∀ i, i < 4 → gA h' 0 u 2 i = 0 ∧ gA h' 0 u 3 i = 0) ∧ ∀ k, 10 ≤ k → k ≤ 19 → gI h' 5 u k = 0 := by
  obtain ⟨h1, a1, a2, a3, a4⟩ := cl_clear0 hN h u
  unfold f_X5_clear
  rw [a1, bind_s]
  simp only [lt_e]
  have f : ∀ (h2 : Hp) k, RF u h2 (sI h2 5 u k 0) := fun h2 k => RF.i u h2 5 u k 0 (by omega)
  refine ⟨_, rfl, a2.tr ((((((((((f _ _).tr (f _ _)).tr (f _ _)).tr (f _ _)).tr (f _ _)).tr (f _ _)).tr (f _ _)).tr (f _ _)).tr (f _ _)).tr (f _ _)), a3, a4, fun k h1 h2 => ?_⟩
  simp only [GI]
  rcases (show k = 10 ∨ k = 11 ∨ k = 12 ∨ k = 13 ∨ k = 14 ∨ k = 15 ∨ k = 16 ∨ k = 17 ∨ k = 18 ∨ k = 19 by omega) with rfl | rfl | rfl | rfl | rfl | rfl | rfl | rfl | rfl | rfl <;> simp
end Begin

