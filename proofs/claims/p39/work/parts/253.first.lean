-- PURE: the reference laid as at first
def TX (g : Hp) (T : Txt) : Prop := (∀ s, s < nSt T → gA g 8 0 4 s = T.1 0 s) ∧ (∀ c, c < nCr T → gA g 8 0 5 c = T.1 1 c ∧ gA g 8 0 6 c = T.1 2 c ∧ gA g 8 0 7 c = T.1 3 c ∧ gA g 8 0 8 c = T.1 4 c) ∧ gA g 8 0 3 0 = T.2.1 15 ∧ gA g 8 0 3 1 = T.2.1 16 ∧ gA g 8 0 3 4 = T.2.1 19 ∧ WRD (gA g 8 0 1) ∧ LPA (gA g 8 0 13) (gA g 8 0 14) (gA g 8 0 15) (gA g 8 0 16) (gA g 8 0 17) (gA g 8 0 18) T.2.2
/-- nothing changed but half b -/
def AF (b : Nat) (g g' : Hp) : Prop := K7 g g' ∧ (∀ k, gI g' 8 0 k = gI g 8 0 k) ∧ (∀ k, gL g' 8 0 k = gL g 8 0 k) ∧ (∀ k, (k < 23 ∨ 33 < k) → gA g' 8 0 k = gA g 8 0 k) ∧ ∀ k i, ¬ (hn k * b ≤ i ∧ i < hn k * b + hn k) → gA g' 8 0 k i = gA g 8 0 k i
theorem AF.rf (b : Nat) (g : Hp) : AF b g g := ⟨K7.rf g, fun _ => rfl, fun _ => rfl, fun _ _ => rfl, fun _ _ _ => rfl⟩
theorem AF.tr {b : Nat} {g g' g'' : Hp} (a : AF b g g') (c : AF b g' g'') : AF b g g'' := ⟨a.1.tr c.1, fun k => (c.2.1 k).trans (a.2.1 k), fun k => (c.2.2.1 k).trans (a.2.2.1 k), fun k q => (c.2.2.2.1 k q).trans (a.2.2.2.1 k q), fun k i q => (c.2.2.2.2 k i q).trans (a.2.2.2.2 k i q)⟩
theorem AF.a (b : Nat) (g : Hp) {k i : Nat} (v : Int32) (hk : 23 ≤ k ∧ k ≤ 33) (hi : hn k * b ≤ i ∧ i < hn k * b + hn k) : AF b g (sA g 8 0 k i v) := ⟨K7.a g k i v, fun _ => rfl, fun _ => rfl, fun j hj => funext fun u => by rw [A_at, if_neg (fun q => by omega)], fun j u hu => by
  rw [A_at, if_neg]
  rintro ⟨rfl, rfl⟩
  exact hu hi⟩
theorem AF.w (b : Nat) (g : Hp) {k i w : Nat} (v : Int32) (hw : hn k = w) (hk : 23 ≤ k ∧ k ≤ 33) (hi : w * b ≤ i ∧ i < w * b + w) : AF b g (sA g 8 0 k i v) := by
  subst hw
  exact AF.a b g v hk hi
section First
variable {N : Nat} {g : Hp} {b : Nat}
end First

