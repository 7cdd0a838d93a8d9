/-- what reading a law changes, the class: no fault, no token -/
def LW (u z0 : Nat) (h h' : Hp) : Prop := RF u h h' ∧ (∀ k, k = 4 ∨ k = 5 ∨ k = 7 → gI h' 1 0 k = gI h 1 0 k) ∧ (gI h' 5 u = gI h 5 u ∧ gA h' 5 u = gA h 5 u) ∧ (∀ k, ¬ k = 0 → ¬ k = 1 → gA h' 0 u k = gA h 0 u k) ∧ ∀ k i, i < z0 → gA h' 0 u k i = gA h 0 u k i
def NW (u z0 : Nat) (h h' : Hp) : Prop := LW u z0 h h' ∧ gI h' 4 0 = gI h 4 0
/-- the reference -/
def LV (z0 : Nat) (g g' : Hp) : Prop := MF g g' ∧ (∀ k, k = 4 ∨ k = 5 ∨ (17 ≤ k ∧ k ≤ 20) → gI g' 8 0 k = gI g 8 0 k) ∧ (∀ k, k < 16 → gA g' 8 0 k = gA g 8 0 k) ∧ ∀ k i, 16 ≤ k → k ≤ 18 → i < z0 → gA g' 8 0 k (64 + i) = gA g 8 0 k (64 + i)
def NV (z0 : Nat) (g g' : Hp) : Prop := LV z0 g g' ∧ ∀ k, 6 ≤ k → k ≤ 10 → gI g' 8 0 k = gI g 8 0 k
section Within
variable {h h' h'' g g' g'' : Hp} {u n p z0 z o : Nat} {W : Wtg} {H : List Nat} {st : Nat → List Nat}
theorem LW.rf (u z0 : Nat) (h : Hp) : LW u z0 h h := ⟨RF.rf u h, fun _ _ => rfl, ⟨rfl, rfl⟩, fun _ _ _ => rfl, fun _ _ _ => rfl⟩
theorem LW.tr (a : LW u z0 h h') (b : LW u z0 h' h'') : LW u z0 h h'' := ⟨a.1.tr b.1, fun k q => (b.2.1 k q).trans (a.2.1 k q), ⟨b.2.2.1.1.trans a.2.2.1.1, b.2.2.1.2.trans a.2.2.1.2⟩, fun k q r => (b.2.2.2.1 k q r).trans (a.2.2.2.1 k q r), fun k i q => (b.2.2.2.2 k i q).trans (a.2.2.2.2 k i q)⟩
theorem LV.rf (z0 : Nat) (g : Hp) : LV z0 g g := ⟨MF.rf g, fun _ _ => rfl, fun _ _ => rfl, fun _ _ _ _ _ => rfl⟩
theorem LV.tr (a : LV z0 g g') (b : LV z0 g' g'') : LV z0 g g'' := ⟨a.1.tr b.1, fun k q => (b.2.1 k q).trans (a.2.1 k q), fun k q => (b.2.2.1 k q).trans (a.2.2.1 k q), fun k i q r s => (b.2.2.2 k i q r s).trans (a.2.2.2 k i q r s)⟩
theorem NW.tr (a : NW u z0 h h') (b : NW u z0 h' h'') : NW u z0 h h'' := ⟨a.1.tr b.1, b.2.trans a.2⟩
theorem NV.tr (a : NV z0 g g') (b : NV z0 g' g'') : NV z0 g g'' := ⟨a.1.tr b.1, fun k q r => (b.2 k q r).trans (a.2 k q r)⟩
theorem NW.rf (u z0 : Nat) (h : Hp) : NW u z0 h h := ⟨LW.rf u z0 h, rfl⟩
theorem NV.rf (z0 : Nat) (g : Hp) : NV z0 g g := ⟨LV.rf z0 g, fun _ _ _ => rfl⟩
theorem NW.i (u z0 : Nat) (h : Hp) (k : Nat) (v : Int32) (hk : 8 ≤ k) : NW u z0 h (sI h 1 0 k v) := ⟨⟨RF.i u h 1 0 k v (by omega), fun j q => by rw [GI, if_neg (by omega)], ⟨rfl, rfl⟩, fun _ _ _ => rfl, fun _ _ _ => rfl⟩, rfl⟩
theorem NW.a (u z0 : Nat) (h : Hp) (k i : Nat) (v : Int32) : NW u z0 h (sA h 1 0 k i v) := ⟨⟨RF.a u h 1 0 k i v (by omega), fun _ _ => rfl, ⟨rfl, rfl⟩, fun _ _ _ => rfl, fun _ _ _ => rfl⟩, rfl⟩
theorem NV.i (z0 : Nat) (g : Hp) (k : Nat) (v : Int32) (hk : 41 ≤ k ∧ k ≤ 46) : NV z0 g (sI g 8 0 k v) := ⟨⟨MF.i g k v (by unfold mfI; omega), fun j q => by rw [I_at, if_neg (by omega)], fun _ _ => rfl, fun _ _ _ _ _ => rfl⟩, fun j q r => by rw [I_at, if_neg (by omega)]⟩
theorem NV.a (z0 : Nat) (g : Hp) (i : Nat) (v : Int32) : NV z0 g (sA g 8 0 19 i v) := ⟨⟨MF.a g 19 i v (by unfold mfA; omega), fun _ _ => rfl, fun k q => by rw [GA, if_neg (by omega)], fun k j q r s => by rw [A_at, if_neg (by omega)]⟩, fun _ _ _ => rfl⟩
/-- cells that stacks stand in, left as they are -/
def KH (u : Nat) (h h' : Hp) : Prop := gI h' 0 u 6 = gI h 0 u 6 ∧ gI h' 1 0 8 = gI h 1 0 8 ∧ gA h' 1 0 0 = gA h 1 0 0 ∧ gA h' 0 u = gA h 0 u
def KG (g g' : Hp) : Prop := gI g' 8 0 21 = gI g 8 0 21 ∧ gI g' 8 0 41 = gI g 8 0 41 ∧ gI g' 8 0 42 = gI g 8 0 42 ∧ ∀ k, 16 ≤ k → k ≤ 20 → gA g' 8 0 k = gA g 8 0 k
theorem KH.rf (u : Nat) (h : Hp) : KH u h h := ⟨rfl, rfl, rfl, rfl⟩
theorem KG.rf (g : Hp) : KG g g := ⟨rfl, rfl, rfl, fun _ _ _ => rfl⟩
theorem KH.tr (a : KH u h h') (b : KH u h' h'') : KH u h h'' := ⟨b.1.trans a.1, b.2.1.trans a.2.1, b.2.2.1.trans a.2.2.1, b.2.2.2.trans a.2.2.2⟩
theorem KG.tr (a : KG g g') (b : KG g' g'') : KG g g'' := ⟨b.1.trans a.1, b.2.1.trans a.2.1, b.2.2.1.trans a.2.2.1, fun k q r => (b.2.2.2 k q r).trans (a.2.2.2 k q r)⟩
theorem KH.i (u : Nat) (h : Hp) (k : Nat) (v : Int32) (hk : ¬ k = 8) : KH u h (sI h 1 0 k v) := ⟨rfl, by rw [GI, if_neg (by omega)], rfl, rfl⟩
theorem KH.a (u : Nat) (h : Hp) (i : Nat) (v : Int32) : KH u h (sA h 1 0 1 i v) := ⟨rfl, rfl, rfl, rfl⟩
theorem KG.i (g : Hp) (k : Nat) (v : Int32) (hk : 43 ≤ k) : KG g (sI g 8 0 k v) := ⟨by rw [I_at, if_neg (by omega)], by rw [I_at, if_neg (by omega)], by rw [I_at, if_neg (by omega)], fun _ _ _ => rfl⟩
theorem U8.kg (a : U8 g g') : KG g g' := ⟨a.2.1 21 (by omega), a.2.1 41 (by omega), a.2.1 42 (by omega), fun k _ _ => a.2.2.2 k⟩
/-- the stacks -/
def CO (u z0 : Nat) (h g : Hp) (W : Wtg) (H : List Nat) (st : Nat → List Nat) (z : Nat) : Prop := (gI h 0 u 6 = nI z ∧ gI h 1 0 8 = nI W.length ∧ gI g 8 0 21 = nI z ∧ gI g 8 0 41 = nI W.length ∧ gI g 8 0 42 = nI H.length) ∧ WLs (gA h 1 0 0) (gA g 8 0 19) W ∧ HLs (gA g 8 0 20) H ∧ SPS z0 z (gA h 0 u 0) (gA h 0 u 1) (gA g 8 0 16) (gA g 8 0 17) (gA g 8 0 18) st ∧ st z = H ∧ z + npC W ≤ 64
theorem CO.cg (c : CO u z0 h g W H st z) (a : KH u h h') (b : KG g g') : CO u z0 h' g' W H st z := by
  obtain ⟨a1, a2, a3, a4⟩ := a
  obtain ⟨b1, b2, b3, b4⟩ := b
  unfold CO
  rw [a1, a2, a3, a4, b1, b2, b3, b4 16 (by omega) (by omega), b4 17 (by omega) (by omega), b4 18 (by omega) (by omega), b4 19 (by omega) (by omega), b4 20 (by omega) (by omega)]
  exact c
theorem CMP.cg {cm cm' : Nat → Int32} : ∀ {W : Wtg} {o : Nat}, CMP cm W o → (∀ i, i < o → cm' i = cm i) → CMP cm' W o
  | [], _, h, _ => h
  | e :: w, o, h, q => by
    have h : (if e.2 = 0 then ∃ o', o = o' + 1 ∧ cm o' = b2i (cmpd w) ∧ CMP cm w o' else CMP cm w o) := h
    show (if e.2 = 0 then ∃ o', o = o' + 1 ∧ cm' o' = b2i (cmpd w) ∧ CMP cm' w o' else CMP cm' w o)
    by_cases y : e.2 = 0
    · rw [if_pos y] at h ⊢
      obtain ⟨o', h1, h2, h3⟩ := h
      exact ⟨o', h1, (q o' (by omega)).trans h2, CMP.cg h3 (fun i hi => q i (by omega))⟩
    · rw [if_neg y] at h ⊢
      exact CMP.cg h q
def Bad (u : Nat) (h g h' g' : Hp) : Prop := RF u h h' ∧ MF g g' ∧ FT h' g' ∧ gI h' 5 u 10 = gI h 5 u 10
theorem Bad.tr (a : NW u z0 h h') (b : NV z0 g g') {h2 g2 : Hp} (c : Bad u h' g' h2 g2) : Bad u h g h2 g2 := ⟨a.1.1.tr c.1, b.1.1.tr c.2.1, c.2.2.1, c.2.2.2.trans (congrFun a.1.2.2.1.1 10)⟩
end Within

