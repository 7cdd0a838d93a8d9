-- PURE: what the reference's memory tells; a half laid
def kpI (k : Nat) : Bool := [1, 4, 5, 12, 13, 14, 15, 16, 61, 72, 73, 76, 78, 84, 85, 86].contains k
def kpA (k : Nat) : Bool := (decide (k ≤ 18) && !(k == 2)) || k == 37 || (decide (39 ≤ k) && decide (k ≤ 44))
def hn (k : Nat) : Nat := if k = 23 ∨ k = 24 then 8 else if k = 30 then 6 else if 31 ≤ k then 1 else 4
/-- nothing of the class changed (but long arrays) -/
def K7 (g g' : Hp) : Prop := ∀ c o k, c ≠ 8 → gI g' c o k = gI g c o k ∧ gL g' c o k = gL g c o k ∧ gO g' c o k = gO g c o k ∧ gA g' c o k = gA g c o k
def N49 (g : Hp) : Prop := gI g 8 0 49 = b2i (gZ g 8 0 49)
/-- a question to the reference: what stays -/
def F8 (g g' : Hp) : Prop := K7 g g' ∧ (∀ k, kpI k = true → gI g' 8 0 k = gI g 8 0 k) ∧ (gL g' 8 0 62 = gL g 8 0 62 ∧ gL g' 8 0 87 = gL g 8 0 87 ∧ (N49 g → N49 g')) ∧ (∀ k, kpA k = true → gA g' 8 0 k = gA g 8 0 k) ∧ ∀ k i, 23 ≤ k → k ≤ 33 → i < hn k → gA g' 8 0 k i = gA g 8 0 k i
theorem K7.rf (g : Hp) : K7 g g := fun _ _ _ _ => ⟨rfl, rfl, rfl, rfl⟩
theorem K7.tr {g g' g'' : Hp} (a : K7 g g') (b : K7 g' g'') : K7 g g'' := fun c o k q => ⟨(b c o k q).1.trans (a c o k q).1, (b c o k q).2.1.trans (a c o k q).2.1, (b c o k q).2.2.1.trans (a c o k q).2.2.1, (b c o k q).2.2.2.trans (a c o k q).2.2.2⟩
theorem F8.rf (g : Hp) : F8 g g := ⟨K7.rf g, fun _ _ => rfl, ⟨rfl, rfl, id⟩, fun _ _ => rfl, fun _ _ _ _ _ => rfl⟩
theorem F8.tr {g g' g'' : Hp} (a : F8 g g') (b : F8 g' g'') : F8 g g'' := ⟨a.1.tr b.1, fun k q => (b.2.1 k q).trans (a.2.1 k q), ⟨b.2.2.1.1.trans a.2.2.1.1, b.2.2.1.2.1.trans a.2.2.1.2.1, fun q => b.2.2.1.2.2 (a.2.2.1.2.2 q)⟩, fun k q => (b.2.2.2.1 k q).trans (a.2.2.2.1 k q), fun k i q r s => (b.2.2.2.2 k i q r s).trans (a.2.2.2.2 k i q r s)⟩
theorem I_at (g : Hp) (k : Nat) (v : Int32) (j : Nat) : gI (sI g 8 0 k v) 8 0 j = if j = k then v else gI g 8 0 j := by
  show at3 g.1 8 0 k v 8 0 j = _
  unfold at3
  by_cases z : j = k
  · rw [if_pos z, if_pos ⟨rfl, rfl, z⟩]
  · rw [if_neg z, if_neg (fun q => z q.2.2)]
    rfl
theorem A_at (g : Hp) (k i : Nat) (v : Int32) (j u : Nat) : gA (sA g 8 0 k i v) 8 0 j u = if j = k ∧ u = i then v else gA g 8 0 j u := by
  show at3 g.2.2.2.1 8 0 k (upd (gA g 8 0 k) i v) 8 0 j u = _
  unfold at3
  by_cases z : j = k
  · subst z
    rw [if_pos ⟨rfl, rfl, rfl⟩]
    show (if u = i then v else gA g 8 0 j u) = _
    by_cases w : u = i
    · rw [if_pos w, if_pos ⟨rfl, w⟩]
    · rw [if_neg w, if_neg (fun q => w q.2)]
  · rw [if_neg (fun q => z q.2.2), if_neg (fun q => z q.1)]
    rfl
theorem K7.i (g : Hp) (k : Nat) (v : Int32) : K7 g (sI g 8 0 k v) := fun c o j hc => ⟨if_neg (fun q => hc q.1), rfl, rfl, rfl⟩
theorem K7.a (g : Hp) (k i : Nat) (v : Int32) : K7 g (sA g 8 0 k i v) := fun c o j hc => ⟨rfl, rfl, rfl, if_neg (fun q => hc q.1)⟩
theorem F8.i (g : Hp) {k : Nat} (v : Int32) (hk : kpI k = false ∧ ¬ k = 49) : F8 g (sI g 8 0 k v) := by
  have h49 : gI (sI g 8 0 k v) 8 0 49 = gI g 8 0 49 := by rw [I_at, if_neg (fun q => hk.2 q.symm)]
  refine ⟨K7.i g k v, fun j hj => ?_, ⟨rfl, rfl, fun q => ?_⟩, fun _ _ => rfl, fun _ _ _ _ _ => rfl⟩
  · rw [I_at, if_neg]
    rintro rfl
    rw [hk.1] at hj
    exact Bool.noConfusion hj
  · unfold N49 gZ at q ⊢
    rw [h49]; exact q
theorem F8.a (g : Hp) {k i : Nat} (v : Int32) (hk : kpA k = false) (hi : 23 ≤ k → k ≤ 33 → hn k ≤ i) : F8 g (sA g 8 0 k i v) := by
  refine ⟨K7.a g k i v, fun _ _ => rfl, ⟨rfl, rfl, id⟩, fun j hj => ?_, fun j u h1 h2 h3 => ?_⟩
  · funext u
    rw [A_at, if_neg]
    rintro ⟨rfl, -⟩
    rw [hk] at hj
    exact Bool.noConfusion hj
  · rw [A_at, if_neg]
    rintro ⟨rfl, rfl⟩
    have := hi h1 h2
    omega
/-- a half of the reference, as a strand; the plain view, without what is tried -/
def b8 (g : Hp) (b : Nat) : Str := (fun k i => if k = 0 then gA g 8 0 23 (8 * b + i) else if k = 1 then gA g 8 0 24 (8 * b + i) else if k = 2 then gA g 8 0 25 (4 * b + i) else if k = 3 then gA g 8 0 7 i else if k = 4 then gA g 8 0 26 (4 * b + i) else if k = 5 then gA g 8 0 27 (4 * b + i) else if k = 6 then gA g 8 0 28 (4 * b + i) else if k = 7 then gA g 8 0 29 (4 * b + i) else if k = 9 then gA g 8 0 30 (6 * b + i) else 0, fun k => if k = 11 then gA g 8 0 33 b else if k = 12 then gA g 8 0 31 b else if k = 13 then gA g 8 0 32 b else if k = 14 then gI g 8 0 61 else if k = 15 then (gL g 8 0 62).toInt32 else if k = 16 then 1 else 0)
def Plain (g : Hp) : Prop := gZ g 8 0 63 = false ∧ gZ g 8 0 64 = false ∧ gZ g 8 0 65 = false ∧ gI g 8 0 66 = -1
/-- rows of half 1 laid so far -/
def Laid (g g' : Hp) (a b c : Nat) : Prop := (∀ i, i < a → gA g' 8 0 23 (8 + i) = gA g 8 0 23 i ∧ gA g' 8 0 24 (8 + i) = gA g 8 0 24 i) ∧ (∀ i, i < b → gA g' 8 0 25 (4 + i) = gA g 8 0 25 i ∧ gA g' 8 0 26 (4 + i) = gA g 8 0 26 i ∧ gA g' 8 0 27 (4 + i) = gA g 8 0 27 i ∧ gA g' 8 0 28 (4 + i) = gA g 8 0 28 i ∧ gA g' 8 0 29 (4 + i) = gA g 8 0 29 i) ∧ ∀ i, i < c → gA g' 8 0 30 (6 + i) = gA g 8 0 30 i
section Lay
variable {N : Nat} {g : Hp}
theorem m_plainTried (g : Hp) : ∃ g', f_X8_plainTried g = some g' ∧ F8 g g' ∧ Plain g' ∧ (∀ k, gA g' 8 0 k = gA g 8 0 k) := by
  refine ⟨sI (sZ (sZ (sZ g 8 0 63 false) 8 0 64 false) 8 0 65 false) 8 0 66 (-1), (by unfold f_X8_plainTried; simp only [lt_e]), ?_, ?_, fun k => rfl⟩
  · exact (((F8.i g (k := 63) (b2i false) (by decide)).tr (F8.i _ (k := 64) (b2i false) (by decide))).tr (F8.i _ (k := 65) (b2i false) (by decide))).tr (F8.i _ (k := 66) (-1) (by decide))
  · refine ⟨?_, ?_, ?_, ?_⟩
    · unfold gZ sZ
      rw [I_at, if_neg (by decide), I_at, if_neg (by decide), I_at, if_neg (by decide), I_at, if_pos rfl]
      rfl
    · unfold gZ sZ
      rw [I_at, if_neg (by decide), I_at, if_neg (by decide), I_at, if_pos rfl]
      rfl
    · unfold gZ sZ
      rw [I_at, if_neg (by decide), I_at, if_pos rfl]
      rfl
    · rw [I_at, if_pos rfl]
theorem lay_3 (g : Hp) : ∀ m r, (∀ j g', j ≤ 6 → 6 < m + j → F8 g g' → Laid g g' 8 4 j → ∃ g'', r (nI j) g' = some g'' ∧ F8 g g'' ∧ Laid g g'' 8 4 6 ∧ Plain g'' ∧ gA g'' 8 0 31 1 = gA g 8 0 31 0 ∧ gA g'' 8 0 32 1 = gA g 8 0 32 0 ∧ gA g'' 8 0 33 1 = gA g 8 0 33 0) → ∀ j g', j ≤ 6 → 6 < m + 1 + j → F8 g g' → Laid g g' 8 4 j → ∃ g'', f_X8_layTried_129 r (nI j) g' = some g'' ∧ F8 g g'' ∧ Laid g g'' 8 4 6 ∧ Plain g'' ∧ gA g'' 8 0 31 1 = gA g 8 0 31 0 ∧ gA g'' 8 0 32 1 = gA g 8 0 32 0 ∧ gA g'' 8 0 33 1 = gA g 8 0 33 0 := by
  intro m r ih j g' hj hm f l
  unfold f_X8_layTried_129
  by_cases z : j = 6
  · subst z
    rw [if_pos (show (6 : Int32) ≤ nI 6 by decide)]
    simp only [lt_e, z7, grd_p (show inb 0 2 by decide), grd_p (show inb 1 2 by decide)]
    obtain ⟨g3, e3, f3, p3, a3⟩ := m_plainTried (sA (sA (sA g' 8 0 31 1 (gA g' 8 0 31 0)) 8 0 32 1 (gA (sA g' 8 0 31 1 (gA g' 8 0 31 0)) 8 0 32 0)) 8 0 33 1 (gA (sA (sA g' 8 0 31 1 (gA g' 8 0 31 0)) 8 0 32 1 (gA (sA g' 8 0 31 1 (gA g' 8 0 31 0)) 8 0 32 0)) 8 0 33 0))
    rw [e3, bind_s]
    have hk : ∀ k i, ¬ k = 31 → ¬ k = 32 → ¬ k = 33 → gA g3 8 0 k i = gA g' 8 0 k i := fun k i h1 h2 h3 => by
      rw [a3 k, A_at, if_neg (fun q => h3 q.1), A_at, if_neg (fun q => h2 q.1), A_at, if_neg (fun q => h1 q.1)]
    refine ⟨g3, rfl, ((f.tr (F8.a g' _ (by decide) (fun _ _ => by decide))).tr (F8.a _ _ (by decide) (fun _ _ => by decide))).tr ((F8.a _ _ (by decide) (fun _ _ => by decide)).tr f3), ?_, p3, ?_, ?_, ?_⟩
    · refine ⟨fun i hi => ?_, fun i hi => ?_, fun i hi => ?_⟩
      · rw [hk 23 _ (by decide) (by decide) (by decide), hk 24 _ (by decide) (by decide) (by decide)]; exact l.1 i hi
      · rw [hk 25 _ (by decide) (by decide) (by decide), hk 26 _ (by decide) (by decide) (by decide), hk 27 _ (by decide) (by decide) (by decide), hk 28 _ (by decide) (by decide) (by decide), hk 29 _ (by decide) (by decide) (by decide)]; exact l.2.1 i hi
      · rw [hk 30 _ (by decide) (by decide) (by decide)]; exact l.2.2 i hi
    · rw [a3, A_at, if_neg (by decide), A_at, if_neg (by decide), A_at, if_pos ⟨rfl, rfl⟩, f.2.2.2.2 31 0 (by omega) (by omega) (by decide)]
    · rw [a3, A_at, if_neg (by decide), A_at, if_pos ⟨rfl, rfl⟩, A_at, if_neg (by decide), f.2.2.2.2 32 0 (by omega) (by omega) (by decide)]
    · rw [a3, A_at, if_pos ⟨rfl, rfl⟩, A_at, if_neg (by decide), A_at, if_neg (by decide), f.2.2.2.2 33 0 (by omega) (by omega) (by decide)]
  · have h6 : (6 : Int32) + nI j = nI (6 + j) := nI_add 6 j
    rw [if_neg (show ¬ (6 : Int32) ≤ nI j from nleN (a := 6) (show j < 6 by omega) (by omega))]
    simp only [lt_e, h6, grd_p (inb_n (show j < 12 by omega) (show 12 < 2 ^ 31 by omega)), grd_p (inb_n (show 6 + j < 12 by omega) (show 12 < 2 ^ 31 by omega)), clN (show j < 2 ^ 31 by omega), clN (show 6 + j < 2 ^ 31 by omega), nI_1]
    refine ih (j + 1) _ (by omega) (by omega) (f.tr (F8.a g' _ (by decide) (fun _ _ => by have : hn 30 = 6 := rfl; omega))) ⟨fun i hi => ?_, fun i hi => ?_, fun i hi => ?_⟩
    · rw [A_at, if_neg (by omega), A_at, if_neg (by omega)]; exact l.1 i hi
    · rw [A_at, if_neg (by omega), A_at, if_neg (by omega), A_at, if_neg (by omega), A_at, if_neg (by omega), A_at, if_neg (by omega)]; exact l.2.1 i hi
    · rw [A_at]
      by_cases w : i = j
      · rw [if_pos ⟨rfl, by omega⟩, w, f.2.2.2.2 30 j (by omega) (by omega) (by have : hn 30 = 6 := rfl; omega)]
      · rw [if_neg (by omega)]; exact l.2.2 i (by omega)
end Lay
