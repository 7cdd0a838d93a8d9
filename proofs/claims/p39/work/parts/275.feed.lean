-- PURE: feed, by both
def byB (w : Int32) (k : Nat) : Int32 := (w.toUInt32 >>> ((nI (24 - 8 * k)).toUInt32 &&& Int32.toUInt32 31)).toInt32 &&& 255
def fd4 (f : Nat → Int32) (z : Nat) (w : Int32) : Nat → Int32 := fun i => if z ≤ i ∧ i < z + 4 then byB w (i - z) else f i
def fdM (f : Nat → Int32) (z : Nat) (a b c d e : Int32) : Nat → Int32 := fd4 (fd4 (fd4 (fd4 (fd4 f z a) (z + 4) b) (z + 8) c) (z + 12) d) (z + 16) e
def teN (X : Xs) : Nat := (X.2 3).toNatClampNeg
def feX (X : Xs) (a b c d e : Int32) : Xs := (fun j => if j = 6 then fdM (X.1 6) (teN X) a b c d e else X.1 j, fun j => if j = 3 then nI (teN X + 20) else X.2 j)
theorem A4_at (g : Hp) (i : Nat) (v : Int32) : gA (sA g 4 0 0 i v) 4 0 0 = upd (gA g 4 0 0) i v := by
  show at3 g.2.2.2.1 4 0 0 (upd (gA g 4 0 0) i v) 4 0 0 = _
  exact at3_s _ _ _ _ _
theorem A4_1 (g : Hp) (i : Nat) (v w : Int32) : gA (sI (sA g 4 0 0 i v) 4 0 2 w) 4 0 1 = gA g 4 0 1 := by
  show at3 g.2.2.2.1 4 0 0 (upd (gA g 4 0 0) i v) 4 0 1 = _
  unfold at3
  rw [if_neg (fun q => absurd q.2.2 (by decide))]
  rfl
theorem I4_at (g : Hp) (k : Nat) (v : Int32) (j : Nat) : gI (sI g 4 0 k v) 4 0 j = if j = k then v else gI g 4 0 j := by
  show at3 g.1 4 0 k v 4 0 j = _
  unfold at3
  by_cases z : j = k
  · rw [if_pos z, if_pos ⟨rfl, rfl, z⟩]
  · rw [if_neg z, if_neg (fun q => z q.2.2)]
    rfl
/-- nothing changed but the bytes -/
def N4 (h g : Hp) : Prop := Nx h g ∧ K8 h g ∧ (∀ c o k, c ≠ 4 → gI g c o k = gI h c o k ∧ gA g c o k = gA h c o k) ∧ gA g 4 0 1 = gA h 4 0 1
theorem N4.tr {h g k : Hp} (a : N4 h g) (b : N4 g k) : N4 h k := ⟨a.1.tr b.1, a.2.1.tr b.2.1, fun c o i q => ⟨(b.2.2.1 c o i q).1.trans (a.2.2.1 c o i q).1, (b.2.2.1 c o i q).2.trans (a.2.2.1 c o i q).2⟩, b.2.2.2.trans a.2.2.2⟩
section Feed
variable {N : Nat} {h g : Hp} {t : Nat} {T : Txt} {S I : Str} {X : Xs}
theorem cl_append (hN : 1000 ≤ N) (h : Hp) {z : Nat} (hz : z + 4 ≤ 700) (e2 : gI h 4 0 2 = nI z) (w : Int32) : ∃ g, f_X4_append N h w = some g ∧ N4 h g ∧ gA g 4 0 0 = fd4 (gA h 4 0 0) z w ∧ gI g 4 0 2 = nI (z + 4) := by
  unfold f_X4_append
  have n0 : N4 h h := ⟨⟨fun _ _ => ⟨rfl, rfl⟩, fun _ _ => ⟨rfl, rfl⟩, fun _ _ => rfl, fun _ _ _ _ => rfl⟩, K8.rf h, fun _ _ _ _ => ⟨rfl, rfl⟩, rfl⟩
  have sh : ∀ k, k < 5 → (if k < 4 then nI (24 - 8 * k) else -8) = (if k < 4 then nI (24 - 8 * k) else -8) := fun _ _ => rfl
  refine iter_inv (bot := fun _ _ => none) (b := f_X4_append_3 w) (fun m r => ∀ k g, k ≤ 4 → 4 < m + k → N4 h g → gI g 4 0 2 = nI (z + k) → (∀ i, gA g 4 0 0 i = if z ≤ i ∧ i < z + k then byB w (i - z) else gA h 4 0 0 i) → ∃ g', r (if k < 4 then nI (24 - 8 * k) else -8) g = some g' ∧ N4 h g' ∧ gA g' 4 0 0 = fd4 (gA h 4 0 0) z w ∧ gI g' 4 0 2 = nI (z + 4)) (fun k _ _ _ => by omega) (fun m r ih k g hk hm f e b => ?_) N 0 h (by omega) (by omega) n0 e2 (fun i => by rw [if_neg (fun q => by omega)])
  unfold f_X4_append_3
  rw [jn_e]
  by_cases y : k = 4
  · subst y
    rw [if_neg (show ¬ 4 < 4 by omega), if_pos (show (-8 : Int32) < 0 by decide)]
    exact ⟨g, rfl, f, funext b, e⟩
  · have k4 : k < 4 := by omega
    have nn : ¬ nI (24 - 8 * k) < 0 := Int32.not_lt.mpr (leN (a := 0) (Nat.zero_le _) (by omega))
    have nx8 : nI (24 - 8 * k) + -8 = (if k + 1 < 4 then nI (24 - 8 * (k + 1)) else -8) := by
      rcases (show k = 0 ∨ k = 1 ∨ k = 2 ∨ k = 3 by omega) with rfl | rfl | rfl | rfl <;> decide
    have e' : gI (sA g 4 0 0 (z + k) (byB w k)) 4 0 2 = nI (z + k) := e
    rw [if_pos k4, if_neg nn, e, if_neg (show ¬ (700 : Int32) ≤ nI (z + k) from nleN (a := 700) (by omega) (by omega)), grd_p (inb_n (show z + k < 700 by omega) (by omega)), lt_e, lt_e, lt_e, clN (show z + k < 2 ^ 31 by omega), nx8]
    show ∃ g', r _ (sI (sA g 4 0 0 (z + k) (byB w k)) 4 0 2 (gI (sA g 4 0 0 (z + k) (byB w k)) 4 0 2 + 1)) = some g' ∧ _
    rw [e', nI_1]
    refine ih (k + 1) _ (by omega) (by omega) (f.tr ⟨(Nx.a g 4 0 0 _ _ (by decide)).tr (Nx.i _ 4 0 2 _ (by decide)), (K8.a g 4 0 0 _ _ (by decide)).tr (K8.i _ 4 0 2 _ (by decide)), fun c o i hc => ⟨if_neg (fun q => hc q.1), if_neg (fun q => hc q.1)⟩, A4_1 _ _ _ _⟩) ?_ (fun i => ?_)
    · rw [I4_at, if_pos rfl]; rfl
    · show gA (sA g 4 0 0 (z + k) (byB w k)) 4 0 0 i = _
      rw [A4_at]
      by_cases v : i = z + k
      · rw [v, upd_s, if_pos ⟨by omega, by omega⟩]
        congr 1
        omega
      · rw [upd_n _ _ v, b i]
        by_cases u : z ≤ i ∧ i < z + k
        · rw [if_pos u, if_pos ⟨u.1, by omega⟩]
        · rw [if_neg u, if_neg (fun q => by omega)]
theorem cl_feed (hN : 1000 ≤ N) (r : RC h t T S I X) (u : ∃ y : Nat, y ≤ 700 ∧ X.2 3 = nI y) (a b c d e : Int32) : ∃ g, f_X7_feed N h a b c d e = some (if teN X + 20 ≤ 700 then nI (teN X + 20) else -1, g) ∧ RC g t T S I (if teN X + 20 ≤ 700 then feX X a b c d e else X) ∧ K8 h g := by
  obtain ⟨z, hz, e3⟩ := u
  have ez : teN X = z := by unfold teN; rw [e3, clN (by omega)]
  have ex0 := r.2.2.2.1
  have e2 : gI h 4 0 2 = nI z := by rw [← e3, ← ex0]; rfl
  have x6 : gA h 4 0 0 = X.1 6 := by rw [← ex0]; rfl
  have e20 : nI z + 20 = nI (z + 20) := nI_add z 20
  unfold f_X7_feed
  rw [e2, e20, ez]
  by_cases y : z + 20 ≤ 700
  rotate_left
  · rw [if_neg (show ¬ nI (z + 20) ≤ 700 from nleN (b := 700) (by omega) (by omega)), if_neg y, if_neg y]
    exact ⟨h, rfl, r, K8.rf h⟩
  obtain ⟨g1, q1, n1, a1, i1⟩ := cl_append hN h (z := z) (by omega) e2 a
  obtain ⟨g2, q2, n2, a2, i2⟩ := cl_append hN g1 (z := z + 4) (by omega) i1 b
  obtain ⟨g3, q3, n3, a3, i3⟩ := cl_append hN g2 (z := z + 8) (by omega) i2 c
  obtain ⟨g4, q4, n4, a4, i4⟩ := cl_append hN g3 (z := z + 12) (by omega) i3 d
  obtain ⟨g5, q5, n5, a5, i5⟩ := cl_append hN g4 (z := z + 16) (by omega) i4 e
  have nn := (((n1.tr n2).tr n3).tr n4).tr n5
  have rows : gA g5 4 0 0 = fdM (X.1 6) z a b c d e := by rw [a5, a4, a3, a2, a1, x6]; rfl
  have i5' : gI g5 4 0 2 = nI (z + 20) := i5
  rw [if_pos (show nI (z + 20) ≤ 700 from leN (b := 700) y (by omega)), q1, bind_s, q2, bind_s, q3, bind_s, q4, bind_s, q5, bind_s, i5', if_pos y, if_pos y]
  refine ⟨g5, rfl, r.nx nn.1 (Prod.ext ?_ (fun8 (fun j hj => ?_) (fun _ => rfl) (fun j => ?_))) id, nn.2.1⟩
  · funext j
    show (ex g5 t).1 j = if j = 6 then fdM (X.1 6) (teN X) a b c d e else X.1 j
    by_cases v : j = 6
    · rw [if_pos v, ez, ← rows, v]
      rfl
    · rw [if_neg v, ← ex0]
      by_cases v7 : 7 ≤ j
      · obtain ⟨i, rfl⟩ : ∃ i, j = i + 7 := ⟨j - 7, by omega⟩
        exact nn.2.2.2
      rcases (show j = 0 ∨ j = 1 ∨ j = 2 ∨ j = 3 ∨ j = 4 ∨ j = 5 by omega) with rfl | rfl | rfl | rfl | rfl | rfl
      · exact (nn.2.2.1 6 0 0 (by decide)).2
      · exact (nn.2.2.1 6 0 1 (by decide)).2
      · exact (nn.2.2.1 6 0 2 (by decide)).2
      · exact (nn.2.2.1 2 0 0 (by decide)).2
      · exact (nn.2.2.1 2 0 1 (by decide)).2
      · exact (nn.2.2.1 2 0 2 (by decide)).2
  · show (ex g5 t).2 j = if j = 3 then nI (teN X + 20) else X.2 j
    rw [ez, ← ex0]
    rcases (show j = 0 ∨ j = 1 ∨ j = 2 ∨ j = 3 ∨ j = 4 ∨ j = 5 ∨ j = 6 ∨ j = 7 by omega) with rfl | rfl | rfl | rfl | rfl | rfl | rfl | rfl
    · exact (nn.2.2.1 6 0 3 (by decide)).1
    · exact (nn.2.2.1 2 0 4 (by decide)).1
    · exact (nn.2.2.1 2 0 5 (by decide)).1
    · exact i5'
    · exact (nn.2.2.1 7 0 16 (by decide)).1
    · exact (nn.2.2.1 7 0 17 (by decide)).1
    · exact (nn.2.2.1 0 t 6 (by decide)).1
    · exact (nn.2.2.1 7 0 15 (by decide)).1
  · show X.2 (j + 8) = X.2 7
    rw [← ex0]; rfl
end Feed

