-- PURE: a croft, a field told by the class
section Lines2
variable {N u n : Nat} {h0 h g : Hp} {l l' : List Int32} {D D' : DT}
theorem cl_cn (hN : 1000 ≤ N) (d : PDv (gI h 5 u) (gA h 5 u) D) (hc : D.2.1.length ≤ 4) (x : Int32) : f_X5_croftNamed N h u x = some (idC D.2.1 x 0) := by
  have e12 : gI h 5 u 12 = nI D.2.1.length := d.1 12 (by omega) (by omega)
  unfold f_X5_croftNamed
  refine iter_inv (bot := fun _ => none) (b := f_X5_croftNamed_2 h u x) (fun m r => ∀ k (t : List (Int32 × Nat × Nat × Nat)), k + t.length = D.2.1.length → (∀ i, i < t.length → gA h 5 u 1 (k + i) = (t.getD i dN).1) → t.length < m → r (nI k) = some (idC t x k)) (fun k t _ _ q => absurd q (Nat.not_lt_zero _)) (fun m r ih k t hk ht hm => ?_) N 0 D.2.1 (by omega) (fun i hi => by rw [Nat.zero_add]; exact (d.2.2.1 i hi).1) (by omega)
  unfold f_X5_croftNamed_2
  cases t with
  | nil =>
    have : k = D.2.1.length := hk
    rw [e12, this, if_pos (Int32.le_refl _)]
    rfl
  | cons a t =>
    have hl : (a :: t).length = t.length + 1 := rfl
    rw [e12, if_neg (nleN (show k < D.2.1.length by omega) (by omega)), grd_p (inb_n (show k < 4 by omega) (by omega)), clN (by omega)]
    have ha : gA h 5 u 1 k = a.1 := by have := ht 0 (by omega); rwa [Nat.add_zero] at this
    rw [ha]
    unfold idC
    by_cases z : a.1 = x
    · rw [if_neg (fun q => q z), if_pos z]
    · rw [if_pos z, if_neg z, lt_e, nI_1]
      exact ih (k + 1) t (by omega) (fun i hi => by rw [Nat.add_assoc, Nat.add_comm 1 i]; exact ht (i + 1) (by omega)) (by omega)
/-- the reader's own and the laws as they were -/
def Kr (u : Nat) (h g : Hp) : Prop := gI g 1 0 7 = gI h 1 0 7 ∧ gI g 1 0 10 = gI h 1 0 10 ∧ gI g 0 u 6 = gI h 0 u 6 ∧ gA g 0 u = gA h 0 u
theorem Kp.r (a : Kp u h g) : Kr u h g := a.2.2
theorem Kr.tr {k : Hp} (a : Kr u h g) (b : Kr u g k) : Kr u h k := ⟨b.1.trans a.1, b.2.1.trans a.2.1, b.2.2.1.trans a.2.2.1, b.2.2.2.trans a.2.2.2⟩
theorem Kr.a5 (u : Nat) (h : Hp) (k i : Nat) (v : Int32) : Kr u h (sA h 5 u k i v) := ⟨rfl, rfl, rfl, funext fun j => by rw [GA, if_neg (by omega)]⟩
theorem Kr.i5 (u : Nat) (h : Hp) (k : Nat) (v : Int32) : Kr u h (sI h 5 u k v) := ⟨by rw [GI, if_neg (by omega)], by rw [GI, if_neg (by omega)], by rw [GI, if_neg (by omega)], rfl⟩
theorem PD.put (d : PD u h D) (e : PDv (gI g 5 u) (gA g 5 u) D') (o : D'.2.2.2.2.1.2.2.2.2.1 = D.2.2.2.2.1.2.2.2.2.1) (w : D'.2.2.2.2.2 = D.2.2.2.2.2) (r : Kr u h g) : PD u g D' := PD.set d e o w r.1 r.2.1 r.2.2.1 r.2.2.2
theorem line_cr (hN : 1000 ≤ N) (s : PS u n h0 h l) (d : PD u h D) (e : crP l D = some (l', D')) : ∃ g, f_X1_readCroft N h = some (true, g) ∧ PS u n h0 g l' ∧ PD u g D' := by
  unfold crP at e
  by_cases z : D.2.1.length < 4 ∧ (tkK (tkK l).2.2.2).1 = 3 ∧ idC D.2.1 (tkK (tkK l).2.2.2).2.2.1 0 = -1
  · rw [if_pos z] at e
    obtain ⟨z1, z2, z3⟩ := z
    obtain ⟨x, hx⟩ : ∃ x, x = (tkK (tkK l).2.2.2).2.2.1 := ⟨_, rfl⟩
    rw [← hx] at z3 e
    obtain ⟨⟨v1, l1⟩, e1, e⟩ := Option.bind_eq_some_iff.mp e
    obtain ⟨⟨v2, l2⟩, e2, e⟩ := Option.bind_eq_some_iff.mp e
    obtain ⟨⟨v3, l3⟩, e3, e⟩ := Option.bind_eq_some_iff.mp e
    obtain ⟨q1, q2⟩ := Prod.mk.inj (Option.some.inj e)
    dsimp only at q1 q2 e2 e3
    subst q1
    subst q2
    obtain ⟨k, hk⟩ : ∃ k, k = D.2.1.length := ⟨_, rfl⟩
    rw [← hk] at z1
    have b4 : ∀ K : Option (Bool × Hp), grd (inb (nI k) 4) K = K := fun K => grd_p (inb_n z1 (by omega)) K
    have ck : (nI k).toNatClampNeg = k := clN (by omega)
    obtain ⟨g1, a1, -, a3, a4⟩ := s.adv hN
    have x8 : gI g1 4 0 8 = x := (a3.k8 z2).trans hx.symm
    obtain ⟨g2, hg2⟩ : ∃ g2, g2 = sA g1 5 u 1 k x := ⟨_, rfl⟩
    have s2 : PS u n h0 g2 (tkK l).2.2.2 := by rw [hg2]; exact a3.a (by omega)
    obtain ⟨g3, c1, -, c3, c4⟩ := s2.adv hN
    obtain ⟨g4, d1, d2, d3, d4⟩ := c3.num hN (by omega) e1
    obtain ⟨g5, hg5⟩ : ∃ g5, g5 = sA g4 5 u 2 k (nI v1) := ⟨_, rfl⟩
    have s5 : PS u n h0 g5 l1 := by rw [hg5]; exact d2.a (by omega)
    obtain ⟨g6, f1, f2, f3, f4⟩ := s5.num hN (by omega) e2
    obtain ⟨g7, hg7⟩ : ∃ g7, g7 = sA g6 5 u 3 k (nI v2) := ⟨_, rfl⟩
    have s7 : PS u n h0 g7 l2 := by rw [hg7]; exact f2.a (by omega)
    obtain ⟨g8, i1, i2, i3, i4⟩ := s7.num hN (by omega) e3
    obtain ⟨g9, hg9⟩ : ∃ g9, g9 = sA g8 5 u 4 k (nI v3) := ⟨_, rfl⟩
    have s9 : PS u n h0 g9 l3 := by rw [hg9]; exact i2.a (by omega)
    -- the told data all along
    have I9 : gI g9 5 u = gI h 5 u := by
      rw [hg9]
      show gI g8 5 u = _
      rw [i3.1, hg7]
      show gI g6 5 u = _
      rw [f3.1, hg5]
      show gI g4 5 u = _
      rw [d3.1, c4.1, hg2]
      exact a4.1
    have A9 : gA g9 5 u = uF5 (uF5 (uF5 (uF5 (gA h 5 u) 1 k x) 2 k (nI v1)) 3 k (nI v2)) 4 k (nI v3) := by
      rw [hg9, GA5, i3.2.1, hg7, GA5, f3.2.1, hg5, GA5, d3.2.1, c4.2.1, hg2, GA5, a4.2.1]
    have e12 : gI h 5 u 12 = nI k := by rw [hk]; exact d.1.1 12 (by omega) (by omega)
    unfold f_X1_readCroft
    rw [s.2.1.2, onO_s, lt_e, e12, if_pos (show nI k < 4 from Int32.not_le.mp (nleN (a := 4) z1 (by omega))), s.2.1.1, onO_s, a1, bind_s, a3.2.1.1, onO_s, a3.k6, if_pos z2, a3.2.1.2, onO_s, onO_s, x8, cl_cn hN (a4.pd d).1 (by omega), z3, bind_s, if_pos rfl, onO_s, onO_s]
    simp only [b4, ck]
    rw [lt_e, ← hg2, s2.2.1.1, onO_s, c1, bind_s, show (5 : Int32) = nI 5 from rfl, d1, bd2_s, if_pos (show ¬ b2i true = 0 by decide), d2.2.1.2, onO_s, lt_e, d4, ← hg5, show (9 : Int32) = nI 9 from rfl, f1, bd2_s, if_pos (show ¬ b2i true = 0 by decide), f2.2.1.2, onO_s, lt_e, f4, ← hg7, show (99 : Int32) = nI 99 from rfl, i1, bd2_s, if_pos (show ¬ b2i true = 0 by decide), i2.2.1.2, onO_s, lt_e, i4, ← hg9, s9.2.1.2, onO_s, I9, e12, lt_e, nI_1]
    refine ⟨_, rfl, s9.i (by omega), ?_⟩
    have K9 : Kr u h g9 := by
      rw [hg9]
      refine Kr.tr ?_ (Kr.a5 u g8 4 k _)
      refine Kr.tr ?_ i3.r
      rw [hg7]
      refine Kr.tr ?_ (Kr.a5 u g6 3 k _)
      refine Kr.tr ?_ f3.r
      rw [hg5]
      refine Kr.tr ?_ (Kr.a5 u g4 2 k _)
      refine Kr.tr ?_ (c4.tr d3).r
      rw [hg2]
      exact a4.r.tr (Kr.a5 u g1 1 k _)
    refine PD.put d ?_ rfl rfl (K9.tr (Kr.i5 u g9 12 _))
    · rw [GI5, I9]
      show PDv _ (gA g9 5 u) _
      rw [A9, hk]
      exact pdv_cr d.1 x v1 v2 v3
  · rw [if_neg z] at e
    exact absurd e (by simp)
theorem line_fi (hN : 1000 ≤ N) (s : PS u n h0 h l) (d : PD u h D) (hc : D.2.1.length ≤ 4) (e : fiP l D = some (l', D')) : ∃ g, f_X1_readField N h = some (true, g) ∧ PS u n h0 g l' ∧ PD u g D' := by
  unfold fiP at e
  by_cases z : D.2.2.1.length < 6 ∧ (tkK (tkK l).2.2.2).1 = 3 ∧ ¬ idC D.2.1 (tkK (tkK l).2.2.2).2.2.1 0 = -1 ∧ idC D.2.1 (tkK (tkK l).2.2.2).2.2.1 0 = nI (idC D.2.1 (tkK (tkK l).2.2.2).2.2.1 0).toNatClampNeg
  · rw [if_pos z] at e
    obtain ⟨z1, z2, z3, z4⟩ := z
    obtain ⟨x, hx⟩ : ∃ x, x = (tkK (tkK l).2.2.2).2.2.1 := ⟨_, rfl⟩
    rw [← hx] at z3 z4 e
    obtain ⟨c, hcc⟩ : ∃ c, c = (idC D.2.1 x 0).toNatClampNeg := ⟨_, rfl⟩
    rw [← hcc] at z4 e
    obtain ⟨⟨v1, l1⟩, e1, e⟩ := Option.bind_eq_some_iff.mp e
    obtain ⟨⟨v2, l2⟩, e2, e⟩ := Option.bind_eq_some_iff.mp e
    obtain ⟨q1, q2⟩ := Prod.mk.inj (Option.some.inj e)
    dsimp only at q1 q2 e2
    subst q1
    subst q2
    obtain ⟨k, hk⟩ : ∃ k, k = D.2.2.1.length := ⟨_, rfl⟩
    rw [← hk] at z1
    have b4 : ∀ K : Option (Bool × Hp), grd (inb (nI k) 6) K = K := fun K => grd_p (inb_n z1 (by omega)) K
    have ck : (nI k).toNatClampNeg = k := clN (by omega)
    obtain ⟨g1, a1, -, a3, a4⟩ := s.adv hN
    have x8 : gI g1 4 0 8 = x := (a3.k8 z2).trans hx.symm
    obtain ⟨g2, hg2⟩ : ∃ g2, g2 = sA g1 5 u 5 k (nI c) := ⟨_, rfl⟩
    have s2 : PS u n h0 g2 (tkK l).2.2.2 := by rw [hg2]; exact a3.a (by omega)
    obtain ⟨g3, c1, -, c3, c4⟩ := s2.adv hN
    obtain ⟨g4, d1, d2, d3, d4⟩ := c3.num hN (by omega) e1
    obtain ⟨g5, hg5⟩ : ∃ g5, g5 = sA g4 5 u 6 k (nI v1) := ⟨_, rfl⟩
    have s5 : PS u n h0 g5 l1 := by rw [hg5]; exact d2.a (by omega)
    obtain ⟨g6, f1, f2, f3, f4⟩ := s5.num hN (by omega) e2
    obtain ⟨g7, hg7⟩ : ∃ g7, g7 = sA g6 5 u 7 k (nI v2) := ⟨_, rfl⟩
    have s7 : PS u n h0 g7 l2 := by rw [hg7]; exact f2.a (by omega)
    have I7 : gI g7 5 u = gI h 5 u := by
      rw [hg7]
      show gI g6 5 u = _
      rw [f3.1, hg5]
      show gI g4 5 u = _
      rw [d3.1, c4.1, hg2]
      exact a4.1
    have A7 : gA g7 5 u = uF5 (uF5 (uF5 (gA h 5 u) 5 k (nI c)) 6 k (nI v1)) 7 k (nI v2) := by
      rw [hg7, GA5, f3.2.1, hg5, GA5, d3.2.1, c4.2.1, hg2, GA5, a4.2.1]
    have e13 : gI h 5 u 13 = nI k := by rw [hk]; exact d.1.1 13 (by omega) (by omega)
    unfold f_X1_readField
    rw [s.2.1.2, onO_s, lt_e, e13, if_pos (show nI k < 6 from Int32.not_le.mp (nleN (a := 6) z1 (by omega))), s.2.1.1, onO_s, a1, bind_s, a3.2.1.1, onO_s, a3.k6, if_pos z2, a3.2.1.2, onO_s, onO_s, x8, cl_cn hN (a4.pd d).1 hc, bind_s, if_pos z3, onO_s]
    simp only [b4, ck]
    rw [lt_e, z4, ← hg2, s2.2.1.1, onO_s, c1, bind_s, show (99 : Int32) = nI 99 from rfl, d1, bd2_s, if_pos (show ¬ b2i true = 0 by decide), d2.2.1.2, onO_s, lt_e, d4, ← hg5, show (9 : Int32) = nI 9 from rfl, f1, bd2_s, if_pos (show ¬ b2i true = 0 by decide), f2.2.1.2, onO_s, lt_e, f4, ← hg7, s7.2.1.2, onO_s, I7, e13, lt_e, nI_1]
    refine ⟨_, rfl, s7.i (by omega), ?_⟩
    have K7 : Kr u h g7 := by
      rw [hg7]
      refine Kr.tr ?_ (Kr.a5 u g6 7 k _)
      refine Kr.tr ?_ f3.r
      rw [hg5]
      refine Kr.tr ?_ (Kr.a5 u g4 6 k _)
      refine Kr.tr ?_ (c4.tr d3).r
      rw [hg2]
      exact a4.r.tr (Kr.a5 u g1 5 k _)
    refine PD.put d ?_ rfl rfl (K7.tr (Kr.i5 u g7 13 _))
    · rw [GI5, I7]
      show PDv _ (gA g7 5 u) _
      rw [A7, hk]
      exact pdv_fi d.1 c v1 v2
  · rw [if_neg z] at e
    exact absurd e (by simp)
end Lines2
