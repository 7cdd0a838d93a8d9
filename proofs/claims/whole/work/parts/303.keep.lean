-- PURE: a text kept by the reference
/-- rows 3 .. below d copied down -/
def Cpd (d : Nat) (g g' : Hp) : Prop := K7 g g' ∧ (∀ k, gI g' 8 0 k = gI g 8 0 k) ∧ (∀ k, gL g' 8 0 k = gL g 8 0 k) ∧ (∀ k, (k < 3 ∨ d ≤ k) → gA g' 8 0 k = gA g 8 0 k) ∧ ∀ k i, 3 ≤ k → k < d → i < hfT k → gA g' 8 0 k i = gA g 8 0 k (hfT k + i)
section Keep
variable {N : Nat} {g g1 : Hp}
theorem Cpd.rf (g : Hp) : Cpd 3 g g := ⟨K7.rf g, fun _ => rfl, fun _ => rfl, fun _ _ => rfl, fun k i h1 h2 => by omega⟩
theorem m_copies (hN : 1000 ≤ N) {a m : Nat} (hm : hfT a = m) (h3 : 3 ≤ a) (hl : m ≤ 64) (ha : (ak 8 a).2 = 2 * m) (c : Cpd a g g1) : ∃ g', f_X8_copies N g1 8 0 a (nI m) = some g' ∧ Cpd (a + 1) g g' := by
  obtain ⟨c1, c2, c3, c4, c5⟩ := c
  unfold f_X8_copies
  obtain ⟨g', b1, b2, b3⟩ : ∃ g', iter (fun _ _ => none) (f_X8_copies_2 8 0 a (nI m)) N 0 g1 = some g' ∧ PA a g1 g' ∧ ∀ i, i < m → gA g' 8 0 a i = gA g1 8 0 a (m + i) := by
    refine iter_inv (bot := fun _ _ => none) (b := f_X8_copies_2 8 0 a (nI m)) (fun q r => ∀ k h, k ≤ m → m < q + k → PA a g1 h → (∀ i, i < k → gA h 8 0 a i = gA g1 8 0 a (m + i)) → (∀ i, k ≤ i → gA h 8 0 a i = gA g1 8 0 a i) → ∃ g', r (nI k) h = some g' ∧ PA a g1 g' ∧ ∀ i, i < m → gA g' 8 0 a i = gA g1 8 0 a (m + i)) (fun k _ _ _ => by omega) (fun q r ih k h hk hq f b d => ?_) N 0 g1 (by omega) (by omega) (PA.rf a g1) (fun i hi => by omega) (fun _ _ => rfl)
    unfold f_X8_copies_2
    by_cases y : k = m
    · subst y
      rw [if_pos (Int32.le_refl _)]
      exact ⟨h, rfl, f, b⟩
    · have e : nI m + nI k = nI (m + k) := nI_add m k
      rw [if_neg (nleN (by omega) (by omega)), e, ha, grd_p (inb_n (by omega) (by omega)), grd_p (inb_n (by omega) (by omega)), lt_e, lt_e, clN (by omega), clN (by omega), nI_1]
      refine ih (k + 1) _ (by omega) (by omega) (f.tr ⟨K7.a h a k _, fun _ => rfl, fun _ => rfl, fun j hj => by rw [GA, if_neg (by omega)]⟩) (fun i hi => ?_) (fun i hi => ?_)
      · rw [A_at]
        by_cases w : i = k
        · rw [if_pos ⟨rfl, w⟩, d (m + k) (by omega), w]
        · rw [if_neg (by omega)]; exact b i (by omega)
      · rw [A_at, if_neg (by omega)]; exact d i (by omega)
  refine ⟨g', b1, c1.tr b2.1, fun k => (b2.2.1 k).trans (c2 k), fun k => (b2.2.2.1 k).trans (c3 k), fun k hk => (b2.2.2.2 k (by omega)).trans (c4 k (by omega)), fun k i h1 h2 hi => ?_⟩
  by_cases y : k = a
  · subst y
    rw [hm] at hi ⊢
    rw [b3 i hi, c4 k (by omega)]
  · rw [b2.2.2.2 k y]
    exact c5 k i h1 (by omega) hi
/-- what is kept -/
def Kp (g g' : Hp) : Prop := K7 g g' ∧ (∀ k, 12 ≤ k → k ≤ 16 → gI g' 8 0 k = gI g 8 0 (k + 5)) ∧ (∀ k, (k < 12 ∨ 16 < k) → gI g' 8 0 k = gI g 8 0 k) ∧ (∀ k, gL g' 8 0 k = gL g 8 0 k) ∧ (∀ k, (k < 3 ∨ 18 < k) → gA g' 8 0 k = gA g 8 0 k) ∧ ∀ k i, 3 ≤ k → k ≤ 18 → i < hfT k → gA g' 8 0 k i = gA g 8 0 k (hfT k + i)
theorem m_keepText (hN : 1000 ≤ N) (g : Hp) (b13 : ∀ k, k < 4 → gA g 8 0 13 (4 + k) = 0 ∨ gA g 8 0 13 (4 + k) = 1) : ∃ g', Kp g g' ∧ f_X8_keepText N g = (f_X8_begin N g').bind fun h23 => some h23 := by
  obtain ⟨g0, eg0⟩ : ∃ g0, g0 = sI (sI (sI (sI (sI g 8 0 12 (gI g 8 0 17)) 8 0 13 (gI g 8 0 18)) 8 0 14 (gI g 8 0 19)) 8 0 15 (gI g 8 0 20)) 8 0 16 (gI g 8 0 21) := ⟨_, rfl⟩
  have i0 : ∀ k, 12 ≤ k → k ≤ 16 → gI g0 8 0 k = gI g 8 0 (k + 5) := fun k h1 h2 => by
    rw [eg0]
    rcases (show k = 12 ∨ k = 13 ∨ k = 14 ∨ k = 15 ∨ k = 16 by omega) with rfl | rfl | rfl | rfl | rfl <;> rfl
  have i1 : ∀ k, (k < 12 ∨ 16 < k) → gI g0 8 0 k = gI g 8 0 k := fun k hk => by
    rw [eg0, I_at, if_neg (by omega), I_at, if_neg (by omega), I_at, if_neg (by omega), I_at, if_neg (by omega), I_at, if_neg (by omega)]
  have k0 : K7 g g0 := by
    rw [eg0]
    exact ((((K7.i g 12 _).tr (K7.i _ 13 _)).tr (K7.i _ 14 _)).tr (K7.i _ 15 _)).tr (K7.i _ 16 _)
  have a0 : ∀ k, gA g0 8 0 k = gA g 8 0 k := fun k => by rw [eg0]; rfl
  have l0 : ∀ k, gL g0 8 0 k = gL g 8 0 k := fun k => by rw [eg0]; rfl
  unfold f_X8_keepText
  have e2 : gI (sI g 8 0 12 (gI g 8 0 17)) 8 0 18 = gI g 8 0 18 := rfl
  have e3 : ∀ v, gI (sI (sI g 8 0 12 (gI g 8 0 17)) 8 0 13 v) 8 0 19 = gI g 8 0 19 := fun _ => rfl
  have e4 : ∀ v w, gI (sI (sI (sI g 8 0 12 (gI g 8 0 17)) 8 0 13 v) 8 0 14 w) 8 0 20 = gI g 8 0 20 := fun _ _ => rfl
  have e5 : ∀ v w x, gI (sI (sI (sI (sI g 8 0 12 (gI g 8 0 17)) 8 0 13 v) 8 0 14 w) 8 0 15 x) 8 0 21 = gI g 8 0 21 := fun _ _ _ => rfl
  simp only [lt_e, e2, e3, e4, e5]
  rw [← eg0]
  obtain ⟨h6, x6, c6⟩ := m_copies hN (a := 3) (m := 5) rfl (by omega) (by omega) rfl (Cpd.rf g0)
  obtain ⟨h7, x7, c7⟩ := m_copies hN (a := 4) (m := 8) rfl (by omega) (by omega) rfl c6
  obtain ⟨h8, x8, c8⟩ := m_copies hN (a := 5) (m := 4) rfl (by omega) (by omega) rfl c7
  obtain ⟨h9, x9, c9⟩ := m_copies hN (a := 6) (m := 4) rfl (by omega) (by omega) rfl c8
  obtain ⟨h10, x10, c10⟩ := m_copies hN (a := 7) (m := 4) rfl (by omega) (by omega) rfl c9
  obtain ⟨h11, x11, c11⟩ := m_copies hN (a := 8) (m := 4) rfl (by omega) (by omega) rfl c10
  obtain ⟨h12, x12, c12⟩ := m_copies hN (a := 9) (m := 6) rfl (by omega) (by omega) rfl c11
  obtain ⟨h13, x13, c13⟩ := m_copies hN (a := 10) (m := 6) rfl (by omega) (by omega) rfl c12
  obtain ⟨h14, x14, c14⟩ := m_copies hN (a := 11) (m := 6) rfl (by omega) (by omega) rfl c13
  obtain ⟨h15, x15, c15⟩ := m_copies hN (a := 12) (m := 4) rfl (by omega) (by omega) rfl c14
  have x6 : f_X8_copies N g0 8 0 3 5 = some h6 := x6
  have x7 : f_X8_copies N h6 8 0 4 8 = some h7 := x7
  have x8 : f_X8_copies N h7 8 0 5 4 = some h8 := x8
  have x9 : f_X8_copies N h8 8 0 6 4 = some h9 := x9
  have x10 : f_X8_copies N h9 8 0 7 4 = some h10 := x10
  have x11 : f_X8_copies N h10 8 0 8 4 = some h11 := x11
  have x12 : f_X8_copies N h11 8 0 9 6 = some h12 := x12
  have x13 : f_X8_copies N h12 8 0 10 6 = some h13 := x13
  have x14 : f_X8_copies N h13 8 0 11 6 = some h14 := x14
  have x15 : f_X8_copies N h14 8 0 12 4 = some h15 := x15
  rw [x6, bind_s, x7, bind_s, x8, bind_s, x9, bind_s, x10, bind_s, x11, bind_s, x12, bind_s, x13, bind_s, x14, bind_s, x15, bind_s]
  have c15 : Cpd 13 g0 h15 := c15
  -- the rows behind
  have rest : ∀ h17, Cpd 14 g0 h17 → ∃ g', Kp g g' ∧ ((f_X8_copies N h17 8 0 14 4).bind fun h18 => (f_X8_copies N h18 8 0 15 4).bind fun h19 => (f_X8_copies N h19 8 0 16 64).bind fun h20 => (f_X8_copies N h20 8 0 17 64).bind fun h21 => (f_X8_copies N h21 8 0 18 64).bind fun h22 => (f_X8_begin N h22).bind fun h23 => some h23) = (f_X8_begin N g').bind fun h23 => some h23 := fun h17 c17 => by
    obtain ⟨h18, y18, d18⟩ := m_copies hN (a := 14) (m := 4) rfl (by omega) (by omega) rfl c17
    obtain ⟨h19, y19, d19⟩ := m_copies hN (a := 15) (m := 4) rfl (by omega) (by omega) rfl d18
    obtain ⟨h20, y20, d20⟩ := m_copies hN (a := 16) (m := 64) rfl (by omega) (by omega) rfl d19
    obtain ⟨h21, y21, d21⟩ := m_copies hN (a := 17) (m := 64) rfl (by omega) (by omega) rfl d20
    obtain ⟨h22, y22, d22⟩ := m_copies hN (a := 18) (m := 64) rfl (by omega) (by omega) rfl d21
    have y18 : f_X8_copies N h17 8 0 14 4 = some h18 := y18
    have y19 : f_X8_copies N h18 8 0 15 4 = some h19 := y19
    have y20 : f_X8_copies N h19 8 0 16 64 = some h20 := y20
    have y21 : f_X8_copies N h20 8 0 17 64 = some h21 := y21
    have y22 : f_X8_copies N h21 8 0 18 64 = some h22 := y22
    obtain ⟨z1, z2, z3, z4, z5⟩ := d22
    refine ⟨h22, ⟨k0.tr z1, fun k a b => (z2 k).trans (i0 k a b), fun k a => (z2 k).trans (i1 k a), fun k => (z3 k).trans (l0 k), fun k a => (z4 k (by omega)).trans (a0 k), fun k i a b c => (z5 k i a (by omega) c).trans (by rw [a0])⟩, ?_⟩
    rw [y18, bind_s, y19, bind_s, y20, bind_s, y21, bind_s, y22, bind_s]
  refine iter_inv (bot := fun _ _ => none) (b := f_X8_keepText_126 N) (fun q r => ∀ k h, k ≤ 4 → 4 < q + k → PA 13 h15 h → (∀ i, i < k → gA h 8 0 13 i = gA h15 8 0 13 (4 + i)) → (∀ i, k ≤ i → gA h 8 0 13 i = gA h15 8 0 13 i) → ∃ g', Kp g g' ∧ r (nI k) h = (f_X8_begin N g').bind fun h23 => some h23) (fun k _ _ _ => by omega) (fun q r ih k h hk hq f b d => ?_) N 0 h15 (by omega) (by omega) (PA.rf 13 h15) (fun i hi => by omega) (fun _ _ => rfl)
  unfold f_X8_keepText_126
  by_cases y : k = 4
  · subst y
    rw [if_pos (show (4 : Int32) ≤ nI 4 by decide)]
    refine rest h ?_
    obtain ⟨z1, z2, z3, z4, z5⟩ := c15
    refine ⟨z1.tr f.1, fun k => (f.2.1 k).trans (z2 k), fun k => (f.2.2.1 k).trans (z3 k), fun k hk => (f.2.2.2 k (by omega)).trans (z4 k (by omega)), fun k i h1 h2 hi => ?_⟩
    by_cases w : k = 13
    · subst w
      have hi : i < 4 := hi
      rw [b i hi, z4 13 (by omega)]
      rfl
    · rw [f.2.2.2 k w]
      exact z5 k i h1 (by omega) hi
  · have e : (4 : Int32) + nI k = nI (4 + k) := by rw [show (4 : Int32) = nI 4 from rfl, nI_add]
    have gy : b2i (gY h 8 0 13 (4 + k)) = gA h15 8 0 13 (4 + k) := by
      unfold gY
      rw [d (4 + k) (by omega)]
      rw [c15.2.2.2.1 13 (by omega), a0]
      rcases b13 k (by omega) with q | q <;> rw [q] <;> decide
    rw [if_neg (show ¬ (4 : Int32) ≤ nI k from nleN (a := 4) (show k < 4 by omega) (by omega)), e, grd_p (inb_n (by omega) (by omega)), grd_p (inb_n (by omega) (by omega)), lt_e, lt_e, clN (by omega), clN (by omega), nI_1]
    unfold sY
    rw [gy]
    refine ih (k + 1) _ (by omega) (by omega) (f.tr ⟨K7.a h 13 k _, fun _ => rfl, fun _ => rfl, fun j hj => by rw [GA, if_neg (by omega)]⟩) (fun i hi => ?_) (fun i hi => ?_)
    · rw [A_at]
      by_cases w : i = k
      · rw [if_pos ⟨rfl, w⟩, w]
      · rw [if_neg (by omega)]; exact b i (by omega)
    · rw [A_at, if_neg (by omega)]; exact d i (by omega)
theorem m_begin (hN : 1000 ≤ N) (g : Hp) : ∃ g1 g', FinA 0 g g1 ∧ f_X8_begin N g = some g' ∧ K7 g1 g' ∧ (∀ k, gA g' 8 0 k = gA g1 8 0 k) ∧ (∀ k, ¬ (k = 61 ∨ (63 ≤ k ∧ k ≤ 66) ∨ k = 72 ∨ k = 73 ∨ k = 76 ∨ k = 78) → gI g' 8 0 k = gI g1 8 0 k) ∧ gI g' 8 0 61 = gA g1 8 0 3 1 ∧ gL g' 8 0 62 = (gA g1 8 0 3 4).toInt64 ∧ gI g' 8 0 64 = 0 ∧ gI g' 8 0 72 = 0 ∧ gI g' 8 0 73 = -1 ∧ gI g' 8 0 76 = 0 ∧ gI g' 8 0 78 = 0 := by
  obtain ⟨g1, a1, a2⟩ := m_atFirst hN (b := 0) (by omega) g
  have a1 : f_X8_atFirst N g 0 = some g1 := a1
  unfold f_X8_begin f_X8_plainTried
  have d1 : (1 : Int32).toNatClampNeg = 1 ∧ (4 : Int32).toNatClampNeg = 4 := by decide
  have e4 : gA (sI g1 8 0 61 (gA g1 8 0 3 1)) 8 0 3 4 = gA g1 8 0 3 4 := rfl
  rw [a1, bind_s]
  simp only [lt_e, d1, grd_p (show inb 1 10 by decide), grd_p (show inb 4 10 by decide), bind_s, e4]
  have kl : ∀ (h : Hp) k v, K7 h (sL h 8 0 k v) := fun h k v c o i q => ⟨rfl, if_neg (fun z => q z.1), rfl, rfl⟩
  refine ⟨g1, _, a2, rfl, ?_, fun k => rfl, fun k hk => ?_, rfl, rfl, rfl, rfl, rfl, rfl, rfl⟩
  · exact (((((((((K7.i g1 61 _).tr (kl _ 62 _)).tr (K7.i _ 63 _)).tr (K7.i _ 64 _)).tr (K7.i _ 65 _)).tr (K7.i _ 66 _)).tr (K7.i _ 72 _)).tr (K7.i _ 73 _)).tr (K7.i _ 76 _)).tr (K7.i _ 78 _)
  · show gI (sI (sI (sI (sI (sI (sI (sI (sI (sL (sI g1 8 0 61 _) 8 0 62 _) 8 0 63 _) 8 0 64 _) 8 0 65 _) 8 0 66 _) 8 0 72 _) 8 0 73 _) 8 0 76 _) 8 0 78 _) 8 0 k = _
    rw [I_at, if_neg (by omega), I_at, if_neg (by omega), I_at, if_neg (by omega), I_at, if_neg (by omega), I_at, if_neg (by omega), I_at, if_neg (by omega), I_at, if_neg (by omega), I_at, if_neg (by omega)]
    show gI (sI g1 8 0 61 _) 8 0 k = _
    rw [I_at, if_neg (by omega)]
end Keep
