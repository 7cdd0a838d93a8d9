-- PURE: the reference lays its second half
def FinL (g g'' : Hp) : Prop := F8 g g'' ∧ Laid g g'' 8 4 6 ∧ Plain g'' ∧ gA g'' 8 0 31 1 = gA g 8 0 31 0 ∧ gA g'' 8 0 32 1 = gA g 8 0 32 0 ∧ gA g'' 8 0 33 1 = gA g 8 0 33 0
section Lay
variable {N : Nat} {g : Hp}
theorem lay3 (hN : 1000 ≤ N) {g' : Hp} (f : F8 g g') (l : Laid g g' 8 4 0) : ∃ g'', iter (fun _ _ => none) f_X8_layTried_129 N 0 g' = some g'' ∧ FinL g g'' :=
  iter_inv (bot := fun _ _ => none) (b := f_X8_layTried_129) (fun m r => ∀ j g', j ≤ 6 → 6 < m + j → F8 g g' → Laid g g' 8 4 j → ∃ g'', r (nI j) g' = some g'' ∧ F8 g g'' ∧ Laid g g'' 8 4 6 ∧ Plain g'' ∧ gA g'' 8 0 31 1 = gA g 8 0 31 0 ∧ gA g'' 8 0 32 1 = gA g 8 0 32 0 ∧ gA g'' 8 0 33 1 = gA g 8 0 33 0) (fun j _ _ _ => by omega) (lay_3 g) N 0 g' (by omega) (by omega) f l
theorem h4x (k : Nat) (a : 25 ≤ k) (b : k ≤ 29) : hn k = 4 := by
  unfold hn
  rw [if_neg (by omega), if_neg (by omega), if_neg (by omega)]
theorem h8x (k : Nat) (a : 23 ≤ k) (b : k ≤ 24) : hn k = 8 := by
  unfold hn
  rw [if_pos (by omega)]
theorem lay2 (hN : 1000 ≤ N) {g' : Hp} (f : F8 g g') (l : Laid g g' 8 0 0) : ∃ g'', iter (fun _ _ => none) (f_X8_layTried_46 N) N 0 g' = some g'' ∧ FinL g g'' := by
  refine iter_inv (bot := fun _ _ => none) (b := f_X8_layTried_46 N) (fun m r => ∀ j g', j ≤ 4 → 4 < m + j → F8 g g' → Laid g g' 8 j 0 → ∃ g'', r (nI j) g' = some g'' ∧ FinL g g'') (fun j _ _ _ => by omega) (fun m r ih j g' hj hm f l => ?_) N 0 g' (by omega) (by omega) f l
  unfold f_X8_layTried_46
  by_cases z : j = 4
  · subst z
    rw [if_pos (show (4 : Int32) ≤ nI 4 by decide)]
    exact lay3 hN f l
  · have h6 : (4 : Int32) + nI j = nI (4 + j) := nI_add 4 j
    rw [if_neg (show ¬ (4 : Int32) ≤ nI j from nleN (a := 4) (show j < 4 by omega) (by omega))]
    simp only [lt_e, h6, grd_p (inb_n (show j < 8 by omega) (show 8 < 2 ^ 31 by omega)), grd_p (inb_n (show 4 + j < 8 by omega) (show 8 < 2 ^ 31 by omega)), clN (show j < 2 ^ 31 by omega), clN (show 4 + j < 2 ^ 31 by omega), nI_1]
    have st : ∀ (g1 : Hp) (k : Nat) (v : Int32), 25 ≤ k → k ≤ 29 → kpA k = false → F8 g1 (sA g1 8 0 k (4 + j) v) := fun g1 k v a b c => F8.a g1 v c (fun _ _ => by rw [h4x k a b]; omega)
    obtain ⟨g1, e1⟩ : ∃ g1, g1 = sA g' 8 0 25 (4 + j) (gA g' 8 0 25 j) := ⟨_, rfl⟩
    obtain ⟨g2, e2⟩ : ∃ g2, g2 = sA g1 8 0 26 (4 + j) (gA g1 8 0 26 j) := ⟨_, rfl⟩
    obtain ⟨g3, e3⟩ : ∃ g3, g3 = sA g2 8 0 27 (4 + j) (gA g2 8 0 27 j) := ⟨_, rfl⟩
    obtain ⟨g4, e4⟩ : ∃ g4, g4 = sA g3 8 0 28 (4 + j) (gA g3 8 0 28 j) := ⟨_, rfl⟩
    obtain ⟨g5, e5⟩ : ∃ g5, g5 = sA g4 8 0 29 (4 + j) (gA g4 8 0 29 j) := ⟨_, rfl⟩
    rw [← e1, ← e2, ← e3, ← e4, ← e5]
    have f1 : F8 g g1 := f.tr (by rw [e1]; exact st _ 25 _ (by omega) (by omega) (by decide))
    have f2 : F8 g g2 := f1.tr (by rw [e2]; exact st _ 26 _ (by omega) (by omega) (by decide))
    have f3 : F8 g g3 := f2.tr (by rw [e3]; exact st _ 27 _ (by omega) (by omega) (by decide))
    have f4 : F8 g g4 := f3.tr (by rw [e4]; exact st _ 28 _ (by omega) (by omega) (by decide))
    have f5 : F8 g g5 := f4.tr (by rw [e5]; exact st _ 29 _ (by omega) (by omega) (by decide))
    have at5 : ∀ k u, gA g5 8 0 k u = if u = 4 + j ∧ 25 ≤ k ∧ k ≤ 29 then gA g 8 0 k j else gA g' 8 0 k u := by
      intro k u
      rw [e5, A_at, f4.2.2.2.2 29 j (by omega) (by omega) (by rw [h4x 29 (by omega) (by omega)]; omega)]
      by_cases w5 : k = 29 ∧ u = 4 + j
      · rw [if_pos w5, if_pos (by omega), w5.1]
      rw [if_neg w5, e4, A_at, f3.2.2.2.2 28 j (by omega) (by omega) (by rw [h4x 28 (by omega) (by omega)]; omega)]
      by_cases w4 : k = 28 ∧ u = 4 + j
      · rw [if_pos w4, if_pos (by omega), w4.1]
      rw [if_neg w4, e3, A_at, f2.2.2.2.2 27 j (by omega) (by omega) (by rw [h4x 27 (by omega) (by omega)]; omega)]
      by_cases w3 : k = 27 ∧ u = 4 + j
      · rw [if_pos w3, if_pos (by omega), w3.1]
      rw [if_neg w3, e2, A_at, f1.2.2.2.2 26 j (by omega) (by omega) (by rw [h4x 26 (by omega) (by omega)]; omega)]
      by_cases w2 : k = 26 ∧ u = 4 + j
      · rw [if_pos w2, if_pos (by omega), w2.1]
      rw [if_neg w2, e1, A_at, f.2.2.2.2 25 j (by omega) (by omega) (by rw [h4x 25 (by omega) (by omega)]; omega)]
      by_cases w1 : k = 25 ∧ u = 4 + j
      · rw [if_pos w1, if_pos (by omega), w1.1]
      rw [if_neg w1, if_neg (by omega)]
    refine ih (j + 1) g5 (by omega) (by omega) f5 ⟨fun i hi => ?_, fun i hi => ?_, fun i hi => ?_⟩
    · rw [at5, at5, if_neg (by omega), if_neg (by omega)]; exact l.1 i hi
    · by_cases w : i = j
      · rw [at5, at5, at5, at5, at5, if_pos (by omega), if_pos (by omega), if_pos (by omega), if_pos (by omega), if_pos (by omega), w]
        exact ⟨rfl, rfl, rfl, rfl, rfl⟩
      · rw [at5, at5, at5, at5, at5, if_neg (by omega), if_neg (by omega), if_neg (by omega), if_neg (by omega), if_neg (by omega)]
        exact l.2.1 i (by omega)
    · exact absurd hi (Nat.not_lt_zero i)
theorem m_layTried (hN : 1000 ≤ N) (g : Hp) : ∃ g'', f_X8_layTried N g = some g'' ∧ FinL g g'' := by
  unfold f_X8_layTried
  refine iter_inv (bot := fun _ _ => none) (b := f_X8_layTried_2 N) (fun m r => ∀ j g', j ≤ 8 → 8 < m + j → F8 g g' → Laid g g' j 0 0 → ∃ g'', r (nI j) g' = some g'' ∧ FinL g g'') (fun j _ _ _ => by omega) (fun m r ih j g' hj hm f l => ?_) N 0 g (by omega) (by omega) (F8.rf g) ⟨fun i hi => absurd hi (Nat.not_lt_zero i), fun i hi => absurd hi (Nat.not_lt_zero i), fun i hi => absurd hi (Nat.not_lt_zero i)⟩
  unfold f_X8_layTried_2
  by_cases z : j = 8
  · subst z
    rw [if_pos (show (8 : Int32) ≤ nI 8 by decide)]
    exact lay2 hN f l
  · have h6 : (8 : Int32) + nI j = nI (8 + j) := nI_add 8 j
    rw [if_neg (show ¬ (8 : Int32) ≤ nI j from nleN (a := 8) (show j < 8 by omega) (by omega))]
    simp only [lt_e, h6, grd_p (inb_n (show j < 16 by omega) (show 16 < 2 ^ 31 by omega)), grd_p (inb_n (show 8 + j < 16 by omega) (show 16 < 2 ^ 31 by omega)), clN (show j < 2 ^ 31 by omega), clN (show 8 + j < 2 ^ 31 by omega), nI_1]
    obtain ⟨g1, e1⟩ : ∃ g1, g1 = sA g' 8 0 23 (8 + j) (gA g' 8 0 23 j) := ⟨_, rfl⟩
    obtain ⟨g2, e2⟩ : ∃ g2, g2 = sA g1 8 0 24 (8 + j) (gA g1 8 0 24 j) := ⟨_, rfl⟩
    rw [← e1, ← e2]
    have f1 : F8 g g1 := f.tr (by rw [e1]; exact F8.a _ _ (by decide) (fun _ _ => by rw [h8x 23 (by omega) (by omega)]; omega))
    have f2 : F8 g g2 := f1.tr (by rw [e2]; exact F8.a _ _ (by decide) (fun _ _ => by rw [h8x 24 (by omega) (by omega)]; omega))
    have at5 : ∀ k u, gA g2 8 0 k u = if u = 8 + j ∧ 23 ≤ k ∧ k ≤ 24 then gA g 8 0 k j else gA g' 8 0 k u := by
      intro k u
      rw [e2, A_at, f1.2.2.2.2 24 j (by omega) (by omega) (by rw [h8x 24 (by omega) (by omega)]; omega)]
      by_cases w2 : k = 24 ∧ u = 8 + j
      · rw [if_pos w2, if_pos (by omega), w2.1]
      rw [if_neg w2, e1, A_at, f.2.2.2.2 23 j (by omega) (by omega) (by rw [h8x 23 (by omega) (by omega)]; omega)]
      by_cases w1 : k = 23 ∧ u = 8 + j
      · rw [if_pos w1, if_pos (by omega), w1.1]
      rw [if_neg w1, if_neg (by omega)]
    refine ih (j + 1) g2 (by omega) (by omega) f2 ⟨fun i hi => ?_, fun i hi => ?_, fun i hi => ?_⟩
    · by_cases w : i = j
      · rw [at5, at5, if_pos (by omega), if_pos (by omega), w]
        exact ⟨rfl, rfl⟩
      · rw [at5, at5, if_neg (by omega), if_neg (by omega)]
        exact l.1 i (by omega)
    · exact absurd hi (Nat.not_lt_zero i)
    · exact absurd hi (Nat.not_lt_zero i)
end Lay
