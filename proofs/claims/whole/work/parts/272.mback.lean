-- PURE: back, by the reference
/-- nothing changed but half 0's amounts, undo's number and what was drawn -/
def BF (g g' : Hp) : Prop := K7 g g' ∧ (∀ k, k ≠ 76 → gI g' 8 0 k = gI g 8 0 k) ∧ (∀ k, k ≠ 62 → gL g' 8 0 k = gL g 8 0 k) ∧ ∀ k, (k < 23 ∨ (23 < k ∧ k < 28) ∨ 33 < k) → gA g' 8 0 k = gA g 8 0 k
theorem BF.rf (g : Hp) : BF g g := ⟨K7.rf g, fun _ _ => rfl, fun _ _ => rfl, fun _ _ => rfl⟩
theorem BF.tr {g g' g'' : Hp} (x : BF g g') (y : BF g' g'') : BF g g'' := ⟨x.1.tr y.1, fun k q => (y.2.1 k q).trans (x.2.1 k q), fun k q => (y.2.2.1 k q).trans (x.2.2.1 k q), fun k q => (y.2.2.2 k q).trans (x.2.2.2 k q)⟩
theorem BF.a (k i : Nat) (g : Hp) (v : Int32) (hk : k = 23 ∨ (28 ≤ k ∧ k ≤ 33)) : BF g (sA g 8 0 k i v) := ⟨K7.a g k i v, fun _ _ => rfl, fun _ _ => rfl, fun j hj => funext fun u => by rw [A_at, if_neg (fun q => by omega)]⟩
theorem BF.i (g : Hp) (v : Int32) : BF g (sI g 8 0 76 v) := ⟨K7.i g 76 v, fun j hj => by rw [I_at, if_neg hj], fun _ _ => rfl, fun _ _ => rfl⟩
theorem BF.l (g : Hp) (v : Int64) : BF g (sL g 8 0 62 v) := ⟨fun c o k hc => ⟨rfl, if_neg (fun q => hc q.1), rfl, rfl⟩, fun _ _ => rfl, fun k hk => by rw [L_at, if_neg hk], fun _ _ => rfl⟩
def BL (g0 g : Hp) (a b c : Nat) : Prop := BF g0 g ∧ (∀ i, i < a → gA g 8 0 23 i = gA g0 8 0 41 i) ∧ (∀ i, i < b → gA g 8 0 28 i = gA g0 8 0 42 i ∧ gA g 8 0 29 i = gA g0 8 0 43 i) ∧ ∀ i, i < c → gA g 8 0 30 i = gA g0 8 0 44 i
def BE (g0 g : Hp) : Prop := BL g0 g 8 4 6 ∧ gA g 8 0 31 0 = gI g0 8 0 84 ∧ gA g 8 0 32 0 = gI g0 8 0 85 ∧ gA g 8 0 33 0 = gI g0 8 0 86 ∧ gL g 8 0 62 = gL g0 8 0 87 ∧ gI g 8 0 76 = 0
section Back
variable {N : Nat} {g : Hp} {T : Txt} {S I : Str} {X : Xs}
theorem back3 (hN : 1000 ≤ N) {g0 g : Hp} (l : BL g0 g 8 4 0) : ∃ g', iter (fun _ _ => none) f_X8_back_88 N 0 g = some (gI g0 8 0 86, g') ∧ BE g0 g' := by
  refine iter_inv (bot := fun _ _ => none) (b := f_X8_back_88) (fun m r => ∀ j g, j ≤ 6 → 6 < m + j → BL g0 g 8 4 j → ∃ g', r (nI j) g = some (gI g0 8 0 86, g') ∧ BE g0 g') (fun j _ _ _ => by omega) (fun m r ih j g hj hm l => ?_) N 0 g (by omega) (by omega) l
  obtain ⟨f, l1, l2, l3⟩ := l
  unfold f_X8_back_88
  by_cases z : j = 6
  · subst z
    have b : ∀ k, k = 84 ∨ k = 85 ∨ k = 86 → gI g 8 0 k = gI g0 8 0 k := fun k hk => f.2.1 k (by omega)
    rw [if_pos (show (6 : Int32) ≤ nI 6 by decide)]
    simp only [lt_e, z7.1, grd_p (show inb 0 2 by decide)]
    show ∃ g', some (gA (sA (sA (sA g 8 0 31 0 (gI g 8 0 84)) 8 0 32 0 (gI g 8 0 85)) 8 0 33 0 (gI g 8 0 86)) 8 0 33 0, sI (sL (sA (sA (sA g 8 0 31 0 (gI g 8 0 84)) 8 0 32 0 (gI g 8 0 85)) 8 0 33 0 (gI g 8 0 86)) 8 0 62 (gL g 8 0 87)) 8 0 76 0) = some (gI g0 8 0 86, g') ∧ BE g0 g'
    rw [b 84 (by omega), b 85 (by omega), b 86 (by omega), f.2.2.1 87 (by decide), A_at, if_pos ⟨rfl, rfl⟩]
    have hk : ∀ k i, k ≠ 31 → k ≠ 32 → k ≠ 33 → gA (sI (sL (sA (sA (sA g 8 0 31 0 (gI g0 8 0 84)) 8 0 32 0 (gI g0 8 0 85)) 8 0 33 0 (gI g0 8 0 86)) 8 0 62 (gL g0 8 0 87)) 8 0 76 0) 8 0 k i = gA g 8 0 k i := fun k i h1 h2 h3 => by
      show gA (sA (sA (sA g 8 0 31 0 (gI g0 8 0 84)) 8 0 32 0 (gI g0 8 0 85)) 8 0 33 0 (gI g0 8 0 86)) 8 0 k i = _
      rw [A_at, if_neg (fun q => h3 q.1), A_at, if_neg (fun q => h2 q.1), A_at, if_neg (fun q => h1 q.1)]
    refine ⟨_, rfl, ⟨((f.tr (BF.a 31 0 g _ (by omega))).tr (BF.a 32 0 _ _ (by omega))).tr ((BF.a 33 0 _ _ (by omega)).tr ((BF.l _ _).tr (BF.i _ _))), fun i hi => ?_, fun i hi => ?_, fun i hi => ?_⟩, ?_, ?_, ?_, ?_, ?_⟩
    · rw [hk 23 i (by decide) (by decide) (by decide)]; exact l1 i hi
    · rw [hk 28 i (by decide) (by decide) (by decide), hk 29 i (by decide) (by decide) (by decide)]; exact l2 i hi
    · rw [hk 30 i (by decide) (by decide) (by decide)]; exact l3 i hi
    · show gA (sA (sA (sA g 8 0 31 0 (gI g0 8 0 84)) 8 0 32 0 (gI g0 8 0 85)) 8 0 33 0 (gI g0 8 0 86)) 8 0 31 0 = _
      rw [A_at, if_neg (fun q => absurd q.1 (by decide)), A_at, if_neg (fun q => absurd q.1 (by decide)), A_at, if_pos ⟨rfl, rfl⟩]
    · show gA (sA (sA (sA g 8 0 31 0 (gI g0 8 0 84)) 8 0 32 0 (gI g0 8 0 85)) 8 0 33 0 (gI g0 8 0 86)) 8 0 32 0 = _
      rw [A_at, if_neg (fun q => absurd q.1 (by decide)), A_at, if_pos ⟨rfl, rfl⟩]
    · show gA (sA (sA (sA g 8 0 31 0 (gI g0 8 0 84)) 8 0 32 0 (gI g0 8 0 85)) 8 0 33 0 (gI g0 8 0 86)) 8 0 33 0 = _
      rw [A_at, if_pos ⟨rfl, rfl⟩]
    · show gL (sL (sA (sA (sA g 8 0 31 0 (gI g0 8 0 84)) 8 0 32 0 (gI g0 8 0 85)) 8 0 33 0 (gI g0 8 0 86)) 8 0 62 (gL g0 8 0 87)) 8 0 62 = _
      rw [L_at, if_pos rfl]
    · rw [I_at, if_pos rfl]
  · have e44 : gA g 8 0 44 j = gA g0 8 0 44 j := by rw [f.2.2.2 44 (by omega)]
    rw [if_neg (show ¬ (6 : Int32) ≤ nI j from nleN (a := 6) (show j < 6 by omega) (by omega)), grd_p (inb_n (show j < 6 by omega) (by omega)), grd_p (inb_n (show j < 12 by omega) (by omega)), lt_e, lt_e, nI_1, clN (show j < 2 ^ 31 by omega), e44]
    refine ih (j + 1) _ (by omega) (by omega) ⟨f.tr (BF.a 30 j g _ (by omega)), fun i hi => ?_, fun i hi => ?_, fun i hi => ?_⟩
    · rw [A_at, if_neg (fun q => by omega)]; exact l1 i hi
    · rw [A_at, if_neg (fun q => by omega), A_at, if_neg (fun q => by omega)]; exact l2 i hi
    · rw [A_at]
      by_cases w : i = j
      · rw [if_pos ⟨rfl, w⟩, w]
      · rw [if_neg (fun q => w q.2)]; exact l3 i (by omega)
theorem back2 (hN : 1000 ≤ N) {g0 g : Hp} (l : BL g0 g 8 0 0) : ∃ g', iter (fun _ _ => none) (f_X8_back_51 N) N 0 g = some (gI g0 8 0 86, g') ∧ BE g0 g' := by
  refine iter_inv (bot := fun _ _ => none) (b := f_X8_back_51 N) (fun m r => ∀ j g, j ≤ 4 → 4 < m + j → BL g0 g 8 j 0 → ∃ g', r (nI j) g = some (gI g0 8 0 86, g') ∧ BE g0 g') (fun j _ _ _ => by omega) (fun m r ih j g hj hm l => ?_) N 0 g (by omega) (by omega) l
  unfold f_X8_back_51
  by_cases z : j = 4
  · subst z
    rw [if_pos (show (4 : Int32) ≤ nI 4 by decide)]
    exact back3 hN l
  · obtain ⟨f, l1, l2, l3⟩ := l
    have e42 : gA g 8 0 42 j = gA g0 8 0 42 j := by rw [f.2.2.2 42 (by omega)]
    have e43 : gA (sA g 8 0 28 j (gA g0 8 0 42 j)) 8 0 43 j = gA g0 8 0 43 j := by rw [A_at, if_neg (fun q => by omega), f.2.2.2 43 (by omega)]
    rw [if_neg (show ¬ (4 : Int32) ≤ nI j from nleN (a := 4) (show j < 4 by omega) (by omega)), grd_p (inb_n (show j < 4 by omega) (by omega)), grd_p (inb_n (show j < 8 by omega) (by omega)), lt_e, grd_p (inb_n (show j < 4 by omega) (by omega)), grd_p (inb_n (show j < 8 by omega) (by omega)), lt_e, lt_e, nI_1, clN (show j < 2 ^ 31 by omega), e42, e43]
    refine ih (j + 1) _ (by omega) (by omega) ⟨f.tr ((BF.a 28 j g _ (by omega)).tr (BF.a 29 j _ _ (by omega))), fun i hi => ?_, fun i hi => ?_, fun i hi => absurd hi (Nat.not_lt_zero _)⟩
    · rw [A_at, if_neg (fun q => by omega), A_at, if_neg (fun q => by omega)]; exact l1 i hi
    · rw [A_at, if_neg (fun q => by omega), A_at, A_at]
      by_cases w : i = j
      · rw [if_pos ⟨rfl, w⟩, if_pos ⟨rfl, w⟩, w]; exact ⟨rfl, rfl⟩
      · rw [if_neg (fun q => w q.2), if_neg (fun q => w q.2), A_at, if_neg (fun q => by omega)]; exact l2 i (by omega)
theorem back1 (hN : 1000 ≤ N) (g0 : Hp) : ∃ g', iter (fun _ _ => none) (f_X8_back_25 N) N 0 g0 = some (gI g0 8 0 86, g') ∧ BE g0 g' := by
  refine iter_inv (bot := fun _ _ => none) (b := f_X8_back_25 N) (fun m r => ∀ j g, j ≤ 8 → 8 < m + j → BL g0 g j 0 0 → ∃ g', r (nI j) g = some (gI g0 8 0 86, g') ∧ BE g0 g') (fun j _ _ _ => by omega) (fun m r ih j g hj hm l => ?_) N 0 g0 (by omega) (by omega) ⟨BF.rf g0, fun i hi => absurd hi (Nat.not_lt_zero _), fun i hi => absurd hi (Nat.not_lt_zero _), fun i hi => absurd hi (Nat.not_lt_zero _)⟩
  unfold f_X8_back_25
  by_cases z : j = 8
  · subst z
    rw [if_pos (show (8 : Int32) ≤ nI 8 by decide)]
    exact back2 hN l
  · obtain ⟨f, l1, l2, l3⟩ := l
    have e41 : gA g 8 0 41 j = gA g0 8 0 41 j := by rw [f.2.2.2 41 (by omega)]
    rw [if_neg (show ¬ (8 : Int32) ≤ nI j from nleN (a := 8) (show j < 8 by omega) (by omega)), grd_p (inb_n (show j < 8 by omega) (by omega)), grd_p (inb_n (show j < 16 by omega) (by omega)), lt_e, lt_e, nI_1, clN (show j < 2 ^ 31 by omega), e41]
    refine ih (j + 1) _ (by omega) (by omega) ⟨f.tr (BF.a 23 j g _ (by omega)), fun i hi => ?_, fun i hi => absurd hi (Nat.not_lt_zero _), fun i hi => absurd hi (Nat.not_lt_zero _)⟩
    rw [A_at]
    by_cases w : i = j
    · rw [if_pos ⟨rfl, w⟩, w]
    · rw [if_neg (fun q => w q.2)]; exact l1 i (by omega)
theorem m_back (hN : 1000 ≤ N) (r : R8 g T S I X) (p : PI T S I X) : ∃ g', f_X8_back N g = some (if ¬ X.2 7 = 0 then I.2 11 else -1, g') ∧ R8 g' T (if ¬ X.2 7 = 0 then I else S) I (if ¬ X.2 7 = 0 then uX2 X 0 0 else X) ∧ K7 g g' := by
  obtain ⟨r0, k0⟩ := r.z0
  have hT := r.1.1
  have h8 := hT.1.2
  have hc4 := hT.2.1.2
  have hf6 := hT.2.2.1.2
  have e78 : gI (sI g 8 0 2 0) 8 0 78 = X.2 7 := r0.2.2.2.2.2.2.1.1
  have z78 : gZ (sI g 8 0 2 0) 8 0 78 = decide (¬ X.2 7 = 0) := by unfold gZ; rw [e78]
  unfold f_X8_back
  rw [lt_e, z78]
  by_cases q : X.2 7 = 0
  · rw [decide_eq_false (fun w => w q), if_neg (show ¬ ¬ b2i false = 0 by decide), if_neg (fun w => w q), if_neg (fun w => w q), if_neg (fun w => w q)]
    exact ⟨_, rfl, r0, k0⟩
  rw [decide_eq_true q, if_pos (show ¬ b2i true = 0 by decide), if_pos q, if_pos q, if_pos q]
  obtain ⟨h3, e3, t3⟩ := m_take hN (sI g 8 0 2 0) (a := 40) (i := 0) (Or.inr rfl) (show 0 + 17 ≤ 17 by omega) (by decide)
  have e3' : f_X8_take N (sI g 8 0 2 0) 8 0 40 0 = some h3 := e3
  obtain ⟨g', e', be⟩ := back1 hN h3
  obtain ⟨⟨bf, l1, l2, l3⟩, b1, b2, b3, b4, b5⟩ := be
  obtain ⟨r1, r2, r3, r4, r5, r6, r7, r8, r9, r10, r11⟩ := r0
  obtain ⟨im1, im2, im3, im4, im5, im6, im7, im8⟩ := r7.2 q
  have gi : ∀ k, k ≠ 61 → k ≠ 76 → gI g' 8 0 k = gI (sI g 8 0 2 0) 8 0 k := fun k h1 h2 => (bf.2.1 k h2).trans (t3.1.2.1 k h1)
  have gl : ∀ k, k ≠ 62 → gL g' 8 0 k = gL (sI g 8 0 2 0) 8 0 k := fun k hk => (bf.2.2.1 k hk).trans (t3.1.2.2.1 k)
  have ga : ∀ k, (k < 23 ∨ k = 26 ∨ 33 < k) → gA g' 8 0 k = gA (sI g 8 0 2 0) 8 0 k := fun k hk => (bf.2.2.2 k (by omega)).trans (t3.1.2.2.2 k (by omega) (by omega) (by omega))
  have ga3 : ∀ k, 33 < k → gA h3 8 0 k = gA (sI g 8 0 2 0) 8 0 k := fun k hk => t3.1.2.2.2 k (by omega) (by omega) (by omega)
  have gi3 : ∀ k, k ≠ 61 → gI h3 8 0 k = gI (sI g 8 0 2 0) 8 0 k := fun k hk => t3.1.2.1 k hk
  have hcS := p.2.2.2.1.2.2.2.2.2
  have hcI := (p.2.2.2.2.1 q).2.2.2.2.2
  have hzI := (p.2.2.2.2.1 q).2.2.2.2.1
  have ra : R8a g' T I := by
    refine ⟨r1.1, r1.2.1, r1.2.2.1.arr (fun k h1 h2 => gi k (by omega) (by omega)) (fun k hk => ga k (by omega)), ⟨fun s hs => ⟨?_, ?_⟩, fun c hc => ⟨?_, ?_, ?_, ?_, ?_, ?_⟩, fun u hu => ?_, fun k k1 k2 => ?_⟩, ?_⟩
    · show gA g' 8 0 23 (8 * 0 + s) = I.1 0 s
      rw [show 8 * 0 + s = s by omega, l1 s (by omega), ga3 41 (by omega)]
      exact im2 s hs
    · show gA g' 8 0 24 (8 * 0 + s) = I.1 1 s
      rw [show 8 * 0 + s = s by omega, bf.2.2.2 24 (by omega), t3.2.2.1 s (by omega)]
      exact im1.2.1 s hs
    · show gA g' 8 0 25 (4 * 0 + c) = I.1 2 c
      rw [show 4 * 0 + c = c by omega, bf.2.2.2 25 (by omega), (t3.2.1 c (by omega)).2]
      exact (im1.1 c hc).2
    · show gA g' 8 0 7 c = I.1 3 c
      rw [ga 7 (by omega), (r1.row hc).2.1, (hcS c hc).1, (hcI c hc).1]
    · show gA g' 8 0 26 (4 * 0 + c) = I.1 4 c
      rw [show 4 * 0 + c = c by omega, ga 26 (by omega), (r1.row hc).2.2.1, (hcS c hc).2, (hcI c hc).2]
    · show gA g' 8 0 27 (4 * 0 + c) = I.1 5 c
      rw [show 4 * 0 + c = c by omega, bf.2.2.2 27 (by omega), (t3.2.1 c (by omega)).1]
      exact (im1.1 c hc).1
    · show gA g' 8 0 28 (4 * 0 + c) = I.1 6 c
      rw [show 4 * 0 + c = c by omega, (l2 c (by omega)).1, ga3 42 (by omega)]
      exact (im3 c hc).1
    · show gA g' 8 0 29 (4 * 0 + c) = I.1 7 c
      rw [show 4 * 0 + c = c by omega, (l2 c (by omega)).2, ga3 43 (by omega)]
      exact (im3 c hc).2
    · show gA g' 8 0 30 (6 * 0 + u) = I.1 9 u
      rw [show 6 * 0 + u = u by omega, l3 u (by omega), ga3 44 (by omega)]
      exact im4 u hu
    · rcases (show k = 11 ∨ k = 12 ∨ k = 13 ∨ k = 14 ∨ k = 15 ∨ k = 16 by omega) with rfl | rfl | rfl | rfl | rfl | rfl
      · rw [b8_11, b3, gi3 86 (by decide)]; exact im7
      · rw [b8_12, b1, gi3 84 (by decide)]; exact im5
      · rw [b8_13, b2, gi3 85 (by decide)]; exact im6
      · rw [b8_14, bf.2.1 61 (by decide), t3.2.2.2]; exact im1.2.2
      · rw [b8_15, b4, t3.1.2.2.1, im8, Int32.toInt32_toInt64]
      · rw [b8_16, hzI]
    · have := r1.2.2.2.2
      unfold gZ at this ⊢
      rw [gi 49 (by decide) (by decide)]
      exact this
  have e86 : gI h3 8 0 86 = I.2 11 := (gi3 86 (by decide)).trans im7
  rw [e3', bind_s, e', e86]
  refine ⟨g', rfl, ⟨ra, ?_, ?_, ?_, ?_, ⟨b5, trivial⟩, ?_, ?_, ?_, ?_, ?_⟩, k0.tr (t3.1.1.tr bf.1)⟩
  · unfold TX; rw [ga 4 (by omega), ga 5 (by omega), ga 6 (by omega), ga 7 (by omega), ga 8 (by omega), ga 3 (by omega), ga 1 (by omega), ga 13 (by omega), ga 14 (by omega), ga 15 (by omega), ga 16 (by omega), ga 17 (by omega), ga 18 (by omega)]; exact r2
  · unfold gZ; rw [gi 64 (by decide) (by decide)]; exact r3
  · rw [b4, t3.1.2.2.1]; exact im8
  · unfold SR; rw [gi 72 (by decide) (by decide), gi 73 (by decide) (by decide), ga 37 (by omega)]; exact r5
  · rw [gi 78 (by decide) (by decide)]
    refine ⟨r7.1, fun _ => ?_⟩
    unfold IMr
    rw [ga 40 (by omega), ga 41 (by omega), ga 42 (by omega), ga 43 (by omega), ga 44 (by omega), gi 84 (by decide) (by decide), gi 85 (by decide) (by decide), gi 86 (by decide) (by decide), gl 87 (by decide)]
    exact r7.2 q
  · rw [gi 1 (by decide) (by decide), ga 0 (by omega)]; exact r8
  · rw [gi 4 (by decide) (by decide)]; exact r9
  · rw [gi 5 (by decide) (by decide)]; exact r10
  · rw [gi 16 (by decide) (by decide)]; exact r11
theorem PI_back (p : PI T S I X) : PI T (if ¬ X.2 7 = 0 then I else S) I (if ¬ X.2 7 = 0 then uX2 X 0 0 else X) := by
  by_cases q : X.2 7 = 0
  · rw [if_neg (fun w => w q), if_neg (fun w => w q)]; exact p
  · rw [if_pos q, if_pos q]
    obtain ⟨p1, p2, p3, p4, p5, p6, p7, p8, p9⟩ := p
    exact ⟨p1, p2, p3, p5 q, p5, p6, p7, ⟨0, by omega, rfl⟩, p9⟩
end Back
