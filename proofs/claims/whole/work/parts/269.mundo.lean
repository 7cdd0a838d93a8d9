-- PURE: undo by the reference
theorem unM_o {T : Txt} (S : Str) {k w o : Int32} : (∀ r, r ≠ 1 → r ≠ 2 → r ≠ 5 → (unM S k w o).1 r = S.1 r) ∧ ∀ j, j ≠ 14 → (unM S k w o).2 j = S.2 j := by
  unfold unM
  by_cases a : k = 0
  · rw [if_pos a]; exact ⟨fun r _ _ h => upA_n S _ _ h, fun _ _ => rfl⟩
  rw [if_neg a]
  by_cases b : k = 1
  · rw [if_pos b]; exact ⟨fun _ _ _ _ => rfl, fun j h => upI_n S _ h⟩
  rw [if_neg b]
  by_cases c : k = 2
  · rw [if_pos c]; exact ⟨fun r h _ _ => upA_n S _ _ h, fun _ _ => rfl⟩
  · rw [if_neg c]
    unfold mvM
    exact ⟨fun r _ h _ => by rw [upA_n _ _ _ h, upA_n _ _ _ h], fun _ _ => rfl⟩
/-- nothing changed but what is laid from a row -/
def TA (g g' : Hp) : Prop := K7 g g' ∧ (∀ k, k ≠ 61 → gI g' 8 0 k = gI g 8 0 k) ∧ (∀ k, gL g' 8 0 k = gL g 8 0 k) ∧ ∀ k, k ≠ 24 → k ≠ 25 → k ≠ 27 → gA g' 8 0 k = gA g 8 0 k
theorem TA.rf (g : Hp) : TA g g := ⟨K7.rf g, fun _ _ => rfl, fun _ => rfl, fun _ _ _ _ => rfl⟩
theorem TA.tr {g g' g'' : Hp} (x : TA g g') (y : TA g' g'') : TA g g'' := ⟨x.1.tr y.1, fun k q => (y.2.1 k q).trans (x.2.1 k q), fun k => (y.2.2.1 k).trans (x.2.2.1 k), fun k q r s => (y.2.2.2 k q r s).trans (x.2.2.2 k q r s)⟩
theorem TA.a (k i : Nat) (g : Hp) (v : Int32) (hk : k = 24 ∨ k = 25 ∨ k = 27) : TA g (sA g 8 0 k i v) := ⟨K7.a g k i v, fun _ _ => rfl, fun _ => rfl, fun j h1 h2 h3 => funext fun u => by rw [A_at, if_neg (fun q => by omega)]⟩
theorem TA.i (g : Hp) (v : Int32) : TA g (sI g 8 0 61 v) := ⟨K7.i g 61 v, fun k hk => by rw [I_at, if_neg hk], fun _ => rfl, fun _ _ _ _ => rfl⟩
def TakR (g g' : Hp) (a i : Nat) : Prop := TA g g' ∧ (∀ c, c < 4 → gA g' 8 0 27 c = gA g 8 0 a (i + c) ∧ gA g' 8 0 25 c = gA g 8 0 a (i + 4 + c)) ∧ (∀ s, s < 8 → gA g' 8 0 24 s = gA g 8 0 a (i + 8 + s)) ∧ gI g' 8 0 61 = gA g 8 0 a (i + 16)
section Take
variable {N : Nat} {g : Hp} {T : Txt} {S S' I : Str} {X : Xs}
theorem m_take (hN : 1000 ≤ N) (g : Hp) {a i : Nat} (ha : a = 39 ∨ a = 40) (hi : i + 17 ≤ (ak 8 a).2) (h9 : (ak 8 a).2 < 1000) : ∃ g', f_X8_take N g 8 0 a (nI i) = some g' ∧ TakR g g' a i := by
  have ib : ∀ j, j < 17 → inb (nI (i + j)) (ak 8 a).2 := fun j hj => inb_n (show i + j < (ak 8 a).2 by omega) (by omega)
  have ea : ∀ {g1 : Hp}, TA g g1 → gA g1 8 0 a = gA g 8 0 a := fun f => f.2.2.2 a (by omega) (by omega) (by omega)
  unfold f_X8_take
  refine iter_inv (bot := fun _ _ => none) (b := f_X8_take_2 N 8 0 a (nI i)) (fun m r => ∀ c g1, c ≤ 4 → 4 < m + c → TA g g1 → (∀ j, j < c → gA g1 8 0 27 j = gA g 8 0 a (i + j) ∧ gA g1 8 0 25 j = gA g 8 0 a (i + 4 + j)) → ∃ g', r (nI c) g1 = some g' ∧ TakR g g' a i) (fun c _ _ _ => by omega) (fun m r ih c g1 hc hm f w => ?_) N 0 g (by omega) (by omega) (TA.rf g) (fun j hj => absurd hj (Nat.not_lt_zero _))
  unfold f_X8_take_2
  by_cases z : c = 4
  · subst z
    rw [if_pos (show (4 : Int32) ≤ nI 4 by decide)]
    refine iter_inv (bot := fun _ _ => none) (b := f_X8_take_39 8 0 a (nI i)) (fun m r => ∀ s g2, s ≤ 8 → 8 < m + s → TA g g2 → (∀ j, j < 4 → gA g2 8 0 27 j = gA g 8 0 a (i + j) ∧ gA g2 8 0 25 j = gA g 8 0 a (i + 4 + j)) → (∀ j, j < s → gA g2 8 0 24 j = gA g 8 0 a (i + 8 + j)) → ∃ g', r (nI s) g2 = some g' ∧ TakR g g' a i) (fun c _ _ _ => by omega) (fun m r ih s g2 hs hm f w w2 => ?_) N 0 g1 (by omega) (by omega) f w (fun j hj => absurd hj (Nat.not_lt_zero _))
    unfold f_X8_take_39
    by_cases y : s = 8
    · subst y
      have e16 : nI i + 16 = nI (i + 16) := nI_add i 16
      rw [if_pos (show (8 : Int32) ≤ nI 8 by decide), e16, grd_p (ib 16 (by omega)), lt_e, clN (show i + 16 < 2 ^ 31 by omega), ea f]
      exact ⟨_, rfl, f.tr (TA.i g2 _), w, w2, by rw [I_at, if_pos rfl]⟩
    · have e8 : nI i + 8 + nI s = nI (i + 8 + s) := by rw [show (8 : Int32) = nI 8 from rfl, nI_add, nI_add]
      rw [if_neg (show ¬ (8 : Int32) ≤ nI s from nleN (a := 8) (show s < 8 by omega) (by omega)), e8, grd_p (by rw [Nat.add_assoc]; exact ib (8 + s) (by omega)), grd_p (inb_n (show s < 16 by omega) (by omega)), lt_e, lt_e, nI_1, clN (show s < 2 ^ 31 by omega), clN (show i + 8 + s < 2 ^ 31 by omega), ea f]
      refine ih (s + 1) _ (by omega) (by omega) (f.tr (TA.a 24 _ g2 _ (by omega))) (fun c hc => ?_) (fun c hc => ?_)
      · rw [A_at, if_neg (fun q => by omega), A_at, if_neg (fun q => by omega)]; exact w c hc
      · rw [A_at]
        by_cases v : c = s
        · rw [if_pos ⟨rfl, v⟩, v]
        · rw [if_neg (fun q => v q.2)]; exact w2 c (by omega)
  · have e0 : nI i + nI c = nI (i + c) := nI_add i c
    have e4 : nI i + 4 + nI c = nI (i + 4 + c) := by rw [show (4 : Int32) = nI 4 from rfl, nI_add, nI_add]
    have f1 := f.tr (TA.a 27 c g1 (gA g 8 0 a (i + c)) (by omega))
    rw [if_neg (show ¬ (4 : Int32) ≤ nI c from nleN (a := 4) (show c < 4 by omega) (by omega)), e0, grd_p (ib c (by omega)), grd_p (inb_n (show c < 8 by omega) (by omega)), lt_e, e4, grd_p (by rw [Nat.add_assoc]; exact ib (4 + c) (by omega)), grd_p (inb_n (show c < 8 by omega) (by omega)), lt_e, lt_e, nI_1, clN (show c < 2 ^ 31 by omega), clN (show i + c < 2 ^ 31 by omega), clN (show i + 4 + c < 2 ^ 31 by omega), ea f, ea f1]
    refine ih (c + 1) _ (by omega) (by omega) (f1.tr (TA.a 25 c _ _ (by omega))) (fun j hj => ?_)
    rw [A_at, if_neg (fun q => by omega), A_at, A_at]
    by_cases v : j = c
    · rw [if_pos ⟨rfl, v⟩, if_pos ⟨rfl, v⟩, v]; exact ⟨rfl, rfl⟩
    · rw [if_neg (fun q => v q.2), if_neg (fun q => v q.2), A_at, if_neg (fun q => by omega)]; exact w j (by omega)
/-- half 0 shows S' then, if the row shows it -/
theorem R8a.take (r : R8a g T S) {g' : Hp} {a i : Nat} (t : TakR g g' a i) (sn : SN T (gA g 8 0 a) i S') (o1 : ∀ k, k ≠ 1 → k ≠ 2 → k ≠ 5 → S'.1 k = S.1 k) (o2 : ∀ j, j ≠ 14 → S'.2 j = S.2 j) : R8a g' T S' := by
  have hc4 := r.1.2.1.2
  have h8 := r.1.1.2
  obtain ⟨hT, R, X, q, h49⟩ := r
  obtain ⟨f, t1, t2, t3⟩ := t
  refine ⟨hT, R, X.arr (fun k h1 h2 => f.2.1 k (by omega)) (fun k hk => f.2.2.2 k (by omega) (by omega) (by omega)), ⟨fun s hs => ⟨?_, ?_⟩, fun c hc => ⟨?_, ?_, ?_, ?_, ?_, ?_⟩, fun u hu => ?_, fun k k1 k2 => ?_⟩, ?_⟩
  · rw [o1 0 (by decide) (by decide) (by decide), ← (q.1 s hs).1]
    show gA g' 8 0 23 (8 * 0 + s) = gA g 8 0 23 (8 * 0 + s)
    rw [f.2.2.2 23 (by decide) (by decide) (by decide)]
  · rw [← sn.2.1 s hs, ← t2 s (by omega)]
    show gA g' 8 0 24 (8 * 0 + s) = _
    rw [show 8 * 0 + s = s by omega]
  · rw [← (sn.1 c hc).2, ← (t1 c (by omega)).2]
    show gA g' 8 0 25 (4 * 0 + c) = _
    rw [show 4 * 0 + c = c by omega]
  · rw [o1 3 (by decide) (by decide) (by decide), ← (q.2.1 c hc).2.1]
    show gA g' 8 0 7 c = gA g 8 0 7 c
    rw [f.2.2.2 7 (by decide) (by decide) (by decide)]
  · rw [o1 4 (by decide) (by decide) (by decide), ← (q.2.1 c hc).2.2.1]
    show gA g' 8 0 26 (4 * 0 + c) = gA g 8 0 26 (4 * 0 + c)
    rw [f.2.2.2 26 (by decide) (by decide) (by decide)]
  · rw [← (sn.1 c hc).1, ← (t1 c (by omega)).1]
    show gA g' 8 0 27 (4 * 0 + c) = _
    rw [show 4 * 0 + c = c by omega]
  · rw [o1 6 (by decide) (by decide) (by decide), ← (q.2.1 c hc).2.2.2.2.1]
    show gA g' 8 0 28 (4 * 0 + c) = gA g 8 0 28 (4 * 0 + c)
    rw [f.2.2.2 28 (by decide) (by decide) (by decide)]
  · rw [o1 7 (by decide) (by decide) (by decide), ← (q.2.1 c hc).2.2.2.2.2]
    show gA g' 8 0 29 (4 * 0 + c) = gA g 8 0 29 (4 * 0 + c)
    rw [f.2.2.2 29 (by decide) (by decide) (by decide)]
  · rw [o1 9 (by decide) (by decide) (by decide), ← q.2.2.1 u hu]
    show gA g' 8 0 30 (6 * 0 + u) = gA g 8 0 30 (6 * 0 + u)
    rw [f.2.2.2 30 (by decide) (by decide) (by decide)]
  · by_cases z : k = 14
    · subst z
      rw [b8_14, t3, sn.2.2]
    · rw [o2 k z, ← q.2.2.2 k k1 k2]
      rcases (show k = 11 ∨ k = 12 ∨ k = 13 ∨ k = 15 ∨ k = 16 by omega) with rfl | rfl | rfl | rfl | rfl
      · rw [b8_11, b8_11, f.2.2.2 33 (by decide) (by decide) (by decide)]
      · rw [b8_12, b8_12, f.2.2.2 31 (by decide) (by decide) (by decide)]
      · rw [b8_13, b8_13, f.2.2.2 32 (by decide) (by decide) (by decide)]
      · rw [b8_15, b8_15, f.2.2.1]
      · rw [b8_16, b8_16]
  · unfold gZ at h49 ⊢
    rw [f.2.1 49 (by decide)]
    exact h49
/-- what undo's rows tell of the last change -/
theorem R8.ve (r : R8 g T S I X) (u : UX X) (q : undQ X = true) : VE T (X.1 0 (unN X)) (X.1 1 (unN X)) (X.1 2 (unN X)) ∧ SN T (gA g 8 0 39) (17 * unN X) (unT S X) ∧ SOK T 0 (unT S X) ∧ C5 T (unT S X) ∧ UR T X.1 (gA g 8 0 39) (unN X) (unT S X) ∧ X.2 0 = nI (unN X + 1) ∧ unN X < 20 := by
  obtain ⟨z, hz, e0⟩ := u
  have y := of_decide_eq_true q
  have z0 : 0 < z := by
    refine Decidable.byContradiction fun w => ?_
    rw [e0, show z = 0 by omega] at y
    exact absurd y (by decide)
  have ez : (X.2 0).toNatClampNeg = unN X + 1 := by unfold unN; rw [e0, clN (by omega)]; omega
  have eN : unN X + 1 = z := by rw [← ez, e0, clN (by omega)]
  have ur := r.2.2.2.2.2.1.2
  rw [ez] at ur
  obtain ⟨a, b, c, d, e⟩ := ur
  exact ⟨a, b, c, d, e, by rw [e0, eN], by omega⟩
theorem m_undo (hN : 1000 ≤ N) (r : R8 g T S I X) (u : UX X) : ∃ g', f_X8_undo N g = some (if undQ X = true then nI (unN X) else -1, g') ∧ R8 g' T (if undQ X = true then unT S X else S) I (if undQ X = true then uX2 X 0 (nI (unN X)) else X) ∧ K7 g g' := by
  obtain ⟨r0, k0⟩ := r.z0
  have e76 : gI (sI g 8 0 2 0) 8 0 76 = X.2 0 := r0.2.2.2.2.2.1.1
  unfold f_X8_undo
  rw [lt_e, e76]
  by_cases q : undQ X = true
  · obtain ⟨v1, v2, v3, v4, v5, v6, v7⟩ := r0.ve u q
    rw [if_pos (show ¬ X.2 0 = 0 by rw [v6]; exact fun w => by have := (nI_z (by omega)).mp w; omega), lt_e, v6, show nI (unN X + 1) - 1 = nI (unN X) by rw [show (1 : Int32) = nI 1 from rfl, nI_sub (by omega)]; rfl]
    have e76' : gI (sI (sI g 8 0 2 0) 8 0 76 (nI (unN X))) 8 0 76 = nI (unN X) := by rw [I_at, if_pos rfl]
    have e17 : (17 : Int32) * nI (unN X) = nI (17 * unN X) := nI_mulN 17 _
    obtain ⟨g2, e2, t2⟩ := m_take hN (sI (sI g 8 0 2 0) 8 0 76 (nI (unN X))) (a := 39) (i := 17 * unN X) (Or.inl rfl) (show 17 * unN X + 17 ≤ 340 by omega) (by decide)
    have ra1 : R8a (sI (sI g 8 0 2 0) 8 0 76 (nI (unN X))) T S := (FM.i (sI g 8 0 2 0) _).ra r0.1
    have ra2 := ra1.take t2 v2 (unM_o (T := T) S).1 (unM_o (T := T) S).2
    have e76'' : gI g2 8 0 76 = nI (unN X) := (t2.1.2.1 76 (by decide)).trans e76'
    rw [e76', e17, e2, bind_s, e76'', if_pos q, if_pos q, if_pos q]
    refine ⟨g2, rfl, r0.mk ra2 (fun k h1 h2 h3 h4 => ?_) (fun k => t2.1.2.2.1 k) (fun k hk h39 => t2.1.2.2.2 k (by omega) (by omega) (by omega)) ((unM_o (T := T) S).2 15 (by decide)) (fun _ _ => rfl) (fun j hj => if_neg hj) e76'' ?_, k0.tr ((K7.i _ 76 _).tr t2.1.1)⟩
    · rw [t2.1.2.1 k h3, I_at, if_neg h4]
    · have : ((uX2 X 0 (nI (unN X))).2 0).toNatClampNeg = unN X := clN (by omega)
      rw [this, t2.1.2.2.2 39 (by decide) (by decide) (by decide)]
      exact v5
  · obtain ⟨z, hz, e0⟩ := u
    have z0 : X.2 0 = 0 := by
      refine Decidable.byContradiction fun w => q (decide_eq_true ?_)
      rw [e0] at w ⊢
      have : 0 < z := by
        refine Decidable.byContradiction fun v => w ?_
        rw [show z = 0 by omega]; rfl
      exact Int32.not_le.mp (nleN (b := 0) this (by omega))
    rw [if_neg (fun w => w z0), if_neg q, if_neg q, if_neg q]
    exact ⟨_, rfl, r0, k0⟩
theorem PI_undo (p : PI T S I X) (r : R8 g T S I X) : PI T (if undQ X = true then unT S X else S) I (if undQ X = true then uX2 X 0 (nI (unN X)) else X) := by
  by_cases q : undQ X = true
  · rw [if_pos q, if_pos q]
    have u := p.2.2.2.2.2.2.2.1
    obtain ⟨v1, v2, v3, v4, v5, v6, v7⟩ := r.ve u q
    obtain ⟨p1, p2, p3, ⟨K, c5, G, h9, hz, hc⟩, p5, p6, p7, p8, p9⟩ := p
    have o1 := (unM_o (T := T) S (k := X.1 0 (unN X)) (w := X.1 1 (unN X)) (o := X.1 2 (unN X))).1
    have o2 := (unM_o (T := T) S (k := X.1 0 (unN X)) (w := X.1 1 (unN X)) (o := X.1 2 (unN X))).2
    have e11 : (unT S X).2 11 = S.2 11 := o2 11 (by decide)
    have e6 : (unT S X).1 6 = S.1 6 := o1 6 (by decide) (by decide) (by decide)
    have e3 : (unT S X).1 3 = S.1 3 := o1 3 (by decide) (by decide) (by decide)
    have e4 : (unT S X).1 4 = S.1 4 := o1 4 (by decide) (by decide) (by decide)
    refine ⟨p1, p2, p3, ⟨v3, v4, fun c h => by rw [e6, e11]; exact G c h, by rw [e11]; exact h9, (o2 16 (by decide)).trans hz, fun c h => by rw [e3, e4]; exact hc c h⟩, p5, p6, p7, ⟨unN X, by omega, rfl⟩, p9⟩
  · rw [if_neg q, if_neg q]; exact p
end Take
