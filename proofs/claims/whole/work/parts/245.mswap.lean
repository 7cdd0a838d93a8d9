-- PURE: the swap that makes lots fairer, by the reference
theorem MT.arr {g g' : Hp} {T : Txt} (m : MT g T) (hi : ∀ k, 12 ≤ k → k ≤ 15 → gI g' 8 0 k = gI g 8 0 k) (ha : ∀ k, k < 23 → gA g' 8 0 k = gA g 8 0 k) : MT g' T := by
  obtain ⟨m1, m2, m3, m4, m5, m6, m7, m8, m9⟩ := m
  refine ⟨by rw [hi 12 (by omega) (by omega)]; exact m1, by rw [hi 13 (by omega) (by omega)]; exact m2, by rw [hi 14 (by omega) (by omega)]; exact m3, by rw [hi 15 (by omega) (by omega)]; exact m4, by rw [ha 9 (by omega), ha 10 (by omega), ha 11 (by omega)]; exact m5, by rw [ha 12 (by omega)]; exact m6, by rw [ha 3 (by omega)]; exact m7, by rw [ha 3 (by omega)]; exact m8, ?_⟩
  intro k hk
  have y : gY g' 8 0 13 k = gY g 8 0 13 k := by unfold gY; rw [ha 13 (by omega)]
  rw [y]
  rcases m9 k hk with q | ⟨q1, q2⟩
  · exact Or.inl q
  · exact Or.inr ⟨q1, fun N x hN hx hn => q2 N x hN (fun c h1 h2 => by rw [hx c h1 h2, ha c (by omega)]) hn⟩
section MSwap
variable {N : Nat} {g : Hp} {T : Txt} {S : Str}
theorem R8a.lot (r : R8a g T S) {i : Nat} (v : Int32) (hi : i < 8) : R8a (sA g 8 0 24 i v) T (upA S 1 i v) := by
  obtain ⟨hT, R, X, q, h49⟩ := r
  refine ⟨hT, R, X.arr (fun _ _ _ => rfl) (fun k hk => funext fun u => by rw [A_at, if_neg (fun q => by omega)]), Sq.tr ?_ (q.upA 1 i v), h49⟩
  refine ⟨fun s _ => ⟨rfl, ?_⟩, fun c _ => ⟨rfl, rfl, rfl, rfl, rfl, rfl⟩, fun f _ => rfl, fun k _ _ => rfl⟩
  rw [upA_at]
  show gA (sA g 8 0 24 i v) 8 0 24 (8 * 0 + s) = if s = i then v else gA g 8 0 24 (8 * 0 + s)
  rw [A_at]
  by_cases z : s = i
  · rw [if_pos z, if_pos ⟨rfl, by omega⟩]
  · rw [if_neg z, if_neg (by omega)]
theorem SOK.lot {n : Nat} (K : SOK T n S) {j : Nat} {v : Int32} : SOK T n (upA S 1 j v) := by
  obtain ⟨a, c, d, e1, e2, e3, e4, e5⟩ := K
  refine ⟨fun s hs => ?_, fun q hq => ?_, fun f hf => ?_, e1, e2, e3, e4, fun q hq => ?_⟩
  · rw [upA_n S j v (show (0 : Nat) ≠ 1 by decide)]; exact a s hs
  · rw [upA_n S j v (show (5 : Nat) ≠ 1 by decide), upA_n S j v (show (3 : Nat) ≠ 1 by decide), upA_n S j v (show (2 : Nat) ≠ 1 by decide)]; exact c q hq
  · rw [upA_n S j v (show (9 : Nat) ≠ 1 by decide)]; exact d f hf
  · rw [upA_n S j v (show (7 : Nat) ≠ 1 by decide)]; exact e5 q hq
theorem m_swaps (r : R8a g T S) (hT8 : nSt T ≤ 8) {s u : Nat} (hs : s < nSt T) (hu : u < nSt T) : f_X8_swaps g (nI s) (nI u) = some (sA (sA g 8 0 24 s (S.1 1 u)) 8 0 24 u (S.1 1 s)) ∧ R8a (sA (sA g 8 0 24 s (S.1 1 u)) 8 0 24 u (S.1 1 s)) T (swS S s u) := by
  refine ⟨?_, (r.lot _ (by omega)).lot _ (by omega)⟩
  unfold f_X8_swaps
  simp only [lt_e, clN (show s < 2 ^ 31 by omega), clN (show u < 2 ^ 31 by omega), grd_p (inb_n (show s < 16 by omega) (show 16 < 2 ^ 31 by omega)), grd_p (inb_n (show u < 16 by omega) (show 16 < 2 ^ 31 by omega)), (r.lies hs).2, (r.lies hu).2]
theorem swI_le (T : Txt) (S : Str) (a : Acc) (s : Nat) : ∀ u, (swI T S a s u).1 ≤ a.1
  | 0 => Int32.le_refl _
  | u + 1 => by
    have := swI_le T S a s u
    rw [swI_s]
    by_cases z : s < u ∧ uwM T S s u < (swI T S a s u).1
    · rw [if_pos z]; exact Int32.le_trans (Int32.le_of_lt z.2) this
    · rw [if_neg z]; exact this
theorem swO_le (T : Txt) (S : Str) : ∀ s, (swO T S s).1 ≤ spM (lotF T S) (nCr T)
  | 0 => Int32.le_refl _
  | s + 1 => by rw [swO_s]; exact Int32.le_trans (swI_le T S _ s _) (swO_le T S s)
theorem swI_nn (T : Txt) (S : Str) (a : Acc) (s : Nat) (h : a.2.1 = -2 ∨ ∃ i, i < 8 ∧ a.2.1 = nI i) (hs : s < 8) : ∀ u, (swI T S a s u).2.1 = -2 ∨ ∃ i, i < 8 ∧ (swI T S a s u).2.1 = nI i
  | 0 => h
  | u + 1 => by
    rw [swI_s]
    by_cases z : s < u ∧ uwM T S s u < (swI T S a s u).1
    · rw [if_pos z]; exact Or.inr ⟨s, hs, rfl⟩
    · rw [if_neg z]; exact swI_nn T S a s h hs u
theorem m_swap (hN : 1000 ≤ N) (r : R8a g T S) (K : SOK T 0 S) (p64 : gZ g 8 0 64 = false) (what : Int32) : ∃ g', f_X8_swap N g what = some (swpM T S what, g') ∧ F8 g g' ∧ gZ g' 8 0 64 = false := by
  have f0 : F8 g (sI g 8 0 2 0) := F8.i g 0 (by decide)
  have r0 := r.f8 f0
  have hT := r.1
  have h8 := hT.1.2
  unfold f_X8_swap swpM
  simp only [lt_e, m_isIn, bind_s, b2i0, decide_eq_false_iff_not, Classical.not_not]
  by_cases y : 0 ≤ what ∧ what ≤ 2
  rotate_left
  · rw [if_neg y, if_neg y]; exact ⟨_, rfl, f0, p64⟩
  rw [if_pos y, if_pos y, m_unlikeLots hN r0 K, bind_s]
  have told : ∀ {g1 : Hp}, R8a g1 T S → gI g1 8 0 12 = nI (nSt T) := fun r => r.2.2.1.1.symm.trans hT.1.1
  refine iter_inv (bot := fun _ _ _ _ _ => none) (b := f_X8_swap_31 N what) (fun m q => ∀ s g1, s ≤ nSt T → nSt T < m + s → F8 g g1 → R8a g1 T S → gZ g1 8 0 64 = false → ((swO T S s).2.1 = -2 ∨ ∃ i, i < 8 ∧ (swO T S s).2.1 = nI i) → ∃ g', q (swO T S s).1 (swO T S s).2.1 (swO T S s).2.2 (nI s) g1 = some (if what = 0 then (swO T S (nSt T)).2.1 else if what = 1 then (swO T S (nSt T)).2.2 else if (swO T S (nSt T)).2.1 < 0 then -2 else (swO T S (nSt T)).1, g') ∧ F8 g g' ∧ gZ g' 8 0 64 = false) (fun s _ _ _ => by omega) (fun m q ih s g1 hs hm f ra z64 nn => ?_) N 0 _ (by omega) (by omega) f0 r0 p64 (Or.inl rfl)
  unfold f_X8_swap_31
  rw [told ra]
  by_cases z : nSt T = s
  · rw [← z, if_pos (leN (Nat.le_refl _) (by omega))]
    simp only [jn_e]
    refine ⟨g1, ?_, f, z64⟩
    by_cases q0 : what = 0
    · rw [if_neg (fun q => q q0), if_pos q0]
    rw [if_pos q0, if_neg q0]
    by_cases q1 : what = 1
    · rw [if_neg (fun q => q q1), if_pos q1]
    rw [if_pos q1, if_neg q1]
    by_cases q2 : (swO T S (nSt T)).2.1 < 0
    · rw [if_pos q2, if_neg (Int32.not_le.mpr q2)]
    · rw [if_neg q2, if_pos (Int32.not_lt.mp q2)]
  rw [if_neg (nleN (show s < nSt T by omega) (show nSt T < 2 ^ 31 by omega)), lt_e, nI_1]
  refine iter_inv (bot := fun _ _ _ _ _ => none) (b := f_X8_swap_46 N q (nI s)) (fun m r' => ∀ u g1, s < u → u ≤ nSt T → nSt T < m + u → F8 g g1 → R8a g1 T S → gZ g1 8 0 64 = false → ∃ g', r' (swI T S (swO T S s) s u).1 (swI T S (swO T S s) s u).2.1 (swI T S (swO T S s) s u).2.2 (nI u) g1 = some (if what = 0 then (swO T S (nSt T)).2.1 else if what = 1 then (swO T S (nSt T)).2.2 else if (swO T S (nSt T)).2.1 < 0 then -2 else (swO T S (nSt T)).1, g') ∧ F8 g g' ∧ gZ g' 8 0 64 = false) (fun u _ _ _ _ => by omega) (fun m' r' ih' u g1 hsu hu hm' f ra z64 => ?_) N (s + 1) g1 (by omega) (by omega) (by omega) f ra z64 |> (fun x => by rw [swI_0 T S _ s (s + 1) (Nat.le_refl _)] at x; exact x)
  unfold f_X8_swap_46
  rw [told ra]
  by_cases v : nSt T = u
  · rw [← v, if_pos (leN (Nat.le_refl _) (by omega)), lt_e, nI_1]
    exact ih (s + 1) g1 (by omega) (by omega) f ra z64 (swI_nn T S _ s nn (by omega) _)
  rw [if_neg (nleN (show u < nSt T by omega) (show nSt T < 2 ^ 31 by omega))]
  have nx := ih' (u + 1)
  rw [swI_s] at nx
  obtain ⟨e2, r2⟩ := m_swaps ra h8 (show s < nSt T by omega) (show u < nSt T by omega)
  have K2 : SOK T 0 (swS S s u) := (K.lot).lot
  simp only [jn_e, lt_e, clN (show s < 2 ^ 31 by omega), clN (show u < 2 ^ 31 by omega), grd_p (inb_n (show s < 16 by omega) (show 16 < 2 ^ 31 by omega)), grd_p (inb_n (show u < 16 by omega) (show 16 < 2 ^ 31 by omega)), (ra.lies (show s < nSt T by omega)).2, (ra.lies (show u < nSt T by omega)).2, nI_1]
  by_cases w : S.1 1 s = S.1 1 u
  · rw [if_neg (fun q => q w)]
    have sq : Sq T (swS S s u) S := sq_of (fun a j => by
      unfold swS
      rw [upA_k, upA_k]
      by_cases x : a = 1 ∧ j = u
      · rw [if_pos x, x.1, x.2, w]
      rw [if_neg x]
      by_cases x' : a = 1 ∧ j = s
      · rw [if_pos x', x'.1, x'.2, w]
      · rw [if_neg x']) rfl
    have same : uwM T S s u = spM (lotF T S) (nCr T) := spM_cg (fun i _ => lotM_sq sq (nI i) (nSt T) (Nat.le_refl _))
    rw [if_neg (show ¬ (s < u ∧ uwM T S s u < (swI T S (swO T S s) s u).1) from fun q => by
      have a := Int32.le_trans (swI_le T S (swO T S s) s u) (swO_le T S s)
      rw [same] at q
      exact absurd q.2 (Int32.not_lt.mpr a))] at nx
    exact nx g1 (by omega) (by omega) (by omega) f ra z64
  · rw [if_pos w, e2, bind_s, m_unlikeLots hN r2 K2, bind_s]
    obtain ⟨e3, r3⟩ := m_swaps r2 h8 (show s < nSt T by omega) (show u < nSt T by omega)
    have a1 : (swS S s u).1 1 u = S.1 1 s := by unfold swS; rw [upA_k, if_pos ⟨rfl, rfl⟩]
    have a2 : (swS S s u).1 1 s = S.1 1 u := by unfold swS; rw [upA_k, if_neg (fun q => by omega), upA_k, if_pos ⟨rfl, rfl⟩]
    rw [e3, bind_s]
    rw [a1, a2] at r3 ⊢
    have hu : spM (lotF T (swS S s u)) (nCr T) = uwM T S s u := rfl
    rw [hu]
    have f3 : F8 g1 (sA (sA (sA (sA g1 8 0 24 s (S.1 1 u)) 8 0 24 u (S.1 1 s)) 8 0 24 s (S.1 1 s)) 8 0 24 u (S.1 1 u)) := by
      have all : ∀ k i, gA (sA (sA (sA (sA g1 8 0 24 s (S.1 1 u)) 8 0 24 u (S.1 1 s)) 8 0 24 s (S.1 1 s)) 8 0 24 u (S.1 1 u)) 8 0 k i = gA g1 8 0 k i := fun k i => by
        rw [A_at, A_at, A_at, A_at]
        by_cases x : k = 24 ∧ i = u
        · rw [if_pos x, x.1, x.2, (ra.lies (show u < nSt T by omega)).2]
        rw [if_neg x]
        by_cases x' : k = 24 ∧ i = s
        · rw [if_pos x', x'.1, x'.2, (ra.lies (show s < nSt T by omega)).2]
        · rw [if_neg x', if_neg x, if_neg x']
      exact ⟨((K7.a _ _ _ _).tr (K7.a _ _ _ _)).tr ((K7.a _ _ _ _).tr (K7.a _ _ _ _)), fun _ _ => rfl, ⟨rfl, rfl, id⟩, fun k _ => funext (all k), fun k i _ _ _ => all k i⟩
    have r4 := ra.f8 f3
    by_cases x : uwM T S s u < (swI T S (swO T S s) s u).1
    · rw [if_pos (show s < u ∧ uwM T S s u < (swI T S (swO T S s) s u).1 from ⟨hsu, x⟩)] at nx
      rw [if_pos x]
      exact nx _ (by omega) (by omega) (by omega) (f.tr f3) r4 z64
    · rw [if_neg (show ¬ (s < u ∧ uwM T S s u < (swI T S (swO T S s) s u).1) from fun q => x q.2)] at nx
      rw [if_neg x]
      exact nx _ (by omega) (by omega) (by omega) (f.tr f3) r4 z64
end MSwap
