-- PURE: turns, turn by the reference: the answers
section MTurns
variable {N : Nat} {g : Hp} {ru : Int32} {T : Txt} {S : Str}
theorem m_turnIn (hN : 1000 ≤ N) (hT : TOK T) (K : SOK T 0 S) (h9 : (S.2 11).toInt ≤ 9999) {n i : Nat} (hc0 : 0 < nCr T) (hn : n ≤ 4) (hi : i < 256) {g0 : Hp} (r9 : Int32 → Int32 → Hp → Option Hp) (R : Hp → Prop)
    (out : ∀ g, F8 g0 g → R8a g T S → gZ g 8 0 64 = false → RowT T S n (i + 1) g → ∃ x, r9 (tuB T S n (i + 1)).2.1 (nI (i + 1)) g = some x ∧ R x) {g : Hp} (f : F8 g0 g) (ra : R8a g T S) (p64 : gZ g 8 0 64 = false) (s : Sm g 1 (S.2 14) T (czL S (nCr T))) (w : RowT T S n i g) : ∃ x, iter (fun _ _ => none) (f_X8_layTurns_33 N (nI n) r9 (tuB T S n i).2.1 (nI i)) N 0 g = some x ∧ R x := by
  have hc4 := hT.2.1.2
  refine iter_inv (bot := fun _ _ => none) (b := f_X8_layTurns_33 N (nI n) r9 (tuB T S n i).2.1 (nI i)) (fun m r => ∀ k g, k ≤ n → n < m + k → F8 g0 g → R8a g T S → gZ g 8 0 64 = false → Sm g 1 (S.2 14) T (tuS T S n i k) → RowT T S n i g → ∃ x, r (nI k) g = some x ∧ R x) (fun k _ _ _ => by omega) (fun m r ih k g hk hm f ra p64 s w => ?_) N 0 g (by omega) (by omega) f ra p64 s w
  unfold f_X8_layTurns_33
  by_cases z : n = k
  · subst z
    rw [if_pos (leN (Nat.le_refl _) (by omega))]
    obtain ⟨okn, okh⟩ := tuS_ok hT K h9 n i n hn
    have h0 := K.2.2.2.1
    have ah : gA g 8 0 31 1 = (tuS T S n i n).2 12 := s.2.2.2.1.2.2.2 12 (by omega) (by omega)
    have hnn : 0 ≤ (tuS T S n i n).2 12 := Int32.le_iff_toInt_le.mpr okn.2.2.2.2.2.2.1.1
    have fk : f_X8_unlikeForked N g = some (tuU T S n i) := m_unlikeForked hN s hc0 (fun c hc => by
      obtain ⟨a, b⟩ := okn.2.2.2.2.2.2.2 c hc
      rw [if_neg (Nat.not_lt_zero c)] at b
      exact ⟨a, by omega⟩)
    rw [fk, bind_s]
    simp only [jn_e, lt_e, grd_p (show inb 1 2 by decide), show (1 : Int32).toNatClampNeg = 1 from rfl, ah, nI_1, w.1]
    -- taken
    have take : tuB T S n (i + 1) = ((tuS T S n i n).2 12, tuU T S n i, i) → ∃ x, iter (fun _ _ => none) (f_X8_layTurns_166 N (nI n) (nI i) (tuU T S n i) (fun v11 h12 => r9 v11 (nI (i + 1)) h12)) N 0 (sI g 8 0 71 ((tuS T S n i n).2 12)) = some x ∧ R x := by
      intro ep
      have f1 : F8 g (sI g 8 0 71 ((tuS T S n i n).2 12)) := F8.i g _ (by decide)
      refine m_rowLoopT hN hT hc0 hn (show i < 729 by omega) _ _ (sI g 8 0 71 ((tuS T S n i n).2 12)) (show gI g 8 0 13 = nI (nCr T) from ra.2.2.1.2.1.symm.trans hT.2.1.1) R (fun g' f' q a => ?_)
      have o := out g' (f.tr (f1.tr f')) (ra.f8 (f1.tr f')) ?_ ⟨?_, fun _ k hk => by rw [ep]; exact a k hk⟩
      · rw [ep] at o; exact o
      · unfold gZ
        rw [q, I_at, if_neg (by decide)]
        exact p64
      · rw [q, I_at, if_pos rfl, ep]
    have keep : tuB T S n (i + 1) = tuB T S n i → 0 < i → ∃ x, r9 (tuB T S n i).2.1 (nI (i + 1)) g = some x ∧ R x := by
      intro ep hi
      have o := out g f ra p64 ⟨by rw [ep]; exact w.1, fun _ k hk => by rw [ep]; exact w.2 hi k hk⟩
      rw [ep] at o
      exact o
    have nn : ∀ j, 0 < j → 0 ≤ (tuB T S n j).1 := by
      intro j
      induction j with
      | zero => exact fun q => absurd q (by omega)
      | succ j ihj =>
        intro _
        have hj := (tuS_ok hT K h9 n j n hn).1.2.2.2.2.2.2.1.1
        have hj' : 0 ≤ (tuS T S n j n).2 12 := Int32.le_iff_toInt_le.mpr hj
        rw [tuB_s]
        by_cases q : (tuB T S n j).1 < (tuS T S n j n).2 12 ∨ ((tuS T S n j n).2 12 = (tuB T S n j).1 ∧ tuU T S n j < (tuB T S n j).2.1)
        · rw [if_pos q]; exact hj'
        · rw [if_neg q]
          cases j with
          | zero =>
            refine absurd (Or.inl ?_) q
            have z1 : (-1 : Int32).toInt = -1 := rfl
            show (-1 : Int32) < _
            exact Int32.lt_iff_toInt_lt.mpr (by omega)
          | succ j => exact ihj (by omega)
    by_cases y : (tuB T S n i).1 < 0
    · rw [if_pos y]
      exact take (by rw [tuB_s, if_pos (Or.inl (Int32.lt_of_lt_of_le y hnn))])
    rw [if_neg y]
    have i0 : 0 < i := by
      cases i with
      | zero => exact absurd (show (-1 : Int32) < 0 by decide) y
      | succ i => omega
    by_cases v : (tuS T S n i n).2 12 < (tuB T S n i).1
    · rw [if_pos v]
      refine keep ?_ i0
      rw [tuB_s, if_neg]
      rintro (q | q)
      · exact absurd (Int32.lt_trans q v) (Int32.lt_irrefl)
      · rw [q.1] at v; exact absurd v (Int32.lt_irrefl)
    rw [if_neg v]
    by_cases u : (tuS T S n i n).2 12 = (tuB T S n i).1
    · rw [if_neg (fun q => q u)]
      by_cases x : tuU T S n i < (tuB T S n i).2.1
      · rw [if_pos x]
        exact take (by rw [tuB_s, if_pos (Or.inr ⟨u, x⟩)])
      · rw [if_neg x]
        refine keep ?_ i0
        rw [tuB_s, if_neg]
        rintro (q | q)
        · rw [u] at q; exact absurd q (Int32.lt_irrefl)
        · exact x q.2
    · rw [if_pos u]
      refine take ?_
      rw [tuB_s, if_pos (Or.inl ?_)]
      rcases Int32.lt_or_eq_of_le (Int32.not_lt.mp v) with q | q
      · exact q
      · exact absurd q.symm u
  · rw [if_neg (nleN (show k < n by omega) (show n < 2 ^ 31 by omega))]
    refine m_turnHour hN hc0 hn (by omega) (show k < n by omega) s ra.rule ((tuS_ok hT K h9 n i k (by omega)).1.fa _ _) r R (fun g2 f3 i3 a3 s2 => ?_)
    refine ih (k + 1) g2 (by omega) (by omega) (f.tr f3) (ra.f8 f3) ?_ s2 ⟨by rw [i3 71 (by decide)]; exact w.1, fun hi k hk => ?_⟩
    · unfold gZ
      rw [i3 64 (by decide)]
      exact p64
    · rw [a3 34 (by decide)]
      exact w.2 hi k hk
theorem m_layTurns (hN : 1000 ≤ N) (r : R8a g T S) (K : SOK T 0 S) (h9 : (S.2 11).toInt ≤ 9999) (p64 : gZ g 8 0 64 = false) {n : Nat} (hc0 : 0 < nCr T) (hn : n ≤ 4) : ∃ g', f_X8_layTurns N g (nI n) = some g' ∧ F8 g g' ∧ gZ g' 8 0 64 = false ∧ RowT T S n (nCr T ^ n) g' := by
  have hT := r.1
  have hc4 := hT.2.1.2
  have h36 : nCr T ^ n ≤ 256 := pw_le hc4 hn
  have f0 : F8 g (sI g 8 0 71 (-1)) := F8.i g _ (by decide)
  unfold f_X8_layTurns
  rw [lt_e]
  refine iter_inv (bot := fun _ _ _ => none) (b := f_X8_layTurns_9 N (nI n)) (fun m q => ∀ i g1, i ≤ nCr T ^ n → nCr T ^ n < m + i → F8 g g1 → R8a g1 T S → gZ g1 8 0 64 = false → RowT T S n i g1 → ∃ g', q (tuB T S n i).2.1 (nI i) g1 = some g' ∧ F8 g g' ∧ gZ g' 8 0 64 = false ∧ RowT T S n (nCr T ^ n) g') (fun i _ _ _ => by omega) (fun m q ih i g1 hi hm f ra z64 w => ?_) N 0 _ (Nat.zero_le _) (by omega) f0 (r.f8 f0) p64 ⟨by rw [I_at, if_pos rfl]; rfl, fun q => absurd q (by omega)⟩
  unfold f_X8_layTurns_9
  rw [show gI g1 8 0 13 = nI (nCr T) from ra.2.2.1.2.1.symm.trans hT.2.1.1, m_power hN (nCr T) n (by omega), bind_s]
  by_cases z : nCr T ^ n = i
  · rw [if_pos (leN (by omega) (by omega)), z]
    exact ⟨g1, rfl, f, z64, w⟩
  · rw [if_neg (nleN (show i < nCr T ^ n by omega) (by omega))]
    obtain ⟨g2, e2, f2, p2, s2, u2, r2⟩ := m_lay hN ra
    obtain ⟨f3, s3⟩ := s2.allCame p2
    have l2 := lay_lf e2
    rw [e2, bind_s, lt_e]
    refine m_turnIn hN hT K h9 hc0 hn (by omega) q _ (fun g' f' r' z' w' => ih (i + 1) g' (by omega) (by omega) f' r' z' w') (f.tr (f2.tr f3)) (r2.f8 f3) ?_ s3 ⟨?_, fun hi k hk => ?_⟩
    · unfold gZ sZ
      rw [I_at, if_neg (by decide)]
      exact p2.2.1
    · unfold sZ
      rw [I_at, if_neg (by decide), l2.1 71 (by omega)]
      exact w.1
    · show gA g2 8 0 34 k = _
      rw [l2.2 34 (by omega)]
      exact w.2 hi k hk
theorem m_turns (hN : 1000 ≤ N) (r : R8a g T S) (K : SOK T 0 S) (h9 : (S.2 11).toInt ≤ 9999) (p64 : gZ g 8 0 64 = false) (n : Int32) : ∃ g', f_X8_turns N g n = some (trsM T S n, g') ∧ F8 g g' ∧ gZ g' 8 0 64 = false := by
  have f0 : F8 g (sI g 8 0 2 0) := F8.i g 0 (by decide)
  have r0 := r.f8 f0
  have hT := r.1
  have e12 : gI (sI g 8 0 2 0) 8 0 13 = T.2.1 12 := r0.2.2.1.2.1.symm
  unfold f_X8_turns trsM
  simp only [jn_e, lt_e, m_isIn, bind_s, b2i0, decide_eq_false_iff_not, e12]
  by_cases w : 1 ≤ n ∧ n ≤ 4
  rotate_left
  · rw [if_pos w, if_neg (fun q => w q.1)]; exact ⟨_, rfl, f0, p64⟩
  rw [if_neg (fun q => q w)]
  by_cases y : 0 < nCr T
  rotate_left
  · rw [if_neg (fun q => q ((cr_pos hT).2.mpr y)), if_neg (fun q => y q.2)]; exact ⟨_, rfl, f0, p64⟩
  rw [if_pos (fun q => (cr_pos hT).2.mp q y), if_pos ⟨w, y⟩]
  obtain ⟨k, hk, rfl⟩ := rngN (a := n) (m := 4) (by omega) (Int32.le_trans (by decide) w.1) w.2
  obtain ⟨g', e, f, z, b⟩ := m_layTurns hN r0 K h9 p64 y hk
  rw [e, bind_s, b.1, clN (show k < 2 ^ 31 by omega)]
  exact ⟨g', rfl, f0.tr f, z⟩
theorem m_turn (hN : 1000 ≤ N) (r : R8a g T S) (K : SOK T 0 S) (h9 : (S.2 11).toInt ≤ 9999) (p64 : gZ g 8 0 64 = false) (n p : Int32) : ∃ g', f_X8_turn N g n p = some (trnM T S n p, g') ∧ F8 g g' ∧ gZ g' 8 0 64 = false := by
  have f0 : F8 g (sI g 8 0 2 0) := F8.i g 0 (by decide)
  have r0 := r.f8 f0
  have hT := r.1
  have e12 : gI (sI g 8 0 2 0) 8 0 13 = T.2.1 12 := r0.2.2.1.2.1.symm
  unfold f_X8_turn trnM
  simp only [jn_e, lt_e, m_isIn, bind_s, b2i0, decide_eq_false_iff_not, e12]
  by_cases w : 1 ≤ n ∧ n ≤ 4
  rotate_left
  · rw [if_pos w, if_neg (fun q => w q.1.1)]; exact ⟨_, rfl, f0, p64⟩
  rw [if_neg (fun q => q w)]
  by_cases y : 0 < nCr T
  rotate_left
  · rw [if_pos ((cr_pos hT).2.mpr y), if_neg (fun q => y q.1.2)]; exact ⟨_, rfl, f0, p64⟩
  rw [if_neg (fun q => (cr_pos hT).2.mp q y)]
  by_cases x : 0 ≤ p
  rotate_left
  · rw [if_neg x, if_neg (fun q => x q.2)]; exact ⟨_, rfl, f0, p64⟩
  rw [if_pos x, if_pos (show ((1 ≤ n ∧ n ≤ 4) ∧ 0 < nCr T) ∧ 0 ≤ p from ⟨⟨w, y⟩, x⟩)]
  by_cases z : p < n
  rotate_left
  · rw [if_neg z, if_neg z]; exact ⟨_, rfl, f0, p64⟩
  rw [if_pos z, if_pos z]
  obtain ⟨k, hk, rfl⟩ := rngN (a := n) (m := 4) (by omega) (Int32.le_trans (by decide) w.1) w.2
  obtain ⟨j, hj, rfl⟩ := ltN (a := p) (m := k) (by omega) x z
  obtain ⟨g', e, f, z, b⟩ := m_layTurns hN r0 K h9 p64 y hk
  have h30 : 0 < nCr T ^ k := Nat.pow_pos y
  rw [e, bind_s, clN (show k < 2 ^ 31 by omega), grd_p (inb_n (show j < 6 by omega) (show 6 < 2 ^ 31 by omega))]
  simp only [clN (show j < 2 ^ 31 by omega), b.2 h30 j hj]
  exact ⟨g', rfl, f0.tr f, z⟩
end MTurns
