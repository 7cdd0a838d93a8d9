-- PURE: the best rule
def bsM (T : Txt) (S : Str) (n : Nat) : Nat → Int32 × Int32
  | 0 => (0, -1)
  | j + 1 => if (bsM T S n j).2 < sumM ((passN T (rlM S (nI j)) n).1 6) (nCr T) then (nI j, sumM ((passN T (rlM S (nI j)) n).1 6) (nCr T)) else bsM T S n j
theorem bsM_s (T : Txt) (S : Str) (n j : Nat) : bsM T S n (j + 1) = if (bsM T S n j).2 < sumM ((passN T (rlM S (nI j)) n).1 6) (nCr T) then (nI j, sumM ((passN T (rlM S (nI j)) n).1 6) (nCr T)) else bsM T S n j := rfl
section Best
variable {N : Nat} {h g : Hp} {t : Nat} {T : Txt} {S I : Str} {X : Xs}
theorem cl_best (hN : 1000 ≤ N) (r : RC h t T S I X) (hz : S.2 16 = 1) (p : Int32) : ∃ g, f_X7_best N h p = some (if 0 ≤ p ∧ p ≤ 99 then (bsM T S p.toNatClampNeg 3).1 else -1, g) ∧ Fr h g := by
  unfold f_X7_best
  simp only [cl_isIn, bind_s, b2i0, decide_eq_false_iff_not, Classical.not_not]
  by_cases w : 0 ≤ p ∧ p ≤ 99
  rotate_left
  · rw [if_neg w, if_neg w]; exact ⟨h, rfl, Fr.rf h⟩
  rw [if_pos w, if_pos w]
  obtain ⟨n, hn, rfl⟩ := rngN (m := 99) (by omega) w.1 w.2
  rw [clN (show n < 2 ^ 31 by omega)]
  refine iter_inv (bot := fun _ _ _ _ => none) (b := f_X7_best_19 N (nI n)) (fun m r' => ∀ j g, j ≤ 3 → 3 < m + j → Fr h g → Sd g 1 t T S → ∃ g', r' (bsM T S n j).1 (bsM T S n j).2 (nI j) g = some ((bsM T S n 3).1, g') ∧ Fr h g') (fun j _ _ _ => by omega) (fun m r' ih j g hj hm f d => ?_) N 0 h (by omega) (by omega) (Fr.rf h) r.sd
  unfold f_X7_best_19
  by_cases z : j = 3
  · subst z
    rw [if_pos (show (2 : Int32) < nI 3 by decide)]
    exact ⟨g, rfl, f⟩
  · have h2 : ¬ (2 : Int32) < nI j := by
      rcases (show j = 0 ∨ j = 1 ∨ j = 2 by omega) with rfl | rfl | rfl <;> decide
    rw [if_neg h2]
    obtain ⟨g2, e2, f2, d2, d1⟩ := cl_ruledBy hN d (Or.inr hz) (nI j) (n := n) (by omega)
    rw [e2, bd2_s, d2.gains hN]
    simp only [bind_s, jn_e, lt_e, nI_1]
    have nx := ih (j + 1) g2 (by omega) (by omega) (f.tr f2) d1
    rw [bsM_s] at nx
    by_cases y : sumM ((passN T (rlM S (nI j)) n).1 6) (nCr T) ≤ (bsM T S n j).2
    · rw [if_pos y]
      rw [if_neg (Int32.not_lt.mpr y)] at nx
      exact nx
    · rw [if_neg y]
      rw [if_pos (Int32.not_le.mp y)] at nx
      exact nx
theorem m_best (hN : 1000 ≤ N) (r : R8a g T S) (K : SOK T 0 S) (hh : (S.2 11).toInt ≤ 4000000) (p64 : gZ g 8 0 64 = false) (p : Int32) : ∃ g', f_X8_best N g p = some (if 0 ≤ p ∧ p ≤ 99 then (bsM T S p.toNatClampNeg 3).1 else -1, g') ∧ F8 g g' ∧ gZ g' 8 0 64 = false := by
  have f0 : F8 g (sI g 8 0 2 0) := F8.i g 0 (by decide)
  unfold f_X8_best
  simp only [lt_e, m_isIn, bind_s, b2i0, decide_eq_false_iff_not, Classical.not_not]
  by_cases w : 0 ≤ p ∧ p ≤ 99
  rotate_left
  · rw [if_neg w, if_neg w]; exact ⟨_, rfl, f0, p64⟩
  rw [if_pos w, if_pos w]
  obtain ⟨n, hn, rfl⟩ := rngN (m := 99) (by omega) w.1 w.2
  rw [clN (show n < 2 ^ 31 by omega)]
  refine iter_inv (bot := fun _ _ _ _ => none) (b := f_X8_best_24 N (nI n)) (fun m r' => ∀ j g2, j ≤ 3 → 3 < m + j → F8 g g2 → gZ g2 8 0 64 = false → ∃ g', r' (bsM T S n j).1 (bsM T S n j).2 (nI j) g2 = some ((bsM T S n 3).1, g') ∧ F8 g g' ∧ gZ g' 8 0 64 = false) (fun j _ _ _ => by omega) (fun m r' ih j g2 hj hm f z64 => ?_) N 0 _ (by omega) (by omega) f0 p64
  unfold f_X8_best_24
  by_cases z : j = 3
  · subst z
    rw [if_pos (show (3 : Int32) ≤ nI 3 by decide)]
    exact ⟨g2, rfl, f, z64⟩
  · rw [if_neg (show ¬ (3 : Int32) ≤ nI j from nleN (a := 3) (show j < 3 by omega) (by omega))]
    obtain ⟨g3, e3, f3, p3, s1, -⟩ := m_layRule hN (r.f8 f) K hh (nI j) (n := n) (by omega)
    have b1 : f_X8_gains N g3 1 = _ := s1.gains hN (by decide)
    rw [e3, bind_s, b1]
    simp only [bind_s, jn_e, lt_e, nI_1]
    have nx := ih (j + 1) g3 (by omega) (by omega) (f.tr f3) p3.2.1
    rw [bsM_s] at nx
    by_cases y : (bsM T S n j).2 < sumM ((passN T (rlM S (nI j)) n).1 6) (nCr T)
    · rw [if_pos y] at nx ⊢
      exact nx
    · rw [if_neg y] at nx ⊢
      exact nx
end Best
