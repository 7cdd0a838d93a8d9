-- PURE: a rule tried by the reference, whole; the table
theorem m_isIn (a l m : Int32) : f_X8_isIn a l m = some (decide (l ≤ a ∧ a ≤ m)) := by
  unfold f_X8_isIn
  simp only [jn_e]
  by_cases z : a < l
  · simp [z, Int32.not_le.mpr z]
  have z' := Int32.not_lt.mp z
  by_cases w : m < a
  · simp [z, w, Int32.not_le.mpr w]
  · have w' := Int32.not_lt.mp w
    simp [z, w, z', w']
section MTable
variable {N : Nat} {g : Hp} {T : Txt} {S : Str}
theorem z5_k (S : Str) : ∀ n, (z5 S n).2 = S.2 ∧ ∀ k, k ≠ 5 → (z5 S n).1 k = S.1 k
  | 0 => ⟨rfl, fun _ _ => rfl⟩
  | n + 1 => ⟨(z5_k S n).1, fun k hk => (upA_n _ n 0 hk).trans ((z5_k S n).2 k hk)⟩
theorem SOK.setr {n : Nat} (K : SOK T n S) (v : Int32) : SOK T n (upI S 14 v) := K.num v (by decide)
theorem SOK.act0 {n : Nat} (K : SOK T n S) {j : Nat} {v : Int32} (hv : v = 0 ∨ v = 1 ∨ v = 2 ∨ v = 3) : SOK T n (upA S 5 j v) := by
  obtain ⟨a, c, d, e1, e2, e3, e4, e5⟩ := K
  refine ⟨fun s hs => ?_, fun q hq => ?_, fun f hf => ?_, e1, e2, e3, e4, fun q hq => ?_⟩
  · rw [upA_n S j v (show (0 : Nat) ≠ 5 by decide)]; exact a s hs
  · rw [upA_n S j v (show (2 : Nat) ≠ 5 by decide), upA_n S j v (show (3 : Nat) ≠ 5 by decide), upA_at]
    obtain ⟨c1, c2, c3, c4, c5⟩ := c q hq
    refine ⟨c1, c2, c3, c4, ?_⟩
    by_cases z : q = j
    · rw [if_pos z]; exact hv
    · rw [if_neg z]; exact c5
  · rw [upA_n S j v (show (9 : Nat) ≠ 5 by decide)]; exact d f hf
  · rw [upA_n S j v (show (7 : Nat) ≠ 5 by decide)]; exact e5 q hq
theorem SOK.zz {n : Nat} (K : SOK T n S) : ∀ j, SOK T n (z5 S j)
  | 0 => K
  | j + 1 => (SOK.zz K j).act0 (Or.inl rfl)
end MTable
section MTable2
variable {N : Nat} {g : Hp} {T : Txt} {S : Str}
theorem m_layRule (hN : 1000 ≤ N) (r : R8a g T S) (K : SOK T 0 S) (hh : (S.2 11).toInt ≤ 4000000) (ru : Int32) {n : Nat} (hn : n < 900) : ∃ g', f_X8_layRule N g ru (nI n) = some g' ∧ F8 g g' ∧ Plain g' ∧ Sm g' 1 ru T (passN T (rlM S ru) n) ∧ Sm g' 0 ru T (upI S 14 ru) := by
  obtain ⟨hT, R, X, q, h49⟩ := r
  obtain ⟨g1, e1, l1⟩ := m_layTried hN g
  have f1 := l1.1
  have p1 := l1.2.2.1
  have h49' : N49 g1 := f1.2.2.1.2.2 h49
  have s1 : Sm g1 1 ru T (upI S 14 ru) := ⟨hT, R, f1.mt X, (v8_b8 hT p1 1 ru).tr (((b8_lay hT l1).tr q).upI 14 ru), h49'⟩
  obtain ⟨g2, e2, f2, s2, i2⟩ := m_z5 hN hn s1 ((K.setr ru).zz 4) (by rw [(z5_k (upI S 14 ru) 4).1, upI_n S ru (show (11 : Nat) ≠ 14 by decide)]; exact hh)
  have p2 : Plain g2 := by
    obtain ⟨a, b, c, d⟩ := p1
    unfold Plain gZ
    rw [i2 63 (by decide), i2 64 (by decide), i2 65 (by decide), i2 66 (by decide)]
    exact ⟨a, b, c, d⟩
  refine ⟨g2, ?_, f1.tr f2, p2, s2, ?_⟩
  · unfold f_X8_layRule
    rw [e1, bind_s]
    exact e2
  · have f := f1.tr f2
    exact Sm.of ⟨hT, R, f.mt X, (b8_F8 hT f).tr q, s2.2.2.2.2⟩ p2
end MTable2
section MTable3
variable {N : Nat} {g : Hp} {T : Txt} {S : Str}
theorem R8a.f8 {g' : Hp} (r : R8a g T S) (f : F8 g g') : R8a g' T S := by
  obtain ⟨hT, R, X, q, h49⟩ := r
  exact ⟨hT, R, f.mt X, (b8_F8 hT f).tr q, f.2.2.1.2.2 h49⟩
theorem m_table (hN : 1000 ≤ N) (r : R8a g T S) (K : SOK T 0 S) (hh : (S.2 11).toInt ≤ 4000000) (p64 : gZ g 8 0 64 = false) (p1 p2 p3 : Int32) : ∃ g', f_X8_table N g p1 p2 p3 = some (if (0 ≤ p1 ∧ p1 ≤ 2) ∧ 0 ≤ p2 ∧ p2 ≤ 99 then tabM T S p1 p2.toNatClampNeg p3 else -1, g') ∧ F8 g g' ∧ gZ g' 8 0 64 = false := by
  have f0 : F8 g (sI g 8 0 2 0) := F8.i g 0 (by decide)
  have r1 := r.f8 f0
  unfold f_X8_table
  simp only [lt_e, jn_e, m_isIn, bind_s, b2i0, decide_eq_false_iff_not, Classical.not_not]
  by_cases z : 0 ≤ p1 ∧ p1 ≤ 2
  rotate_left
  · rw [if_pos z, if_neg (fun q => z q.1)]
    exact ⟨_, rfl, f0, p64⟩
  rw [if_neg (fun q => q z)]
  by_cases w : 0 ≤ p2 ∧ p2 ≤ 99
  rotate_left
  · rw [if_pos w, if_neg (fun q => w q.2)]
    exact ⟨_, rfl, f0, p64⟩
  rw [if_neg (fun q => q w), if_pos (show (0 ≤ p1 ∧ p1 ≤ 2) ∧ 0 ≤ p2 ∧ p2 ≤ 99 from ⟨z, w⟩)]
  obtain ⟨n, hn, rfl⟩ := rngN (m := 99) (by omega) w.1 w.2
  rw [clN (show n < 2 ^ 31 by omega)]
  by_cases y : 0 ≤ p3 ∧ p3 ≤ 3
  rotate_left
  · rw [if_neg y]
    refine ⟨_, ?_, f0, p64⟩
    unfold tabM
    rw [if_neg (fun q => y (by rw [q]; decide)), if_neg (fun q => y (by rw [q]; decide)), if_neg (fun q => y (by rw [q]; decide)), if_neg (fun q => y (by rw [q]; decide))]
  rw [if_pos y]
  obtain ⟨g', e, f, p, s1, s0⟩ := m_layRule hN r1 K hh p1 (n := n) (by omega)
  rw [e, bind_s]
  have a1 := s1.gotAll hN (by decide)
  have a0 := s0.gotAll hN (by decide)
  have b1 := s1.gains hN (by decide)
  have b0 := s0.gains hN (by decide)
  have c1 : gA g' 8 0 31 1 = (passN T (rlM S p1) n).2 12 := s1.2.2.2.1.2.2.2 12 (by omega) (by omega)
  have d1 : gA g' 8 0 32 1 = (passN T (rlM S p1) n).2 13 := s1.2.2.2.1.2.2.2 13 (by omega) (by omega)
  have d0 : gA g' 8 0 32 0 = S.2 13 := (s0.2.2.2.1.2.2.2 13 (by omega) (by omega)).trans (upI_n S p1 (show (13 : Nat) ≠ 14 by decide))
  have a1' : f_X8_gotAll N g' 1 = _ := a1
  have a0' : f_X8_gotAll N g' 0 = _ := a0
  have b1' : f_X8_gains N g' 1 = _ := b1
  have b0' : f_X8_gains N g' 0 = _ := b0
  simp only [z7, a1', a0', b1', b0', bind_s, c1, d1, d0, grd_p (show inb 0 2 by decide), grd_p (show inb 1 2 by decide)]
  refine ⟨g', ?_, f0.tr f, p.2.1⟩
  unfold tabM
  by_cases q0 : p3 = 0
  · rw [if_neg (fun q => q q0), if_pos q0]; rfl
  rw [if_pos q0, if_neg q0]
  by_cases q1 : p3 = 1
  · rw [if_neg (fun q => q q1), if_pos q1]
  rw [if_pos q1, if_neg q1]
  by_cases q2 : p3 = 2
  · rw [if_neg (fun q => q q2), if_pos q2]
  rw [if_pos q2, if_neg q2]
  have q3 : p3 = 3 := by
    obtain ⟨k, hk, rfl⟩ := rngN (m := 3) (by omega) y.1 y.2
    rcases (show k = 0 ∨ k = 1 ∨ k = 2 ∨ k = 3 by omega) with rfl | rfl | rfl | rfl
    · exact absurd rfl q0
    · exact absurd rfl q1
    · exact absurd rfl q2
    · rfl
  rw [if_pos q3]; rfl
end MTable3
