-- PURE: a rule tried by the reference, whole; the table
theorem m_isIn (a l m : Int32) : f_X8_isIn a l m = some (decide (l ≤ a ∧ a ≤ m)) := by
  unfold f_X8_isIn
  simp only [jn_e]
  by_cases z : a < l
  · simp [z, Int32.not_le.mpr z]
  have z' := Int32.not_lt.mp z
  by_cases w : m < a
  · simp [z, w, Int32.not_le.mpr w]
  · have w' := Int32.not_lt.mp w
    simp [z, w, z', w']
section MTable
variable {N : Nat} {g : Hp} {T : Txt} {S : Str}
theorem z5_k (S : Str) : ∀ n, (z5 S n).2 = S.2 ∧ ∀ k, k ≠ 5 → (z5 S n).1 k = S.1 k
  | 0 => ⟨rfl, fun _ _ => rfl⟩
  | n + 1 => ⟨(z5_k S n).1, fun k hk => (upA_n _ n 0 hk).trans ((z5_k S n).2 k hk)⟩
theorem SOK.setr {n : Nat} (K : SOK T n S) (v : Int32) : SOK T n (upI S 14 v) := K.num v (by decide)
theorem SOK.act0 {n : Nat} (K : SOK T n S) {j : Nat} {v : Int32} (hv : v = 0 ∨ v = 1 ∨ v = 2 ∨ v = 3) : SOK T n (upA S 5 j v) := by
  obtain ⟨a, c, d, e1, e2, e3, e4, e5⟩ := K
  refine ⟨fun s hs => ?_, fun q hq => ?_, fun f hf => ?_, e1, e2, e3, e4, fun q hq => ?_⟩
  · rw [upA_n S j v (show (0 : Nat) ≠ 5 by decide)]; exact a s hs
  · rw [upA_n S j v (show (2 : Nat) ≠ 5 by decide), upA_n S j v (show (3 : Nat) ≠ 5 by decide), upA_at]
    obtain ⟨c1, c2, c3, c4, c5⟩ := c q hq
    refine ⟨c1, c2, c3, c4, ?_⟩
    by_cases z : q = j
    · rw [if_pos z]; exact hv
    · rw [if_neg z]; exact c5
  · rw [upA_n S j v (show (9 : Nat) ≠ 5 by decide)]; exact d f hf
  · rw [upA_n S j v (show (7 : Nat) ≠ 5 by decide)]; exact e5 q hq
theorem SOK.zz {n : Nat} (K : SOK T n S) : ∀ j, SOK T n (z5 S j)
  | 0 => K
  | j + 1 => (SOK.zz K j).act0 (Or.inl rfl)
end MTable
section MTable2
variable {N : Nat} {g : Hp} {T : Txt} {S : Str}
theorem m_layRule (hN : 1000 ≤ N) (r : R8a g T S) (K : SOK T 0 S) (hh : (S.2 11).toInt ≤ 4000000) (ru : Int32) {n : Nat} (hn : n < 900) : ∃ g', f_X8_layRule N g ru (nI n) = some g' ∧ F8 g g' ∧ Plain g' ∧ Sm g' 1 ru T (passN T (rlM S ru) n) ∧ Sm g' 0 ru T (upI S 14 ru) := by
  obtain ⟨hT, R, X, q, h49⟩ := r
  obtain ⟨g1, e1, l1⟩ := m_layTried hN g
  have f1 := l1.1
  have p1 := l1.2.2.1
  have h49' : N49 g1 := f1.2.2.1.2.2 h49
  have s1 : Sm g1 1 ru T (upI S 14 ru) := ⟨hT, R, f1.mt X, (v8_b8 hT p1 1 ru).tr (((b8_lay hT l1).tr q).upI 14 ru), h49'⟩
  obtain ⟨g2, e2, f2, s2, i2⟩ := m_z5 hN hn s1 ((K.setr ru).zz 4) (by rw [(z5_k (upI S 14 ru) 4).1, upI_n S ru (show (11 : Nat) ≠ 14 by decide)]; exact hh)
  have p2 : Plain g2 := by
    obtain ⟨a, b, c, d⟩ := p1
    unfold Plain gZ
    rw [i2 63 (by decide), i2 64 (by decide), i2 65 (by decide), i2 66 (by decide)]
    exact ⟨a, b, c, d⟩
  refine ⟨g2, ?_, f1.tr f2, p2, s2, ?_⟩
  · unfold f_X8_layRule
    rw [e1, bind_s]
    exact e2
  · have f := f1.tr f2
    exact Sm.of ⟨hT, R, f.mt X, (b8_F8 hT f).tr q, s2.2.2.2.2⟩ p2
end MTable2
