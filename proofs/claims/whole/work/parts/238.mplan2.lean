-- PURE: plan and planned by the reference
section MPlan
variable {N : Nat} {g : Hp} {T : Txt} {S : Str}
theorem m_plan (hN : 1000 ≤ N) (r : R8a g T S) (K : SOK T 0 S) (hh : (S.2 11).toInt ≤ 4000000) (p64 : gZ g 8 0 64 = false) (c n : Int32) : ∃ g', f_X8_plan N g c n = some (plnM T S c n, g') ∧ F8 g g' ∧ gZ g' 8 0 64 = false := by
  have f0 : F8 g (sI g 8 0 2 0) := F8.i g 0 (by decide)
  have r0 := r.f8 f0
  have hT := r.1
  have hc4 := hT.2.1.2
  unfold f_X8_plan plnM
  simp only [jn_e, lt_e, m_isCroft r0.2.2.1.2.1, m_isIn, bind_s, b2i0, decide_eq_false_iff_not, Classical.not_not]
  cases hc : inC T c with
  | false => rw [if_pos rfl, if_neg (fun q => Bool.noConfusion q.1)]; exact ⟨_, rfl, f0, p64⟩
  | true =>
    rw [if_neg (fun q => Bool.noConfusion q)]
    by_cases w : 1 ≤ n ∧ n ≤ 6
    rotate_left
    · rw [if_neg w, if_neg (fun q => w q.2)]; exact ⟨_, rfl, f0, p64⟩
    rw [if_pos w, if_pos (show true = true ∧ 1 ≤ n ∧ n ≤ 6 from ⟨rfl, w⟩)]
    obtain ⟨i, hi, rfl⟩ := inC_of hT hc
    obtain ⟨k, hk, rfl⟩ := rngN (a := n) (m := 6) (by omega) (Int32.le_trans (by decide) w.1) w.2
    obtain ⟨g', e, f, z, b⟩ := m_layPlan hN r0 K hh p64 hi hk
    rw [e, bind_s, b.1, clN (show i < 2 ^ 31 by omega), clN (show k < 2 ^ 31 by omega)]
    exact ⟨g', rfl, f0.tr f, z⟩
theorem m_planned (hN : 1000 ≤ N) (r : R8a g T S) (K : SOK T 0 S) (hh : (S.2 11).toInt ≤ 4000000) (p64 : gZ g 8 0 64 = false) (c n p : Int32) : ∃ g', f_X8_planned N g c n p = some (pldM T S c n p, g') ∧ F8 g g' ∧ gZ g' 8 0 64 = false := by
  have f0 : F8 g (sI g 8 0 2 0) := F8.i g 0 (by decide)
  have r0 := r.f8 f0
  have hT := r.1
  have hc4 := hT.2.1.2
  unfold f_X8_planned pldM
  simp only [jn_e, lt_e, m_isCroft r0.2.2.1.2.1, m_isIn, bind_s, b2i0, decide_eq_false_iff_not]
  cases hc : inC T c with
  | false => rw [if_pos rfl, if_neg (fun q => Bool.noConfusion q.1.1)]; exact ⟨_, rfl, f0, p64⟩
  | true =>
    rw [if_neg (fun q => Bool.noConfusion q)]
    by_cases w : 1 ≤ n ∧ n ≤ 6
    rotate_left
    · rw [if_pos w, if_neg (fun q => w q.1.2)]; exact ⟨_, rfl, f0, p64⟩
    rw [if_neg (fun q => q w)]
    by_cases y : 0 ≤ p
    rotate_left
    · rw [if_neg y, if_neg (fun q => y q.2)]; exact ⟨_, rfl, f0, p64⟩
    rw [if_pos y, if_pos (show (true = true ∧ 1 ≤ n ∧ n ≤ 6) ∧ 0 ≤ p from ⟨⟨rfl, w⟩, y⟩)]
    by_cases z : p < n
    rotate_left
    · rw [if_neg z, if_neg z]; exact ⟨_, rfl, f0, p64⟩
    rw [if_pos z, if_pos z]
    obtain ⟨i, hi, rfl⟩ := inC_of hT hc
    obtain ⟨k, hk, rfl⟩ := rngN (a := n) (m := 6) (by omega) (Int32.le_trans (by decide) w.1) w.2
    obtain ⟨j, hj, rfl⟩ := ltN (a := p) (m := k) (by omega) y z
    obtain ⟨g', e, f, z, b⟩ := m_layPlan hN r0 K hh p64 hi hk
    have h30 : 0 < 3 ^ k := Nat.pow_pos (by omega)
    rw [e, bind_s, clN (show i < 2 ^ 31 by omega), clN (show k < 2 ^ 31 by omega), grd_p (inb_n (show j < 6 by omega) (show 6 < 2 ^ 31 by omega))]
    simp only [clN (show j < 2 ^ 31 by omega), b.2 h30 j hj]
    exact ⟨g', rfl, f0.tr f, z⟩
end MPlan
