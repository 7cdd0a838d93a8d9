-- PURE: tried, by the reference
section MTried
variable {N : Nat} {g : Hp} {ru : Int32} {T : Txt} {S : Str}
theorem v8_at2 {g1 : Hp} {i : Nat} : (v8 g1 1 ru).1 2 i = gA g1 8 0 25 (4 * 1 + i) := rfl
theorem Sm.gains1 (hN : 1000 ≤ N) {g' : Hp} (s : Sm g 1 ru T S) (f : F8 g g') (e : gA g' 8 0 28 = gA g 8 0 28) : f_X8_gains N g' 1 = some (sumM (S.1 6) (nCr T)) := by
  have s' : Sm g' 1 ru T (v8 g' 1 ru) := ⟨s.1, s.2.1, f.mt s.2.2.1, Sq.rf T _, f.2.2.1.2.2 s.2.2.2.2⟩
  have x : f_X8_gains N g' 1 = some (sumM ((v8 g' 1 ru).1 6) (nCr T)) := s'.gains hN (by decide)
  rw [x, sumM_sq (nCr T) (fun i hi => ?_)]
  have := (s.2.2.2.1.2.1 i hi).2.2.2.2.1
  rw [← this]
  show gA g' 8 0 28 (4 * 1 + i) = gA g 8 0 28 (4 * 1 + i)
  rw [e]
/-- what stands behind the changes -/
theorem tried_end (hN : 1000 ≤ N) {g0 g' : Hp} {Q : Str} (f : F8 g0 g') (r : R8a g' T S) (s : Sm g' 1 (S.2 14) T Q) (KQ : SOK T 0 Q) (hh : (Q.2 11).toInt ≤ 4000000) (e61 : gI g' 8 0 61 = S.2 14) {n : Nat} (hn : n < 900) : ∃ g'', ((f_X8_goTried N g' (nI n) (gI g' 8 0 61)).bind fun h14 => (f_X8_plainTried h14).bind fun h15 => (f_X8_gains N h15 1).bind fun v16 => (f_X8_gains N h15 0).bind fun v17 => some ((v16 - v17), h15)) = some (sumM ((passN T Q n).1 6) (nCr T) - sumM (S.1 6) (nCr T), g'') ∧ F8 g0 g'' ∧ gZ g'' 8 0 64 = false := by
  obtain ⟨g2, e2, f2, s2⟩ := s.pass hN KQ hh hn
  obtain ⟨g3, e3, f3, p3, a3⟩ := m_plainTried g2
  have r3 := (r.f8 f2.f8).f8 f3
  have x0 : f_X8_gains N g3 0 = some (sumM ((upI S 14 (S.2 14)).1 6) (nCr T)) := (Sm.of (ru := S.2 14) r3 p3).gains hN (by decide)
  rw [e61, e2, bind_s, e3, bind_s, s2.gains1 hN f3 (a3 28), bind_s, x0, bind_s]
  exact ⟨g3, rfl, (f.tr f2.f8).tr f3, p3.2.1⟩
theorem Sm.eqv (s : Sm g 1 ru T S) {S' : Str} (q : Sq T S S') : Sm g 1 ru T S' := ⟨s.1, s.2.1, s.2.2.1, s.2.2.2.1.tr q, s.2.2.2.2⟩
theorem m_triedL (hN : 1000 ≤ N) {g0 g1 : Hp} (f : F8 g0 g1) (r : R8a g1 T S) (p : Plain g1) (e61 : gI g1 8 0 61 = S.2 14) (sq : Sq T (v8 g1 1 (S.2 14)) S) (K : SOK T 0 S) (hh : (S.2 11).toInt ≤ 4000000) (hz : S.2 16 = 1) (c5 : ∀ c, c < nCr T → (S.1 2 c).toInt ≤ 5) (what : Int32) {c : Nat} (hc : c < 4) {v : Int32} (hv : v = if what = 1 then nI c else -1) {n : Nat} (hn : n < 900) : ∃ g'', iter (fun _ _ => none) (f_X8_tried_94 N what (nI n)) N 0 (sZ (sI (sZ g1 8 0 63 (decide (what = 0))) 8 0 66 v) 8 0 64 (decide (what = 3))) = some (triM T S what c n, g'') ∧ F8 g0 g'' ∧ gZ g'' 8 0 64 = false := by
  have s0 : Sm g1 1 (S.2 14) T (v8 g1 1 (S.2 14)) := ⟨r.1, r.2.1, r.2.2.1, Sq.rf T _, r.2.2.2.2⟩
  obtain ⟨f2, s2⟩ := s0.flags p (decide (what = 0)) (decide (what = 3)) v
  have KQ := otM_SOK K c5 what c
  have hQ : ((otM T S what c).2 11).toInt ≤ 4000000 := by
    have : (otM T S what c).2 11 = S.2 11 := by
      show (otL (ot0 S what c) what (nCr T)).2 11 = _
      rw [(otL_o _ _ _).1, (ot0_o S what c).2.1 11 (by decide) (by decide)]
    rw [this]; exact hh
  have rsq := rfM_sq r.1 sq hz what hc hv
  -- behind the loop
  have fin : ∀ g', F8 g0 g' → R8a g' T S → gI g' 8 0 61 = S.2 14 → Sm g' 1 (S.2 14) T (if what = 2 then cuM (flM (v8 g1 1 (S.2 14)) (decide (what = 0)) (decide (what = 3)) v) 4 else flM (v8 g1 1 (S.2 14)) (decide (what = 0)) (decide (what = 3)) v) → ∃ g'', (if ¬ what = 4 then (f_X8_goTried N g' (nI n) (gI g' 8 0 61)).bind fun h14 => (f_X8_plainTried h14).bind fun h15 => (f_X8_gains N h15 1).bind fun v16 => (f_X8_gains N h15 0).bind fun v17 => some ((v16 - v17), h15) else (f_X8_goTried N (sA g' 8 0 31 1 0) (nI n) (gI (sA g' 8 0 31 1 0) 8 0 61)).bind fun h14 => (f_X8_plainTried h14).bind fun h15 => (f_X8_gains N h15 1).bind fun v16 => (f_X8_gains N h15 0).bind fun v17 => some ((v16 - v17), h15)) = some (triM T S what c n, g'') ∧ F8 g0 g'' ∧ gZ g'' 8 0 64 = false := by
    intro g' f' r' e' s'
    by_cases y4 : what = 4
    · rw [if_neg (fun q => q y4)]
      obtain ⟨f3, s3⟩ := s'.heap1 0
      have s4 : Sm (sA g' 8 0 31 1 0) 1 (S.2 14) T (otM T S what c) := s3.eqv (by unfold rfM at rsq; rw [if_pos y4] at rsq; exact rsq)
      exact tried_end hN (f'.tr f3) (r'.f8 f3) s4 KQ hQ e' hn
    · rw [if_pos y4]
      have s4 : Sm g' 1 (S.2 14) T (otM T S what c) := s'.eqv (by unfold rfM at rsq; rw [if_neg y4] at rsq; exact rsq)
      exact tried_end hN f' r' s4 KQ hQ e' hn
  refine iter_inv (bot := fun _ _ => none) (b := f_X8_tried_94 N what (nI n)) (fun m q => ∀ j g', j ≤ 4 → 4 < m + j → (what = 2 ∨ j = 0) → F8 g0 g' → R8a g' T S → gI g' 8 0 61 = S.2 14 → Sm g' 1 (S.2 14) T (cuM (flM (v8 g1 1 (S.2 14)) (decide (what = 0)) (decide (what = 3)) v) j) → (∀ i, i < 4 → gA g' 8 0 25 (4 + i) = (cuM (flM (v8 g1 1 (S.2 14)) (decide (what = 0)) (decide (what = 3)) v) j).1 2 i) → ∃ g'', q (nI j) g' = some (triM T S what c n, g'') ∧ F8 g0 g'' ∧ gZ g'' 8 0 64 = false) (fun j _ _ _ => by omega) (fun m q ih j g' hj hm hw f' r' e' s' a' => ?_) N 0 _ (by omega) (by omega) (Or.inr rfl) (f.tr f2) (r.f8 f2) e61 s2 (fun i _ => rfl)
  unfold f_X8_tried_94
  simp only [jn_e, lt_e, grd_p (show inb 1 2 by decide), show (1 : Int32).toNatClampNeg = 1 from rfl]
  by_cases z : j = 4
  · subst z
    rw [if_pos (show (4 : Int32) ≤ nI 4 by decide)]
    have y2 : what = 2 := hw.resolve_right (by decide)
    exact fin g' f' r' e' (by rw [if_pos y2]; exact s')
  rw [if_neg (show ¬ (4 : Int32) ≤ nI j from nleN (a := 4) (show j < 4 by omega) (by omega))]
  by_cases y2 : what = 2
  · rw [if_neg (fun w => w y2)]
    have h4 : (4 : Int32) + nI j = nI (4 + j) := nI_add 4 j
    simp only [h4, grd_p (inb_n (show 4 + j < 8 by omega) (show 8 < 2 ^ 31 by omega)), clN (show 4 + j < 2 ^ 31 by omega), nI_1]
    obtain ⟨f3, s3⟩ := s'.cart1 (j := j) ((cuM (flM (v8 g1 1 (S.2 14)) (decide (what = 0)) (decide (what = 3)) v) j).1 2 j + 1) (by omega)
    rw [a' j (by omega)]
    refine ih (j + 1) _ (by omega) (by omega) (Or.inl y2) (f'.tr f3) (r'.f8 f3) e' s3 (fun i hi => ?_)
    rw [cuM_s, upA_at, A_at]
    by_cases w : i = j
    · rw [if_pos w, if_pos ⟨rfl, by omega⟩]
    · rw [if_neg w, if_neg (by omega)]; exact a' i hi
  · rw [if_pos y2]
    have j0 : j = 0 := hw.resolve_left y2
    subst j0
    exact fin g' f' r' e' (by rw [if_neg y2]; exact s')
theorem m_tried (hN : 1000 ≤ N) (r : R8a g T S) (K : SOK T 0 S) (hh : (S.2 11).toInt ≤ 4000000) (p64 : gZ g 8 0 64 = false) (hz : S.2 16 = 1) (c5 : ∀ c, c < nCr T → (S.1 2 c).toInt ≤ 5) (what c n : Int32) : ∃ g', f_X8_tried N g what c n = some (tri T S what c n, g') ∧ F8 g g' ∧ gZ g' 8 0 64 = false := by
  have f0 : F8 g (sI g 8 0 2 0) := F8.i g 0 (by decide)
  have r0 := r.f8 f0
  have hT := r.1
  have hc4 := hT.2.1.2
  unfold f_X8_tried tri
  simp only [jn_e, lt_e, m_isIn, bind_s, b2i0, decide_eq_false_iff_not]
  by_cases y : 0 ≤ what ∧ what ≤ 4
  rotate_left
  · have nt : ¬ trOK T what c = true := by
      unfold trOK
      by_cases z : what = 1
      · exact absurd (by rw [z]; decide) y
      · rw [if_neg z]; exact fun q => y (of_decide_eq_true q).1
    rw [if_pos y, if_neg (fun q => nt q.1)]
    exact ⟨_, rfl, f0, p64⟩
  rw [if_neg (fun q => q y)]
  by_cases w : 0 ≤ n ∧ n ≤ 99
  rotate_left
  · rw [if_pos w, if_neg (fun q => w q.2)]
    exact ⟨_, rfl, f0, p64⟩
  rw [if_neg (fun q => q w)]
  obtain ⟨k, hk, rfl⟩ := rngN (a := n) (m := 99) (by omega) w.1 w.2
  obtain ⟨g1, e1, f1, p1, s1, u1, r1⟩ := m_lay hN r0
  have main : ∀ i : Nat, i < 4 → ∃ g'', iter (fun _ _ => none) (f_X8_tried_94 N what (nI k)) N 0 (sZ (sI (sZ g1 8 0 63 (decide (what = 0))) 8 0 66 (if what = 1 then nI i else -1)) 8 0 64 (decide (what = 3))) = some (triM T S what i k, g'') ∧ F8 g g'' ∧ gZ g'' 8 0 64 = false := fun i hi => m_triedL hN (f0.tr f1) r1 p1 u1 s1.2.2.2.1 K hh hz c5 what hi rfl (by omega)
  rw [e1, bind_s, m_isCroft r0.2.2.1.2.1 c]
  simp only [bind_s, b2i0]
  rw [clN (show k < 2 ^ 31 by omega)]
  by_cases z1 : what = 1
  · have z0 : ¬ what = 0 := by rw [z1]; decide
    have z3 : ¬ what = 3 := by rw [z1]; decide
    have et : trOK T what c = inC T c := if_pos z1
    rw [et, if_neg (fun q => q z1)]
    cases hc : inC T c with
    | false =>
      rw [if_neg (fun q => q rfl), if_neg (fun q => Bool.noConfusion q.1)]
      exact ⟨_, rfl, f0, p64⟩
    | true =>
      obtain ⟨i, hi, rfl⟩ := inC_of hT hc
      rw [if_pos (fun q => Bool.noConfusion q), if_pos (show true = true ∧ 0 ≤ nI k ∧ nI k ≤ 99 from ⟨rfl, w⟩), clN (show i < 2 ^ 31 by omega), if_pos z0, if_neg (fun q => q z1), if_pos z3]
      have := main i (by omega)
      rw [decide_eq_false z0, decide_eq_false z3, if_pos z1] at this
      exact this
  · have et : trOK T what c = decide ((0 ≤ what ∧ what ≤ 4) ∧ c = 0) := if_neg z1
    rw [et, if_pos z1]
    by_cases x : c = 0
    rotate_left
    · rw [if_neg x, if_neg (fun q => x (of_decide_eq_true q.1).2)]
      exact ⟨_, rfl, f0, p64⟩
    rw [if_pos x, if_pos (show decide ((0 ≤ what ∧ what ≤ 4) ∧ c = 0) = true ∧ 0 ≤ nI k ∧ nI k ≤ 99 from ⟨decide_eq_true ⟨y, x⟩, w⟩), if_pos z1]
    have := main 0 (by omega)
    rw [if_neg z1] at this
    subst x
    show ∃ g', _ = some (triM T S what 0 k, g') ∧ _
    by_cases z0 : what = 0
    · have z3 : ¬ what = 3 := by rw [z0]; decide
      rw [decide_eq_true z0, decide_eq_false z3] at this
      rw [if_neg (fun q => q z0), if_pos z1, if_pos z3]
      exact this
    · rw [decide_eq_false z0] at this
      rw [if_pos z0]
      by_cases z3 : what = 3
      · rw [decide_eq_true z3] at this
        rw [if_neg (fun q => q z3)]
        exact this
      · rw [decide_eq_false z3] at this
        rw [if_pos z3]
        exact this
end MTried
