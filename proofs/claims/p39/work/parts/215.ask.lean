-- PURE: what the class answers: strands tried
theorem RC.sd {h : Hp} {t : Nat} {T : Txt} {S I : Str} {X : Xs} (r : RC h t T S I X) : Sd h 1 t T S := ⟨r.2.1.1, r.1.2.2.2.1, r.1.2.2.2.2.2, r.1.2.2.2.2.1, r.2.1.2⟩
theorem RC.sd0 {h : Hp} {t : Nat} {T : Txt} {S I : Str} {X : Xs} (r : RC h t T S I X) : Sd h 0 t T (bgM T) := ⟨r.2.2.1.1, r.1.2.2.2.1, r.1.2.2.2.2.2, r.1.2.2.2.2.1, r.2.2.1.2⟩
/-- a strand copied into another -/
theorem Sd.copy {h : Hp} {o p t : Nat} {T : Txt} {S : Str} (s : Sd h p t T S) (hp : ¬ p = o) (hz : S.2 16 = 0 ∨ S.2 16 = 1) (ho : 3 ≤ o) : ∃ g, f_X3_copy h o p = some g ∧ Fr h g ∧ Sd g o t T S ∧ ∀ q, ¬ q = o → ∀ S', Sd h q t T S' → Sd g q t T S' := by
  obtain ⟨s1, s2, s3, s4, s5⟩ := s
  have hz' : gI h 3 p 16 = 0 ∨ gI h 3 p 16 = 1 := by
    have : gI h 3 p 16 = S.2 16 := s5.2.2.2 16 (by omega) (by omega)
    rw [this]; exact hz
  obtain ⟨S', e, c⟩ := cl_copy h hp s1 hz'
  refine ⟨_, e, (Fr.so h ho 10 t).tr (Fr.m3 _ ho _ _), ⟨?_, ?_, ?_, s4, ?_⟩, ?_⟩
  · show at3 h.2.2.1 3 o 10 (some t) 3 o 10 = some t
    exact at3_s _ _ _ _ _
  · rw [txt_M3]; exact s2
  · rw [show gA (M3 (sO h 3 o 10 t) o S' h.2.2.2.2) 0 t = gA h 0 t from funext fun k => M3_A0 _ _ _ _ t k]; exact s3
  · rw [vw_M3]; exact (Cp.sq s4 c).tr s5
  · intro q hq S2 s
    obtain ⟨u1, u2, u3, u4, u5⟩ := s
    refine ⟨?_, by rw [txt_M3]; exact u2, ?_, u4, ?_⟩
    · show at3 h.2.2.1 3 o 10 (some t) 3 q 10 = some t
      unfold at3
      rw [if_neg (fun z => hq z.2.1)]
      exact u1
    · rw [show gA (M3 (sO h 3 o 10 t) o S' h.2.2.2.2) 0 t = gA h 0 t from funext fun k => M3_A0 _ _ _ _ t k]; exact u3
    · rw [show vw (M3 (sO h 3 o 10 t) o S' h.2.2.2.2) q = vw h q from Prod.ext (funext fun k => M3_Ap (sO h 3 o 10 t) S' h.2.2.2.2 k hq) (funext fun k => M3_Ip (sO h 3 o 10 t) S' h.2.2.2.2 k hq)]
      exact u5
/-- acts as ruled, all -/
def z5 (S : Str) : Nat → Str
  | 0 => S
  | c + 1 => upA (z5 S c) 5 c 0
def rlM (S : Str) (by_ : Int32) : Str := z5 (upI S 14 by_) 4
section Ask
variable {N : Nat} {h : Hp} {t : Nat} {T : Txt} {S I : Str} {X : Xs}
theorem cl_ruledBy (hN : 1000 ≤ N) (s : Sd h 1 t T S) (hz : S.2 16 = 0 ∨ S.2 16 = 1) (by_ : Int32) {n : Nat} (hn : n < 900) : ∃ g, f_X7_ruledBy N h by_ (nI n) = some (3, g) ∧ Fr h g ∧ Sd g 3 t T (passN T (rlM S by_) n) ∧ Sd g 1 t T S := by
  obtain ⟨g1, e1, f1, d1, k1⟩ := s.copy (o := 3) (by decide) hz (by decide)
  have n1 := k1 1 (by decide) S s
  obtain ⟨f2, d2⟩ := d1.num 14 by_
  have loop : ∀ m r, (∀ j g, j ≤ 4 → 4 < m + j → Fo 3 (sI g1 3 3 14 by_) g → Sd g 3 t T (z5 (upI S 14 by_) j) → ∃ g', r (nI j) g = some (3, g') ∧ Fo 3 (sI g1 3 3 14 by_) g' ∧ Sd g' 3 t T (passN T (rlM S by_) n)) → ∀ j g, j ≤ 4 → 4 < m + 1 + j → Fo 3 (sI g1 3 3 14 by_) g → Sd g 3 t T (z5 (upI S 14 by_) j) → ∃ g', f_X7_ruledBy_23 N (nI n) 3 r (nI j) g = some (3, g') ∧ Fo 3 (sI g1 3 3 14 by_) g' ∧ Sd g' 3 t T (passN T (rlM S by_) n) := by
    intro m r ih j g hj hm f d
    unfold f_X7_ruledBy_23
    by_cases z : j = 4
    · subst z
      rw [if_pos (show (4 : Int32) ≤ nI 4 by decide)]
      obtain ⟨g', e, f', d'⟩ := d.pass hN hn
      rw [e, bind_s]
      exact ⟨g', rfl, f.tr f', d'⟩
    · rw [if_neg (show ¬ (4 : Int32) ≤ nI j from nleN (a := 4) (show j < 4 by omega) (by omega))]
      simp only [lt_e, grd_p (inb_n (show j < 4 by omega) (show 4 < 2 ^ 31 by omega)), clN (show j < 2 ^ 31 by omega), nI_1]
      obtain ⟨f', d'⟩ := d.row 5 j 0
      exact ih (j + 1) _ (by omega) (by omega) (f.tr f') d'
  obtain ⟨g', e, f', d'⟩ := iter_inv (bot := fun _ _ => none) (b := f_X7_ruledBy_23 N (nI n) 3) (fun m r => ∀ j g, j ≤ 4 → 4 < m + j → Fo 3 (sI g1 3 3 14 by_) g → Sd g 3 t T (z5 (upI S 14 by_) j) → ∃ g', r (nI j) g = some (3, g') ∧ Fo 3 (sI g1 3 3 14 by_) g' ∧ Sd g' 3 t T (passN T (rlM S by_) n)) (fun j _ _ _ => by omega) loop N 0 (sI g1 3 3 14 by_) (by omega) (by omega) (Fo.rf _ _) d2
  refine ⟨g', ?_, f1.tr ((f2.tr f').fr (by decide)), d', (f2.tr f').sd (by decide) n1⟩
  unfold f_X7_ruledBy
  have e1' : f_X3_copy h (3 + (0 : Int32).toNatClampNeg) 1 = some g1 := e1
  rw [grd_p (show inb 0 7 by decide), lt_e, e1', bind_s, lt_e]
  exact e
/-- what is told of a rule tried -/
def tabM (T : Txt) (S : Str) (by_ : Int32) (n : Nat) (what : Int32) : Int32 :=
  if what = 0 then sumM ((passN T (rlM S by_) n).1 9) (nFi T) - sumM (S.1 9) (nFi T)
  else if what = 1 then (passN T (rlM S by_) n).2 13 - S.2 13
  else if what = 2 then (passN T (rlM S by_) n).2 12
  else if what = 3 then sumM ((passN T (rlM S by_) n).1 6) (nCr T) - sumM (S.1 6) (nCr T) else -1
theorem cl_isIn (a l m : Int32) : f_X7_isIn a l m = some (decide (l ≤ a ∧ a ≤ m)) := by
  unfold f_X7_isIn
  simp only [jn_e]
  by_cases z : a < l
  · rw [if_pos z, decide_eq_false (fun q => absurd q.1 (Int32.not_le.mpr z))]
  rw [if_neg z]
  by_cases w : m < a
  · rw [if_pos w, decide_eq_false (fun q => absurd q.2 (Int32.not_le.mpr w))]
  · rw [if_neg w, decide_eq_true ⟨Int32.not_lt.mp z, Int32.not_lt.mp w⟩]
theorem cl_isRule (a : Int32) : f_X7_isRule a = some (decide (0 ≤ a ∧ a ≤ 2)) := by
  unfold f_X7_isRule
  simp only [jn_e]
  by_cases z : a < 0
  · rw [if_pos z, decide_eq_false (fun q => absurd q.1 (Int32.not_le.mpr z))]
  rw [if_neg z]
  by_cases w : 2 < a
  · rw [if_pos w, decide_eq_false (fun q => absurd q.2 (Int32.not_le.mpr w))]
  · rw [if_neg w, decide_eq_true ⟨Int32.not_lt.mp z, Int32.not_lt.mp w⟩]
/-- a number between 0 and some -/
theorem rngN {a : Int32} {m : Nat} (hm : m < 2 ^ 31) (h0 : 0 ≤ a) (h1 : a ≤ nI m) : ∃ k, k ≤ m ∧ a = nI k := by
  obtain ⟨k, rfl, hk⟩ := eq_nI (Int32.le_iff_toInt_le.mp h0)
  refine ⟨k, ?_, rfl⟩
  have := Int32.le_iff_toInt_le.mp h1
  rw [nI_toInt hm] at this
  omega
theorem cl_table (hN : 1000 ≤ N) (r : RC h t T S I X) (hz : S.2 16 = 1) (p1 p2 p3 : Int32) : ∃ g, f_X7_table N h p1 p2 p3 = some (if (0 ≤ p1 ∧ p1 ≤ 2) ∧ 0 ≤ p2 ∧ p2 ≤ 99 then tabM T S p1 p2.toNatClampNeg p3 else -1, g) ∧ Fr h g := by
  unfold f_X7_table
  simp only [jn_e, cl_isRule, cl_isIn, bind_s, b2i0, decide_eq_false_iff_not, Classical.not_not]
  by_cases z : 0 ≤ p1 ∧ p1 ≤ 2
  · rw [if_neg (fun q => q z)]
    by_cases w : 0 ≤ p2 ∧ p2 ≤ 99
    · rw [if_pos w, if_pos ⟨z, w⟩]
      obtain ⟨n, hn, rfl⟩ := rngN (m := 99) (by omega) w.1 w.2
      obtain ⟨g, e, f, d, d1⟩ := cl_ruledBy hN r.sd (Or.inr hz) p1 (n := n) (by omega)
      rw [e, bd2_s, clN (show n < 2 ^ 31 by omega)]
      have a13 : gI g 3 3 13 = (passN T (rlM S p1) n).2 13 := d.2.2.2.2.2.2.2 13 (by omega) (by omega)
      have a12 : gI g 3 3 12 = (passN T (rlM S p1) n).2 12 := d.2.2.2.2.2.2.2 12 (by omega) (by omega)
      have b13 : gI g 3 1 13 = S.2 13 := d1.2.2.2.2.2.2.2 13 (by omega) (by omega)
      rw [d.got hN, d1.got hN, d.gains hN, d1.gains hN, a13, a12, b13]
      simp only [bind_s]
      unfold tabM
      refine ⟨g, ?_, f⟩
      by_cases q0 : p3 = 0
      · rw [if_pos q0, if_pos q0]
      rw [if_neg q0, if_neg q0]
      by_cases q1 : p3 = 1
      · rw [if_pos q1, if_pos q1]
      rw [if_neg q1, if_neg q1]
      by_cases q2 : p3 = 2
      · rw [if_pos q2, if_pos q2]
      rw [if_neg q2, if_neg q2]
      by_cases q3 : p3 = 3
      · rw [if_pos q3, if_pos q3]
      · rw [if_neg q3, if_neg q3]
    · rw [if_neg w, if_neg (fun q => w q.2)]
      exact ⟨h, rfl, Fr.rf h⟩
  · rw [if_pos z, if_neg (fun q => z q.1)]
    exact ⟨h, rfl, Fr.rf h⟩
end Ask

