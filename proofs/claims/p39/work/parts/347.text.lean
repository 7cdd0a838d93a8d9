-- PURE: a text of lines read by the class
def liP (l : List Int32) (D : DT) : Option (List Int32 × DT) :=
  if (tkK l).1 = 256 then stP l D else if (tkK l).1 = 257 then crP l D else if (tkK l).1 = 258 then (if D.2.1.length ≤ 4 then fiP l D else none) else if (tkK l).1 = 259 then tiP l D else if (tkK l).1 = 260 then hpP l D else if (tkK l).1 = 261 then ruP l D else if (tkK l).1 = 262 then gaP l D else if (tkK l).1 = 264 then laP l D else none
def lnS (D : DT) : DT := (D.1, D.2.1, D.2.2.1, D.2.2.2.1, (D.2.2.2.2.1.1, D.2.2.2.2.1.2.1, D.2.2.2.2.1.2.2.1, D.2.2.2.2.1.2.2.2.1, D.2.2.2.2.1.2.2.2.2.1, qLn D + 1), D.2.2.2.2.2)
def pL : Nat → List Int32 → DT → Option DT
  | 0, _, _ => none
  | k + 1, l, D => if (tkK l).1 = 0 then some D else (liP l D).bind fun p => if (tkK p.1).1 = 59 then pL k (tkK p.1).2.2.2 (lnS p.2) else none
theorem pL_s (k : Nat) (l : List Int32) (D : DT) : pL (k + 1) l D = if (tkK l).1 = 0 then some D else (liP l D).bind fun p => if (tkK p.1).1 = 59 then pL k (tkK p.1).2.2.2 (lnS p.2) else none := rfl
def D0 : DT := ([], [], [], [], (0, 0, 0, 0, 0, 0), none)
section Text
variable {N u n : Nat} {h0 h g : Hp} {l l' : List Int32} {D D' : DT}
theorem line_any (hN : 1000 ≤ N) (s : PS u n h0 h l) (d : PD u h D) (e : liP l D = some (l', D')) : ∃ g, f_X1_readLine N h = some (true, g) ∧ PS u n h0 g l' ∧ PD u g D' := by
  unfold liP at e
  unfold f_X1_readLine
  rw [s.2.1.1, onO_s, s.k6]
  by_cases z0 : (tkK l).1 = 256
  · rw [if_pos z0] at e
    obtain ⟨g, a1, a2, a3⟩ := line_st hN s d e
    rw [if_pos z0, a1, bd2_s]
    exact ⟨g, rfl, a2, a3⟩
  rw [if_neg z0] at e ⊢
  by_cases z1 : (tkK l).1 = 257
  · rw [if_pos z1] at e
    obtain ⟨g, a1, a2, a3⟩ := line_cr hN s d e
    rw [if_pos z1, a1, bd2_s]
    exact ⟨g, rfl, a2, a3⟩
  rw [if_neg z1] at e ⊢
  by_cases z2 : (tkK l).1 = 258
  · rw [if_pos z2] at e
    by_cases c : D.2.1.length ≤ 4
    · rw [if_pos c] at e
      obtain ⟨g, a1, a2, a3⟩ := line_fi hN s d c e
      rw [if_pos z2, a1, bd2_s]
      exact ⟨g, rfl, a2, a3⟩
    · rw [if_neg c] at e
      exact absurd e (by simp)
  rw [if_neg z2] at e ⊢
  by_cases z3 : (tkK l).1 = 259
  · rw [if_pos z3] at e
    obtain ⟨g, a1, a2, a3⟩ := line_ti hN s d e
    rw [if_pos z3, a1, bd2_s]
    exact ⟨g, rfl, a2, a3⟩
  rw [if_neg z3] at e ⊢
  by_cases z4 : (tkK l).1 = 260
  · rw [if_pos z4] at e
    obtain ⟨g, a1, a2, a3⟩ := line_hp hN s d e
    rw [if_pos z4, a1, bd2_s]
    exact ⟨g, rfl, a2, a3⟩
  rw [if_neg z4] at e ⊢
  by_cases z5 : (tkK l).1 = 261
  · rw [if_pos z5] at e
    obtain ⟨g, a1, a2, a3⟩ := line_ru hN s d e
    rw [if_pos z5, a1, bd2_s]
    exact ⟨g, rfl, a2, a3⟩
  rw [if_neg z5] at e ⊢
  by_cases z6 : (tkK l).1 = 262
  · rw [if_pos z6] at e
    obtain ⟨g, a1, a2, a3⟩ := line_ga hN s d e
    rw [if_pos z6, a1, bd2_s]
    exact ⟨g, rfl, a2, a3⟩
  rw [if_neg z6] at e ⊢
  by_cases z8 : (tkK l).1 = 264
  · rw [if_pos z8] at e
    obtain ⟨g, a1, a2, a3⟩ := line_la hN s d e
    rw [if_neg (by rw [z8]; decide), if_pos z8, a1, bd2_s]
    exact ⟨g, rfl, a2, a3⟩
  rw [if_neg z8] at e
  exact absurd e (by simp)
theorem dI_ln (D : DT) (j : Nat) (h1 : 10 ≤ j) (h2 : j ≤ 19) (w : ¬ j = 10) : dI D j = dI (lnS D) j := by
  rcases (show j = 11 ∨ j = 12 ∨ j = 13 ∨ j = 14 ∨ j = 15 ∨ j = 16 ∨ j = 17 ∨ j = 18 ∨ j = 19 by omega) with rfl | rfl | rfl | rfl | rfl | rfl | rfl | rfl | rfl <;> rfl
theorem lines_all (hN : 1000 ≤ N) : ∀ (k m j : Nat) (h : Hp) (l : List Int32) (D : DT), j + k ≤ 700 → k < m → PS u n h0 h l → PD u h D → pL k l D = some D' → ∃ g, iter (fun _ _ => none) (f_X1_reads_48 N) m (nI j) h = some (true, g) ∧ RF u h0 g ∧ PD u g D'
  | 0, _, _, _, _, _, _, _, _, _, e => absurd e (by simp [pL])
  | k + 1, 0, _, _, _, _, _, hm, _, _, _ => absurd hm (Nat.not_lt_zero _)
  | k + 1, m + 1, j, h, l, D, hj, hm, s, d, e => by
    rw [pL_s] at e
    rw [iter_s]
    unfold f_X1_reads_48
    simp only [jn_e, lt_e]
    rw [if_neg (show ¬ (700 : Int32) ≤ nI j from nleN (a := 700) (by omega) (by omega)), s.2.1.1, onO_s, s.k6]
    by_cases z : (tkK l).1 = 0
    · rw [if_pos z] at e
      rw [if_pos z, ← Option.some.inj e]
      exact ⟨h, rfl, s.2.2.1, d⟩
    · rw [if_neg z] at e
      rw [if_neg z]
      obtain ⟨⟨l1, D1⟩, e1, e⟩ := Option.bind_eq_some_iff.mp e
      dsimp only at e
      by_cases y : (tkK l1).1 = 59
      · rw [if_pos y] at e
        obtain ⟨g1, a1, a2, a3⟩ := line_any hN s d e1
        obtain ⟨g2, b1, b2, b3, b4⟩ := a2.adv hN
        have se : f_X1_takeSemicolon N g1 = some (true, g2) := by
          rw [cl_semi a2.2.1, if_pos (a2.k6.trans y), b1, bind_s]
        have s3 : PS u n h0 (sI g2 5 u 10 (nI (qLn D1 + 1))) (tkK l1).2.2.2 := b3.i (by omega)
        have d3 : PD u (sI g2 5 u 10 (nI (qLn D1 + 1))) (lnS D1) := pd_i (b4.pd a3) 10 _ (by omega) rfl (fun j x y w => dI_ln D1 j x y w) rfl rfl rfl rfl rfl rfl
        have e10 : gI g2 5 u 10 = nI (qLn D1) := (b4.pd a3).1.1 10 (by omega) (by omega)
        rw [a1, bd2_s, if_neg (show ¬ b2i true = 0 by decide), se, bd2_s, if_pos (show ¬ b2i true = 0 by decide), b3.2.1.2, onO_s, e10, nI_1, nI_1]
        exact lines_all hN k m (j + 1) _ _ _ (by omega) (by omega) s3 d3 e
      · rw [if_neg y] at e
        exact absurd e (by simp)
theorem PS.begin (hN : 1000 ≤ N) (hn : n ≤ 700) (r : REF u h) (sp : SPL (gA h 4 0 1)) {p : Nat} (e3 : gI h 4 0 3 = nI n) (e4 : gI h 4 0 4 = nI p) (lp : Lp (gA h 4 0 0) n p l) : ∃ g, f_X4_advance N h = some g ∧ PS u n h g l ∧ Kp u h g := by
  obtain ⟨g, p', a1, a2, a3, a4, a5⟩ := cl_advance hN e3 hn sp e4 (show p ≤ n by have := lp.1; omega)
  obtain ⟨t1, t2, t3, t4, t5⟩ := tk_of lp a5
  exact ⟨g, a1, ⟨hn, ⟨(a2.1.2.2.2 1 0 2 (by decide)).trans r.1, (a2.1.2.2.2 1 0 3 (by decide)).trans r.2⟩, a2.rfu u, by rw [a2.2.2.2 4 0 1]; exact sp, p', (a2.2.2.1 4 0 3 (by omega)).trans e3, a4, by rw [a2.2.2.2 4 0 0]; exact t5, t1, fun z => t2 (t1.trans z), fun z => t4 (t1.trans z)⟩, a2.kp u⟩
theorem reads_all (hN : 1000 ≤ N) (hn : n ≤ 700) (sp : SPL (gA h 4 0 1)) (lp : Lp (gA h 4 0 0) n 0 l) (e : pL 20 l D0 = some D') : ∃ g, f_X1_reads N h (nI n) u = some (true, g) ∧ RT u h g ∧ PD u g D' := by
  obtain ⟨h2, eh2⟩ : ∃ h2, h2 = sO (sO h 1 0 2 0) 1 0 3 u := ⟨_, rfl⟩
  have f2 : RT u h h2 := by rw [eh2]; exact (RT.so u h 2 0).tr (RT.so u _ 3 u)
  have r2 : REF u h2 := by rw [eh2]; exact ⟨rfl, rfl⟩
  obtain ⟨h4, a1, a2, a3, a4, a5⟩ := cl_clear hN h2 u
  obtain ⟨h8, eh8⟩ : ∃ h8, h8 = sI (sI (sI (sI h4 1 0 4 0) 1 0 5 (-1)) 1 0 7 0) 1 0 10 0 := ⟨_, rfl⟩
  have f8 : RF u h4 h8 := by rw [eh8]; exact (((RF.i u h4 1 0 4 0 (Or.inl rfl)).tr (RF.i u _ 1 0 5 _ (Or.inl rfl))).tr (RF.i u _ 1 0 7 0 (Or.inl rfl))).tr (RF.i u _ 1 0 10 0 (Or.inl rfl))
  have f9 : RT u h h8 := f2.tr (a2.tr f8).rt
  obtain ⟨h9, eh9⟩ : ∃ h9, h9 = sI (sI h8 4 0 3 (nI n)) 4 0 4 0 := ⟨_, rfl⟩
  have f10 : RT u h h9 := by rw [eh9]; exact f9.tr ((RT.i4 u h8 3 _ (by omega)).tr (RT.i4 u _ 4 0 (by omega)))
  have r9 : REF u h9 := by
    have f := (a2.tr f8).2.1
    rw [eh9]
    exact ⟨(f 1 0 2 (by decide)).trans r2.1, (f 1 0 3 (by decide)).trans r2.2⟩
  have t9 : ∀ k, gA h9 4 0 k = gA h 4 0 k := fun k => f10.2.2.2 4 0 k (by omega) (by omega) (by omega)
  obtain ⟨g, b1, b2, b3⟩ := PS.begin (u := u) (l := l) hN hn r9 (by rw [t9]; exact sp) (p := 0) (by rw [eh9]; rfl) (by rw [eh9]; rfl) (by rw [t9]; exact lp)
  have d9 : PD u h9 D0 := by
    have i5 : ∀ k, gI h9 5 u k = gI h4 5 u k := fun k => by
      rw [eh9, GI, if_neg (by omega), GI, if_neg (by omega), eh8, GI, if_neg (by omega), GI, if_neg (by omega), GI, if_neg (by omega), GI, if_neg (by omega)]
    refine ⟨⟨fun k x y => ?_, fun i hi => absurd hi (Nat.not_lt_zero _), fun i hi => absurd hi (Nat.not_lt_zero _), fun i hi => absurd hi (Nat.not_lt_zero _), fun i hi => absurd hi (Nat.not_lt_zero _)⟩, ?_, ?_, ?_, fun i hi => ?_⟩
    · rw [i5, a5 k x y]
      rcases (show k = 10 ∨ k = 11 ∨ k = 12 ∨ k = 13 ∨ k = 14 ∨ k = 15 ∨ k = 16 ∨ k = 17 ∨ k = 18 ∨ k = 19 by omega) with rfl | rfl | rfl | rfl | rfl | rfl | rfl | rfl | rfl | rfl <;> rfl
    · rw [eh9, eh8]; rfl
    · rw [eh9, eh8]; rfl
    · rw [eh9, GI, if_neg (by omega), GI, if_neg (by omega), eh8, GI, if_neg (by omega), GI, if_neg (by omega), GI, if_neg (by omega), GI, if_neg (by omega)]; exact a3
    · rw [eh9, eh8]; exact a4 i hi
  obtain ⟨g2, c1, c2, c3⟩ := lines_all (D' := D') hN 20 N 0 g l D0 (by omega) (by omega) b2 (b3.pd d9) e
  have eb : f_X4_begin N h8 (nI n) = some g := by
    unfold f_X4_begin
    rw [if_neg (show ¬ (700 : Int32) < nI n from Int32.not_lt.mpr (leN (b := 700) hn (by omega))), lt_e, lt_e, ← eh9, b1, bind_s]
  unfold f_X1_reads
  simp only [lt_e]
  rw [← eh2, r2.2, onO_s, a1, bind_s, ← eh8]
  have o8 : gO h8 1 0 2 = some 0 := ((a2.tr f8).2.1 1 0 2 (by decide)).trans r2.1
  rw [o8, onO_s, eb, bind_s]
  exact ⟨g2, c1, f10.tr c2.rt, c3⟩
end Text
