-- PURE: worth told by one number
def laP (l : List Int32) (D : DT) : Option (List Int32 × DT) :=
  let l1 := (tkK l).2.2.2
  let l2 := (tkK l1).2.2.2
  let l3 := (tkK l2).2.2.2
  if D.2.2.2.2.2 = none ∧ (tkK l1).1 = 271 ∧ (tkK l3).1 = 59 then (numP 9999 l2).bind fun p => some (p.2, (D.1, D.2.1, D.2.2.1, D.2.2.2.1, D.2.2.2.2.1, some p.1)) else none
theorem joins_59 : f_X1_joins 59 = some false := by
  unfold f_X1_joins f_X1_bindingOf
  simp only [jn_e]
  decide
section Lines4
variable {N u n : Nat} {h0 h g : Hp} {l l' : List Int32} {D D' : DT}
theorem line_la (hN : 1000 ≤ N) (s : PS u n h0 h l) (d : PD u h D) (e : laP l D = some (l', D')) : ∃ g, f_X1_readLaw N h = some (true, g) ∧ PS u n h0 g l' ∧ PD u g D' := by
  unfold laP at e
  simp only [] at e
  obtain ⟨l1, hl1⟩ : ∃ l1, l1 = (tkK l).2.2.2 := ⟨_, rfl⟩
  rw [← hl1] at e
  obtain ⟨l2, hl2⟩ : ∃ l2, l2 = (tkK l1).2.2.2 := ⟨_, rfl⟩
  rw [← hl2] at e
  by_cases z : D.2.2.2.2.2 = none ∧ (tkK l1).1 = 271 ∧ (tkK (tkK l2).2.2.2).1 = 59
  · rw [if_pos z] at e
    obtain ⟨z1, z2, z3⟩ := z
    obtain ⟨⟨v, l3⟩, e1, e⟩ := Option.bind_eq_some_iff.mp e
    obtain ⟨q1, q2⟩ := Prod.mk.inj (Option.some.inj e)
    dsimp only at q1 q2
    subst q1
    subst q2
    obtain ⟨y1, y2, y3, y4⟩ := numP_e e1
    rw [y4] at z3
    obtain ⟨d1, d2, d3⟩ := d
    unfold PL at d3
    rw [z1] at d3
    obtain ⟨d3, d4, d5⟩ := d3
    obtain ⟨g1, a1, a2, a3, a4⟩ := s.adv hN
    rw [← hl1] at a3
    obtain ⟨g2, b1, b2, b3, b4⟩ := a3.adv hN
    rw [← hl2] at b3
    have kk := a4.tr b4
    have t1 : f_X0_isTold g1 u 3 = some false := by
      have := cl_lawTold (u := u) (kk := 3) (by omega) g1
      rw [show (3 : Int32) = nI 3 from rfl, this, a4.2.2.2.2.2, (d5 3 (by omega)).1, (d5 3 (by omega)).2]
      rfl
    obtain ⟨g3, hg3⟩ : ∃ g3, g3 = sA g2 0 u 2 3 0 := ⟨_, rfl⟩
    have t2 : f_X0_begin g2 u 3 = some g3 := by
      have := cl_beginLaw (u := u) (kk := 3) (by omega) g2
      rw [show (3 : Int32) = nI 3 from rfl, this, kk.2.2.2.2.1, d4, hg3]
    have s3 : PS u n h0 g3 l2 := by rw [hg3]; exact b3.a (by omega)
    obtain ⟨g4, hg4⟩ : ∃ g4, g4 = sZ (sZ (sY (sI (sI g3 1 0 8 0) 1 0 9 0) 1 0 1 0 false) 1 0 11 true) 1 0 12 true := ⟨_, rfl⟩
    have t3 : f_X1_beginExpression g3 = some g4 := by
      unfold f_X1_beginExpression
      simp only [lt_e]
      rw [grd_p (show inb 0 9 from inb_n (j := 0) (n := 9) (by omega) (by omega)), hg4]
      rfl
    have s4 : PS u n h0 g4 l2 := by
      rw [hg4]
      unfold sZ sY
      exact (((((s3.i (Or.inl rfl)).i (Or.inl rfl)).a (Or.inl rfl)).i (Or.inl rfl)).i (Or.inl rfl))
    -- what stands in g4
    have i8 : gI g4 1 0 8 = 0 := by rw [hg4]; rfl
    have i9 : gI g4 1 0 9 = 0 := by rw [hg4]; rfl
    have z11 : gZ g4 1 0 11 = true := by rw [hg4]; rfl
    have i10 : gI g4 1 0 10 = 0 := by
      have : gI g4 1 0 10 = gI g2 1 0 10 := by rw [hg4, hg3]; rfl
      rw [this, kk.2.2.2.1, d3]
    have i7 : gI g4 1 0 7 = gI h 1 0 7 := by
      have : gI g4 1 0 7 = gI g2 1 0 7 := by rw [hg4, hg3]; rfl
      rw [this, kk.2.2.1]
    have A0 : ∀ k j, gA g4 0 u k j = if k = 2 ∧ j = 3 then 0 else gA h 0 u k j := fun k j => by
      have : gA g4 0 u k j = gA g3 0 u k j := by
        rw [hg4]
        show gA (sA (sI (sI g3 1 0 8 0) 1 0 9 0) 1 0 1 0 (b2i false)) 0 u k j = _
        rw [GA, if_neg (by omega)]
        rfl
      rw [this, hg3, GA]
      by_cases w : k = 2
      · subst w
        rw [if_pos ⟨rfl, rfl, rfl⟩]
        by_cases x : j = 3
        · rw [x, up_p, if_pos ⟨rfl, rfl⟩]
        · rw [up_n x, if_neg (fun q => x q.2), kk.2.2.2.2.2]
      · rw [if_neg (fun q => w q.2.2), if_neg (fun q => w q.1), kk.2.2.2.2.2]
    have i6 : gI g4 0 u 6 = nI 0 := by
      have : gI g4 0 u 6 = gI g2 0 u 6 := by
        rw [hg4, hg3]
        unfold sZ sY
        rw [GI, if_neg (by omega), GI, if_neg (by omega)]
        show gI (sI (sI (sA g2 0 u 2 3 0) 1 0 8 0) 1 0 9 0) 0 u 6 = _
        rw [GI, if_neg (by omega), GI, if_neg (by omega)]; rfl
      rw [this, kk.2.2.2.2.1, d4]
      rfl
    have I5 : gI g4 5 u = gI h 5 u := by
      have : gI g4 5 u = gI g2 5 u := funext fun k => by
        rw [hg4, hg3]
        unfold sZ sY
        rw [GI, if_neg (by omega), GI, if_neg (by omega)]
        show gI (sI (sI (sA g2 0 u 2 3 0) 1 0 8 0) 1 0 9 0) 5 u k = _
        rw [GI, if_neg (by omega), GI, if_neg (by omega)]; rfl
      rw [this]; exact kk.1
    have A5 : gA g4 5 u = gA h 5 u := by
      have : gA g4 5 u = gA g2 5 u := funext fun k => by
        rw [hg4, hg3]
        unfold sZ sY
        show gA (sA (sI (sI (sA g2 0 u 2 3 0) 1 0 8 0) 1 0 9 0) 1 0 1 0 (b2i false)) 5 u k = _
        rw [GA, if_neg (by omega)]
        show gA (sA g2 0 u 2 3 0) 5 u k = _
        rw [GA, if_neg (by omega)]
      rw [this]; exact kk.2.1
    -- the operand
    obtain ⟨g5, hg5⟩ : ∃ g5, g5 = sI g4 1 0 10 1 := ⟨_, rfl⟩
    obtain ⟨g6, hg6⟩ : ∃ g6, g6 = putH g5 u 0 2 (nI v) := ⟨_, rfl⟩
    obtain ⟨g7, hg7⟩ : ∃ g7, g7 = sZ g6 1 0 11 false := ⟨_, rfl⟩
    have s5 : PS u n h0 g5 l2 := by rw [hg5]; exact s4.i (Or.inl rfl)
    have s6 : PS u n h0 g6 l2 := by
      rw [hg6]
      unfold putH
      exact ((s5.a (by omega)).a (by omega)).i (by omega)
    have s7 : PS u n h0 g7 l2 := by rw [hg7]; unfold sZ; exact s6.i (by omega)
    have p6 : f_X0_put g5 u 2 (nI v) = some g6 := by
      rw [hg6]
      refine cl_put0 (z := 0) ?_ (by omega) _ _
      rw [hg5, GI, if_neg (by omega)]
      exact i6
    obtain ⟨g8, c1, c2, c3, c4⟩ := s7.adv hN
    rw [y4] at c3
    have op : f_X1_readOperand N g4 = some (true, g8) := by
      unfold f_X1_readOperand
      simp only [jn_e, lt_e]
      rw [s4.2.1.1, onO_s, s4.k6, y1, if_neg (fun q => q rfl), if_pos (show ¬ b2i true = 0 by decide), if_neg (show ¬ b2i true = 0 by decide), onO_s, s4.k7 y1, y2, if_neg (show ¬ (9999 : Int32) < nI v from Int32.not_lt.mpr (leN (b := 9999) y3 (by omega))), i10, if_pos (show (0 : Int32) < 64 by decide), show (0 : Int32) + 1 = 1 from rfl, ← hg5, s5.2.1.2, onO_s, s5.2.1.1, onO_s, s5.k7 y1, y2, p6, bind_s, ← hg7, s7.2.1.1, onO_s, c1, bind_s]
    -- what stands in g8
    have j9 : gI g8 1 0 9 = 0 := by
      rw [c2.2.2.1 1 0 9 (by omega), hg7]
      unfold sZ
      rw [GI, if_neg (by omega), hg6]
      unfold putH
      rw [GI, if_neg (by omega)]
      show gI g5 1 0 9 = 0
      rw [hg5, GI, if_neg (by omega), i9]
    have j8 : gI g8 1 0 8 = 0 := by
      rw [c2.2.2.1 1 0 8 (by omega), hg7]
      unfold sZ
      rw [GI, if_neg (by omega), hg6]
      unfold putH
      rw [GI, if_neg (by omega)]
      show gI g5 1 0 8 = 0
      rw [hg5, GI, if_neg (by omega), i8]
    have j11 : gZ g8 1 0 11 = false := by
      unfold gZ
      rw [c2.2.2.1 1 0 11 (by omega), hg7]
      rfl
    have j7 : gI g8 1 0 7 = gI h 1 0 7 := by
      rw [c2.2.2.1 1 0 7 (by omega), hg7]
      unfold sZ
      rw [GI, if_neg (by omega), hg6]
      unfold putH
      rw [GI, if_neg (by omega)]
      show gI g5 1 0 7 = _
      rw [hg5, GI, if_neg (by omega), i7]
    have j6 : gI g8 0 u 6 = 1 := by
      rw [c2.2.2.1 0 u 6 (by omega), hg7]
      unfold sZ
      rw [GI, if_neg (by omega), hg6]
      unfold putH
      rw [GI, if_pos ⟨rfl, rfl, rfl⟩]
      rfl
    have B0 : ∀ k j, gA g8 0 u k j = if k = 1 ∧ j = 0 then nI v else if k = 0 ∧ j = 0 then 2 else if k = 2 ∧ j = 3 then 0 else gA h 0 u k j := fun k j => by
      rw [c2.2.2.2 0 u k, hg7]
      show gA g6 0 u k j = _
      rw [hg6]
      unfold putH
      show gA (sA (sA g5 0 u 0 0 2) 0 u 1 0 (nI v)) 0 u k j = _
      rw [GA]
      by_cases w : k = 1
      · subst w
        rw [if_pos ⟨rfl, rfl, rfl⟩]
        by_cases x : j = 0
        · rw [x, up_p, if_pos ⟨rfl, rfl⟩]
        · rw [up_n x, if_neg (fun q => x q.2), if_neg (by omega), if_neg (by omega), GA, if_neg (by omega), hg5]
          show gA g4 0 u 1 j = _
          rw [A0, if_neg (by omega)]
      · rw [if_neg (fun q => w q.2.2), if_neg (fun q => w q.1), GA]
        by_cases y : k = 0
        · subst y
          rw [if_pos ⟨rfl, rfl, rfl⟩]
          by_cases x : j = 0
          · rw [x, up_p, if_pos ⟨rfl, rfl⟩]
          · rw [up_n x, if_neg (fun q => x q.2), if_neg (by omega), hg5]
            show gA g4 0 u 0 j = _
            rw [A0, if_neg (by omega)]
        · rw [if_neg (fun q => y q.2.2), if_neg (fun q => y q.1), hg5]
          exact A0 k j
    have J5 : gI g8 5 u = gI h 5 u := by
      rw [c4.1, hg7, ← I5]
      exact funext fun k => by
        unfold sZ
        rw [GI, if_neg (by omega), hg6]
        unfold putH
        rw [GI, if_neg (by omega)]
        show gI g5 5 u k = _
        rw [hg5, GI, if_neg (by omega)]
    have B5 : gA g8 5 u = gA h 5 u := by
      rw [c4.2.1, hg7, ← A5]
      exact funext fun k => by
        show gA g6 5 u k = _
        rw [hg6]
        unfold putH
        show gA (sA (sA g5 0 u 0 0 2) 0 u 1 0 (nI v)) 5 u k = _
        rw [GA, if_neg (by omega), GA, if_neg (by omega), hg5]
        rfl
    obtain ⟨g9, hg9⟩ : ∃ g9, g9 = sA g8 0 u 3 3 1 := ⟨_, rfl⟩
    have s9 : PS u n h0 g9 l3 := by rw [hg9]; exact c3.a (by omega)
    obtain ⟨m, rfl⟩ : ∃ m, N = m + 1 + 1 := ⟨N - 2, by omega⟩
    have wait : f_X1_putWaiting (m + 1 + 1) g8 1 = some g8 := by
      unfold f_X1_putWaiting
      rw [iter_s]
      unfold f_X1_putWaiting_0
      rw [jn_e, j8, if_pos (show (0 : Int32) ≤ 0 by decide)]
    have fin : f_X0_end g8 u 3 = some g9 := by
      have := cl_end (u := u) (kk := 3) (by omega) g8
      rw [show (3 : Int32) = nI 3 from rfl, this, j6, hg9]
    have L : iter (fun _ _ => none) (f_X1_readLaw_95 (m + 1 + 1) 3) (m + 1 + 1) 0 g4 = some (true, g9) := by
      rw [iter_s]
      have step2 : ∀ r, f_X1_readLaw_95 (m + 1 + 1) 3 r 1 g8 = some (true, g9) := fun r => by
        unfold f_X1_readLaw_95
        simp only [jn_e, lt_e]
        rw [if_neg (show ¬ (700 : Int32) ≤ 1 by decide), j11, if_pos (show b2i false = 0 from rfl), c3.2.1.1, onO_s, c3.k6, z3, joins_59, bind_s, if_pos (show b2i false = 0 from rfl), onO_s, if_pos (show ¬ (59 : Int32) = 41 by decide), j9, if_pos (show (0 : Int32) ≤ 0 by decide), wait, bind_s, c3.2.1.2, onO_s, fin, bind_s]
      generalize hR : iter (fun _ _ => none) (f_X1_readLaw_95 (m + 1 + 1) 3) (m + 1) = R
      have hR1 : R 1 g8 = some (true, g9) := by rw [← hR, iter_s]; exact step2 _
      unfold f_X1_readLaw_95
      simp only [jn_e, lt_e]
      rw [if_neg (show ¬ (700 : Int32) ≤ 0 by decide), z11, if_neg (show ¬ b2i true = 0 by decide), op, bd2_s, if_pos (show ¬ b2i true = 0 by decide), show (0 : Int32) + 1 = 1 from rfl]
      exact hR1
    unfold f_X1_readLaw
    simp only [jn_e, lt_e]
    rw [s.2.1.1, onO_s, a1, bind_s, a3.2.1.1, onO_s, onO_s, a3.k6, z2, if_neg (show ¬ (271 : Int32) < 268 by decide), onO_s, if_pos (show (271 : Int32) ≤ 271 by decide), a3.2.1.2, onO_s, show (271 : Int32) - 268 = 3 from rfl, t1, bind_s, if_pos (show b2i false = 0 from rfl), onO_s, b1, bind_s, b3.2.1.2, onO_s, t2, bind_s, t3, bind_s, L]
    refine ⟨g9, rfl, s9, ?_, ?_, ?_⟩
    · rw [show gI g9 5 u = gI g8 5 u by rw [hg9]; rfl, J5, show gA g9 5 u = gA g8 5 u by rw [hg9]; exact funext fun k => by rw [GA, if_neg (by omega)], B5]
      obtain ⟨p1, p2⟩ := d1
      refine ⟨fun k a b => ?_, p2⟩
      rw [p1 k a b]
      rcases (show k = 10 ∨ k = 11 ∨ k = 12 ∨ k = 13 ∨ k = 14 ∨ k = 15 ∨ k = 16 ∨ k = 17 ∨ k = 18 ∨ k = 19 by omega) with rfl | rfl | rfl | rfl | rfl | rfl | rfl | rfl | rfl | rfl <;> rfl
    · rw [show gI g9 1 0 7 = gI g8 1 0 7 by rw [hg9]; rfl, j7]; exact d2
    · have C0 : ∀ k j, gA g9 0 u k j = if k = 3 ∧ j = 3 then 1 else gA g8 0 u k j := fun k j => by
        rw [hg9, GA]
        by_cases w : k = 3
        · subst w
          rw [if_pos ⟨rfl, rfl, rfl⟩]
          by_cases x : j = 3
          · rw [x, up_p, if_pos ⟨rfl, rfl⟩]
          · rw [up_n x, if_neg (fun q => x q.2)]
        · rw [if_neg (fun q => w q.2.2), if_neg (fun q => w q.1)]
      refine ⟨?_, ?_, fun i hi => ?_, ?_, fun i hi => ?_⟩
      · rw [C0, if_neg (by omega), B0, if_neg (by omega), if_pos ⟨rfl, rfl⟩]
      · rw [C0, if_neg (by omega), B0, if_pos ⟨rfl, rfl⟩]
      · rw [C0, if_neg (by omega), B0, if_neg (by omega), if_neg (by omega)]
        by_cases w : i = 3
        · rw [if_pos ⟨rfl, w⟩]
        · rw [if_neg (by omega)]
          exact (d5 i hi).1
      · rw [C0, if_pos ⟨rfl, rfl⟩]
      · rw [C0, if_neg (by omega), B0, if_neg (by omega), if_neg (by omega), if_neg (by omega)]
        exact (d5 i (by omega)).2
  · rw [if_neg z] at e
    exact absurd e (by simp)
end Lines4
