-- PURE: a tide, the heap, the rule, the gale, worth told by the class
def qLn (D : DT) : Nat := D.2.2.2.2.1.2.2.2.2.2
def qOc (D : DT) : Nat := D.2.2.2.2.1.2.2.2.2.1
def onP (l : List Int32) (D : DT) : Option (List Int32 × DT) :=
  let x := (1 : Int32) <<< (((tkK l).1 - 256) &&& 31)
  if (nI (qOc D) &&& x) = 0 ∧ (nI (qOc D) ||| x) = nI (nI (qOc D) ||| x).toNatClampNeg then some ((tkK l).2.2.2, (D.1, D.2.1, D.2.2.1, D.2.2.2.1, (D.2.2.2.2.1.1, D.2.2.2.2.1.2.1, D.2.2.2.2.1.2.2.1, D.2.2.2.2.1.2.2.2.1, (nI (qOc D) ||| x).toNatClampNeg, qLn D), D.2.2.2.2.2)) else none
def tiP (l : List Int32) (D : DT) : Option (List Int32 × DT) := if D.2.2.2.1 = [] then (numP 23 (tkK l).2.2.2).bind fun p => some (p.2, (D.1, D.2.1, D.2.2.1, [p.1], D.2.2.2.2)) else none
def hpP (l : List Int32) (D : DT) : Option (List Int32 × DT) := (onP l D).bind fun q => (numP 999 q.1).bind fun p => some (p.2, (q.2.1, q.2.2.1, q.2.2.2.1, q.2.2.2.2.1, (p.1, q.2.2.2.2.2.1.2), q.2.2.2.2.2.2))
def ruP (l : List Int32) (D : DT) : Option (List Int32 × DT) := (onP l D).bind fun q => if ¬ (tkK q.1).1 < 265 ∧ (tkK q.1).1 ≤ 267 ∧ (tkK q.1).1 - 265 = nI ((tkK q.1).1 - 265).toNatClampNeg then some ((tkK q.1).2.2.2, (q.2.1, q.2.2.1, q.2.2.2.1, q.2.2.2.2.1, (q.2.2.2.2.2.1.1, ((tkK q.1).1 - 265).toNatClampNeg, q.2.2.2.2.2.1.2.2), q.2.2.2.2.2.2)) else none
def gaP (l : List Int32) (D : DT) : Option (List Int32 × DT) := (onP l D).bind fun q => (numP 100 q.1).bind fun p => (numP 99 p.2).bind fun r => some (r.2, (q.2.1, q.2.2.1, q.2.2.2.1, q.2.2.2.2.1, (q.2.2.2.2.2.1.1, q.2.2.2.2.2.1.2.1, p.1, r.1, q.2.2.2.2.2.1.2.2.2.2), q.2.2.2.2.2.2))
section Lines3
variable {N u n : Nat} {h0 h g : Hp} {l l' : List Int32} {D D' : DT}
theorem Kr.pd (k : Kr u h g) (i : gI g 5 u = gI h 5 u) (a : gA g 5 u = gA h 5 u) (d : PD u h D) : PD u g D := Kp.pd ⟨i, a, k⟩ d
theorem line_ti (hN : 1000 ≤ N) (s : PS u n h0 h l) (d : PD u h D) (e : tiP l D = some (l', D')) : ∃ g, f_X1_readTide N h = some (true, g) ∧ PS u n h0 g l' ∧ PD u g D' := by
  unfold tiP at e
  by_cases z : D.2.2.2.1 = []
  · rw [if_pos z] at e
    obtain ⟨⟨v, l1⟩, e1, e⟩ := Option.bind_eq_some_iff.mp e
    obtain ⟨q1, q2⟩ := Prod.mk.inj (Option.some.inj e)
    dsimp only at q1 q2
    subst q1
    subst q2
    obtain ⟨y1, y2, y3, y4⟩ := numP_e e1
    obtain ⟨g1, a1, a2, a3, a4⟩ := s.adv hN
    obtain ⟨g2, b1, b2, b3, b4⟩ := a3.num hN (by omega) e1
    have kk := a4.tr b3
    have i14 : ∀ {m : Hp}, Kp u h m → gI m 5 u 14 = nI 0 := fun q => by
      rw [q.1, d.1.1 14 (by omega) (by omega)]
      show nI D.2.2.2.1.length = _
      rw [z]; rfl
    have ht : f_X5_hasTide N g1 u (nI v) = some false := by
      unfold f_X5_hasTide
      obtain ⟨m, rfl⟩ : ∃ m, N = m + 1 := ⟨N - 1, by omega⟩
      show f_X5_hasTide_2 g1 u (nI v) _ 0 = _
      unfold f_X5_hasTide_2
      rw [i14 a4, if_pos (show nI 0 ≤ 0 from by decide)]
    unfold f_X1_readTide
    simp only [jn_e]
    rw [s.2.1.2, onO_s, i14 (Kp.rf u h), if_pos (show nI 0 < 4 from by decide), s.2.1.1, onO_s, a1, bind_s, a3.2.1.1, onO_s, a3.k6, if_neg (fun q => q y1), a3.2.1.2, onO_s, onO_s, a3.k7 y1, y2, ht, bind_s, if_pos (show b2i false = 0 from rfl), show (23 : Int32) = nI 23 from rfl, b1, bd2_s, if_pos (show ¬ b2i true = 0 by decide), b2.2.1.2, onO_s, onO_s, i14 kk, grd_p (inb_n (by omega) (by omega)), lt_e, clN (by omega), b4]
    obtain ⟨g3, hg3⟩ : ∃ g3, g3 = sA g2 5 u 8 0 (nI v) := ⟨_, rfl⟩
    have c1 : PS u n h0 g3 l1 := by rw [hg3]; exact b2.a (by omega)
    have c2 : gI g3 5 u = gI h 5 u := by rw [hg3]; exact kk.1
    have c4 : gI h 5 u 14 = nI 0 := i14 (Kp.rf u h)
    rw [← hg3, c1.2.1.2, onO_s, c2, c4, lt_e, nI_1]
    refine ⟨_, rfl, c1.i (by omega), ?_⟩
    have K3 : Kr u h g3 := by
      rw [hg3]
      exact kk.r.tr (Kr.a5 u g2 8 0 _)
    refine PD.put d ?_ rfl rfl (K3.tr (Kr.i5 u g3 14 _))
    rw [GI5, c2]
    show PDv _ (gA g3 5 u) _
    rw [hg3, GA5, kk.2.1]
    obtain ⟨d1, d2, d3, d4, d5⟩ := d.1
    refine ⟨fun k a b => ?_, fun i hi => ?_, fun i hi => ?_, fun i hi => ?_, fun i hi => ?_⟩
    · by_cases w : k = 14
      · subst w
        rw [up_p]; rfl
      · rw [up_n w, d1 k a b]
        rcases (show k = 10 ∨ k = 11 ∨ k = 12 ∨ k = 13 ∨ k = 15 ∨ k = 16 ∨ k = 17 ∨ k = 18 ∨ k = 19 by omega) with rfl | rfl | rfl | rfl | rfl | rfl | rfl | rfl | rfl <;> rfl
    · rw [uF5_n _ _ (by omega)]; exact d2 i hi
    · rw [uF5_n _ _ (by omega), uF5_n _ _ (by omega), uF5_n _ _ (by omega), uF5_n _ _ (by omega)]; exact d3 i hi
    · rw [uF5_n _ _ (by omega), uF5_n _ _ (by omega), uF5_n _ _ (by omega)]; exact d4 i hi
    · have hi : i < 1 := hi
      have : i = 0 := by omega
      subst this
      rw [uF5_p]; rfl
  · rw [if_neg z] at e
    exact absurd e (by simp)
theorem once_e (hN : 1000 ≤ N) (s : PS u n h0 h l) (d : PD u h D) (e : onP l D = some (l', D')) : ∃ g, f_X1_takeOnce N h = some (true, g) ∧ PS u n h0 g l' ∧ PD u g D' := by
  unfold onP at e
  obtain ⟨x, hx⟩ : ∃ x, x = (1 : Int32) <<< (((tkK l).1 - 256) &&& 31) := ⟨_, rfl⟩
  simp only [← hx] at e
  by_cases z : (nI (qOc D) &&& x) = 0 ∧ (nI (qOc D) ||| x) = nI (nI (qOc D) ||| x).toNatClampNeg
  · rw [if_pos z] at e
    obtain ⟨q1, q2⟩ := Prod.mk.inj (Option.some.inj e)
    subst q1
    subst q2
    have e7 : gI h 1 0 7 = nI (qOc D) := d.2.1
    obtain ⟨g1, hg1⟩ : ∃ g1, g1 = sI h 1 0 7 (nI (qOc D) ||| x) := ⟨_, rfl⟩
    have s1 : PS u n h0 g1 l := by rw [hg1]; exact s.i (Or.inl rfl)
    obtain ⟨g, a1, a2, a3, a4⟩ := s1.adv hN
    unfold f_X1_takeOnce
    rw [s.2.1.1, onO_s, lt_e, s.k6, ← hx, e7, if_pos z.1, lt_e, ← hg1, s1.2.1.1, onO_s, a1, bind_s]
    refine ⟨g, rfl, a3, a4.pd ?_⟩
    obtain ⟨d1, d2, d3⟩ := d
    rw [hg1]
    refine ⟨?_, ?_, ?_⟩
    · rw [show gI (sI h 1 0 7 (nI (qOc D) ||| x)) 5 u = gI h 5 u from funext fun k => by rw [GI, if_neg (by omega)]]
      obtain ⟨d1, d2⟩ := d1
      refine ⟨fun k a b => ?_, d2⟩
      rw [d1 k a b]
      rcases (show k = 10 ∨ k = 11 ∨ k = 12 ∨ k = 13 ∨ k = 14 ∨ k = 15 ∨ k = 16 ∨ k = 17 ∨ k = 18 ∨ k = 19 by omega) with rfl | rfl | rfl | rfl | rfl | rfl | rfl | rfl | rfl | rfl <;> rfl
    · rw [GI, if_pos ⟨rfl, rfl, rfl⟩]
      exact z.2
    · show PL u _ D.2.2.2.2.2
      unfold PL at d3 ⊢
      cases hw : D.2.2.2.2.2 with
      | none =>
        rw [hw] at d3
        exact ⟨by rw [GI, if_neg (by omega)]; exact d3.1, by rw [GI, if_neg (by omega)]; exact d3.2.1, d3.2.2⟩
      | some v =>
        rw [hw] at d3
        exact d3
  · rw [if_neg z] at e
    exact absurd e (by simp)
/-- one number of what is told set -/
theorem pdv_i {I : Nat → Int32} {A : Nat → Nat → Int32} (d : PDv I A D) (k : Nat) (v : Int32) (hk : 10 ≤ k ∧ k ≤ 19) (e : v = dI D' k) (r : ∀ j, 10 ≤ j → j ≤ 19 → ¬ j = k → dI D j = dI D' j) (e1 : D'.1 = D.1) (e2 : D'.2.1 = D.2.1) (e3 : D'.2.2.1 = D.2.2.1) (e4 : D'.2.2.2.1 = D.2.2.2.1) : PDv (upd I k v) A D' := by
  obtain ⟨d1, d2, d3, d4, d5⟩ := d
  refine ⟨fun j a b => ?_, fun i hi => ?_, fun i hi => ?_, fun i hi => ?_, fun i hi => ?_⟩
  · by_cases w : j = k
    · rw [w, up_p, e]
    · rw [up_n w, d1 j a b, r j a b w]
  · rw [e1] at hi
    show _ = nI (D'.1.getD i 0)
    rw [e1]; exact d2 i hi
  · rw [e2] at hi
    show _ = (D'.2.1.getD i dN).1 ∧ _ = nI (D'.2.1.getD i dN).2.1 ∧ _ = nI (D'.2.1.getD i dN).2.2.1 ∧ _ = nI (D'.2.1.getD i dN).2.2.2
    rw [e2]; exact d3 i hi
  · rw [e3] at hi
    show _ = nI (D'.2.2.1.getD i dF).1 ∧ _ = nI (D'.2.2.1.getD i dF).2.1 ∧ _ = nI (D'.2.2.1.getD i dF).2.2
    rw [e3]; exact d4 i hi
  · rw [e4] at hi
    show _ = nI (D'.2.2.2.1.getD i 0)
    rw [e4]; exact d5 i hi
theorem pd_i (d : PD u h D) (k : Nat) (v : Int32) (hk : 10 ≤ k ∧ k ≤ 19) (e : v = dI D' k) (r : ∀ j, 10 ≤ j → j ≤ 19 → ¬ j = k → dI D j = dI D' j) (e1 : D'.1 = D.1) (e2 : D'.2.1 = D.2.1) (e3 : D'.2.2.1 = D.2.2.1) (e4 : D'.2.2.2.1 = D.2.2.2.1) (o : D'.2.2.2.2.1.2.2.2.2.1 = D.2.2.2.2.1.2.2.2.2.1) (w : D'.2.2.2.2.2 = D.2.2.2.2.2) : PD u (sI h 5 u k v) D' := PD.put d (by rw [GI5]; exact pdv_i d.1 k v hk e r e1 e2 e3 e4) o w (Kr.i5 u h k v)
theorem line_hp (hN : 1000 ≤ N) (s : PS u n h0 h l) (d : PD u h D) (e : hpP l D = some (l', D')) : ∃ g, f_X1_readHeap N h = some (true, g) ∧ PS u n h0 g l' ∧ PD u g D' := by
  unfold hpP at e
  obtain ⟨⟨l1, D1⟩, e0, e⟩ := Option.bind_eq_some_iff.mp e
  obtain ⟨⟨v, l2⟩, e1, e⟩ := Option.bind_eq_some_iff.mp e
  obtain ⟨q1, q2⟩ := Prod.mk.inj (Option.some.inj e)
  dsimp only at q1 q2 e1
  subst q1
  subst q2
  obtain ⟨g1, a1, a2, a3⟩ := once_e hN s d e0
  obtain ⟨g2, b1, b2, b3, b4⟩ := a2.num hN (by omega) e1
  unfold f_X1_readHeap
  rw [a1, bd2_s, jn_e, if_neg (show ¬ b2i true = 0 by decide), show (999 : Int32) = nI 999 from rfl, b1, bd2_s, if_pos (show ¬ b2i true = 0 by decide), b2.2.1.2, onO_s, lt_e, b4]
  refine ⟨_, rfl, b2.i (by omega), pd_i (b3.pd a3) 15 _ (by omega) rfl (fun j x y w => ?_) rfl rfl rfl rfl rfl rfl⟩
  rcases (show j = 10 ∨ j = 11 ∨ j = 12 ∨ j = 13 ∨ j = 14 ∨ j = 16 ∨ j = 17 ∨ j = 18 ∨ j = 19 by omega) with rfl | rfl | rfl | rfl | rfl | rfl | rfl | rfl | rfl <;> rfl
theorem line_ru (hN : 1000 ≤ N) (s : PS u n h0 h l) (d : PD u h D) (e : ruP l D = some (l', D')) : ∃ g, f_X1_readRule N h = some (true, g) ∧ PS u n h0 g l' ∧ PD u g D' := by
  unfold ruP at e
  obtain ⟨⟨l1, D1⟩, e0, e⟩ := Option.bind_eq_some_iff.mp e
  dsimp only at e
  by_cases z : ¬ (tkK l1).1 < 265 ∧ (tkK l1).1 ≤ 267 ∧ (tkK l1).1 - 265 = nI ((tkK l1).1 - 265).toNatClampNeg
  · rw [if_pos z] at e
    obtain ⟨q1, q2⟩ := Prod.mk.inj (Option.some.inj e)
    subst q1
    subst q2
    obtain ⟨g1, a1, a2, a3⟩ := once_e hN s d e0
    obtain ⟨g2, hg2⟩ : ∃ g2, g2 = sI g1 5 u 16 ((tkK l1).1 - 265) := ⟨_, rfl⟩
    have s2 : PS u n h0 g2 l1 := by rw [hg2]; exact a2.i (by omega)
    obtain ⟨g3, b1, -, b2, b3⟩ := s2.adv hN
    unfold f_X1_readRule
    rw [a1, bd2_s, if_pos (show ¬ b2i true = 0 by decide), a2.2.1.1, onO_s, jn_e, a2.k6, if_neg z.1, onO_s, if_pos z.2.1, a2.2.1.2, onO_s, onO_s, lt_e, ← hg2, s2.2.1.1, onO_s, b1, bind_s]
    refine ⟨_, rfl, b2, b3.pd ?_⟩
    rw [hg2]
    refine pd_i a3 16 _ (by omega) z.2.2 (fun j x y w => ?_) rfl rfl rfl rfl rfl rfl
    rcases (show j = 10 ∨ j = 11 ∨ j = 12 ∨ j = 13 ∨ j = 14 ∨ j = 15 ∨ j = 17 ∨ j = 18 ∨ j = 19 by omega) with rfl | rfl | rfl | rfl | rfl | rfl | rfl | rfl | rfl <;> rfl
  · rw [if_neg z] at e
    exact absurd e (by simp)
theorem line_ga (hN : 1000 ≤ N) (s : PS u n h0 h l) (d : PD u h D) (e : gaP l D = some (l', D')) : ∃ g, f_X1_readGale N h = some (true, g) ∧ PS u n h0 g l' ∧ PD u g D' := by
  unfold gaP at e
  obtain ⟨⟨l1, D1⟩, e0, e⟩ := Option.bind_eq_some_iff.mp e
  obtain ⟨⟨v, l2⟩, e1, e⟩ := Option.bind_eq_some_iff.mp e
  obtain ⟨⟨w, l3⟩, e2, e⟩ := Option.bind_eq_some_iff.mp e
  obtain ⟨q1, q2⟩ := Prod.mk.inj (Option.some.inj e)
  dsimp only at q1 q2 e1 e2
  subst q1
  subst q2
  obtain ⟨g1, a1, a2, a3⟩ := once_e hN s d e0
  obtain ⟨g2, b1, b2, b3, b4⟩ := a2.num hN (by omega) e1
  obtain ⟨g3, hg3⟩ : ∃ g3, g3 = sI g2 5 u 17 (nI v) := ⟨_, rfl⟩
  have s3 : PS u n h0 g3 l2 := by rw [hg3]; exact b2.i (by omega)
  obtain ⟨g4, c1, c2, c3, c4⟩ := s3.num hN (by omega) e2
  unfold f_X1_readGale
  rw [a1, bd2_s, jn_e, if_neg (show ¬ b2i true = 0 by decide), show (100 : Int32) = nI 100 from rfl, b1, bd2_s, if_pos (show ¬ b2i true = 0 by decide), b2.2.1.2, onO_s, lt_e, b4, ← hg3, show (99 : Int32) = nI 99 from rfl, c1, bd2_s, if_pos (show ¬ b2i true = 0 by decide), c2.2.1.2, onO_s, lt_e, c4]
  refine ⟨_, rfl, c2.i (by omega), ?_⟩
  have p3 : PD u g3 (D1.1, D1.2.1, D1.2.2.1, D1.2.2.2.1, (D1.2.2.2.2.1.1, D1.2.2.2.2.1.2.1, v, D1.2.2.2.2.1.2.2.2), D1.2.2.2.2.2) := by
    rw [hg3]
    refine pd_i (b3.pd a3) 17 _ (by omega) rfl (fun j x y w => ?_) rfl rfl rfl rfl rfl rfl
    rcases (show j = 10 ∨ j = 11 ∨ j = 12 ∨ j = 13 ∨ j = 14 ∨ j = 15 ∨ j = 16 ∨ j = 18 ∨ j = 19 by omega) with rfl | rfl | rfl | rfl | rfl | rfl | rfl | rfl | rfl <;> rfl
  refine pd_i (c3.pd p3) 18 _ (by omega) rfl (fun j x y w => ?_) rfl rfl rfl rfl rfl rfl
  rcases (show j = 10 ∨ j = 11 ∨ j = 12 ∨ j = 13 ∨ j = 14 ∨ j = 15 ∨ j = 16 ∨ j = 17 ∨ j = 19 by omega) with rfl | rfl | rfl | rfl | rfl | rfl | rfl | rfl | rfl <;> rfl
end Lines3
