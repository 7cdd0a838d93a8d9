-- PURE: a line told, as lists and by the class: stripe, croft, field
theorem gd_l {α : Type} (l : List α) (v d : α) {i : Nat} (h : i < l.length) : (l ++ [v]).getD i d = l.getD i d := by
  rw [List.getD_eq_getElem?_getD, List.getD_eq_getElem?_getD, List.getElem?_append_left h]
theorem gd_r {α : Type} (l : List α) (v d : α) : (l ++ [v]).getD l.length d = v := by
  rw [List.getD_eq_getElem?_getD, List.getElem?_append_right (Nat.le_refl _), Nat.sub_self]
  rfl
def uF5 (F : Nat → Nat → Int32) (k i : Nat) (v : Int32) : Nat → Nat → Int32 := fun k' => if k' = k then upd (F k) i v else F k'
theorem uF5_n (F : Nat → Nat → Int32) {k i k' j : Nat} (v : Int32) (q : ¬ (k' = k ∧ j = i)) : uF5 F k i v k' j = F k' j := by
  unfold uF5
  by_cases z : k' = k
  · rw [if_pos z, up_n (fun w => q ⟨z, w⟩), z]
  · rw [if_neg z]
theorem uF5_p (F : Nat → Nat → Int32) (k i : Nat) (v : Int32) : uF5 F k i v k i = v := by
  unfold uF5
  rw [if_pos rfl, up_p]
theorem GI5 (h : Hp) (u k : Nat) (v : Int32) : gI (sI h 5 u k v) 5 u = upd (gI h 5 u) k v := funext fun j => by
  rw [GI]
  by_cases z : j = k
  · rw [if_pos ⟨rfl, rfl, z⟩, z, up_p]
  · rw [if_neg (fun q => z q.2.2), up_n z]
theorem GA5 (h : Hp) (u k i : Nat) (v : Int32) : gA (sA h 5 u k i v) 5 u = uF5 (gA h 5 u) k i v := funext fun j => by
  rw [GA]
  unfold uF5
  by_cases z : j = k
  · rw [if_pos ⟨rfl, rfl, z⟩, if_pos z]
  · rw [if_neg (fun q => z q.2.2), if_neg z]
def stP (l : List Int32) (D : DT) : Option (List Int32 × DT) := if D.1.length < 8 then (numP 999 (tkK l).2.2.2).bind fun p => some (p.2, (D.1 ++ [p.1], D.2)) else none
def idC : List (Int32 × Nat × Nat × Nat) → Int32 → Nat → Int32
  | [], _, _ => -1
  | a :: l, x, k => if a.1 = x then nI k else idC l x (k + 1)
def crP (l : List Int32) (D : DT) : Option (List Int32 × DT) :=
  if D.2.1.length < 4 ∧ (tkK (tkK l).2.2.2).1 = 3 ∧ idC D.2.1 (tkK (tkK l).2.2.2).2.2.1 0 = -1 then (numP 5 (tkK (tkK l).2.2.2).2.2.2).bind fun p => (numP 9 p.2).bind fun q => (numP 99 q.2).bind fun r => some (r.2, (D.1, D.2.1 ++ [((tkK (tkK l).2.2.2).2.2.1, p.1, q.1, r.1)], D.2.2)) else none
def fiP (l : List Int32) (D : DT) : Option (List Int32 × DT) :=
  if D.2.2.1.length < 6 ∧ (tkK (tkK l).2.2.2).1 = 3 ∧ ¬ idC D.2.1 (tkK (tkK l).2.2.2).2.2.1 0 = -1 ∧ idC D.2.1 (tkK (tkK l).2.2.2).2.2.1 0 = nI (idC D.2.1 (tkK (tkK l).2.2.2).2.2.1 0).toNatClampNeg then (numP 99 (tkK (tkK l).2.2.2).2.2.2).bind fun p => (numP 9 p.2).bind fun q => some (q.2, (D.1, D.2.1, D.2.2.1 ++ [((idC D.2.1 (tkK (tkK l).2.2.2).2.2.1 0).toNatClampNeg, p.1, q.1)], D.2.2.2)) else none
section Lines
variable {N u n : Nat} {h0 h g : Hp} {l l' : List Int32} {D D' : DT}
theorem pdv_st {I : Nat → Int32} {A : Nat → Nat → Int32} (d : PDv I A D) (v : Nat) : PDv (upd I 11 (nI (D.1.length + 1))) (uF5 A 0 D.1.length (nI v)) (D.1 ++ [v], D.2) := by
  obtain ⟨d1, d2, d3, d4, d5⟩ := d
  refine ⟨fun k a b => ?_, fun i hi => ?_, fun i hi => ?_, fun i hi => ?_, fun i hi => ?_⟩
  · by_cases z : k = 11
    · subst z
      rw [up_p]
      show _ = nI (D.1 ++ [v]).length
      rw [List.length_append]; rfl
    · rw [up_n z, d1 k a b]
      rcases (show k = 10 ∨ k = 12 ∨ k = 13 ∨ k = 14 ∨ k = 15 ∨ k = 16 ∨ k = 17 ∨ k = 18 ∨ k = 19 by omega) with rfl | rfl | rfl | rfl | rfl | rfl | rfl | rfl | rfl <;> rfl
  · show _ = nI ((D.1 ++ [v]).getD i 0)
    by_cases z : i = D.1.length
    · rw [z, uF5_p, gd_r]
    · have hl : i < D.1.length := by
        have hi : i < (D.1 ++ [v]).length := hi
        rw [List.length_append] at hi
        have : ([v] : List Nat).length = 1 := rfl
        omega
      rw [uF5_n _ _ (fun q => z q.2), gd_l _ _ _ hl]
      exact d2 i hl
  · rw [uF5_n _ _ (by omega), uF5_n _ _ (by omega), uF5_n _ _ (by omega), uF5_n _ _ (by omega)]
    exact d3 i hi
  · rw [uF5_n _ _ (by omega), uF5_n _ _ (by omega), uF5_n _ _ (by omega)]
    exact d4 i hi
  · rw [uF5_n _ _ (by omega)]
    exact d5 i hi
theorem pdv_cr {I : Nat → Int32} {A : Nat → Nat → Int32} (d : PDv I A D) (x : Int32) (a b c : Nat) : PDv (upd I 12 (nI (D.2.1.length + 1))) (uF5 (uF5 (uF5 (uF5 A 1 D.2.1.length x) 2 D.2.1.length (nI a)) 3 D.2.1.length (nI b)) 4 D.2.1.length (nI c)) (D.1, D.2.1 ++ [(x, a, b, c)], D.2.2) := by
  obtain ⟨d1, d2, d3, d4, d5⟩ := d
  refine ⟨fun k a b => ?_, fun i hi => ?_, fun i hi => ?_, fun i hi => ?_, fun i hi => ?_⟩
  · by_cases z : k = 12
    · subst z
      rw [up_p]
      show _ = nI (D.2.1 ++ [_]).length
      rw [List.length_append]; rfl
    · rw [up_n z, d1 k a b]
      rcases (show k = 10 ∨ k = 11 ∨ k = 13 ∨ k = 14 ∨ k = 15 ∨ k = 16 ∨ k = 17 ∨ k = 18 ∨ k = 19 by omega) with rfl | rfl | rfl | rfl | rfl | rfl | rfl | rfl | rfl <;> rfl
  · rw [uF5_n _ _ (by omega), uF5_n _ _ (by omega), uF5_n _ _ (by omega), uF5_n _ _ (by omega)]
    exact d2 i hi
  · show _ = ((D.2.1 ++ [(x, a, b, c)]).getD i dN).1 ∧ _ = nI ((D.2.1 ++ [(x, a, b, c)]).getD i dN).2.1 ∧ _ = nI ((D.2.1 ++ [(x, a, b, c)]).getD i dN).2.2.1 ∧ _ = nI ((D.2.1 ++ [(x, a, b, c)]).getD i dN).2.2.2
    by_cases z : i = D.2.1.length
    · rw [z, gd_r]
      refine ⟨?_, ?_, ?_, uF5_p _ _ _ _⟩
      · rw [uF5_n _ _ (by omega), uF5_n _ _ (by omega), uF5_n _ _ (by omega), uF5_p]
      · rw [uF5_n _ _ (by omega), uF5_n _ _ (by omega), uF5_p]
      · rw [uF5_n _ _ (by omega), uF5_p]
    · have hl : i < D.2.1.length := by
        have hi : i < (D.2.1 ++ [(x, a, b, c)]).length := hi
        rw [List.length_append] at hi
        have : ([(x, a, b, c)] : List (Int32 × Nat × Nat × Nat)).length = 1 := rfl
        omega
      have nn : ∀ k, uF5 (uF5 (uF5 (uF5 A 1 D.2.1.length x) 2 D.2.1.length (nI a)) 3 D.2.1.length (nI b)) 4 D.2.1.length (nI c) k i = A k i := fun k => by
        rw [uF5_n _ _ (fun q => z q.2), uF5_n _ _ (fun q => z q.2), uF5_n _ _ (fun q => z q.2), uF5_n _ _ (fun q => z q.2)]
      rw [gd_l _ _ _ hl, nn, nn, nn, nn]
      exact d3 i hl
  · have nn : ∀ k, 5 ≤ k → uF5 (uF5 (uF5 (uF5 A 1 D.2.1.length x) 2 D.2.1.length (nI a)) 3 D.2.1.length (nI b)) 4 D.2.1.length (nI c) k i = A k i := fun k hk => by
      rw [uF5_n _ _ (by omega), uF5_n _ _ (by omega), uF5_n _ _ (by omega), uF5_n _ _ (by omega)]
    rw [nn 5 (by omega), nn 6 (by omega), nn 7 (by omega)]
    exact d4 i hi
  · rw [uF5_n _ _ (by omega), uF5_n _ _ (by omega), uF5_n _ _ (by omega), uF5_n _ _ (by omega)]
    exact d5 i hi
theorem pdv_fi {I : Nat → Int32} {A : Nat → Nat → Int32} (d : PDv I A D) (a b c : Nat) : PDv (upd I 13 (nI (D.2.2.1.length + 1))) (uF5 (uF5 (uF5 A 5 D.2.2.1.length (nI a)) 6 D.2.2.1.length (nI b)) 7 D.2.2.1.length (nI c)) (D.1, D.2.1, D.2.2.1 ++ [(a, b, c)], D.2.2.2) := by
  obtain ⟨d1, d2, d3, d4, d5⟩ := d
  have nn : ∀ k i, k ≤ 4 ∨ 8 ≤ k → uF5 (uF5 (uF5 A 5 D.2.2.1.length (nI a)) 6 D.2.2.1.length (nI b)) 7 D.2.2.1.length (nI c) k i = A k i := fun k i hk => by
    rw [uF5_n _ _ (by omega), uF5_n _ _ (by omega), uF5_n _ _ (by omega)]
  refine ⟨fun k a b => ?_, fun i hi => ?_, fun i hi => ?_, fun i hi => ?_, fun i hi => ?_⟩
  · by_cases z : k = 13
    · subst z
      rw [up_p]
      show _ = nI (D.2.2.1 ++ [_]).length
      rw [List.length_append]; rfl
    · rw [up_n z, d1 k a b]
      rcases (show k = 10 ∨ k = 11 ∨ k = 12 ∨ k = 14 ∨ k = 15 ∨ k = 16 ∨ k = 17 ∨ k = 18 ∨ k = 19 by omega) with rfl | rfl | rfl | rfl | rfl | rfl | rfl | rfl | rfl <;> rfl
  · rw [nn 0 i (by omega)]
    exact d2 i hi
  · rw [nn 1 i (by omega), nn 2 i (by omega), nn 3 i (by omega), nn 4 i (by omega)]
    exact d3 i hi
  · show _ = nI ((D.2.2.1 ++ [(a, b, c)]).getD i dF).1 ∧ _ = nI ((D.2.2.1 ++ [(a, b, c)]).getD i dF).2.1 ∧ _ = nI ((D.2.2.1 ++ [(a, b, c)]).getD i dF).2.2
    by_cases z : i = D.2.2.1.length
    · rw [z, gd_r]
      refine ⟨?_, ?_, uF5_p _ _ _ _⟩
      · rw [uF5_n _ _ (by omega), uF5_n _ _ (by omega), uF5_p]
      · rw [uF5_n _ _ (by omega), uF5_p]
    · have hl : i < D.2.2.1.length := by
        have hi : i < (D.2.2.1 ++ [(a, b, c)]).length := hi
        rw [List.length_append] at hi
        have : ([(a, b, c)] : List (Nat × Nat × Nat)).length = 1 := rfl
        omega
      have mm : ∀ k, uF5 (uF5 (uF5 A 5 D.2.2.1.length (nI a)) 6 D.2.2.1.length (nI b)) 7 D.2.2.1.length (nI c) k i = A k i := fun k => by
        rw [uF5_n _ _ (fun q => z q.2), uF5_n _ _ (fun q => z q.2), uF5_n _ _ (fun q => z q.2)]
      rw [gd_l _ _ _ hl, mm, mm, mm]
      exact d4 i hl
  · rw [nn 8 i (by omega)]
    exact d5 i hi
/-- what is told changed, the rest as it was -/
theorem PD.set (d : PD u h D) (e : PDv (gI g 5 u) (gA g 5 u) D') (o : D'.2.2.2.2.1.2.2.2.2.1 = D.2.2.2.2.1.2.2.2.2.1) (w : D'.2.2.2.2.2 = D.2.2.2.2.2) (k7 : gI g 1 0 7 = gI h 1 0 7) (k10 : gI g 1 0 10 = gI h 1 0 10) (k6 : gI g 0 u 6 = gI h 0 u 6) (ka : gA g 0 u = gA h 0 u) : PD u g D' := by
  obtain ⟨b1, b2, b3⟩ := d
  refine ⟨e, by rw [k7, o]; exact b2, ?_⟩
  rw [w]
  unfold PL at b3 ⊢
  cases hw : D.2.2.2.2.2 with
  | none =>
    rw [hw] at b3
    exact ⟨k10.trans b3.1, k6.trans b3.2.1, by rw [ka]; exact b3.2.2⟩
  | some v =>
    rw [hw] at b3
    rw [ka]
    exact b3
theorem line_st (hN : 1000 ≤ N) (s : PS u n h0 h l) (d : PD u h D) (e : stP l D = some (l', D')) : ∃ g, f_X1_readStripe N h = some (true, g) ∧ PS u n h0 g l' ∧ PD u g D' := by
  unfold stP at e
  by_cases z : D.1.length < 8
  · rw [if_pos z] at e
    obtain ⟨⟨v, l1⟩, e1, e2⟩ := Option.bind_eq_some_iff.mp e
    have e2 := Option.some.inj e2
    obtain ⟨q1, q2⟩ := Prod.mk.inj e2
    dsimp only at q1 q2
    subst q1
    subst q2
    obtain ⟨g1, a1, a2, a3, a4⟩ := s.adv hN
    obtain ⟨g2, b1, b2, b3, b4⟩ := a3.num hN (by omega) e1
    have kk := a4.tr b3
    have i11 : ∀ {m : Hp}, Kp u h m → gI m 5 u 11 = nI D.1.length := fun q => by rw [q.1]; exact d.1.1 11 (by omega) (by omega)
    unfold f_X1_readStripe
    rw [s.2.1.2, onO_s, i11 (Kp.rf u h), if_pos (show nI D.1.length < 8 from Int32.not_le.mp (nleN (a := 8) z (by omega))), s.2.1.1, onO_s, a1, bind_s, show (999 : Int32) = nI 999 from rfl, b1, bd2_s, if_pos (show ¬ b2i true = 0 by decide), b2.2.1.2, onO_s, onO_s, i11 kk, grd_p (inb_n z (by omega)), lt_e, clN (by omega), b4]
    obtain ⟨g3, hg3⟩ : ∃ g3, g3 = sA g2 5 u 0 D.1.length (nI v) := ⟨_, rfl⟩
    have c1 : PS u n h0 g3 l1 := by rw [hg3]; exact b2.a (by omega)
    have c2 : gI g3 5 u 11 = nI D.1.length := by rw [hg3]; exact i11 (m := g2) kk
    rw [← hg3, c1.2.1.2, onO_s, c2, lt_e, nI_1]
    refine ⟨_, rfl, c1.i (by omega), ?_⟩
    refine PD.set (kk.pd d) ?_ rfl rfl ?_ ?_ ?_ ?_
    · rw [GI5, show gA (sI g3 5 u 11 (nI (D.1.length + 1))) 5 u = gA g3 5 u from rfl, hg3, GA5]
      exact pdv_st (kk.pd d).1 v
    · rw [hg3, GI, if_neg (by omega)]; rfl
    · rw [hg3, GI, if_neg (by omega)]; rfl
    · rw [hg3, GI, if_neg (by omega)]; rfl
    · rw [hg3]
      exact funext fun k => by
        show gA (sA g2 5 u 0 D.1.length (nI v)) 0 u k = _
        rw [GA, if_neg (by omega)]
  · rw [if_neg z] at e
    exact absurd e (by simp)
end Lines
