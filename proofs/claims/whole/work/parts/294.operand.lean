-- PURE: an operand read by both
theorem npC_op {kn kt : Int32} (W : Wtg) (h : ¬ kt = 0) : npC ((kn, kt) :: W) = 1 + npC W := by
  show (if kt = 0 then 0 else 1) + npC W = _
  rw [if_neg h]
theorem cmpd_e (kn kt : Int32) (W : Wtg) : cmpd ((kn, kt) :: W) = if rkN kt = 4 then true else if 5 ≤ rkN kt then cmpd W else false := rfl
section Operand
variable {N : Nat} {h h' g g' : Hp} {u n p z0 z o : Nat} {W : Wtg} {H : List Nat} {st : Nat → List Nat}
theorem cl_push {w : Nat} (e : gI h 1 0 8 = nI w) (hw : w < 72) (k : Int32) : f_X1_push h k = some (sI (sA h 1 0 0 w k) 1 0 8 (nI (w + 1))) := by
  unfold f_X1_push
  have e2 : gI (sA h 1 0 0 w k) 1 0 8 = nI w := e
  simp only [jn_e, lt_e]
  rw [e, if_neg (show ¬ (72 : Int32) ≤ nI w from nleN (a := 72) hw (by omega)), grd_p (inb_n hw (by omega)), clN (by omega), e2, nI_1]
theorem m_waits {w : Nat} (e : gI g 8 0 41 = nI w) (hw : w < 96) (k : Int32) : f_X8_waitsFor g k = some (sI (sA g 8 0 19 w k) 8 0 41 (nI (w + 1))) := by
  unfold f_X8_waitsFor
  have e2 : gI (sA g 8 0 19 w k) 8 0 41 = nI w := e
  simp only [lt_e]
  rw [e, grd_p (inb_n hw (by omega)), clN (by omega), e2, nI_1]
theorem m_counted {c : Nat} (e : gI g 8 0 44 = nI c) (hc : c < 64) : f_X8_isCounted g = some (true, sI g 8 0 44 (nI (c + 1))) := by
  unfold f_X8_isCounted
  rw [e, if_pos (fun q => by have := nI_inj (j := 64) (by omega) (by omega) q; omega), lt_e, nI_1]
theorem m_counted0 {c : Nat} (e : gI g 8 0 44 = nI c) (hc : c = 64) : f_X8_isCounted g = bd2 (f_X8_wrong g 2) fun v3 h2 => some (v3, h2) := by
  unfold f_X8_isCounted
  rw [e, if_neg (fun q => q (by rw [hc]; rfl))]
/-- both end alike -/
def OB (u n z0 : Nat) (h g : Hp) (p : Nat) (A B : Option (Bool × Hp)) : Prop := ∃ b h' g', A = some (b, h') ∧ B = some (b, g') ∧ (b = false → Bad u h g h' g') ∧ (b = true → Go u n z0 h g p h' g')
theorem OB.bad (l : LX n h g p) (r : REF u h) (w : Int32) : OB u n z0 h g p (bd2 (f_X1_fails h w) fun v4 h3 => some (v4, h3)) (bd2 (f_X8_wrong g w) fun v4 h3 => some (v4, h3)) := by
  obtain ⟨h', g', a, b, c⟩ := bad_fail (u := u) r l.at w
  exact ⟨false, h', g', a, b, fun _ => c, fun q => Bool.noConfusion q⟩
theorem OB.go (hN : 1000 ≤ N) (l : LX n h g p) (r : REF u h) (ft : FT h g) (F : NW u z0 h h') (G : NV z0 g g') (q : LQ u z0 h' g' W H st z o) (m : DU h' g' W H ∨ ND h' g' W H z0 z) : OB u n z0 h g p ((f_X4_advance N h').bind fun h4 => some (true, h4)) ((f_X8_token N g').bind fun h4 => some (true, h4)) := by
  obtain ⟨h2, g2, a, b, c⟩ := adv hN l r ft F G q m
  rw [a, b, bind_s, bind_s]
  exact ⟨true, h2, g2, rfl, rfl, fun q => Bool.noConfusion q, fun _ => c⟩
theorem leaf_put (hN : 1000 ≤ N) (l : LX n h g p) (r : REF u h) (ft : FT h g) (q : LQ u z0 h g W H st z o) (m : DU h g W H) (hc : z + npC W < 64) {kn nu kt a : Int32} (stp : STP kn nu kt a 0 z H (z :: H)) : OB u n z0 h g p ((f_X4_advance N (sZ (putH (sI h 1 0 10 (nI (z + npC W + 1))) u z kn nu) 1 0 11 false)).bind fun h4 => some (true, h4)) ((f_X8_token N (sZ (grH (sI g 8 0 44 (nI (z + npC W + 1))) z H.length kt a 0) 8 0 45 false)).bind fun h4 => some (true, h4)) := by
  obtain ⟨c0, ⟨o1, o2, o3, o4⟩, ⟨k1, k2⟩, cm1, cm2⟩ := q
  obtain ⟨d1, d2, d3, -⟩ := m
  have zz := c0.2.2.2.1.1
  refine OB.go (W := W) (H := z :: H) (st := fun i => if i = z + 1 then z :: H else st i) (z := z + 1) (o := o) hN l r ft (((NW.i u z0 h 10 _ (by omega)).tr (BW.nw zz (putH_bf kn nu))).tr (NW.i u z0 _ 11 _ (by omega))) (((NV.i z0 g 44 _ (by omega)).tr (BV.nv zz (grH_bg kt a 0))).tr (NV.i z0 _ 45 _ (by omega))) ⟨?_, ⟨o1, o2, o3, o4⟩, ⟨?_, ?_⟩, cm1, cm2⟩ (Or.inr ⟨rfl, rfl, ?_, ⟨H, rfl⟩, by omega⟩)
  · exact ((c0.cg (KH.i u h 10 _ (by omega)) (KG.i g 44 _ (by omega))).grow hc stp).cg (KH.i u _ 11 _ (by omega)) (KG.i _ 45 _ (by omega))
  · show nI (z + npC W + 1) = _
    congr 1; omega
  · show nI (z + npC W + 1) = _
    congr 1; omega
  · show H.length + 1 = _
    rw [d3]
theorem leaf_not (hN : 1000 ≤ N) (l : LX n h g p) (r : REF u h) (ft : FT h g) (q : LQ u z0 h g W H st z o) (m : DU h g W H) (hc : z + npC W < 64) (hm : gI h 1 0 12 = b2i true) : OB u n z0 h g p ((f_X4_advance N (sI (sA (sI h 1 0 10 (nI (z + npC W + 1))) 1 0 0 W.length 279) 1 0 8 (nI (W.length + 1)))).bind fun h4 => some (true, h4)) ((f_X8_token N (sI (sA (sI g 8 0 44 (nI (z + npC W + 1))) 8 0 19 W.length 2) 8 0 41 (nI (W.length + 1)))).bind fun h4 => some (true, h4)) := by
  obtain ⟨c0, ⟨o1, o2, o3, o4⟩, ⟨k1, k2⟩, cm1, cm2⟩ := q
  obtain ⟨d1, d2, d3, mn, d4, d5, d6⟩ := m
  have en := npC_op (kn := 279) (kt := 2) W (by decide)
  have ec : cmpd ((279, 2) :: W) = false := by rw [cmpd_e, if_neg (by decide), if_neg (by decide)]
  have em : mn = true := by
    have := d4.symm.trans hm
    cases mn with
    | true => rfl
    | false => exact absurd this (by decide)
  refine OB.go (W := (279, 2) :: W) (H := H) (st := st) (z := z) (o := o) hN l r ft (((NW.i u z0 h 10 _ (by omega)).tr (NW.a u z0 _ 0 _ _)).tr (NW.i u z0 _ 8 _ (by omega))) (((NV.i z0 g 44 _ (by omega)).tr (NV.a z0 _ _ _)).tr (NV.i z0 _ 41 _ (by omega))) ⟨?_, ⟨o1, o2, o3, ?_⟩, ⟨?_, ?_⟩, ?_, ?_⟩ (Or.inl ⟨d1, d2, ?_, mn, d4, d5, fun _ => ec⟩)
  · exact (c0.cg (KH.i u h 10 _ (by omega)) (KG.i g 44 _ (by omega))).push (Or.inr (Or.inl ⟨rfl, rfl⟩)) (by rw [en]; omega)
  · show W.length + 1 = _
    rw [en]; omega
  · show nI (z + npC W + 1) = _
    rw [en]; congr 1; omega
  · show nI (z + npC W + 1) = _
    rw [en]; congr 1; omega
  · show (if (2 : Int32) = 0 then ∃ o', o = o' + 1 ∧ gA h 1 0 1 o' = b2i (cmpd W) ∧ CMP (gA h 1 0 1) W o' else CMP (gA h 1 0 1) W o)
    rw [if_neg (by decide)]; exact cm1
  · rw [ec]
    show gA h 1 0 1 o = _
    rw [cm2, d6 em]
  · show H.length = (if (2 : Int32) = 0 then 0 else if (2 : Int32) = 2 then 0 else 1) + bnC W
    rw [if_neg (by decide), if_pos rfl, d3, Nat.zero_add]
theorem leaf_open (hN : 1000 ≤ N) (l : LX n h g p) (r : REF u h) (ft : FT h g) (q : LQ u z0 h g W H st z o) (m : DU h g W H) (ho : o < 8) : OB u n z0 h g p ((f_X4_advance N (sZ (sY (sI (sI (sA h 1 0 0 W.length 40) 1 0 8 (nI (W.length + 1))) 1 0 9 (nI (o + 1))) 1 0 1 (o + 1) false) 1 0 12 true)).bind fun h4 => some (true, h4)) ((f_X8_token N (sZ (sI (sA (sI g 8 0 43 (nI (o + 1))) 8 0 19 W.length 0) 8 0 41 (nI (W.length + 1))) 8 0 46 true)).bind fun h4 => some (true, h4)) := by
  obtain ⟨c0, ⟨o1, o2, o3, o4⟩, ⟨k1, k2⟩, cm1, cm2⟩ := q
  obtain ⟨d1, d2, d3, mn, d4, d5, d6⟩ := m
  have en : npC ((40, 0) :: W) = npC W := by
    show (if (0 : Int32) = 0 then 0 else 1) + npC W = _
    rw [if_pos rfl, Nat.zero_add]
  have ec : cmpd ((40, 0) :: W) = false := by rw [cmpd_e, if_neg (by decide), if_neg (by decide)]
  have ea : gA (sZ (sY (sI (sI (sA h 1 0 0 W.length 40) 1 0 8 (nI (W.length + 1))) 1 0 9 (nI (o + 1))) 1 0 1 (o + 1) false) 1 0 12 true) 1 0 1 = upd (gA h 1 0 1) (o + 1) 0 := rfl
  refine OB.go (W := (40, 0) :: W) (H := H) (st := st) (z := z) (o := o + 1) hN l r ft (((((NW.a u z0 h 0 _ _).tr (NW.i u z0 _ 8 _ (by omega))).tr (NW.i u z0 _ 9 _ (by omega))).tr (NW.a u z0 _ 1 _ _)).tr (NW.i u z0 _ 12 _ (by omega))) ((((NV.i z0 g 43 _ (by omega)).tr (NV.a z0 _ _ _)).tr (NV.i z0 _ 41 _ (by omega))).tr (NV.i z0 _ 46 _ (by omega))) ⟨?_, ⟨rfl, rfl, by omega, ?_⟩, ⟨?_, ?_⟩, ?_, ?_⟩ (Or.inl ⟨d1, d2, ?_, true, rfl, rfl, fun _ => ec⟩)
  · exact ((c0.cg (KH.rf u h) (KG.i g 43 _ (by omega))).push (kn := 40) (kt := 0) (Or.inl ⟨rfl, rfl⟩) (by rw [en]; exact c0.2.2.2.2.2)).cg (((KH.i u _ 9 _ (by omega)).tr (KH.a u _ _ _)).tr (KH.i u _ 12 _ (by omega))) (KG.i _ 46 _ (by omega))
  · show W.length + 1 = _
    rw [en]; omega
  · show gI h 1 0 10 = _
    rw [en]; exact k1
  · show gI g 8 0 44 = _
    rw [en]; exact k2
  · rw [ea]
    show (if (0 : Int32) = 0 then ∃ o', o + 1 = o' + 1 ∧ upd (gA h 1 0 1) (o + 1) 0 o' = b2i (cmpd W) ∧ CMP (upd (gA h 1 0 1) (o + 1) 0) W o' else CMP (upd (gA h 1 0 1) (o + 1) 0) W (o + 1))
    rw [if_pos rfl]
    exact ⟨o, rfl, (up_n (by omega)).trans cm2, cm1.cg (fun i hi => up_n (by omega))⟩
  · rw [ea, ec]
    exact up_p _ _ _
  · show H.length = (if (0 : Int32) = 0 then 0 else if (0 : Int32) = 2 then 0 else 1) + bnC W
    rw [if_pos rfl, d3, Nat.zero_add]
theorem operand (hN : 1000 ≤ N) (l : LX n h g p) (r : REF u h) (ft : FT h g) (q : LQ u z0 h g W H st z o) (m : DU h g W H) : OB u n z0 h g p (f_X1_readOperand N h) (f_X8_leafRead N g) := by
  have tk := l.2.2.1
  have tn := tk_num tk
  have tw := tk_word tk
  have ts : gI h 4 0 6 = 40 ↔ (gI g 8 0 8 = 4 ∧ gI g 8 0 9 = 40) := tk_sign tk (Or.inr (Or.inl rfl))
  have tt : gI h 4 0 6 = 279 ↔ (gI g 8 0 8 = 1 ∧ gI g 8 0 9 = 18) := tk_key tk (j := 18) (by omega)
  obtain ⟨tr1, tr2⟩ := tk_range tk (a := 16) (b := 22) (d := 3) (by decide) (by omega) (by omega) (by omega)
  have tr1 : ((272 : Int32) ≤ gI h 4 0 6 ∧ gI h 4 0 6 ≤ 278) ↔ (gI g 8 0 8 = 1 ∧ (19 : Int32) ≤ gI g 8 0 9 ∧ gI g 8 0 9 ≤ 25) := tr1
  obtain ⟨c0, ⟨o1, o2, o3, o4⟩, ⟨k1, k2⟩, cm1, cm2⟩ := id q
  obtain ⟨d1, d2, d3, mn, d4, d5, d6⟩ := id m
  obtain ⟨⟨e1, e2, e3, e4, e5⟩, -, -, -, -, z64⟩ := id c0
  have hw : W.length ≤ 72 := by omega
  have bn := bn_np W
  have gz1 : gZ h 1 0 12 = mn := by unfold gZ; rw [d4, b2i_d]
  have gz2 : gZ g 8 0 46 = mn := by unfold gZ; rw [d5, b2i_d]
  have bt : ¬ b2i true = 0 := by decide
  have bf : b2i false = 0 := rfl
  have s0 : ¬ gI h 4 0 6 = 40 → f_X8_isSign g 40 = some false := fun q => by rw [m_isSg, decide_eq_false (fun w => q (ts.mpr w))]
  have k0 : ¬ gI h 4 0 6 = 279 → f_X8_isKey g 18 = some false := fun q => by rw [m_isKey, decide_eq_false (fun w => q (tt.mpr w))]
  -- what both do with a number, a name
  have put : ∀ {kn kt a : Int32}, (∀ x, STP kn x kt a 0 z H (z :: H)) ∨ STP kn (gI h 4 0 7) kt a 0 z H (z :: H) → OB u n z0 h g p (if gI h 1 0 10 < 64 then (onO (gO (sI h 1 0 10 (gI h 1 0 10 + 1)) 1 0 3) fun o8 => onO (gO (sI h 1 0 10 (gI h 1 0 10 + 1)) 1 0 2) fun _ => (f_X0_put (sI h 1 0 10 (gI h 1 0 10 + 1)) o8 kn (gI (sI h 1 0 10 (gI h 1 0 10 + 1)) 4 0 7)).bind fun h9 => onO (gO (sZ h9 1 0 11 false) 1 0 2) fun _ => (f_X4_advance N (sZ h9 1 0 11 false)).bind fun h4 => some (true, h4)) else bd2 (f_X1_fails h 2) fun v6 h5 => some (v6, h5)) (bd2 (f_X8_isCounted g) fun v5 h4 => if ¬ b2i v5 = 0 then ((f_X8_grown h4 kt a 0).bind fun h8 => (f_X8_token N (sZ h8 8 0 45 false)).bind fun h10 => some (true, h10)) else some (false, h4)) := fun {kn kt a} stp => by
    by_cases hc : z + npC W = 64
    · rw [k1, hc, if_neg (show ¬ nI 64 < 64 by decide), m_counted0 k2 hc, m_wrong, bd2_s, bd2_s, if_neg (fun q => q bf)]
      have B := OB.bad (z0 := z0) l r 2
      rw [m_wrong, bd2_s] at B
      exact B
    · have lt : z + npC W < 64 := by omega
      rw [k1, if_pos (show nI (z + npC W) < 64 from Int32.not_le.mp (nleN (a := 64) lt (by omega))), nI_1, m_counted k2 lt, bd2_s, if_pos bt]
      have g3 : gO (sI h 1 0 10 (nI (z + npC W + 1))) 1 0 3 = some u := r.2
      have g2 : gO (sI h 1 0 10 (nI (z + npC W + 1))) 1 0 2 = some 0 := r.1
      have g7 : gI (sI h 1 0 10 (nI (z + npC W + 1))) 4 0 7 = gI h 4 0 7 := rfl
      have f2 : gO (sZ (putH (sI h 1 0 10 (nI (z + npC W + 1))) u z kn (gI h 4 0 7)) 1 0 11 false) 1 0 2 = some 0 := r.1
      rw [g3, onO_s, g2, onO_s, g7, cl_put0 (show gI (sI h 1 0 10 (nI (z + npC W + 1))) 0 u 6 = nI z from e1) (by omega), bind_s, f2, onO_s, m_grown (show gI (sI g 8 0 44 (nI (z + npC W + 1))) 8 0 21 = nI z from e3) (by omega) (show gI (sI g 8 0 44 (nI (z + npC W + 1))) 8 0 42 = nI H.length from e5) (by omega), bind_s]
      exact leaf_put hN l r ft q m lt (stp.elim (fun q => q _) id)
  unfold f_X1_readOperand f_X8_leafRead
  simp only [r.1, onO_s, jn_e, lt_e]
  by_cases y2 : gI h 4 0 6 = 2
  · have m3 := tn.1.mp y2
    have nm : f_X8_nameMet g = some (-1) := by rw [m_nameMet, if_neg (show ¬ (gI g 8 0 8 = 1 ∧ 19 ≤ gI g 8 0 9) from fun q => absurd (m3.symm.trans q.1) (by decide))]
    rw [s0 (fun q => absurd (y2.symm.trans q) (by decide)), bind_s, if_pos bf, k0 (fun q => absurd (y2.symm.trans q) (by decide)), bind_s, if_pos bf, nm, bind_s]
    rw [if_neg (show ¬ ¬ gI h 4 0 6 = 2 from fun q => q y2), if_pos bt, if_neg bt, if_neg (show ¬ (0 : Int32) ≤ -1 by decide), if_pos m3, if_neg (show ¬ (0 : Int32) ≤ -1 by decide)]
    rcases tn.2 y2 with ⟨v, hv, e1', e2'⟩ | ⟨v, w, h1, h2, h3, h4, e1', e2'⟩
    · by_cases y : v ≤ 9999
      · rw [if_neg (show ¬ 9999 < gI h 4 0 7 by rw [e1']; exact Int32.not_lt.mpr (leN (b := 9999) y (by omega))), if_pos (show gI g 8 0 9 ≤ 9999 by rw [e2']; exact leN (b := 9999) y (by omega)), y2]
        have P := put (kn := 2) (kt := 0) (a := gI g 8 0 9) (Or.inr (Or.inl ⟨rfl, rfl, by rw [e1', e2'], ⟨v, y, e1'⟩, rfl⟩))
        have g9 : ∀ x, gI (sI g 8 0 44 x) 8 0 9 = gI g 8 0 9 := fun _ => rfl
        by_cases hc : z + npC W = 64
        · rw [m_counted0 k2 hc, m_wrong, bd2_s, bd2_s] at P ⊢
          exact P
        · rw [m_counted k2 (by omega), bd2_s] at P ⊢
          rw [g9, if_pos (show (-1 : Int32) < 0 by decide), if_pos (show (-1 : Int32) < 0 by decide)]
          exact P
      · rw [if_pos (show 9999 < gI h 4 0 7 by rw [e1']; exact Int32.not_le.mp (nleN (b := 9999) (by omega) (by omega))), if_neg (show ¬ gI g 8 0 9 ≤ 9999 by rw [e2']; exact nleN (b := 9999) (by omega) (by omega))]
        exact OB.bad l r 2
    · rw [if_pos (show 9999 < gI h 4 0 7 by rw [e1']; exact Int32.not_le.mp (nleN (b := 9999) (by omega) (by omega))), if_neg (show ¬ gI g 8 0 9 ≤ 9999 by rw [e2']; exact nleN (b := 9999) (by omega) (by omega))]
      exact OB.bad l r 2
  rw [if_pos y2, if_neg (fun q => q bf)]
  by_cases yn : (272 : Int32) ≤ gI h 4 0 6 ∧ gI h 4 0 6 ≤ 278
  · obtain ⟨j, j1, j2, j3, j4⟩ := tr2 (tr1.mp yn)
    have m1 := (tr1.mp yn).1
    have n40 : ¬ gI h 4 0 6 = 40 := fun q => by
      rw [j3] at q
      have := nI_inj (j := 40) (by omega) (by omega) q
      omega
    have n279 : ¬ gI h 4 0 6 = 279 := fun q => by
      rw [j3] at q
      have := nI_inj (j := 279) (by omega) (by omega) q
      omega
    have ev : gI g 8 0 9 - 19 = nI (j - 16) := by rw [j4, show (19 : Int32) = nI 19 from rfl, nI_sub (by omega), show j + 3 - 19 = j - 16 by omega]
    have ge : (0 : Int32) ≤ nI (j - 16) := leN (a := 0) (Nat.zero_le _) (by omega)
    have nm : f_X8_nameMet g = some (nI (j - 16)) := by rw [m_nameMet, if_pos (show gI g 8 0 8 = 1 ∧ 19 ≤ gI g 8 0 9 from ⟨m1, (tr1.mp yn).2.1⟩), ev]
    rw [s0 n40, bind_s, if_pos bf, k0 n279, bind_s, if_pos bf, nm, bind_s, if_pos ge, if_pos ge, if_neg (Int32.not_lt.mpr yn.1), if_neg (Int32.not_lt.mpr yn.2), if_pos bf]
    have P := put (kn := gI h 4 0 6) (kt := 1) (a := nI (j - 16)) (Or.inl (fun x => Or.inr (Or.inl ⟨j - 16, by omega, by rw [j3]; congr 1; omega, rfl, rfl, rfl⟩)))
    by_cases hc : z + npC W = 64
    · rw [m_counted0 k2 hc, m_wrong, bd2_s, bd2_s] at P ⊢
      exact P
    · rw [m_counted k2 (by omega), bd2_s] at P ⊢
      rw [if_neg (Int32.not_lt.mpr ge), if_neg (Int32.not_lt.mpr ge)]
      exact P
  have nl : ∀ A B : Option (Bool × Hp), (if gI h 4 0 6 < 272 then A else if 278 < gI h 4 0 6 then A else B) = A := fun A B => by
    by_cases x : gI h 4 0 6 < 272
    · rw [if_pos x]
    · rw [if_neg x]
      by_cases x2 : 278 < gI h 4 0 6
      · rw [if_pos x2]
      · exact absurd ⟨Int32.not_lt.mp x, Int32.not_lt.mp x2⟩ yn
  rw [nl]
  by_cases y40 : gI h 4 0 6 = 40
  · rw [if_neg (fun q => q y40), m_isSg, decide_eq_true (ts.mp y40), bind_s, if_neg bt, y40]
    by_cases ho : o = 8
    · rw [o1, o2, ho, if_neg (show ¬ nI 8 < 8 by decide), if_neg (fun q => q (show nI 8 = 8 from rfl))]
      exact OB.bad l r 2
    · have i9 : gI (sI (sA h 1 0 0 W.length 40) 1 0 8 (nI (W.length + 1))) 1 0 9 = nI o := o1
      have i9' : gI (sI (sI (sA h 1 0 0 W.length 40) 1 0 8 (nI (W.length + 1))) 1 0 9 (nI (o + 1))) 1 0 9 = nI (o + 1) := rfl
      have i2 : gO (sZ (sY (sI (sI (sA h 1 0 0 W.length 40) 1 0 8 (nI (W.length + 1))) 1 0 9 (nI (o + 1))) 1 0 1 (o + 1) false) 1 0 12 true) 1 0 2 = some 0 := r.1
      rw [o1, o2, if_pos (show nI o < 8 from Int32.not_le.mp (nleN (a := 8) (by omega) (by omega))), if_pos (show ¬ nI o = 8 from fun q => ho (nI_inj (j := 8) (by omega) (by omega) q)), cl_push e2 (by omega), bind_s, i9, nI_1, i9', grd_p (inb_n (by omega) (by omega)), clN (by omega), i2, onO_s, m_waits (show gI (sI g 8 0 43 (nI (o + 1))) 8 0 41 = nI W.length from e4) (by omega), bind_s]
      exact leaf_open hN l r ft q m (by omega)
  rw [if_pos y40, s0 y40, bind_s, if_pos bf]
  -- nothing fits
  have nn : ¬ (gI g 8 0 8 = 1 ∧ 19 ≤ gI g 8 0 9) := fun q => by
    obtain ⟨k, hk, x1, -⟩ := tw.2 q.1
    exact yn (tr1.mpr ⟨q.1, q.2, by rw [x1]; exact leN (b := 25) (by omega) (by omega)⟩)
  have m3 : ¬ gI g 8 0 8 = 3 := fun q => y2 (tn.1.mpr q)
  have nm : f_X8_nameMet g = some (-1) := by rw [m_nameMet, if_neg nn]
  rw [nm]
  by_cases y279 : gI h 4 0 6 = 279
  · rw [if_neg (fun q => q y279), m_isKey, decide_eq_true (tt.mp y279), bind_s, if_neg bt, gz1, gz2, y279]
    cases mn with
    | false =>
      rw [if_pos bf, if_pos bf, bind_s, if_neg (show ¬ (0 : Int32) ≤ -1 by decide), if_neg m3]
      exact OB.bad l r 1
    | true =>
      rw [if_neg bt, if_neg bt]
      by_cases hc : z + npC W = 64
      · rw [k1, hc, if_neg (show ¬ nI 64 < 64 by decide), m_counted0 k2 hc, m_wrong, bd2_s, bd2_s, if_neg (fun q => q bf)]
        have B := OB.bad (z0 := z0) l r 2
        rw [m_wrong, bd2_s] at B
        exact B
      · have lt : z + npC W < 64 := by omega
        have f2 : gO (sI (sA (sI h 1 0 10 (nI (z + npC W + 1))) 1 0 0 W.length 279) 1 0 8 (nI (W.length + 1))) 1 0 2 = some 0 := r.1
        rw [k1, if_pos (show nI (z + npC W) < 64 from Int32.not_le.mp (nleN (a := 64) lt (by omega))), nI_1, m_counted k2 lt, bd2_s, if_pos bt, cl_push (show gI (sI h 1 0 10 (nI (z + npC W + 1))) 1 0 8 = nI W.length from e2) (by omega), bind_s, f2, onO_s, m_waits (show gI (sI g 8 0 44 (nI (z + npC W + 1))) 8 0 41 = nI W.length from e4) (by omega), bind_s]
        exact leaf_not hN l r ft q m lt d4
  · rw [if_pos y279, k0 y279, bind_s, if_pos bf, bind_s, if_neg (show ¬ (0 : Int32) ≤ -1 by decide), if_neg m3]
    exact OB.bad l r 1
end Operand
