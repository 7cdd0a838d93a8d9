-- PURE: heaps, rules, gales, seeds read by both
section Once2
variable {N : Nat} {h g : Hp} {n p u : Nat}
theorem p_heap (hN : 1000 ≤ N) (d : RD u n h g p) (ek : gI h 4 0 6 = 260) (ew : gI g 8 0 9 = 4) : POut u n h g p (f_X1_readHeap N h) (f_X8_onceLine N g) := by
  obtain ⟨l, r, ft, td, ld⟩ := id d
  unfold f_X1_readHeap f_X8_onceLine
  simp only [jn_e, lt_e]
  obtain ⟨b, h1, g1, c1, c2, c3, c4⟩ := both_once hN d (i := 0) (by omega) ek
  have c2 : f_X8_isOnce N g 0 = some (b, g1) := c2
  rw [if_pos ew, c1, c2, bd2_s, bd2_s]
  cases b with
  | false =>
    rw [if_pos (show b2i false = 0 from rfl), if_pos (show b2i false = 0 from rfl)]
    exact c3 rfl
  | true =>
    rw [if_neg (show ¬ b2i true = 0 by decide), if_neg (show ¬ b2i true = 0 by decide)]
    obtain ⟨p1, O7, S1, d1, d2, d3⟩ := c4 rfl
    refine S1.num hN rfl 999 (by omega) (fun v p2 h2 g2 hv S2 y1 y2 y3 y4 y5 _ => ?_)
    have px : p < p1 := d2 (by rw [y5]; decide)
    rw [S2.2.2.2.2.2, onO_s, y3, y4, grd_p (by decide)]
    refine (S2.row 5 15 (nI v) (nI v) (by omega)).done d rfl (by omega) ?_
    exact td_once td (fun k h1 h2 => if_neg (by omega)) (fun k h1 h2 => (if_neg (by omega)).trans (if_neg (by omega))) rfl (fun o => ⟨⟨v, hv, rfl, rfl⟩, o.2.1, o.2.2.1, o.2.2.2.1, o.2.2.2.2⟩) d3
theorem p_seed (hN : 1000 ≤ N) (d : RD u n h g p) (ek : gI h 4 0 6 = 263) (ew : gI g 8 0 9 = 7) : POut u n h g p (f_X1_readSeed N h) (f_X8_onceLine N g) := by
  obtain ⟨l, r, ft, td, ld⟩ := id d
  unfold f_X1_readSeed f_X8_onceLine
  simp only [jn_e, lt_e]
  obtain ⟨b, h1, g1, c1, c2, c3, c4⟩ := both_once hN d (i := 3) (by omega) ek
  have c2 : f_X8_isOnce N g 3 = some (b, g1) := c2
  rw [ew, if_neg (show ¬ (7 : Int32) = 4 by decide), if_neg (show ¬ (7 : Int32) = 5 by decide), if_neg (show ¬ (7 : Int32) = 6 by decide), c1, c2, bd2_s, bd2_s]
  cases b with
  | false =>
    rw [if_pos (show b2i false = 0 from rfl), if_pos (show b2i false = 0 from rfl)]
    exact c3 rfl
  | true =>
    rw [if_neg (show ¬ b2i true = 0 by decide), if_neg (show ¬ b2i true = 0 by decide)]
    obtain ⟨p1, O7, S1, d1, d2, d3⟩ := c4 rfl
    refine S1.num hN rfl 99999 (by omega) (fun v p2 h2 g2 hv S2 y1 y2 y3 y4 y5 _ => ?_)
    have px : p < p1 := d2 (by rw [y5]; decide)
    rw [S2.2.2.2.2.2, onO_s, y3, y4, grd_p (by decide)]
    refine (S2.row 9 19 (nI v) (nI v) (by omega)).done d rfl (by omega) ?_
    exact td_once td (fun k h1 h2 => if_neg (by omega)) (fun k h1 h2 => (if_neg (by omega)).trans (if_neg (by omega))) rfl (fun o => ⟨o.1, o.2.1, o.2.2.1, o.2.2.2.1, ⟨v, hv, rfl, rfl⟩⟩) d3
theorem p_gale (hN : 1000 ≤ N) (d : RD u n h g p) (ek : gI h 4 0 6 = 262) (ew : gI g 8 0 9 = 6) : POut u n h g p (f_X1_readGale N h) (f_X8_onceLine N g) := by
  obtain ⟨l, r, ft, td, ld⟩ := id d
  unfold f_X1_readGale f_X8_onceLine
  simp only [jn_e, lt_e]
  obtain ⟨b, h1, g1, c1, c2, c3, c4⟩ := both_once hN d (i := 2) (by omega) ek
  have c2 : f_X8_isOnce N g 2 = some (b, g1) := c2
  rw [ew, if_neg (show ¬ (6 : Int32) = 4 by decide), if_neg (show ¬ (6 : Int32) = 5 by decide), if_pos rfl, c1, c2, bd2_s, bd2_s]
  cases b with
  | false =>
    rw [if_pos (show b2i false = 0 from rfl), if_pos (show b2i false = 0 from rfl)]
    exact c3 rfl
  | true =>
    rw [if_neg (show ¬ b2i true = 0 by decide), if_neg (show ¬ b2i true = 0 by decide)]
    obtain ⟨p1, O7, S1, d1, d2, d3⟩ := c4 rfl
    refine S1.num hN rfl 100 (by omega) (fun v p2 h2 g2 hv S2 y1 y2 y3 y4 y5 _ => ?_)
    have px : p < p1 := d2 (by rw [y5]; decide)
    rw [S2.2.2.2.2.2, onO_s, y3, y4, grd_p (by decide)]
    have S3 := S2.row 7 17 (nI v) (nI v) (by omega)
    refine S3.num hN rfl 99 (by omega) (fun w p3 h3 g3 hw S4 z1 z2 z3 z4 z5 _ => ?_)
    rw [S4.2.2.2.2.2, onO_s, z3, z4, grd_p (by decide)]
    refine (S4.row 8 18 (nI w) (nI w) (by omega)).done d rfl (by omega) ?_
    exact td_once td (fun k h1 h2 => (if_neg (by omega)).trans (if_neg (by omega))) (fun k h1 h2 => (if_neg (by omega)).trans ((if_neg (by omega)).trans (if_neg (by omega)))) rfl (fun o => ⟨o.1, o.2.1, ⟨v, hv, rfl, rfl⟩, ⟨w, hw, rfl, rfl⟩, o.2.2.2.2⟩) d3
theorem p_rule (hN : 1000 ≤ N) (d : RD u n h g p) (ek : gI h 4 0 6 = 261) (ew : gI g 8 0 9 = 5) : POut u n h g p (f_X1_readRule N h) (f_X8_onceLine N g) := by
  obtain ⟨l, r, ft, td, ld⟩ := id d
  unfold f_X1_readRule f_X8_onceLine
  simp only [jn_e, lt_e]
  obtain ⟨b, h1, g1, c1, c2, c3, c4⟩ := both_once hN d (i := 1) (by omega) ek
  have c2 : f_X8_isOnce N g 1 = some (b, g1) := c2
  rw [ew, if_neg (show ¬ (5 : Int32) = 4 by decide), if_pos rfl, c1, c2, bd2_s, bd2_s]
  cases b with
  | false =>
    rw [if_neg (fun q : ¬ b2i false = 0 => q rfl), if_neg (fun q : ¬ b2i false = 0 => q rfl)]
    exact c3 rfl
  | true =>
    rw [if_pos (show ¬ b2i true = 0 by decide), if_pos (show ¬ b2i true = 0 by decide)]
    obtain ⟨p1, O7, S1, d1, d2, d3⟩ := c4 rfl
    simp only [S1.2.2.2.2.1, S1.2.2.2.2.2, onO_s]
    obtain ⟨t1, t2⟩ := tk_range S1.2.2.1.2.2.1 (a := 9) (b := 11) (d := 0) (by decide) (by omega) (by omega) (by omega)
    have t1 : ((265 : Int32) ≤ gI h1 4 0 6 ∧ gI h1 4 0 6 ≤ 267) ↔ (gI g1 8 0 8 = 1 ∧ (9 : Int32) ≤ gI g1 8 0 9 ∧ gI g1 8 0 9 ≤ 11) := t1
    by_cases z : gI g1 8 0 8 = 1 ∧ (9 : Int32) ≤ gI g1 8 0 9 ∧ gI g1 8 0 9 ≤ 11
    · obtain ⟨z1, z2⟩ := t1.mpr z
      obtain ⟨j, j1, j2, j3, j4⟩ := t2 z
      rw [if_neg (Int32.not_lt.mpr z1), if_pos z2, if_neg (fun q => q z.1), if_neg (Int32.not_lt.mpr z.2.1), if_pos z.2.2, j3, j4, grd_p (by decide)]
      have e1 : nI (256 + j) - 265 = nI (j - 9) := by rw [show (265 : Int32) = nI 265 from rfl, nI_sub (by omega), show 256 + j - 265 = j - 9 by omega]
      have e2 : nI (j + 0) - 9 = nI (j - 9) := by rw [show (9 : Int32) = nI 9 from rfl, nI_sub (by omega), Nat.add_zero]
      rw [e1, e2]
      have S3 := S1.row 6 16 (nI (j - 9)) (nI (j - 9)) (by omega)
      obtain ⟨h3, g3, p3, x1, x2, S4, x6, x7⟩ := S3.lex hN
      have x2 : f_X8_token N (sA g1 8 0 3 (6 : Int32).toNatClampNeg (nI (j - 9))) = some g3 := x2
      have ro : gO (sI h1 5 u 16 (nI (j - 9))) 1 0 2 = some 0 := S3.2.2.2.2.1
      rw [ro, onO_s, x1, x2, bind_s, bind_s]
      have px : p < p1 := d2 (by
        rw [j3]
        exact fun q => by have := nI_inj (j := 0) (by omega) (by omega) q; omega)
      refine S4.done d rfl (by omega) ?_
      exact td_once td (fun k h1 h2 => if_neg (by omega)) (fun k h1 h2 => (if_neg (by omega)).trans (if_neg (by omega))) rfl (fun o => ⟨o.1, ⟨j - 9, by omega, rfl, rfl⟩, o.2.2.1, o.2.2.2.1, o.2.2.2.2⟩) d3
    · have e1 : (if gI h1 4 0 6 < 265 then (bd2 (f_X1_fails h1 1) fun v4 h3 => some (v4, h3)) else if gI h1 4 0 6 ≤ 267 then lt_ (sI h1 5 u 16 (gI h1 4 0 6 - 265)) (fun h6 => onO (gO h6 1 0 2) fun _ => (f_X4_advance N h6).bind fun h7 => some (true, h7)) else (bd2 (f_X1_fails h1 1) fun v4 h3 => some (v4, h3))) = (bd2 (f_X1_fails h1 1) fun v4 h3 => some (v4, h3)) := by
        by_cases y : gI h1 4 0 6 < 265
        · rw [if_pos y]
        · rw [if_neg y, if_neg (fun q => z (t1.mp ⟨Int32.not_lt.mp y, q⟩))]
      have e2 : ∀ K : Option (Bool × Hp), (if ¬ gI g1 8 0 8 = 1 then (bd2 (f_X8_wrong g1 1) fun v4 h3 => some (v4, h3)) else if gI g1 8 0 9 < 9 then (bd2 (f_X8_wrong g1 1) fun v4 h3 => some (v4, h3)) else if gI g1 8 0 9 ≤ 11 then K else (bd2 (f_X8_wrong g1 1) fun v4 h3 => some (v4, h3))) = (bd2 (f_X8_wrong g1 1) fun v4 h3 => some (v4, h3)) := fun K => by
        by_cases y : gI g1 8 0 8 = 1
        · rw [if_neg (fun q => q y)]
          by_cases x : gI g1 8 0 9 < 9
          · rw [if_pos x]
          · rw [if_neg x, if_neg (fun q => z ⟨y, Int32.not_lt.mp x, q⟩)]
        · rw [if_pos y]
      simp only [lt_e] at e1
      rw [e1, e2]
      exact S1.fail rfl 1
end Once2
