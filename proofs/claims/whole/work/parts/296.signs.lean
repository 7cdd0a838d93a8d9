-- PURE: signs read by both
section Signs
variable {N : Nat} {h h' g g' : Hp} {u n p z0 z o : Nat} {W : Wtg} {H : List Nat} {st : Nat → List Nat}
/-- the class fails where it stands, the reference behind some binding -/
theorem OB.bad2 (l : LX n h g p) (r : REF u h) (v : BV z g g') (w : Int32) : OB u n z0 h g p (bd2 (f_X1_fails h w) fun v4 h3 => some (v4, h3)) (bd2 (f_X8_wrong g' w) fun v4 h3 => some (v4, h3)) := by
  rw [cl_fails r.1, m_wrong, bd2_s, bd2_s]
  exact ⟨false, _, _, rfl, rfl, fun _ => ⟨(LF.fail h w _).rfr u, v.1.tr (LG.fail g' w _).mf, ft_fail w (l.at.trans (v.2.1 10 (by omega) (by omega) (by omega)).symm), (LF.fail h w _).2.2.1 5 u 10 (by omega) (by omega)⟩, fun q => Bool.noConfusion q⟩
theorem chk_pass {a : Nat → Int32} {A F : Option (Bool × Hp)} (e : gI g 8 0 41 = nI W.length) (w : WLs a (gA g 8 0 19) W) (hl : W.length ≤ 72) (t : W = [] ∨ ∃ e w, W = e :: w ∧ ¬ rkN e.2 = 4) : (if (gI g 8 0 41) ≤ 0 then A else grd (inb ((gI g 8 0 41) - 1) 96) <| if ¬ nI (rkN (gA g 8 0 19 ((gI g 8 0 41) - 1).toNatClampNeg)) = 4 then A else F) = A := by
  rcases t with rfl | ⟨x, w2, rfl, ht⟩
  · rw [e, if_pos (show nI ([] : Wtg).length ≤ 0 by decide)]
  · have hl : w2.length + 1 ≤ 72 := hl
    have e : gI g 8 0 41 = nI (w2.length + 1) := e
    have s1 : nI (w2.length + 1) - 1 = nI w2.length := by rw [show (1 : Int32) = nI 1 from rfl, nI_sub (by omega), Nat.add_sub_cancel]
    have w19 : gA g 8 0 19 w2.length = x.2 := w.2.1
    have h6 : rkN x.2 ≤ 6 := (ent_rank w.2.2.1).2.1
    rw [e, if_neg (show ¬ nI (w2.length + 1) ≤ 0 from nleN (b := 0) (by omega) (by omega)), s1, grd_p (inb_n (by omega) (by omega)), clN (by omega), w19, if_pos (show ¬ nI (rkN x.2) = 4 from fun q => ht (nI_inj (j := 4) (by omega) (by omega) q))]
theorem join_both (hN : 1000 ≤ N) (l : LX n h g p) (r : REF u h) (ft : FT h g) (q : LQ u z0 h g W H st z o) (m : ND h g W H z0 z) {kt : Int32} (bk : bin2 (gI h 4 0 6) kt) : OB u n z0 h g p (f_X1_readJoin N h) ((f_X8_rank kt).bind fun v4 => jn (fun (v5 : Int32) => (f_X8_bind N g v5).bind fun h6 => (f_X8_rank kt).bind fun v7 => jn (bd2 (f_X8_isCounted h6) fun v9 h8 => if ¬ (b2i v9) = 0 then (f_X8_waitsFor h8 kt).bind fun h10 => lt_ (sZ h10 8 0 45 true) fun h11 => (f_X8_rank kt).bind fun v12 => jn (fun (v13 : Bool) => lt_ (sZ h11 8 0 46 v13) fun h14 => (f_X8_token N h14).bind fun h15 => some (true, h15)) fun (j250 : Bool → Option (Bool × Hp)) => if 3 ≤ v12 then j250 false else j250 true else some (false, h8)) fun (j217 : Option (Bool × Hp)) => if ¬ v7 = 4 then j217 else if (gI h6 8 0 41) ≤ 0 then j217 else grd (inb ((gI h6 8 0 41) - 1) 96) <| (f_X8_rank (gA h6 8 0 19 ((gI h6 8 0 41) - 1).toNatClampNeg)).bind fun v16 => if ¬ v16 = 4 then j217 else bd2 (f_X8_wrong h6 1) fun v18 h17 => some (v18, h17)) fun (j175 : Int32 → Option (Bool × Hp)) => if ¬ v4 = 4 then (f_X8_rank kt).bind fun v19 => j175 v19 else j175 5) := by
  obtain ⟨b1, b2, b3, b4⟩ := bin_rank bk
  have bs := q.bs m r
  obtain ⟨c0, ⟨o1, o2, o3, o4⟩, ⟨k1, k2⟩, cm1, cm2⟩ := id q
  have l64 : z + npC W ≤ 64 := c0.2.2.2.2.2
  have zz := c0.2.2.2.1.1
  have wl : W.length < 1000 := by omega
  have bt : ¬ b2i true = 0 := by decide
  have bf : b2i false = 0 := rfl
  unfold f_X1_readJoin
  simp only [r.1, onO_s, jn_e, lt_e, m_rank, bind_s, b1]
  have gy : gY h 1 0 1 o = cmpd W := by unfold gY; rw [cm2, b2i_d]
  have i9 : ∀ K : Option (Bool × Hp), grd (inb (gI h 1 0 9) 9) K = K := fun K => grd_p (by rw [o1]; exact inb_n (by omega) (by omega)) K
  have co : (gI h 1 0 9).toNatClampNeg = o := by rw [o1]; exact clN (by omega)
  have h2o : gI (sI h 1 0 10 (nI (z + npC W + 1))) 1 0 9 = nI o := o1
  have i92 : ∀ K : Option (Bool × Hp), grd (inb (nI o) 9) K = K := fun K => grd_p (inb_n (by omega) (by omega)) K
  have c2 : (nI o).toNatClampNeg = o := clN (by omega)
  by_cases cmp4 : rkN kt = 4
  · -- a comparison
    have n4 : nI (rkN kt) = 4 := by rw [cmp4]; rfl
    have nn4 : ¬ ¬ nI (rkN kt) = 4 := fun q => q n4
    rw [if_neg nn4, i9, co, gy]
    cases hc : cmpd W with
    | true =>
      obtain ⟨h4, g6, H', st', z', a1, a2, a3, a4, a5, a6, a7⟩ := bind_same hN W h g H st z 5 5 bs ⟨Or.inl rfl, by omega, by omega, by omega⟩ N N (by omega) (by omega)
      obtain ⟨e, w, d1, d2⟩ := (drop5_top W).1 hc
      rw [d1] at a5
      have a2 : f_X8_bind N g 5 = some g6 := a2
      obtain ⟨p1, p2, p3, p4, p5⟩ := a5.co.1
      have wl2 := a5.2.2.2.2.2.2.2.1
      have p4 : gI g6 8 0 41 = nI (w.length + 1) := p4
      have wl2 : w.length + 1 ≤ 72 := wl2
      have s1 : nI (w.length + 1) - 1 = nI w.length := by rw [show (1 : Int32) = nI 1 from rfl, nI_sub (by omega), Nat.add_sub_cancel]
      have w19 : gA g6 8 0 19 w.length = e.2 := a5.2.1.2.1
      rw [if_neg bt, if_neg nn4, a2, bind_s, if_neg nn4, p4, if_neg (show ¬ nI (w.length + 1) ≤ 0 from nleN (b := 0) (by omega) (by omega)), s1, grd_p (inb_n (by omega) (by omega)), clN (by omega), w19, d2, if_neg (show ¬ ¬ nI 4 = 4 from fun q => q rfl)]
      exact OB.bad2 l r a4 1
    | false =>
      rw [if_pos bf]
      by_cases h64 : z + npC W = 64
      · obtain ⟨h4, g6, H', st', z', a1, a2, a3, a4, a5, a6, a7⟩ := bind_same hN W h g H st z 4 5 bs ⟨Or.inr ⟨rfl, rfl, hc⟩, by omega, by omega, by omega⟩ N N (by omega) (by omega)
        have a2 : f_X8_bind N g 5 = some g6 := a2
        have B := OB.bad2 (z0 := z0) l r a4 2
        rw [m_wrong, bd2_s] at B
        rw [k1, h64, if_neg (show ¬ nI 64 < 64 by decide), if_neg nn4, a2, bind_s, if_neg nn4, chk_pass a5.co.1.2.2.2.1 a5.2.1 a5.2.2.2.2.2.2.2.1 ((drop5_top W).2 hc), m_counted0 ((a4.2.1 44 (by omega) (by omega) (by omega)).trans k2) h64, m_wrong, bd2_s, bd2_s, if_neg (show ¬ ¬ b2i false = 0 from fun q => q bf)]
        exact B
      · have lt : z + npC W < 64 := by omega
        have xo : gA (sY (sI h 1 0 10 (nI (z + npC W + 1))) 1 0 1 o true) 1 0 1 o = b2i (cmpd ((gI h 4 0 6, kt) :: dropR 5 W)) := by
          rw [cmpd_e, if_pos cmp4]
          exact up_p _ _ _
        obtain ⟨h4, g6, a1, a2, a3, a4, a5, a6, a7, a8, a9, a10⟩ := join_go hN l r ft q m bk rfl (hx := sY (sI h 1 0 10 (nI (z + npC W + 1))) 1 0 1 o true) ((NW.i u z0 h 10 _ (by omega)).tr (NW.a u z0 _ 1 _ _)) ((KH.i u h 10 _ (by omega)).tr (KH.a u _ _ _)) o1 rfl (fun i hi => up_n (by omega)) (r1 := rkN kt) (r2 := 5) ⟨Or.inr ⟨cmp4, rfl, hc⟩, by omega, by omega, by omega⟩ (by omega) xo lt false (fun e => Bool.noConfusion e)
        have a2 : f_X8_bind N g 5 = some g6 := a2
        have f2 : gO (sZ (sZ (sI (sA h4 1 0 0 (dropR 5 W).length (gI h 4 0 6)) 1 0 8 (nI ((dropR 5 W).length + 1))) 1 0 11 true) 1 0 12 false) 1 0 2 = some 0 := a3
        rw [k1, if_pos (show nI (z + npC W) < 64 from Int32.not_le.mp (nleN (a := 64) lt (by omega))), nI_1, if_neg nn4, h2o, i92, c2, a1, bind_s, a3, onO_s, a4, cl_push a5 a6, bind_s, if_pos (show (2 : Int32) < nI (rkN kt) by rw [n4]; decide), f2, onO_s]
        rw [if_neg nn4, a2, bind_s, if_neg nn4, chk_pass a7 a9 (by omega) ((drop5_top W).2 hc), m_counted a8 lt, bd2_s, if_pos bt, m_waits (show gI (sI g6 8 0 44 (nI (z + npC W + 1))) 8 0 41 = nI (dropR 5 W).length from a7) (by omega), bind_s, if_pos (show (3 : Int32) ≤ nI (rkN kt) by rw [n4]; decide)]
        exact a10
  · have n4 : ¬ nI (rkN kt) = 4 := fun q => cmp4 (nI_inj (j := 4) (by omega) (by omega) q)
    rw [if_pos n4]
    by_cases h64 : z + npC W = 64
    · obtain ⟨h4, g6, H', st', z', a1, a2, a3, a4, a5, a6, a7⟩ := bind_same hN W h g H st z (rkN kt) (rkN kt) bs ⟨Or.inl rfl, by omega, by omega, by omega⟩ N N (by omega) (by omega)
      have a2 : f_X8_bind N g (nI (rkN kt)) = some g6 := a2
      have B := OB.bad2 (z0 := z0) l r a4 2
      rw [m_wrong, bd2_s] at B
      rw [k1, h64, if_neg (show ¬ nI 64 < 64 by decide), if_pos n4, a2, bind_s, if_pos n4, m_counted0 ((a4.2.1 44 (by omega) (by omega) (by omega)).trans k2) h64, m_wrong, bd2_s, bd2_s, if_neg (show ¬ ¬ b2i false = 0 from fun q => q bf)]
      exact B
    · have lt : z + npC W < 64 := by omega
      have sam : Sam (rkN kt) (rkN kt) W := ⟨Or.inl rfl, by omega, by omega, by omega⟩
      by_cases r2 : rkN kt ≤ 2
      · have xo : gA (sY (sI h 1 0 10 (nI (z + npC W + 1))) 1 0 1 o false) 1 0 1 o = b2i (cmpd ((gI h 4 0 6, kt) :: dropR (rkN kt) W)) := by
          rw [cmpd_e, if_neg (by omega), if_neg (by omega)]
          exact up_p _ _ _
        obtain ⟨h4, g6, a1, a2, a3, a4, a5, a6, a7, a8, a9, a10⟩ := join_go hN l r ft q m bk rfl (hx := sY (sI h 1 0 10 (nI (z + npC W + 1))) 1 0 1 o false) ((NW.i u z0 h 10 _ (by omega)).tr (NW.a u z0 _ 1 _ _)) ((KH.i u h 10 _ (by omega)).tr (KH.a u _ _ _)) o1 rfl (fun i hi => up_n (by omega)) sam (by omega) xo lt true (fun _ => r2)
        have f2 : gO (sZ (sZ (sI (sA h4 1 0 0 (dropR (rkN kt) W).length (gI h 4 0 6)) 1 0 8 (nI ((dropR (rkN kt) W).length + 1))) 1 0 11 true) 1 0 12 true) 1 0 2 = some 0 := a3
        have le2 : ¬ (2 : Int32) < nI (rkN kt) := Int32.not_lt.mpr (leN (b := 2) r2 (by omega))
        have le3 : ¬ (3 : Int32) ≤ nI (rkN kt) := nleN (a := 3) (by omega) (by omega)
        rw [k1, if_pos (show nI (z + npC W) < 64 from Int32.not_le.mp (nleN (a := 64) lt (by omega))), nI_1, if_pos n4, if_neg le2, h2o, i92, c2, a1, bind_s, a3, onO_s, a4, cl_push a5 a6, bind_s, if_neg le2, f2, onO_s]
        rw [if_pos n4, a2, bind_s, if_pos n4, m_counted a8 lt, bd2_s, if_pos bt, m_waits (show gI (sI g6 8 0 44 (nI (z + npC W + 1))) 8 0 41 = nI (dropR (rkN kt) W).length from a7) (by omega), bind_s, if_neg le3]
        exact a10
      · have r5 : 5 ≤ rkN kt := by omega
        have xo : gA (sI h 1 0 10 (nI (z + npC W + 1))) 1 0 1 o = b2i (cmpd ((gI h 4 0 6, kt) :: dropR (rkN kt) W)) := by
          rw [cmpd_e, if_neg (by omega), if_pos r5, cmpd_drop r5]
          exact cm2
        obtain ⟨h4, g6, a1, a2, a3, a4, a5, a6, a7, a8, a9, a10⟩ := join_go hN l r ft q m bk rfl (hx := sI h 1 0 10 (nI (z + npC W + 1))) (NW.i u z0 h 10 _ (by omega)) (KH.i u h 10 _ (by omega)) o1 rfl (fun i hi => rfl) sam (by omega) xo lt false (fun e => Bool.noConfusion e)
        have f2 : gO (sZ (sZ (sI (sA h4 1 0 0 (dropR (rkN kt) W).length (gI h 4 0 6)) 1 0 8 (nI ((dropR (rkN kt) W).length + 1))) 1 0 11 true) 1 0 12 false) 1 0 2 = some 0 := a3
        have le2 : (2 : Int32) < nI (rkN kt) := Int32.not_le.mp (nleN (b := 2) (by omega) (by omega))
        have le3 : (3 : Int32) ≤ nI (rkN kt) := leN (a := 3) (by omega) (by omega)
        rw [k1, if_pos (show nI (z + npC W) < 64 from Int32.not_le.mp (nleN (a := 64) lt (by omega))), nI_1, if_pos n4, if_pos le2, a1, bind_s, a3, onO_s, a4, cl_push a5 a6, bind_s, if_pos le2, f2, onO_s]
        rw [if_pos n4, a2, bind_s, if_pos n4, m_counted a8 lt, bd2_s, if_pos bt, m_waits (show gI (sI g6 8 0 44 (nI (z + npC W + 1))) 8 0 41 = nI (dropR (rkN kt) W).length from a7) (by omega), bind_s, if_pos le3]
        exact a10
theorem close_same (hN : 1000 ≤ N) (l : LX n h g p) (r : REF u h) (ft : FT h g) (q : LQ u z0 h g W H st z o) (m : ND h g W H z0 z) (ho : 0 < o) : OB u n z0 h g p ((f_X1_closeParenthesis N h).bind fun h4 => some (true, h4)) ((f_X8_bind N g 1).bind fun h27 => (f_X8_token N (sI (sI h27 8 0 41 ((gI h27 8 0 41) - 1)) 8 0 43 ((gI (sI h27 8 0 41 ((gI h27 8 0 41) - 1)) 8 0 43) - 1))).bind fun h30 => some (true, h30)) := by
  have bs := q.bs m r
  obtain ⟨c0, ⟨o1, o2, o3, o4⟩, ⟨k1, k2⟩, cm1, cm2⟩ := q
  have l64 : z + npC W ≤ 64 := c0.2.2.2.2.2
  have zz := c0.2.2.2.1.1
  have wl : W.length < 1000 := by omega
  obtain ⟨h4, g6, H', st', z', a1, a2, a3, a4, a5, a6, a7⟩ := bind_same hN W h g H st z 1 1 bs ⟨Or.inl rfl, by omega, by omega, by omega⟩ N N (by omega) (by omega)
  have a1 : f_X1_putWaiting N h 1 = some h4 := a1
  have a2 : f_X8_bind N g 1 = some g6 := a2
  have len := len_drop (r := 1) (by omega) o4
  have cmd := cm1.drop (r := 1) (by omega)
  obtain ⟨w, hw⟩ : ∃ w, dropR 1 W = (40, 0) :: w := by
    rcases dropR_head 1 W with e | ⟨e, w, e1, e2⟩
    · rw [e] at cmd
      have cmd : o = 0 := cmd
      omega
    · have en := a5.2.1
      rw [e1] at en
      obtain ⟨x, y⟩ := e
      rcases en.2.2.1 with ⟨z1, z2⟩ | ⟨z1, z2⟩ | z1
      · have z1 : x = 40 := z1
        have z2 : y = 0 := z2
        subst z1 z2
        exact ⟨w, e1⟩
      · have z2 : y = 2 := z2
        subst z2
        have e2 : rkN 2 < 1 := e2
        exact absurd e2 (by decide)
      · obtain ⟨-, b2, -⟩ := bin_rank z1
        have e2 : rkN y < 1 := e2
        have b2 : rkN y = 1 ∨ rkN y = 2 ∨ (4 ≤ rkN y ∧ rkN y ≤ 6) := b2
        omega
  rw [hw] at a5 a7 len cmd
  have cmd : (if (0 : Int32) = 0 then ∃ o', o = o' + 1 ∧ gA h 1 0 1 o' = b2i (cmpd w) ∧ CMP (gA h 1 0 1) w o' else CMP (gA h 1 0 1) w o) := cmd
  rw [if_pos rfl] at cmd
  obtain ⟨o', rfl, cm3, cm4⟩ := cmd
  have en : npC ((40, 0) :: w) = 0 + npC w := rfl
  have eb : bnC ((40, 0) :: w) = 0 + bnC w := rfl
  have el : ((40, 0) :: w : Wtg).length = w.length + 1 := rfl
  rw [en] at a7 len
  rw [el] at len
  obtain ⟨p1, p2, p3, p4, p5⟩ := a5.co.1
  rw [el] at p2 p4
  have hl := a5.2.2.2.2.2.1
  rw [eb] at hl
  obtain ⟨rr, e1, e2⟩ := a5.2.2.2.2.2.2.2.2
  have r4 := r.up a3.1
  have s1 : nI (w.length + 1) - 1 = nI w.length := by rw [show (1 : Int32) = nI 1 from rfl, nI_sub (by omega), Nat.add_sub_cancel]
  have s2 : nI (o' + 1) - 1 = nI o' := by rw [show (1 : Int32) = nI 1 from rfl, nI_sub (by omega), Nat.add_sub_cancel]
  have i9 : gI (sI h4 1 0 8 (nI w.length)) 1 0 9 = nI (o' + 1) := by
    show gI h4 1 0 9 = _
    rw [a3.2.1 9 (by omega)]; exact o1
  have i43 : gI (sI g6 8 0 41 (nI w.length)) 8 0 43 = nI (o' + 1) := by
    show gI g6 8 0 43 = _
    rw [a4.2.1 43 (by omega) (by omega) (by omega)]; exact o2
  have f2 : gO (sI (sI h4 1 0 8 (nI w.length)) 1 0 9 (nI o')) 1 0 2 = some 0 := r4.1
  unfold f_X1_closeParenthesis
  simp only [a1, a2, bind_s, jn_e, lt_e]
  rw [p2, p4, if_neg (show ¬ nI (w.length + 1) ≤ 0 from nleN (b := 0) (by omega) (by omega)), s1, i9, s2, f2, onO_s, i43, s2]
  have B := OB.go (W := w) (H := H') (st := st') (z := z') (o := o') hN l r ft (((a3.nw zz).tr (NW.i u z0 _ 8 (nI w.length) (by omega))).tr (NW.i u z0 _ 9 (nI o') (by omega))) (((a4.nv zz).tr (NV.i z0 _ 41 (nI w.length) (by omega))).tr (NV.i z0 _ 43 (nI o') (by omega))) ⟨?_, ⟨rfl, rfl, by omega, by omega⟩, ⟨?_, ?_⟩, ?_, ?_⟩ (Or.inr ⟨?_, ?_, by omega, ⟨rr, e1⟩, e2⟩)
  · obtain ⟨b, h', g', y1, y2, y3, y4⟩ := B
    refine ⟨b, h', g', ?_, y2, y3, y4⟩
    cases hx : f_X4_advance N (sI (sI h4 1 0 8 (nI w.length)) 1 0 9 (nI o')) with
    | none => rw [hx] at y1; exact absurd y1 (by intro q; cases q)
    | some v => rw [hx, bind_s] at y1; exact y1
  · exact (a5.co.pop).cg (KH.i u _ 9 _ (by omega)) (KG.i _ 43 _ (by omega))
  · show gI h4 1 0 10 = _
    rw [a3.2.1 10 (by omega), k1]; congr 1; omega
  · show gI g6 8 0 44 = _
    rw [a4.2.1 44 (by omega) (by omega) (by omega), k2]; congr 1; omega
  · show CMP (gA h4 1 0 1) w o'
    rw [a3.2.2.2.1.2.2.1]; exact cm4
  · show gA h4 1 0 1 o' = _
    rw [a3.2.2.2.1.2.2.1]; exact cm3
  · show gI h4 1 0 11 = _
    rw [a3.2.1 11 (by omega)]; exact m.1
  · show gI g6 8 0 45 = _
    rw [a4.2.1 45 (by omega) (by omega) (by omega)]; exact m.2.1
theorem signs_same (hN : 1000 ≤ N) (l : LX n h g p) (r : REF u h) (ft : FT h g) (q : LQ u z0 h g W H st z o) (m : ND h g W H z0 z) : (f_X1_joins (gI h 4 0 6) = some true ∧ OB u n z0 h g p (f_X1_readJoin N h) (f_X8_signs N g)) ∨ (f_X1_joins (gI h 4 0 6) = some false ∧ ((gI h 4 0 6 = 41 ∧ 0 < o ∧ OB u n z0 h g p ((f_X1_closeParenthesis N h).bind fun h4 => some (true, h4)) (f_X8_signs N g)) ∨ (¬ (gI h 4 0 6 = 41 ∧ 0 < o) ∧ f_X8_signs N g = bd2 (f_X8_wrong g 1) fun v21 h20 => some (v21, h20)))) := by
  have tk := l.2.2.1
  have ts : gI h 4 0 6 = 41 ↔ (gI g 8 0 8 = 4 ∧ gI g 8 0 9 = 41) := tk_sign tk (Or.inr (Or.inr (Or.inl rfl)))
  obtain ⟨kt, hk, hb⟩ := m_joinKind tk
  have bt : ¬ b2i true = 0 := by decide
  have bf : b2i false = 0 := rfl
  have o2 := q.2.1.2.1
  have o3 := q.2.1.2.2.1
  unfold f_X8_signs
  rw [m_isSg, bind_s, jn_e]
  rcases hb with ⟨b1, b2⟩ | ⟨b1, b2⟩
  · have n41 : ¬ gI h 4 0 6 = 41 := fun e => by
      rw [e] at b2
      exact absurd b2 (by decide)
    obtain ⟨-, -, b3, b4⟩ := bin_rank b1
    refine Or.inl ⟨b2, ?_⟩
    rw [decide_eq_false (fun w => n41 (ts.mpr w)), if_pos bf, hk, if_pos b3]
    exact join_both hN l r ft q m b1
  · subst b1
    refine Or.inr ⟨b2, ?_⟩
    by_cases y : gI h 4 0 6 = 41 ∧ 0 < o
    · refine Or.inl ⟨y.1, y.2, ?_⟩
      rw [decide_eq_true (ts.mp y.1), if_neg bt, o2, if_neg (show ¬ nI o ≤ 0 from nleN (b := 0) y.2 (by omega))]
      simp only [lt_e]
      exact close_same hN l r ft q m y.2
    · refine Or.inr ⟨y, ?_⟩
      by_cases y1 : gI h 4 0 6 = 41
      · have : o = 0 := by
          refine Decidable.byContradiction fun w => y ⟨y1, by omega⟩
        rw [decide_eq_true (ts.mp y1), if_neg bt, o2, this, if_pos (show nI 0 ≤ 0 by decide), hk, if_neg (fun q => q rfl)]
      · rw [decide_eq_false (fun w => y1 (ts.mpr w)), if_pos bf, hk, if_neg (fun q => q rfl)]
end Signs
