-- PURE: lines of crofts, fields, tides read by both
/-- within a line -/
def SS (u n : Nat) (h g hk gk : Hp) (q : Nat) (CI : Nat → Int32) (CA : Nat → Nat → Int32) (RI : Nat → Int32) (RA : Nat → Nat → Int32) (O7 : Int32) : Prop := (RF u h hk ∧ MF g gk ∧ KWL u h hk ∧ KWG g gk) ∧ (gI hk 5 u = CI ∧ gA hk 5 u = CA ∧ (∀ k, 17 ≤ k → k ≤ 20 → gI gk 8 0 k = RI k) ∧ gA gk 8 0 = RA ∧ gI hk 1 0 7 = O7) ∧ LX n hk gk q ∧ FT hk gk ∧ REF u hk
section Lines
variable {N : Nat} {h g hk gk : Hp} {n p q u : Nat} {CI RI : Nat → Int32} {CA RA : Nat → Nat → Int32} {O7 : Int32}
theorem SS.st (d : RD u n h g p) : SS u n h g h g p (gI h 5 u) (gA h 5 u) (gI g 8 0) (gA g 8 0) (gI h 1 0 7) := ⟨⟨RF.rf u h, MF.rf g, ⟨rfl, rfl, rfl⟩, ⟨rfl, rfl, fun _ _ _ => rfl⟩⟩, ⟨rfl, rfl, fun _ _ _ => rfl, rfl, rfl⟩, d.1, d.2.2.1, d.2.1⟩
theorem SS.lf (s : SS u n h g hk gk q CI CA RI RA O7) {h' g' : Hp} {q' : Nat} (f : LF hk h') (e : LG gk g') (l : LX n h' g' q') (t : FT h' g') : SS u n h g h' g' q' CI CA RI RA O7 := by
  obtain ⟨⟨a1, a2, a3, a4⟩, ⟨b1, b2, b3, b4, b5⟩, -, -, c3⟩ := s
  exact ⟨⟨a1.tr (f.rfr u), a2.tr e.mf, a3.tr (f.kl u), a4.tr e.kg⟩, ⟨(f.f5 u).trans b1, (f.fa 5 u).trans b2, fun k h1 h2 => (e.2.1 k (by omega) (by omega) (by omega)).trans (b3 k h1 h2), e.fa.trans b4, (f.2.2.1 1 0 7 (by omega) (by omega)).trans b5⟩, l, t, c3.up (f.rfr u)⟩
theorem SS.lex (hN : 1000 ≤ N) (s : SS u n h g hk gk q CI CA RI RA O7) : ∃ h' g' p', f_X4_advance N hk = some h' ∧ f_X8_token N gk = some g' ∧ SS u n h g h' g' p' CI CA RI RA O7 ∧ q ≤ p' ∧ (¬ gI h' 4 0 6 = 0 → q < p') := by
  obtain ⟨h', g', p', c1, c2, c3, c4, c5, c6, c7⟩ := _root_.Jvm.Pilot.CWeedStrandLaw_law_r3885_eee7e7.lex hN s.2.2.1.1
  exact ⟨h', g', p', c1, c2, s.lf c3.lf c4.lg c5 (s.2.2.2.1.lf c3 c4), c6, c7⟩
theorem SS.put (s : SS u n h g hk gk q CI CA RI RA O7) (k i k' i' w : Nat) (v v' : Int32) (hw : hfT k' = w) (hk' : 3 ≤ k' ∧ k' ≤ 12) (hi : w ≤ i') : SS u n h g (sA hk 5 u k i v) (sA gk 8 0 k' i' v') q CI (upk CA k i v) RI (upk RA k' i' v') O7 := by
  obtain ⟨⟨a1, a2, a3, a4⟩, ⟨b1, b2, b3, b4, b5⟩, c1, c2, c3⟩ := s
  have F := RF.a u hk 5 u k i v (by omega)
  have G := MF.w gk (k := k') (i := i') v' hw (by omega) hi
  refine ⟨⟨a1.tr F, a2.tr G, a3.tr (KWL.a u hk k i v), a4.tr (KWG.a gk k' i' v' (by omega))⟩, ⟨b1, ?_, b3, ?_, b5⟩, c1.up F G (fun _ => rfl) (fun _ _ _ => rfl), c2, c3⟩
  · rw [fam_a, b2]
  · rw [fam_a, b4]
theorem SS.row (s : SS u n h g hk gk q CI CA RI RA O7) (i' : Nat) (c : Nat) (v v' : Int32) (hi : 5 ≤ i') : SS u n h g (sI hk 5 u c v) (sA gk 8 0 3 i' v') q (up1 CI c v) CA RI (upk RA 3 i' v') O7 := by
  obtain ⟨⟨a1, a2, a3, a4⟩, ⟨b1, b2, b3, b4, b5⟩, c1, c2, c3⟩ := s
  have F := RF.i u hk 5 u c v (by omega)
  have G := MF.w gk (k := 3) (i := i') v' (w := 5) rfl (by omega) hi
  refine ⟨⟨a1.tr F, a2.tr G, a3.tr (KWL.i u hk c v), a4.tr (KWG.a gk 3 i' v' (by omega))⟩, ⟨?_, b2, b3, ?_, b5⟩, c1.up F G (fun _ => rfl) (fun _ _ _ => rfl), c2, c3⟩
  · rw [fam_i, b1]
  · rw [fam_a, b4]
theorem SS.int (s : SS u n h g hk gk q CI CA RI RA O7) (k k' : Nat) (v v' : Int32) (hk' : 17 ≤ k' ∧ k' ≤ 20) : SS u n h g (sI hk 5 u k v) (sI gk 8 0 k' v') q (up1 CI k v) CA (up1 RI k' v') RA O7 := by
  obtain ⟨⟨a1, a2, a3, a4⟩, ⟨b1, b2, b3, b4, b5⟩, c1, c2, c3⟩ := s
  have F := RF.i u hk 5 u k v (by omega)
  have G := MF.i gk k' v' (by unfold mfI; omega)
  refine ⟨⟨a1.tr F, a2.tr G, a3.tr (KWL.i u hk k v), a4.tr (KWG.i gk k' v' (by omega))⟩, ⟨?_, b2, fun j j1 j2 => ?_, b4, b5⟩, c1.up F G (fun _ => rfl) (fun j _ _ => by rw [I_at, if_neg (by omega)]), c2.eq rfl rfl (by rw [I_at, if_neg (by omega)]) (by rw [I_at, if_neg (by omega)]), c3⟩
  · rw [fam_i, b1]
  · rw [I_at]
    unfold up1
    by_cases z : j = k'
    · rw [if_pos z, if_pos z]
    · rw [if_neg z, if_neg z]; exact b3 j j1 j2
theorem SS.fail (s : SS u n h g hk gk q CI CA RI RA O7) (x : CI 10 = gI h 5 u 10) (w : Int32) : POut u n h g p (bd2 (f_X1_fails hk w) fun v4 h3 => some (v4, h3)) (bd2 (f_X8_wrong gk w) fun v4 h3 => some (v4, h3)) := fail2 s.1.1 s.1.2.1 (by rw [s.2.1.1]; exact x) s.2.2.2.2 s.2.2.1.at w
theorem SS.stop (s : SS u n h g hk gk q CI CA RI RA O7) (x : CI 10 = gI h 5 u 10) {h' g' : Hp} (f : LF hk h') (e : LG gk g') (t : FT h' g') : POut u n h g p (some (false, h')) (some (false, g')) := POut.no (s.1.1.tr (f.rfr u)) (s.1.2.1.tr e.mf) t (by rw [f.f5 u, s.2.1.1]; exact x)
theorem SS.done (d : RD u n h g p) (s : SS u n h g hk gk q CI CA RI RA O7) (x : CI 10 = gI h 5 u 10) (hp : p < q) (td : TDd CI CA RI RA O7) : POut u n h g p (some (true, hk)) (some (true, gk)) := by
  obtain ⟨⟨a1, a2, a3, a4⟩, ⟨b1, b2, b3, b4, b5⟩, c1, c2, c3⟩ := s
  refine ⟨true, hk, gk, rfl, rfl, a1, a2, c2, by rw [b1]; exact x, fun _ => ⟨q, hp, c1, c3, c2, ?_, d.2.2.2.2.kl a3 a4⟩⟩
  rw [b1, b2, b4, b5]
  have td' := td
  obtain ⟨_, _, _, _, -, -, -, -, o, b⟩ := td'
  exact td_cg td (fun _ _ _ => rfl) b3 (fun _ _ _ => rfl) o b
theorem SS.num (hN : 1000 ≤ N) (s : SS u n h g hk gk q CI CA RI RA O7) (x : CI 10 = gI h 5 u 10) (most : Nat) (hm : most ≤ 99999) {A' B' : Hp → Option (Bool × Hp)} (yes : ∀ v p' h' g', v ≤ most → SS u n h g h' g' p' CI CA RI RA O7 → q ≤ p' → (¬ gI h' 4 0 6 = 0 → q < p') → gI h' 1 0 6 = nI v → gI g' 8 0 11 = nI v → gI hk 4 0 6 = 2 → gI hk 4 0 7 = nI v → POut u n h g p (A' h') (B' g')) : POut u n h g p (bd2 (f_X1_takeNumber N hk (nI most)) fun v h3 => if ¬ b2i v = 0 then A' h3 else some (false, h3)) (bd2 (f_X8_number N gk 0 (nI most)) fun v h3 => if ¬ b2i v = 0 then B' h3 else some (false, h3)) :=
  step_num hN s.2.2.1 s.2.2.2.2.1 s.2.2.2.1 most hm (fun v p' h' g' hv f e t l h1 h2 h3 h4 h5 h6 => yes v p' h' g' hv (s.lf f e l t) h1 h2 h3 h4 h5 h6) (fun _ _ f e t => s.stop x f e t)
theorem p_croft (hN : 1000 ≤ N) (d : RD u n h g p) : POut u n h g p (f_X1_readCroft N h) (f_X8_croftLine N g) := by
  obtain ⟨l, r, ft, td, ld⟩ := id d
  obtain ⟨s, c, f, t, -, ⟨s1, s2, s3, s4⟩, -⟩ := id td
  have S0 := SS.st d
  unfold f_X1_readCroft f_X8_croftLine
  rw [r.2, onO_s, lt_e, s2, s3]
  by_cases z : c = 4
  · rw [if_neg (Int32.not_lt.mpr (show (4 : Int32) ≤ nI c from leN (a := 4) (by omega) (by omega))), if_neg (fun q => q (by rw [z]; rfl))]
    exact S0.fail rfl 2
  rw [if_pos (show nI c < 4 from Int32.not_le.mp (nleN (a := 4) (show c < 4 by omega) (by omega))), if_pos (show ¬ nI c = 4 from fun q => z (nI_inj (j := 4) (by omega) (by omega) q)), r.1, onO_s]
  obtain ⟨h1, g1, p1, c1, c2, S1, c6, c7⟩ := S0.lex hN
  rw [c1, c2, bind_s, bind_s]
  simp only [S1.2.2.2.2.1, S1.2.2.2.2.2, onO_s]
  have tn := tk_name S1.2.2.1.2.2.1
  by_cases y : gI h1 4 0 6 = 3
  case neg =>
    rw [if_neg y, if_neg (fun q => y (tn.1.mpr q))]
    exact S1.fail rfl 1
  rw [if_pos y, if_pos (tn.1.mp y), ← tn.2 y]
  have e18 : gI g1 8 0 18 = nI c := (S1.2.1.2.2.1 18 (by omega) (by omega)).trans s3
  rw [e18]
  obtain ⟨v, w1, w2, w3⟩ := both_named (h := h1) (g := g1) (u := u) hN s1 (by rw [S1.2.1.1]; exact s2) (gI h1 4 0 8) (fun i hi => by rw [S1.2.1.2.1, S1.2.1.2.2.2.1]; exact (s4 i hi).1) e18
  rw [w1, w2, bind_s, bind_s]
  rcases w3 with rfl | ⟨j, hj, rfl⟩
  case inr =>
    rw [if_neg (nI_ne_neg (by omega) (by decide)), if_neg (show ¬ nI j < 0 from Int32.not_lt.mpr (leN (a := 0) (Nat.zero_le _) (by omega)))]
    exact S1.fail rfl 3
  have i4 : (4 : Int32) + nI c = nI (4 + c) := by rw [show (4 : Int32) = nI 4 from rfl, nI_add]
  have in4 : ∀ k : Option (Bool × Hp), grd (inb (nI c) 4) k = k := fun k => grd_p (inb_n (by omega) (by omega)) k
  have in8 : ∀ k : Option (Bool × Hp), grd (inb (nI (4 + c)) 8) k = k := fun k => grd_p (inb_n (by omega) (by omega)) k
  have k1 : (nI c).toNatClampNeg = c := clN (by omega)
  have k2 : (nI (4 + c)).toNatClampNeg = 4 + c := clN (by omega)
  rw [if_pos rfl, if_pos (show (-1 : Int32) < 0 by decide), i4]
  simp only [lt_e, in4, in8, k1, k2]
  have S2 := S1.put 1 c 5 (4 + c) 4 (gI h1 4 0 8) (gI h1 4 0 8) rfl (by omega) (by omega)
  obtain ⟨h3, g3, p3, x1, x2, S3, x6, x7⟩ := S2.lex hN
  have rr : gO (sA h1 5 u 1 c (gI h1 4 0 8)) 1 0 2 = some 0 := S2.2.2.2.2.1
  rw [rr, onO_s, x1, x2, bind_s, bind_s]
  have px : p < p1 := c7 (by rw [y]; decide)
  refine S3.num hN rfl 5 (by omega) (fun v p4 h4 g4 hv S4 y1 y2 y3 y4 _ _ => ?_)
  simp only [S4.2.2.2.2.2, onO_s, y3, y4]
  have S5 := S4.put 2 c 6 (4 + c) 4 (nI v) (nI v) rfl (by omega) (by omega)
  refine S5.num hN rfl 9 (by omega) (fun w p6 h6 g6 hw S6 z1 z2 z3 z4 _ _ => ?_)
  simp only [S6.2.2.2.2.2, onO_s, z3, z4]
  have S7 := S6.put 3 c 7 (4 + c) 4 (nI w) (nI w) rfl (by omega) (by omega)
  refine S7.num hN rfl 99 (by omega) (fun x p8 h8 g8 hx S8 u1 u2 u3 u4 _ _ => ?_)
  simp only [S8.2.2.2.2.2, onO_s, u3, u4]
  have S9 := S8.put 4 c 8 (4 + c) 4 (nI x) (nI x) rfl (by omega) (by omega)
  have ra : gO (sA h8 5 u 4 c (nI x)) 1 0 3 = some u := S9.2.2.2.2.2
  have e12 : gI (sA h8 5 u 4 c (nI x)) 5 u 12 = nI c := (congrFun S9.2.1.1 12).trans s2
  have e18 : gI (sA g8 8 0 8 (4 + c) (nI x)) 8 0 18 = nI c := (S9.2.1.2.2.1 18 (by omega) (by omega)).trans s3
  rw [ra, onO_s, e12, e18, nI_1]
  refine (S9.int 12 18 (nI (c + 1)) (nI (c + 1)) (by omega)).done d rfl (by omega) ?_
  exact td_croft td s2 (by omega) hv hw hx rfl rfl (fun k h1 h2 => if_neg (by omega))
theorem p_field (hN : 1000 ≤ N) (d : RD u n h g p) : POut u n h g p (f_X1_readField N h) (f_X8_fieldLine N g) := by
  obtain ⟨l, r, ft, td, ld⟩ := id d
  obtain ⟨s, c, f, t, -, ⟨s1, s2, s3, s4⟩, ⟨f1, f2, f3, f4⟩, -⟩ := id td
  have S0 := SS.st d
  unfold f_X1_readField f_X8_fieldLine
  rw [r.2, onO_s, lt_e, f2, f3]
  by_cases z : f = 6
  · rw [if_neg (Int32.not_lt.mpr (show (6 : Int32) ≤ nI f from leN (a := 6) (by omega) (by omega))), if_neg (fun q => q (by rw [z]; rfl))]
    exact S0.fail rfl 2
  rw [if_pos (show nI f < 6 from Int32.not_le.mp (nleN (a := 6) (show f < 6 by omega) (by omega))), if_pos (show ¬ nI f = 6 from fun q => z (nI_inj (j := 6) (by omega) (by omega) q)), r.1, onO_s]
  obtain ⟨h1, g1, p1, c1, c2, S1, c6, c7⟩ := S0.lex hN
  rw [c1, c2, bind_s, bind_s]
  simp only [S1.2.2.2.2.1, S1.2.2.2.2.2, onO_s]
  have tn := tk_name S1.2.2.1.2.2.1
  by_cases y : gI h1 4 0 6 = 3
  case neg =>
    rw [if_neg y, if_neg (fun q => y (tn.1.mpr q))]
    exact S1.fail rfl 1
  rw [if_pos y, if_pos (tn.1.mp y), ← tn.2 y]
  have e18 : gI g1 8 0 18 = nI c := (S1.2.1.2.2.1 18 (by omega) (by omega)).trans s3
  have e19 : gI g1 8 0 19 = nI f := (S1.2.1.2.2.1 19 (by omega) (by omega)).trans f3
  rw [e18]
  obtain ⟨v, w1, w2, w3⟩ := both_named (h := h1) (g := g1) (u := u) hN s1 (by rw [S1.2.1.1]; exact s2) (gI h1 4 0 8) (fun i hi => by rw [S1.2.1.2.1, S1.2.1.2.2.2.1]; exact (s4 i hi).1) e18
  rw [w1, w2, bind_s, bind_s]
  rcases w3 with rfl | ⟨j, hj, rfl⟩
  · rw [if_neg (fun q => q rfl), if_neg (show ¬ (0 : Int32) ≤ -1 by decide)]
    exact S1.fail rfl 4
  have i6 : (6 : Int32) + nI f = nI (6 + f) := by rw [show (6 : Int32) = nI 6 from rfl, nI_add]
  have in4 : ∀ k : Option (Bool × Hp), grd (inb (nI f) 6) k = k := fun k => grd_p (inb_n (by omega) (by omega)) k
  have in8 : ∀ k : Option (Bool × Hp), grd (inb (nI (6 + f)) 12) k = k := fun k => grd_p (inb_n (by omega) (by omega)) k
  have k1 : (nI f).toNatClampNeg = f := clN (by omega)
  have k2 : (nI (6 + f)).toNatClampNeg = 6 + f := clN (by omega)
  rw [if_pos (show ¬ nI j = -1 from nI_ne_neg (by omega) (by decide)), if_pos (show (0 : Int32) ≤ nI j from leN (a := 0) (Nat.zero_le _) (by omega)), e19, i6]
  simp only [lt_e, in4, in8, k1, k2]
  have S2 := S1.put 5 f 9 (6 + f) 6 (nI j) (nI j) rfl (by omega) (by omega)
  obtain ⟨h3, g3, p3, x1, x2, S3, x6, x7⟩ := S2.lex hN
  have rr : gO (sA h1 5 u 5 f (nI j)) 1 0 2 = some 0 := S2.2.2.2.2.1
  rw [rr, onO_s, x1, x2, bind_s, bind_s]
  have px : p < p1 := c7 (by rw [y]; decide)
  refine S3.num hN rfl 99 (by omega) (fun v p4 h4 g4 hv S4 y1 y2 y3 y4 _ _ => ?_)
  simp only [S4.2.2.2.2.2, onO_s, y3, y4]
  have S5 := S4.put 6 f 10 (6 + f) 6 (nI v) (nI v) rfl (by omega) (by omega)
  refine S5.num hN rfl 9 (by omega) (fun w p6 h6 g6 hw S6 z1 z2 z3 z4 _ _ => ?_)
  simp only [S6.2.2.2.2.2, onO_s, z3, z4]
  have S7 := S6.put 7 f 11 (6 + f) 6 (nI w) (nI w) rfl (by omega) (by omega)
  have ra : gO (sA h6 5 u 7 f (nI w)) 1 0 3 = some u := S7.2.2.2.2.2
  have e12 : gI (sA h6 5 u 7 f (nI w)) 5 u 13 = nI f := (congrFun S7.2.1.1 13).trans f2
  have e18 : gI (sA g6 8 0 11 (6 + f) (nI w)) 8 0 19 = nI f := (S7.2.1.2.2.1 19 (by omega) (by omega)).trans f3
  rw [ra, onO_s, e12, e18, nI_1]
  refine (S7.int 13 19 (nI (f + 1)) (nI (f + 1)) (by omega)).done d rfl (by omega) ?_
  exact td_field td s2 f2 s1 (by omega) hj hv hw (fun k h1 h2 => if_neg (by omega)) rfl rfl
end Lines
