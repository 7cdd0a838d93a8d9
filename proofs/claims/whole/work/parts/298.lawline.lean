-- PURE: a line of a law, the ';' behind lines, read by both
theorem bd2_id (x : Option (Bool × Hp)) : (bd2 x fun v h => some (v, h)) = x := by
  rcases x with _ | ⟨v, h⟩
  · exact (Eq.refl _).trans (by unfold bd2; rfl)
  · exact bd2_s v h _
theorem bd2_n {α β : Type} (k : β → Hp → Option α) : bd2 none k = none := (Eq.refl _).trans (by unfold bd2; exact Eq.refl _)
def semC (N : Nat) (A : Option (Bool × Hp)) : Option (Bool × Hp) := bd2 A fun v13 h12 => if (b2i v13) = 0 then some (false, h12) else bd2 (f_X1_takeSemicolon N h12) fun v16 h15 => if ¬ (b2i v16) = 0 then some (true, h15) else some (false, h15)
def semM (N : Nat) (v3 : Bool) (h4 : Hp) : Option (Bool × Hp) := if ¬ (b2i v3) = 0 then (f_X8_isSign h4 59).bind fun v5 => if ¬ (b2i v5) = 0 then (f_X8_token N h4).bind fun h6 => some (true, h6) else bd2 (f_X8_wrong h4 1) fun v8 h7 => some (v8, h7) else some (false, h4)
theorem semM_f (N : Nat) (g : Hp) : semM N false g = some (false, g) := if_neg (fun q => q (show b2i false = 0 from rfl))
theorem semC_f (N : Nat) (h : Hp) : semC N (some (false, h)) = some (false, h) := by
  unfold semC
  rw [bd2_s, if_pos (show b2i false = 0 from rfl)]
section LawLine
variable {N : Nat} {h h' g g' : Hp} {u n p p' z0 z kk : Nat}
theorem cl_semi (r : REF u h) : f_X1_takeSemicolon N h = if gI h 4 0 6 = 59 then ((f_X4_advance N h).bind fun h1 => some (true, h1)) else bd2 (f_X1_fails h 1) fun v3 h2 => some (v3, h2) := by
  unfold f_X1_takeSemicolon
  simp only [r.1, onO_s]
theorem semC_t (r : REF u h) (e : gI h 4 0 6 = 59) (a : f_X4_advance N h = some h') : semC N (some (true, h)) = some (true, h') := by
  unfold semC
  rw [bd2_s, if_neg (show ¬ b2i true = 0 by decide), cl_semi r, if_pos e, a, bind_s, bd2_s, if_pos (show ¬ b2i true = 0 by decide)]
theorem semC_n (r : REF u h) (e : ¬ gI h 4 0 6 = 59) : semC N (some (true, h)) = some (false, sI (sI h 1 0 4 1) 1 0 5 (gI h 4 0 5)) := by
  unfold semC
  rw [bd2_s, if_neg (show ¬ b2i true = 0 by decide), cl_semi r, if_neg e, cl_fails r.1, bd2_s, bd2_s, if_neg (show ¬ ¬ b2i false = 0 from fun q => q rfl)]
theorem semM_t (e : gI g 8 0 8 = 4 ∧ gI g 8 0 9 = 59) (a : f_X8_token N g = some g') : semM N true g = some (true, g') := by
  unfold semM
  rw [if_pos (show ¬ b2i true = 0 by decide), m_isSg, decide_eq_true e, bind_s, if_pos (show ¬ b2i true = 0 by decide), a, bind_s]
theorem semM_n (e : ¬ (gI g 8 0 8 = 4 ∧ gI g 8 0 9 = 59)) : semM N true g = some (false, sI (sI g 8 0 4 1) 8 0 5 (gI g 8 0 10)) := by
  unfold semM
  rw [if_pos (show ¬ b2i true = 0 by decide), m_isSg, decide_eq_false e, bind_s, if_neg (show ¬ ¬ b2i false = 0 from fun q => q rfl), m_wrong, bd2_s]
theorem RD.t4 (d : RD u n h g p) (a : T4 h h') (b : U8 g g') (l : LX n h' g' p') : RD u n h' g' p' := by
  obtain ⟨-, r, ft, td, ld⟩ := d
  have e3 : gA g' 8 0 = gA g 8 0 := funext fun k => b.2.2.2 k
  refine ⟨l, r.up (a.lf.rfr u), ft.lf a b, ?_, ld.kl (a.lf.kl u) b.lg.kg⟩
  rw [a.lf.f5 u, a.lf.fa 5 u, e3, a.2.2.1 1 0 7 (by omega)]
  have td' := td
  obtain ⟨_, _, _, _, -, -, -, -, o, q⟩ := td'
  exact td_cg td (fun _ _ _ => rfl) (fun k h1 h2 => b.2.1 k (by omega)) (fun _ _ _ => rfl) o q
theorem semi (hN : 1000 ≤ N) {A B : Option (Bool × Hp)} (P : POut u n h g p A B) : POut u n h g p (semC N A) (bd2 B (semM N)) := by
  obtain ⟨b, h1, g1, rfl, rfl, f, e, t, x, y⟩ := P
  rw [bd2_s]
  cases b with
  | false =>
    rw [semC_f, semM_f]
    exact POut.no f e t x
  | true =>
    obtain ⟨p1, hp, d⟩ := y rfl
    obtain ⟨l, r, ft, td, ld⟩ := id d
    have ts : gI h1 4 0 6 = 59 ↔ (gI g1 8 0 8 = 4 ∧ gI g1 8 0 9 = 59) := tk_sign l.2.2.1 (Or.inl rfl)
    by_cases z : gI h1 4 0 6 = 59
    · obtain ⟨h2, g2, p2, c1, c2, c3, c4, c5, c6, c7⟩ := lex hN l.1
      rw [semC_t r z c1, semM_t (ts.mp z) c2]
      exact ⟨true, h2, g2, rfl, rfl, f.tr (c3.lf.rfr u), e.tr c4.lg.mf, ft.lf c3 c4, (congrFun (c3.lf.f5 u) 10).trans x, fun _ => ⟨p2, by omega, d.t4 c3 c4 c5⟩⟩
    · rw [semC_n r z, semM_n (fun q => z (ts.mpr q))]
      exact POut.no (f.tr ((LF.fail h1 1 _).rfr u)) (e.tr (LG.fail g1 1 _).mf) (ft_fail 1 l.at) (((LF.fail h1 1 _).2.2.1 5 u 10 (by omega) (by omega)).trans x)
theorem cl_lawTold (hk : kk < 4) (h : Hp) : f_X0_isTold h u (nI kk) = some (decide (¬ gA h 0 u 3 kk ≤ gA h 0 u 2 kk)) := by
  unfold f_X0_isTold
  simp only [jn_e]
  rw [if_neg (show ¬ nI kk < 0 from Int32.not_lt.mpr (leN (a := 0) (Nat.zero_le _) (by omega))), if_neg (show ¬ (4 : Int32) ≤ nI kk from nleN (a := 4) hk (by omega)), grd_p (inb_n hk (by omega)), grd_p (inb_n hk (by omega)), clN (by omega)]
  by_cases z : gA h 0 u 3 kk ≤ gA h 0 u 2 kk
  · rw [if_pos z, decide_eq_false (fun q => q z)]
  · rw [if_neg z, decide_eq_true z]
theorem cl_beginLaw (hk : kk < 4) (h : Hp) : f_X0_begin h u (nI kk) = some (sA h 0 u 2 kk (gI h 0 u 6)) := by
  unfold f_X0_begin
  simp only [jn_e, lt_e]
  rw [if_neg (show ¬ nI kk < 0 from Int32.not_lt.mpr (leN (a := 0) (Nat.zero_le _) (by omega))), if_neg (show ¬ (4 : Int32) ≤ nI kk from nleN (a := 4) hk (by omega)), grd_p (inb_n hk (by omega)), clN (by omega)]
theorem LdW.keep {cA ra cA' ra' : Nat → Nat → Int32} {k : Nat} (l : LdW z0 cA ra k) (hz : z0 ≤ z) (a : cA' 2 k = cA 2 k) (b : cA' 3 k = cA 3 k) (c : ∀ j, 13 ≤ j → j ≤ 15 → ra' j (4 + k) = ra j (4 + k)) (d : ∀ i, i < z0 → cA' 0 i = cA 0 i ∧ cA' 1 i = cA 1 i) (e : ∀ j i, 16 ≤ j → j ≤ 18 → i < z0 → ra' j (64 + i) = ra j (64 + i)) : LdW z cA' ra' k := by
  unfold LdW
  rw [a, b, c 13 (by omega) (by omega), c 14 (by omega) (by omega), c 15 (by omega) (by omega)]
  rcases l with l | ⟨l1, x, y, l2, l3, l4, l5, l6, l7, st, l8, l9, l10⟩
  · exact Or.inl l
  · refine Or.inr ⟨l1, x, y, l2, by omega, l4, l5, l6, l7, st, l8, fun i h1 h2 => ?_, l10⟩
    rw [(d i (by omega)).1, (d i (by omega)).2, e 16 i (by omega) (by omega) (by omega), e 17 i (by omega) (by omega) (by omega), e 18 i (by omega) (by omega) (by omega)]
    exact l9 i h1 h2
theorem law_line (hN : 1000 ≤ N) (d : RD u n h g p) (e0 : ¬ gI h 4 0 6 = 0) : POut u n h g p (semC N (f_X1_readLaw N h)) ((f_X8_token N g).bind fun h22 => jn (bd2 (f_X8_wrong h22 1) fun v24 h23 => some (v24, h23)) fun (j193 : Option (Bool × Hp)) => if ¬ (gI h22 8 0 8) = 1 then j193 else if (gI h22 8 0 9) < 12 then j193 else if (gI h22 8 0 9) ≤ 15 then lt_ (((4 + (gI h22 8 0 9)) - 12)) fun v25 => grd (inb v25 8) <| if (b2i (gY h22 8 0 13 v25.toNatClampNeg)) = 0 then grd (inb v25 8) <| lt_ (sY h22 8 0 13 v25.toNatClampNeg true) fun h26 => (f_X8_token N h26).bind fun h27 => grd (inb v25 8) <| lt_ (sA h27 8 0 14 v25.toNatClampNeg (gI h27 8 0 21)) fun h28 => bd2 (f_X8_sumRead N h28) fun v30 h29 => grd (inb v25 8) <| lt_ (sA h29 8 0 15 v25.toNatClampNeg (gI h29 8 0 21)) fun h31 => semM N v30 h31 else bd2 (f_X8_wrong h22 3) fun v33 h32 => some (v33, h32) else j193) := by
  obtain ⟨l, r, ft, td, ld⟩ := id d
  have bt : ¬ b2i true = 0 := by decide
  have bf : b2i false = 0 := rfl
  obtain ⟨h1, g1, p1, c1, c2, c3, c4, c5, c6, c7⟩ := lex hN l.1
  have d1 := d.t4 c3 c4 c5
  have r1 := d1.2.1
  have failed : ∀ w, POut u n h g p (semC N (bd2 (f_X1_fails h1 w) fun v4 h3 => some (v4, h3))) (bd2 (f_X8_wrong g1 w) fun v4 h3 => some (v4, h3)) := fun w => by
    rw [cl_fails r1.1, m_wrong, bd2_s, bd2_s, semC_f]
    exact POut.no ((c3.lf.rfr u).tr ((LF.fail h1 w _).rfr u)) (c4.lg.mf.tr (LG.fail g1 w _).mf) (ft_fail w c5.at) (((LF.fail h1 w _).2.2.1 5 u 10 (by omega) (by omega)).trans (congrFun (c3.lf.f5 u) 10))
  obtain ⟨tr1, tr2⟩ := tk_range c5.2.2.1 (a := 12) (b := 15) (d := 0) (by decide) (by omega) (by omega) (by omega)
  have tr1 : ((268 : Int32) ≤ gI h1 4 0 6 ∧ gI h1 4 0 6 ≤ 271) ↔ (gI g1 8 0 8 = 1 ∧ (12 : Int32) ≤ gI g1 8 0 9 ∧ gI g1 8 0 9 ≤ 15) := tr1
  unfold f_X1_readLaw
  simp only [r.1, onO_s, c1, c2, bind_s, r1.1, r1.2, jn_e, lt_e]
  by_cases y : (268 : Int32) ≤ gI h1 4 0 6 ∧ gI h1 4 0 6 ≤ 271
  rotate_left
  · have A : ∀ X F : Option (Bool × Hp), (if gI h1 4 0 6 < 268 then F else if gI h1 4 0 6 ≤ 271 then X else F) = F := fun X F => by
      by_cases w : gI h1 4 0 6 < 268
      · rw [if_pos w]
      · rw [if_neg w, if_neg (fun q => y ⟨Int32.not_lt.mp w, q⟩)]
    have B : ∀ X F : Option (Bool × Hp), (if ¬ gI g1 8 0 8 = 1 then F else if gI g1 8 0 9 < 12 then F else if gI g1 8 0 9 ≤ 15 then X else F) = F := fun X F => by
      by_cases w : gI g1 8 0 8 = 1
      · rw [if_neg (fun q => q w)]
        by_cases w2 : gI g1 8 0 9 < 12
        · rw [if_pos w2]
        · rw [if_neg w2, if_neg (fun q => y (tr1.mpr ⟨w, Int32.not_lt.mp w2, q⟩))]
      · rw [if_pos w]
    rw [A, B]
    exact failed 1
  obtain ⟨m1, m2, m3⟩ := tr1.mp y
  obtain ⟨j, j1, j2, j3, j4⟩ := tr2 (tr1.mp y)
  obtain ⟨kk, hkk⟩ : ∃ kk, kk = j - 12 := ⟨_, rfl⟩
  have hk : kk < 4 := by omega
  have v2 : gI h1 4 0 6 - 268 = nI kk := by rw [j3, show (268 : Int32) = nI 268 from rfl, nI_sub (by omega), show 256 + j - 268 = kk by omega]
  have v25 : 4 + gI g1 8 0 9 - 12 = nI (4 + kk) := by rw [j4, show (4 : Int32) = nI 4 from rfl, show (12 : Int32) = nI 12 from rfl, nI_add, nI_sub (by omega), show 4 + (j + 0) - 12 = 4 + kk by omega]
  have i8 : ∀ K : Option (Bool × Hp), grd (inb (nI (4 + kk)) 8) K = K := fun K => grd_p (inb_n (by omega) (by omega)) K
  have k8 : (nI (4 + kk)).toNatClampNeg = 4 + kk := clN (by omega)
  rw [v2]
  simp only [v25, i8, k8]
  rw [if_neg (Int32.not_lt.mpr y.1), if_pos y.2, if_neg (show ¬ ¬ gI g1 8 0 8 = 1 from fun q => q m1), if_neg (Int32.not_lt.mpr m2), if_pos m3, cl_lawTold hk, bind_s]
  obtain ⟨z0, l1, l2, l3, l4, l5, l6⟩ := d1.2.2.2.2
  have p0 := l.2.2.2 e0
  have n0 : ¬ gI h1 4 0 6 = 0 := fun q => by
    rw [j3] at q
    have := nI_inj (j := 0) (by omega) (by omega) q
    omega
  have p1p := c7 n0
  rcases l6 kk hk with ⟨t1, t2, t3⟩ | ⟨t1, a, b, t2, t3, t4, t5, -⟩
  rotate_left
  · have gy : gY g1 8 0 13 (4 + kk) = true := by unfold gY; rw [t1]; decide
    rw [t4, t5, gy, decide_eq_true (nleN t2 (by omega)), if_neg bt, if_neg bt]
    exact failed 3
  have gy : gY g1 8 0 13 (4 + kk) = false := by unfold gY; rw [t1]; decide
  rw [t2, t3, gy, decide_eq_false (fun q => q (Int32.le_refl 0)), if_pos bf, if_pos bf]
  -- the next token
  have m13 : MF g1 (sY g1 8 0 13 (4 + kk) true) := MF.w g1 (w := 4) _ rfl (by omega) (by omega)
  have L1 : LX n h1 (sY g1 8 0 13 (4 + kk) true) p1 := c5.up (RF.rf u h1) m13 (fun _ => rfl) (fun _ _ _ => rfl)
  obtain ⟨h7, g27, p2, x1, x2, x3, x4, x5, x6, x7⟩ := lex hN L1.1
  have r7 := r1.up (x3.lf.rfr u)
  have u6 : gI h7 0 u 6 = nI z0 := (x3.2.2.1 0 u 6 (by omega)).trans l2
  have u21 : gI g27 8 0 21 = nI z0 := (x4.2.1 21 (by omega)).trans l4
  rw [x1, x2, bind_s, bind_s, r7.2, onO_s, cl_beginLaw hk, bind_s, u6, u21]
  have f10 : f_X1_beginExpression (sA h7 0 u 2 kk (nI z0)) = some (sZ (sZ (sY (sI (sI (sA h7 0 u 2 kk (nI z0)) 1 0 8 0) 1 0 9 0) 1 0 1 0 false) 1 0 11 true) 1 0 12 true) := by
    unfold f_X1_beginExpression
    simp only [lt_e]
    rw [grd_p (by decide)]
    rfl
  have f33 : f_X8_sumRead N (sA g27 8 0 14 (4 + kk) (nI z0)) = iter (fun _ => none) (f_X8_sumRead_25 N) N (sZ (sZ (sI (sI (sI (sA g27 8 0 14 (4 + kk) (nI z0)) 8 0 41 0) 8 0 42 0) 8 0 43 0) 8 0 45 true) 8 0 46 true) := by
    unfold f_X8_sumRead
    simp only [lt_e]
  rw [f10, bind_s, f33]
  obtain ⟨hx, ehx⟩ : ∃ hx, hx = sZ (sZ (sY (sI (sI (sA h7 0 u 2 kk (nI z0)) 1 0 8 0) 1 0 9 0) 1 0 1 0 false) 1 0 11 true) 1 0 12 true := ⟨_, rfl⟩
  obtain ⟨gx, egx⟩ : ∃ gx, gx = sZ (sZ (sI (sI (sI (sA g27 8 0 14 (4 + kk) (nI z0)) 8 0 41 0) 8 0 42 0) 8 0 43 0) 8 0 45 true) 8 0 46 true := ⟨_, rfl⟩
  rw [← ehx, ← egx]
  have FX : RF u h7 hx := by
    rw [ehx]
    exact (((((RF.a u h7 0 u 2 kk _ (by omega)).tr (RF.i u _ 1 0 8 _ (by omega))).tr (RF.i u _ 1 0 9 _ (by omega))).tr (RF.a u _ 1 0 1 0 _ (by omega))).tr (RF.i u _ 1 0 11 _ (by omega))).tr (RF.i u _ 1 0 12 _ (by omega))
  have GX : MF g27 gx := by
    rw [egx]
    exact (((((MF.w g27 (w := 4) _ rfl (by omega) (by omega)).tr (MF.i _ 41 _ (by unfold mfI; omega))).tr (MF.i _ 42 _ (by unfold mfI; omega))).tr (MF.i _ 43 _ (by unfold mfI; omega))).tr (MF.i _ 45 _ (by unfold mfI; omega))).tr (MF.i _ 46 _ (by unfold mfI; omega))
  have xa0 : ∀ k, ¬ k = 2 → gA hx 0 u k = gA h7 0 u k := fun k q => by
    rw [ehx]
    show gA (sA h7 0 u 2 kk (nI z0)) 0 u k = _
    rw [GA, if_neg (by omega)]
  have xa2 : gA hx 0 u 2 = upd (gA h7 0 u 2) kk (nI z0) := by
    rw [ehx]
    show gA (sA h7 0 u 2 kk (nI z0)) 0 u 2 = _
    rw [GA, if_pos ⟨rfl, rfl, rfl⟩]
  have xg : ∀ k, ¬ k = 14 → gA gx 8 0 k = gA g27 8 0 k := fun k q => by
    rw [egx]
    show gA (sA g27 8 0 14 (4 + kk) (nI z0)) 8 0 k = _
    rw [GA, if_neg (by omega)]
  have xg14 : gA gx 8 0 14 = upd (gA g27 8 0 14) (4 + kk) (nI z0) := by
    rw [egx]
    show gA (sA g27 8 0 14 (4 + kk) (nI z0)) 8 0 14 = _
    rw [GA, if_pos ⟨rfl, rfl, rfl⟩]
  have xi5 : gI hx 5 u = gI h7 5 u ∧ gA hx 5 u = gA h7 5 u ∧ gI hx 1 0 7 = gI h7 1 0 7 ∧ gI hx 1 0 4 = gI h7 1 0 4 ∧ gI hx 1 0 5 = gI h7 1 0 5 := by
    rw [ehx]
    exact ⟨rfl, rfl, rfl, rfl, rfl⟩
  have xgi : ∀ k, k < 41 → gI gx 8 0 k = gI g27 8 0 k := fun k q => by
    rw [egx]
    show gI (sI (sI (sI (sI (sI (sA g27 8 0 14 (4 + kk) (nI z0)) 8 0 41 0) 8 0 42 0) 8 0 43 0) 8 0 45 _) 8 0 46 _) 8 0 k = _
    rw [I_at, if_neg (by omega), I_at, if_neg (by omega), I_at, if_neg (by omega), I_at, if_neg (by omega), I_at, if_neg (by omega)]
    rfl
  have LXx : LX n hx gx p2 := x5.up FX GX (fun k => by rw [ehx]; rfl) (fun k h1 h2 => xgi k (by omega))
  have rx := r7.up FX
  have ftx : FT hx gx := by
    have f7 : FT h7 g27 := FT.lf (h := h1) (g := sY g1 8 0 13 (4 + kk) true) (d1.2.2.1) x3 x4
    exact f7.eq xi5.2.2.2.1 xi5.2.2.2.2 (xgi 4 (by omega)) (xgi 5 (by omega))
  have k10 : gI hx 1 0 10 = nI z0 := by
    rw [ehx]
    show gI h7 1 0 10 = _
    rw [x3.2.2.1 1 0 10 (by omega)]; exact l3
  have k44 : gI gx 8 0 44 = nI z0 := by
    rw [egx]
    show gI g27 8 0 44 = _
    rw [x4.2.1 44 (by omega)]; exact l5
  have Q : LQ u z0 hx gx [] [] (fun _ => []) z0 0 := by
    refine ⟨⟨⟨?_, ?_, ?_, ?_, ?_⟩, trivial, trivial, ⟨Nat.le_refl _, rfl, fun i a b => by omega⟩, rfl, l1⟩, ⟨?_, ?_, by omega, rfl⟩, ⟨k10, k44⟩, rfl, ?_⟩
    · rw [ehx]; exact u6
    · rw [ehx]; rfl
    · rw [xgi 21 (by omega)]; exact u21
    · rw [egx]; rfl
    · rw [egx]; rfl
    · rw [ehx]; rfl
    · rw [egx]; rfl
    · rw [ehx]; rfl
  have D : DU hx gx [] [] := ⟨by rw [ehx]; rfl, by rw [egx]; rfl, rfl, true, by rw [ehx]; rfl, by rw [egx]; rfl, fun _ => rfl⟩
  -- from the line's start
  have F0 : RF u h hx := ((c3.lf.rfr u).tr (x3.lf.rfr u)).tr FX
  have G0 : MF g gx := ((c4.lg.mf.tr m13).tr x4.lg.mf).tr GX
  have i10 : gI hx 5 u 10 = gI h 5 u 10 := by
    rw [xi5.1, x3.lf.f5 u, c3.lf.f5 u]
  rcases law_loop hN hk 701 0 hx gx p2 [] [] (fun _ => []) z0 0 (by omega) (by omega) (fun e => by
    have : gI h7 4 0 6 = gI hx 4 0 6 := by rw [ehx]; rfl
    have := x7 (by rw [this]; exact e)
    omega) LXx rx ftx Q (Or.inl D) N N (by omega) (by omega) with ⟨h9, g9, b1, b2, b3, b4, b5, b6⟩ | ⟨h9, g9, b1, b2, b3, b4, b5, b6, b7, b8, b9⟩ | ⟨h9, g9, z, st, p9, b1, b2, b3, b4, b5, ⟨b6, b7, b8⟩, b9, ⟨e1, e2, e3, e4, e5, e6⟩, e7, e8⟩
  · have b1 : iter (fun _ _ => none) (f_X1_readLaw_95 N (nI kk)) N 0 hx = some (false, h9) := b1
    rw [b1, b2, bd2_s, semC_f, semM_f]
    exact POut.no (F0.tr b3) ((G0.tr b4).tr (MF.w g9 (w := 4) _ rfl (by omega) (by omega))) b5 (b6.trans i10)
  · have b1 : iter (fun _ _ => none) (f_X1_readLaw_95 N (nI kk)) N 0 hx = some (true, h9) := b1
    rw [b1, b2, bd2_s, semC_n b6 b7, semM_f]
    refine POut.no ((F0.tr b3).tr ((LF.fail h9 1 _).rfr u)) ((G0.tr b4).tr (MF.w g9 (w := 4) _ rfl (by omega) (by omega))) ?_ (((LF.fail h9 1 _).2.2.1 5 u 10 (by omega) (by omega)).trans (b5.trans i10))
    unfold FT
    have q1 : gI (sI (sI h9 1 0 4 1) 1 0 5 (gI h9 4 0 5)) 1 0 4 = 1 := rfl
    have q2 : gI (sI (sI h9 1 0 4 1) 1 0 5 (gI h9 4 0 5)) 1 0 5 = gI h9 4 0 5 := rfl
    have q3 : gI (sA g9 8 0 15 (4 + kk) (gI g9 8 0 21)) 8 0 4 = gI g9 8 0 4 := rfl
    have q4 : gI (sA g9 8 0 15 (4 + kk) (gI g9 8 0 21)) 8 0 5 = gI g9 8 0 5 := rfl
    rw [q1, q2, q3, q4, b8, b9]
    exact ⟨rfl, rfl⟩
  · have b1 : iter (fun _ _ => none) (f_X1_readLaw_95 N (nI kk)) N 0 hx = some (true, sA h9 0 u 3 kk (nI z)) := b1
    rw [b1, b2, bd2_s, e5]
    have F9 : RF u h9 (sA h9 0 u 3 kk (nI z)) := RF.a u h9 0 u 3 kk _ (by omega)
    have G9 : MF g9 (sA g9 8 0 15 (4 + kk) (nI z)) := MF.w g9 (w := 4) _ rfl (by omega) (by omega)
    have L9 : LX n (sA h9 0 u 3 kk (nI z)) (sA g9 8 0 15 (4 + kk) (nI z)) p9 := b6.up F9 G9 (fun _ => rfl) (fun _ _ _ => rfl)
    have ts : gI h9 4 0 6 = 59 ↔ (gI g9 8 0 8 = 4 ∧ gI g9 8 0 9 = 59) := tk_sign b6.2.2.1 (Or.inl rfl)
    obtain ⟨h2, g2, p3, y1, y2, y3, y4, y5, y6, y7⟩ := lex hN L9.1
    rw [semC_t (b7.up F9) b9 y1, semM_t (g := sA g9 8 0 15 (4 + kk) (nI z)) (ts.mp b9) y2]
    have FT2 : FT h2 g2 := FT.lf (h := sA h9 0 u 3 kk (nI z)) (g := sA g9 8 0 15 (4 + kk) (nI z)) b8 y3 y4
    refine ⟨true, h2, g2, rfl, rfl, ((F0.tr b3.1).tr F9).tr (y3.lf.rfr u), ((G0.tr b4.1).tr G9).tr y4.lg.mf, FT2, ?_, fun _ => ⟨p3, by omega, y5, (b7.up F9).up (y3.lf.rfr u), FT2, ?_, z, e2, ?_, ?_, ?_, ?_, fun k h4 => ?_⟩⟩
    · rw [y3.lf.f5 u]
      exact (congrFun b3.2.2.1.1 10).trans i10
    · -- what is told stays
      have a1 : gI h2 5 u = gI h 5 u := by rw [y3.lf.f5 u, show gI (sA h9 0 u 3 kk (nI z)) 5 u = gI h9 5 u from rfl, b3.2.2.1.1, xi5.1, x3.lf.f5 u, c3.lf.f5 u]
      have a2 : gA h2 5 u = gA h 5 u := by rw [y3.lf.fa 5 u, show gA (sA h9 0 u 3 kk (nI z)) 5 u = gA h9 5 u from rfl, b3.2.2.1.2, xi5.2.1, x3.lf.fa 5 u, c3.lf.fa 5 u]
      have a3 : gI h2 1 0 7 = gI h 1 0 7 := by rw [y3.2.2.1 1 0 7 (by omega), show gI (sA h9 0 u 3 kk (nI z)) 1 0 7 = gI h9 1 0 7 from rfl, b3.2.1 7 (by omega), xi5.2.2.1, x3.2.2.1 1 0 7 (by omega), c3.2.2.1 1 0 7 (by omega)]
      have a4 : ∀ k, k ≤ 12 → gA g2 8 0 k = gA g 8 0 k := fun k hk' => by
        rw [y4.2.2.2 k, GA, if_neg (by omega), b4.2.2.1 k (by omega), xg k (by omega), x4.2.2.2 k]
        show gA (sA g1 8 0 13 (4 + kk) _) 8 0 k = _
        rw [GA, if_neg (by omega), c4.2.2.2 k]
      have a5 : ∀ k, 17 ≤ k → k ≤ 20 → gI g2 8 0 k = gI g 8 0 k := fun k h1' h2' => by
        rw [y4.2.1 k (by omega)]
        show gI g9 8 0 k = _
        rw [b4.2.1 k (by omega), xgi k (by omega), x4.2.1 k (by omega)]
        exact c4.2.1 k (by omega)
      rw [a1, a2, a3]
      have td' := td
      obtain ⟨_, _, _, _, -, -, -, -, o, q⟩ := td'
      exact td_cg td (fun _ _ _ => rfl) a5 (fun k h1' h2' => a4 k (by omega)) (by rw [a4 3 (by omega)]; exact o) (by rw [a4 2 (by omega)]; exact q)
    · rw [y3.2.2.1 0 u 6 (by omega)]; exact e3
    · rw [y3.2.2.1 1 0 10 (by omega)]; exact e4
    · rw [y4.2.1 21 (by omega)]; exact e5
    · rw [y4.2.1 44 (by omega)]; exact e6
    · have ca : gA h2 0 u = gA (sA h9 0 u 3 kk (nI z)) 0 u := funext fun k => y3.2.2.2 0 u k
      have ra : gA g2 8 0 = gA (sA g9 8 0 15 (4 + kk) (nI z)) 8 0 := funext fun k => y4.2.2.2 k
      have c0 : ∀ k, ¬ k = 3 → gA h2 0 u k = gA h9 0 u k := fun k q => by rw [ca, GA, if_neg (by omega)]
      have c3' : gA h2 0 u 3 = upd (gA h1 0 u 3) kk (nI z) := by
        rw [ca, GA, if_pos ⟨rfl, rfl, rfl⟩, b3.2.2.2.1 3 (by omega) (by omega), xa0 3 (by omega), x3.2.2.2 0 u 3]
      have c2' : gA h2 0 u 2 = upd (gA h1 0 u 2) kk (nI z0) := by
        rw [c0 2 (by omega), b3.2.2.2.1 2 (by omega) (by omega), xa2, x3.2.2.2 0 u 2]
      have r13 : gA g2 8 0 13 = upd (gA g1 8 0 13) (4 + kk) 1 := by
        rw [ra, GA, if_neg (by omega), b4.2.2.1 13 (by omega), xg 13 (by omega), x4.2.2.2 13]
        rfl
      have r14 : gA g2 8 0 14 = upd (gA g1 8 0 14) (4 + kk) (nI z0) := by
        rw [ra, GA, if_neg (by omega), b4.2.2.1 14 (by omega), xg14, x4.2.2.2 14]
        rfl
      have r15 : gA g2 8 0 15 = upd (gA g1 8 0 15) (4 + kk) (nI z) := by
        rw [ra, GA, if_pos ⟨rfl, rfl, rfl⟩, b4.2.2.1 15 (by omega), xg 15 (by omega), x4.2.2.2 15]
        rfl
      have rr : ∀ j, 16 ≤ j → gA g2 8 0 j = gA g9 8 0 j := fun j q => by rw [ra, GA, if_neg (by omega)]
      by_cases e : k = kk
      · subst e
        refine Or.inr ⟨by rw [r13, up_p], z0, z, e1, Nat.le_refl z, by rw [c2', up_p], by rw [c3', up_p], by rw [r14, up_p], by rw [r15, up_p], st, e7.2.1, ?_, e8⟩
        rw [c0 0 (by omega), c0 1 (by omega), rr 16 (by omega), rr 17 (by omega), rr 18 (by omega)]
        exact e7.2.2
      · refine (l6 k h4).keep (by omega) ?_ ?_ (fun j h1' h2' => ?_) (fun i hi => ⟨?_, ?_⟩) (fun j i h1' h2' hi => ?_)
        · rw [c2', up_n e]
        · rw [c3', up_n e]
        · rcases (show j = 13 ∨ j = 14 ∨ j = 15 by omega) with rfl | rfl | rfl
          · rw [r13, up_n (by omega)]
          · rw [r14, up_n (by omega)]
          · rw [r15, up_n (by omega)]
        · rw [c0 0 (by omega), b3.2.2.2.2 0 i hi, xa0 0 (by omega), x3.2.2.2 0 u 0]
        · rw [c0 1 (by omega), b3.2.2.2.2 1 i hi, xa0 1 (by omega), x3.2.2.2 0 u 1]
        · rw [rr j (by omega), b4.2.2.2 j i h1' h2' hi, xg j (by omega), x4.2.2.2 j]
          show gA (sA g1 8 0 13 (4 + kk) _) 8 0 j _ = _
          rw [GA, if_neg (by omega)]
end LawLine
