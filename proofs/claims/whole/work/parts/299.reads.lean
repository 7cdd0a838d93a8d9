-- PURE: lines, whole texts, read by both
section Reads
variable {N : Nat} {h h' g g' : Hp} {u n p p' z0 z kk : Nat}
theorem lineRead_e (g : Hp) : f_X8_lineRead N g = if ¬ (gI g 8 0 8) = 1 then (bd2 (f_X8_wrong g 1) fun v2 h1 => some (v2, h1)) else if (gI g 8 0 9) ≤ 8 then (if (gI g 8 0 9) = 0 then (if ¬ (gI g 8 0 17) = 8 then (f_X8_token N g).bind fun h9 => bd2 (f_X8_number N h9 0 999) fun v11 h10 => if ¬ (b2i v11) = 0 then grd (inb (8 + (gI h10 8 0 17)) 16) <| semM N true (sI (sA h10 8 0 4 (8 + (gI h10 8 0 17)).toNatClampNeg (gI h10 8 0 11)) 8 0 17 ((gI (sA h10 8 0 4 (8 + (gI h10 8 0 17)).toNatClampNeg (gI h10 8 0 11)) 8 0 17) + 1)) else some (false, h10) else bd2 (f_X8_wrong g 2) fun v15 h14 => some (v15, h14)) else if (gI g 8 0 9) = 1 then bd2 (f_X8_croftLine N g) (semM N) else if (gI g 8 0 9) = 2 then bd2 (f_X8_fieldLine N g) (semM N) else if (gI g 8 0 9) = 3 then bd2 (f_X8_tideLine N g) (semM N) else if (gI g 8 0 9) = 8 then ((f_X8_token N g).bind fun h22 => jn (bd2 (f_X8_wrong h22 1) fun v24 h23 => some (v24, h23)) fun (j193 : Option (Bool × Hp)) => if ¬ (gI h22 8 0 8) = 1 then j193 else if (gI h22 8 0 9) < 12 then j193 else if (gI h22 8 0 9) ≤ 15 then lt_ (((4 + (gI h22 8 0 9)) - 12)) fun v25 => grd (inb v25 8) <| if (b2i (gY h22 8 0 13 v25.toNatClampNeg)) = 0 then grd (inb v25 8) <| lt_ (sY h22 8 0 13 v25.toNatClampNeg true) fun h26 => (f_X8_token N h26).bind fun h27 => grd (inb v25 8) <| lt_ (sA h27 8 0 14 v25.toNatClampNeg (gI h27 8 0 21)) fun h28 => bd2 (f_X8_sumRead N h28) fun v30 h29 => grd (inb v25 8) <| lt_ (sA h29 8 0 15 v25.toNatClampNeg (gI h29 8 0 21)) fun h31 => semM N v30 h31 else bd2 (f_X8_wrong h22 3) fun v33 h32 => some (v33, h32) else j193) else bd2 (f_X8_onceLine N g) (semM N)) else bd2 (f_X8_wrong g 1) fun v2 h1 => some (v2, h1) := by
  unfold f_X8_lineRead
  simp only [jn_e, lt_e]
  rfl
theorem line_same (hN : 1000 ≤ N) (d : RD u n h g p) (e0 : ¬ gI h 4 0 6 = 0) : POut u n h g p (semC N (f_X1_readLine N h)) (f_X8_lineRead N g) := by
  obtain ⟨l, r, ft, td, ld⟩ := id d
  obtain ⟨tr1, tr2⟩ := tk_range l.2.2.1 (a := 0) (b := 8) (d := 0) (by decide) (by omega) (by omega) (by omega)
  have tr1 : ((256 : Int32) ≤ gI h 4 0 6 ∧ gI h 4 0 6 ≤ 264) ↔ (gI g 8 0 8 = 1 ∧ (0 : Int32) ≤ gI g 8 0 9 ∧ gI g 8 0 9 ≤ 8) := tr1
  unfold f_X1_readLine
  rw [r.1, onO_s]
  simp only [bd2_id]
  rw [lineRead_e]
  by_cases y : (256 : Int32) ≤ gI h 4 0 6 ∧ gI h 4 0 6 ≤ 264
  · obtain ⟨m1, m2, m3⟩ := tr1.mp y
    obtain ⟨j, -, j2, j3, j4⟩ := tr2 (tr1.mp y)
    rw [if_neg (show ¬ ¬ gI g 8 0 8 = 1 from fun q => q m1), if_pos m3]
    rcases (show j = 0 ∨ j = 1 ∨ j = 2 ∨ j = 3 ∨ j = 4 ∨ j = 5 ∨ j = 6 ∨ j = 7 ∨ j = 8 by omega) with rfl | rfl | rfl | rfl | rfl | rfl | rfl | rfl | rfl
    · have k3 : gI h 4 0 6 = 256 := j3
      have k4 : gI g 8 0 9 = 0 := j4
      obtain ⟨b, h', g', a1, a2, a3, a4, a5, a6, a7⟩ := p_stripe hN d (semM N true) trivial
      rw [k3, k4, if_pos rfl, if_pos rfl, a1, a2]
      have P := semi hN (A := some (b, h')) (B := some (b, g')) ⟨b, h', g', rfl, rfl, a3, a4, a5, a6, a7⟩
      rw [bd2_s] at P
      cases b with
      | true => exact P
      | false => rw [semM_f] at P; exact P
    · have k3 : gI h 4 0 6 = 257 := j3
      have k4 : gI g 8 0 9 = 1 := j4
      rw [k3, k4]
      exact semi hN (p_croft hN d)
    · have k3 : gI h 4 0 6 = 258 := j3
      have k4 : gI g 8 0 9 = 2 := j4
      rw [k3, k4]
      exact semi hN (p_field hN d)
    · have k3 : gI h 4 0 6 = 259 := j3
      have k4 : gI g 8 0 9 = 3 := j4
      rw [k3, k4]
      exact semi hN (p_tide hN d)
    · have k3 : gI h 4 0 6 = 260 := j3
      have k4 : gI g 8 0 9 = 4 := j4
      have P := semi hN (p_heap hN d k3 k4)
      rw [k3, k4]
      exact P
    · have k3 : gI h 4 0 6 = 261 := j3
      have k4 : gI g 8 0 9 = 5 := j4
      have P := semi hN (p_rule hN d k3 k4)
      rw [k3, k4]
      exact P
    · have k3 : gI h 4 0 6 = 262 := j3
      have k4 : gI g 8 0 9 = 6 := j4
      have P := semi hN (p_gale hN d k3 k4)
      rw [k3, k4]
      exact P
    · have k3 : gI h 4 0 6 = 263 := j3
      have k4 : gI g 8 0 9 = 7 := j4
      have P := semi hN (p_seed hN d k3 k4)
      rw [k3, k4]
      exact P
    · have k3 : gI h 4 0 6 = 264 := j3
      have k4 : gI g 8 0 9 = 8 := j4
      have P := law_line hN d e0
      rw [k3, k4]
      exact P
  · have n : ∀ k : Int32, 256 ≤ k → k ≤ 264 → ¬ gI h 4 0 6 = k := fun k h1 h2 q => y (by rw [q]; exact ⟨h1, h2⟩)
    rw [if_neg (n 256 (by decide) (by decide)), if_neg (n 257 (by decide) (by decide)), if_neg (n 258 (by decide) (by decide)), if_neg (n 259 (by decide) (by decide)), if_neg (n 260 (by decide) (by decide)), if_neg (n 261 (by decide) (by decide)), if_neg (n 262 (by decide) (by decide)), if_neg (n 263 (by decide) (by decide)), if_neg (n 264 (by decide) (by decide))]
    have B : ∀ X F : Option (Bool × Hp), (if ¬ gI g 8 0 8 = 1 then F else if gI g 8 0 9 ≤ 8 then X else F) = F := fun X F => by
      by_cases w : gI g 8 0 8 = 1
      · rw [if_neg (fun q => q w)]
        by_cases w2 : gI g 8 0 9 ≤ 8
        · obtain ⟨k, hk, x1, -⟩ := (tk_word l.2.2.1).2 w
          exact absurd (tr1.mpr ⟨w, by rw [x1]; exact leN (a := 0) (Nat.zero_le _) (by omega), w2⟩) y
        · rw [if_neg w2]
      · rw [if_pos w]
    rw [B, cl_fails r.1, m_wrong, bd2_s, semC_f]
    exact POut.no ((LF.fail h 1 _).rfr u) (LG.fail g 1 _).mf (ft_fail 1 l.at) ((LF.fail h 1 _).2.2.1 5 u 10 (by omega) (by omega))
theorem semC_k {α : Type} (A : Option (Bool × Hp)) (F K : Hp → Option α) : (bd2 A fun v13 h12 => if (b2i v13) = 0 then F h12 else bd2 (f_X1_takeSemicolon N h12) fun v16 h15 => if ¬ (b2i v16) = 0 then K h15 else F h15) = bd2 (semC N A) fun b h15 => if ¬ b2i b = 0 then K h15 else F h15 := by
  have bt : ¬ b2i true = 0 := by decide
  have bf : b2i false = 0 := rfl
  unfold semC
  rcases A with _ | ⟨v, h⟩
  · rw [bd2_n, bd2_n, bd2_n]
  · rw [bd2_s, bd2_s]
    cases v with
    | false => rw [if_pos bf, if_pos bf, bd2_s, if_neg (show ¬ ¬ b2i false = 0 from fun q => q bf)]
    | true =>
      rw [if_neg bt, if_neg bt]
      rcases f_X1_takeSemicolon N h with _ | ⟨w, h2⟩
      · rw [bd2_n, bd2_n, bd2_n]
      · rw [bd2_s, bd2_s]
        cases w with
        | false => rw [if_neg (show ¬ ¬ b2i false = 0 from fun q => q bf), if_neg (show ¬ ¬ b2i false = 0 from fun q => q bf), bd2_s, if_neg (show ¬ ¬ b2i false = 0 from fun q => q bf)]
        | true => rw [if_pos bt, if_pos bt, bd2_s, if_pos bt]
theorem RD.cnt (d : RD u n h g p) (v : Int32) : RD u n (sI h 5 u 10 v) g p := by
  obtain ⟨l, r, ft, td, ld⟩ := d
  have F := RF.i u h 5 u 10 v (by omega)
  refine ⟨l.up F (MF.rf g) (fun _ => rfl) (fun _ _ _ => rfl), r.up F, ft, ?_, ld⟩
  have td' := td
  obtain ⟨_, _, _, _, -, -, -, -, o, q⟩ := td'
  have e : ∀ k, 11 ≤ k → gI (sI h 5 u 10 v) 5 u k = gI h 5 u k := fun k hk => by rw [GI, if_neg (by omega)]
  refine td_cg td (fun k h1 h2 => e k (by omega)) (fun _ _ _ => rfl) (fun _ _ _ => rfl) ?_ q
  unfold TdO
  rw [e 15 (by omega), e 16 (by omega), e 17 (by omega), e 18 (by omega), e 19 (by omega)]
  exact o
/-- a whole text read -/
theorem text_loop (hN : 1000 ≤ N) : ∀ (k i : Nat) (h g : Hp) (p : Nat), i + k = 701 → i ≤ p → (¬ gI h 4 0 6 = 0 → i + 1 ≤ p) → RD u n h g p → gI h 5 u 10 = nI i → ∀ m m', k < m → k < m' → (∃ h' g', iter (fun _ _ => none) (f_X1_reads_48 N) m (nI i) h = some (false, h') ∧ iter (fun _ _ => none) (f_X8_text_55 N) m' (nI i) g = some (-1, g') ∧ RF u h h' ∧ MF g g' ∧ FT h' g') ∨ (∃ h' g' i' p', iter (fun _ _ => none) (f_X1_reads_48 N) m (nI i) h = some (true, h') ∧ iter (fun _ _ => none) (f_X8_text_55 N) m' (nI i) g = ((f_X8_keepText N g').bind fun h11 => some (nI i', h11)) ∧ RF u h h' ∧ MF g g' ∧ RD u n h' g' p' ∧ i' ≤ 701 ∧ gI h' 5 u 10 = nI i') := by
  intro k
  induction k with
  | zero =>
    intro i h g p hi h1 hh d e10 m m' hm hm'
    have := d.1.1.1
    have := d.1.1.2.1
    omega
  | succ k ih =>
    intro i h g p hi h1 hh d e10 m m' hm hm'
    obtain ⟨m, rfl⟩ : ∃ x, m = x + 1 := ⟨m - 1, by omega⟩
    obtain ⟨m', rfl⟩ : ∃ x, m' = x + 1 := ⟨m' - 1, by omega⟩
    have n7 := d.1.1.1
    have pn := d.1.1.2.1
    have te := tk_end d.1.2.2.1
    rw [iter_s, iter_s]
    obtain ⟨rA, hA⟩ : ∃ rA, rA = iter (fun _ _ => none) (f_X1_reads_48 N) m := ⟨_, rfl⟩
    obtain ⟨rB, hB⟩ : ∃ rB, rB = iter (fun _ _ => none) (f_X8_text_55 N) m' := ⟨_, rfl⟩
    rw [← hA, ← hB]
    unfold f_X1_reads_48 f_X8_text_55
    simp only [jn_e, lt_e, d.2.1.1, onO_s]
    by_cases z : gI h 4 0 6 = 0
    · refine Or.inr ⟨h, g, i, p, ?_, by rw [if_pos (te.mp z)], RF.rf u h, MF.rf g, d, by omega, e10⟩
      by_cases w : 700 ≤ i
      · rw [if_pos (show (700 : Int32) ≤ nI i from leN (a := 700) w (by omega))]
      · rw [if_neg (show ¬ (700 : Int32) ≤ nI i from nleN (a := 700) (by omega) (by omega)), if_pos z]
    have ip := hh z
    rw [if_neg (show ¬ (700 : Int32) ≤ nI i from nleN (a := 700) (by omega) (by omega)), if_neg z, if_neg (fun q => z (te.mpr q)), semC_k]
    obtain ⟨b, h1, g1, a1, a2, a3, a4, a5, a6, a7⟩ := line_same hN d z
    rw [a1, a2, bd2_s, bd2_s]
    cases b with
    | false =>
      rw [if_neg (show ¬ ¬ b2i false = 0 from fun q => q rfl), if_neg (show ¬ ¬ b2i false = 0 from fun q => q rfl)]
      exact Or.inl ⟨h1, g1, rfl, rfl, a3, a4, a5⟩
    | true =>
      obtain ⟨p1, pp, d1⟩ := a7 rfl
      rw [if_pos (show ¬ b2i true = 0 by decide), if_pos (show ¬ b2i true = 0 by decide), d1.2.1.2, onO_s, a6, e10, nI_1, hA, hB]
      have F := RF.i u h1 5 u 10 (nI (i + 1)) (by omega)
      rcases ih (i + 1) (sI h1 5 u 10 (nI (i + 1))) g1 p1 (by omega) (by omega) (fun _ => by omega) (d1.cnt _) (by rw [GI, if_pos ⟨rfl, rfl, rfl⟩]) m m' (by omega) (by omega) with ⟨h', g', b1, b2, b3, b4, b5⟩ | ⟨h', g', i', p', b1, b2, b3, b4, b5, b6, b7⟩
      · exact Or.inl ⟨h', g', b1, b2, (a3.tr F).tr b3, a4.tr b4, b5⟩
      · exact Or.inr ⟨h', g', i', p', b1, b2, (a3.tr F).tr b3, a4.tr b4, b5, b6, b7⟩
end Reads
