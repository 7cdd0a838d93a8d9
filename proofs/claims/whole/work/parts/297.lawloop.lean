-- PURE: a law's text read by both
def Bd2 (u : Nat) (h g h' g' : Hp) : Prop := RF u h h' ∧ MF g g' ∧ gI h' 5 u 10 = gI h 5 u 10 ∧ REF u h' ∧ ¬ gI h' 4 0 6 = 59 ∧ gI g' 8 0 4 = 1 ∧ gI g' 8 0 5 = gI h' 4 0 5
/-- a law read: both fail; the class thinks that it ends, where no ';' stands, and the reference fails; both end -/
def LBt (u n z0 kk : Nat) (h g : Hp) (p : Nat) (A B : Option (Bool × Hp)) : Prop := (∃ h' g', A = some (false, h') ∧ B = some (false, g') ∧ Bad u h g h' g') ∨ (∃ h' g', A = some (true, h') ∧ B = some (false, g') ∧ Bd2 u h g h' g') ∨ (∃ h' g' z st p', A = some (true, sA h' 0 u 3 kk (nI z)) ∧ B = some (true, g') ∧ LW u z0 h h' ∧ LV z0 g g' ∧ p ≤ p' ∧ (LX n h' g' p' ∧ REF u h' ∧ FT h' g') ∧ gI h' 4 0 6 = 59 ∧ (z0 < z ∧ z ≤ 64 ∧ gI h' 0 u 6 = nI z ∧ gI h' 1 0 10 = nI z ∧ gI g' 8 0 21 = nI z ∧ gI g' 8 0 44 = nI z) ∧ SPS z0 z (gA h' 0 u 0) (gA h' 0 u 1) (gA g' 8 0 16) (gA g' 8 0 17) (gA g' 8 0 18) st ∧ st z = [z - 1])
section LawLoop
variable {N : Nat} {h h' g g' : Hp} {u n p p' z0 z o kk : Nat} {W : Wtg} {H : List Nat} {st : Nat → List Nat}
theorem LBt.tr {A B : Option (Bool × Hp)} (a : LW u z0 h h') (b : LV z0 g g') (c : p ≤ p') (t : LBt u n z0 kk h' g' p' A B) : LBt u n z0 kk h g p A B := by
  rcases t with ⟨h2, g2, t1, t2, t3⟩ | ⟨h2, g2, t1, t2, t3⟩ | ⟨h2, g2, z, st, p2, t1, t2, t3, t4, t5, t6⟩
  · exact Or.inl ⟨h2, g2, t1, t2, a.1.tr t3.1, b.1.tr t3.2.1, t3.2.2.1, t3.2.2.2.trans (congrFun a.2.2.1.1 10)⟩
  · exact Or.inr (Or.inl ⟨h2, g2, t1, t2, a.1.tr t3.1, b.1.tr t3.2.1, t3.2.2.1.trans (congrFun a.2.2.1.1 10), t3.2.2.2⟩)
  · exact Or.inr (Or.inr ⟨h2, g2, z, st, p2, t1, t2, a.tr t3, b.tr t4, by omega, t6⟩)
theorem operand_end (r : REF u h) (e : gI h 4 0 6 = 0) : f_X1_readOperand N h = bd2 (f_X1_fails h 1) fun v12 h11 => some (v12, h11) := by
  unfold f_X1_readOperand
  simp only [r.1, onO_s, jn_e, lt_e, e]
  rw [if_pos (show ¬ (0 : Int32) = 2 by decide), if_neg (fun q => q (show b2i false = 0 from rfl)), if_pos (show (0 : Int32) < 272 by decide), if_pos (show ¬ (0 : Int32) = 40 by decide), if_pos (show ¬ (0 : Int32) = 279 by decide)]
theorem cl_end (hk : kk < 4) (h : Hp) : f_X0_end h u (nI kk) = some (sA h 0 u 3 kk (gI h 0 u 6)) := by
  unfold f_X0_end
  simp only [jn_e, lt_e]
  rw [if_neg (show ¬ nI kk < 0 from Int32.not_lt.mpr (leN (a := 0) (Nat.zero_le _) (by omega))), if_neg (show ¬ (4 : Int32) ≤ nI kk from nleN (a := 4) hk (by omega)), grd_p (inb_n hk (by omega)), clN (by omega)]
/-- the end of a law, nothing open -/
theorem law_done (hN : 1000 ≤ N) (r : REF u h) (q : LQ u z0 h g W H st z 0) (m : ND h g W H z0 z) : ∃ h4 g6 st' z', f_X1_putWaiting N h 1 = some h4 ∧ f_X8_bind N g 1 = some g6 ∧ NW u z0 h h4 ∧ NV z0 g g6 ∧ (z0 < z' ∧ z' ≤ 64 ∧ gI h4 0 u 6 = nI z' ∧ gI h4 1 0 10 = nI z' ∧ gI g6 8 0 21 = nI z' ∧ gI g6 8 0 44 = nI z') ∧ SPS z0 z' (gA h4 0 u 0) (gA h4 0 u 1) (gA g6 8 0 16) (gA g6 8 0 17) (gA g6 8 0 18) st' ∧ st' z' = [z' - 1] := by
  have bs := q.bs m r
  obtain ⟨c0, ⟨o1, o2, o3, o4⟩, ⟨k1, k2⟩, cm1, cm2⟩ := q
  have l64 : z + npC W ≤ 64 := c0.2.2.2.2.2
  have zz := c0.2.2.2.1.1
  obtain ⟨h4, g6, H', st', z', a1, a2, a3, a4, a5, a6, a7⟩ := bind_same hN W h g H st z 1 1 bs ⟨Or.inl rfl, by omega, by omega, by omega⟩ N N (by omega) (by omega)
  have cmd := cm1.drop (r := 1) (by omega)
  have hw : dropR 1 W = [] := by
    rcases dropR_head 1 W with e | ⟨e, w, e1, e2⟩
    · exact e
    · exfalso
      have en := a5.2.1
      rw [e1] at en cmd
      have e0 : e.2 = 0 := (ent_rank en.2.2.1).2.2.mp (by omega)
      have cmd : (if e.2 = 0 then ∃ o', 0 = o' + 1 ∧ gA h 1 0 1 o' = b2i (cmpd w) ∧ CMP (gA h 1 0 1) w o' else CMP (gA h 1 0 1) w 0) := cmd
      rw [if_pos e0] at cmd
      obtain ⟨o', x, -⟩ := cmd
      omega
  rw [hw] at a5 a7
  have en : npC ([] : Wtg) = 0 := rfl
  have eb : bnC ([] : Wtg) = 0 := rfl
  rw [en] at a7
  have hl := a5.2.2.2.2.2.1
  rw [eb] at hl
  obtain ⟨rr, e1, e2⟩ := a5.2.2.2.2.2.2.2.2
  have r0 : rr = [] := by
    rw [e1] at hl
    exact List.length_eq_zero_iff.mp (by have : ((z' - 1) :: rr).length = rr.length + 1 := rfl
                                         omega)
  obtain ⟨p1, p2, p3, p4, p5⟩ := a5.co.1
  refine ⟨h4, g6, st', z', a1, a2, a3.nw zz, a4.nv zz, ⟨e2, by omega, p1, ?_, p3, ?_⟩, a5.2.2.2.1, ?_⟩
  · rw [a3.2.1 10 (by omega), k1]; congr 1; omega
  · rw [a4.2.1 44 (by omega) (by omega) (by omega), k2]; congr 1; omega
  · rw [a5.2.2.2.2.1, e1, r0]
theorem law_loop (hN : 1000 ≤ N) (hk : kk < 4) : ∀ (k i : Nat) (h g : Hp) (p : Nat) (W : Wtg) (H : List Nat) (st : Nat → List Nat) (z o : Nat), i + k = 701 → i + 1 ≤ p → (¬ gI h 4 0 6 = 0 → i + 2 ≤ p) → LX n h g p → REF u h → FT h g → LQ u z0 h g W H st z o → (DU h g W H ∨ ND h g W H z0 z) → ∀ m m', k < m → k < m' → LBt u n z0 kk h g p (iter (fun _ _ => none) (f_X1_readLaw_95 N (nI kk)) m (nI i) h) (iter (fun _ => none) (f_X8_sumRead_25 N) m' g) := by
  intro k
  induction k with
  | zero =>
    intro i h g p W H st z o hi h1 hh l r ft q d m m' hm hm'
    have := l.1.1
    have := l.1.2.1
    omega
  | succ k ih =>
    intro i h g p W H st z o hi h1 hh l r ft q d m m' hm hm'
    obtain ⟨m, rfl⟩ : ∃ x, m = x + 1 := ⟨m - 1, by omega⟩
    obtain ⟨m', rfl⟩ : ∃ x, m' = x + 1 := ⟨m' - 1, by omega⟩
    have n7 := l.1.1
    have pn := l.1.2.1
    have bt : ¬ b2i true = 0 := by decide
    have bf : b2i false = 0 := rfl
    rw [iter_s, iter_s]
    obtain ⟨rA, hA⟩ : ∃ rA, rA = iter (fun _ _ => none) (f_X1_readLaw_95 N (nI kk)) m := ⟨_, rfl⟩
    obtain ⟨rB, hB⟩ : ∃ rB, rB = iter (fun _ => none) (f_X8_sumRead_25 N) m' := ⟨_, rfl⟩
    rw [← hA, ← hB]
    -- going on
    have next : ∀ {h2 g2 : Hp}, ¬ gI h 4 0 6 = 0 → Go u n z0 h g p h2 g2 → LBt u n z0 kk h g p (rA (nI i + 1) h2) (rB g2) := fun {h2 g2} ne go => by
      obtain ⟨W', H', st', z', o', p', g1, g2', ⟨g3, g4⟩, ⟨g5, g6, g7⟩, g8, g9⟩ := go
      have := hh ne
      rw [nI_1, hA, hB]
      exact (ih (i + 1) _ _ p' W' H' st' z' o' (by omega) (by omega) (fun e => by have := g4 e; omega) g5 g6 g7 g8 g9 m m' (by omega) (by omega)).tr g1 g2' g3
    unfold f_X1_readLaw_95 f_X8_sumRead_25
    simp only [jn_e, lt_e]
    rw [if_neg (show ¬ (700 : Int32) ≤ nI i from nleN (a := 700) (by omega) (by omega)), m_isSg, bind_s]
    rcases d with d | d
    · have z1 : gZ h 1 0 11 = true := by unfold gZ; rw [d.1]; decide
      have z2 : gZ g 8 0 45 = true := by unfold gZ; rw [d.2.1]; decide
      rw [z1, z2, if_neg bt]
      obtain ⟨b, h', g', a1, a2, a3, a4⟩ := operand hN l r ft q d
      have ref : ∀ v : Bool, (if b2i v = 0 then (if b2i true = 0 then (bd2 (f_X8_signs N g) fun v10 h9 => if ¬ b2i v10 = 0 then rB h9 else some (false, h9)) else bd2 (f_X8_leafRead N g) fun v12 h11 => if b2i v12 = 0 then some (false, h11) else rB h11) else if ¬ b2i true = 0 then (if b2i true = 0 then (bd2 (f_X8_signs N g) fun v10 h9 => if ¬ b2i v10 = 0 then rB h9 else some (false, h9)) else bd2 (f_X8_leafRead N g) fun v12 h11 => if b2i v12 = 0 then some (false, h11) else rB h11) else if gI g 8 0 43 ≤ 0 then ((f_X8_bind N g 1).bind fun h13 => some (true, h13)) else (if b2i true = 0 then (bd2 (f_X8_signs N g) fun v10 h9 => if ¬ b2i v10 = 0 then rB h9 else some (false, h9)) else bd2 (f_X8_leafRead N g) fun v12 h11 => if b2i v12 = 0 then some (false, h11) else rB h11)) = if b2i b = 0 then some (false, g') else rB g' := fun v => by
        rw [a2, bd2_s, if_neg bt, if_pos bt]
        by_cases y : b2i v = 0
        · rw [if_pos y]
        · rw [if_neg y]
      rw [ref, a1, bd2_s]
      cases b with
      | false =>
        rw [if_neg (fun q => q bf), if_pos bf]
        exact Or.inl ⟨h', g', rfl, rfl, a3 rfl⟩
      | true =>
        rw [if_pos bt, if_neg bt]
        refine next (fun e => ?_) (a4 rfl)
        rw [operand_end r e, cl_fails r.1, bd2_s] at a1
        exact Bool.noConfusion (congrArg Prod.fst (Option.some.inj a1))
    · have z1 : gZ h 1 0 11 = false := by unfold gZ; rw [d.1]; decide
      have z2 : gZ g 8 0 45 = false := by unfold gZ; rw [d.2.1]; decide
      have ts : gI h 4 0 6 = 59 ↔ (gI g 8 0 8 = 4 ∧ gI g 8 0 9 = 59) := tk_sign l.2.2.1 (Or.inl rfl)
      obtain ⟨-, ⟨o1, o2, o3, -⟩, -⟩ := id q
      rw [z1, z2, if_pos bf, if_pos bf]
      simp only [r.1, onO_s]
      -- the reference asks for signs
      have ref : (¬ gI h 4 0 6 = 59 ∨ 0 < o) → ∀ K : Option (Bool × Hp), (if b2i (decide (gI g 8 0 8 = 4 ∧ gI g 8 0 9 = 59)) = 0 then K else if ¬ b2i false = 0 then K else if gI g 8 0 43 ≤ 0 then ((f_X8_bind N g 1).bind fun h13 => some (true, h13)) else K) = K := fun e K => by
        rw [if_neg (show ¬ ¬ b2i false = 0 from fun q => q bf)]
        by_cases y : gI h 4 0 6 = 59
        · rw [decide_eq_true (ts.mp y), if_neg bt, o2, if_neg (show ¬ nI o ≤ 0 from nleN (b := 0) (e.elim (fun q => absurd y q) id) (by omega))]
        · rw [decide_eq_false (fun w => y (ts.mpr w)), if_pos bf]
      rcases signs_same hN l r ft q d with ⟨j1, j2⟩ | ⟨j1, ⟨j2, j3, j4⟩ | ⟨j2, j3⟩⟩
      · have n59 : ¬ gI h 4 0 6 = 59 := fun e => by rw [e] at j1; exact absurd j1 (by decide)
        have n0 : ¬ gI h 4 0 6 = 0 := fun e => by rw [e] at j1; exact absurd j1 (by decide)
        obtain ⟨b, h', g', a1, a2, a3, a4⟩ := j2
        rw [ref (Or.inl n59), j1, bind_s, if_neg bt, a1, a2, bd2_s, bd2_s]
        cases b with
        | false =>
          rw [if_neg (fun q => q bf), if_neg (fun q => q bf)]
          exact Or.inl ⟨h', g', rfl, rfl, a3 rfl⟩
        | true =>
          rw [if_pos bt, if_pos bt]
          exact next n0 (a4 rfl)
      · have n59 : ¬ gI h 4 0 6 = 59 := fun e => absurd (j2.symm.trans e) (by decide)
        have n0 : ¬ gI h 4 0 6 = 0 := fun e => absurd (j2.symm.trans e) (by decide)
        obtain ⟨b, h', g', a1, a2, a3, a4⟩ := j4
        obtain ⟨h3, e3⟩ : ∃ h3, f_X1_closeParenthesis N h = some h3 := by
          cases hx : f_X1_closeParenthesis N h with
          | none => rw [hx] at a1; exact absurd a1 (by intro q; cases q)
          | some v => exact ⟨v, rfl⟩
        rw [e3, bind_s] at a1
        have a1 := Option.some.inj a1
        have eb : true = b := congrArg Prod.fst a1
        have eh : h3 = h' := congrArg Prod.snd a1
        subst eb eh
        rw [ref (Or.inl n59), j1, bind_s, if_pos bf, if_neg (fun q => q j2), o1, if_neg (show ¬ nI o ≤ 0 from nleN (b := 0) j3 (by omega)), e3, bind_s, a2, bd2_s, if_pos bt]
        exact next n0 (a4 rfl)
      · -- the end
        have cls : ∀ E C : Option (Bool × Hp), ((f_X1_joins (gI h 4 0 6)).bind fun v20 => if b2i v20 = 0 then (if ¬ gI h 4 0 6 = 41 then E else if gI h 1 0 9 ≤ 0 then E else C) else (bd2 (f_X1_readJoin N h) fun v23 h22 => if ¬ b2i v23 = 0 then rA (nI i + 1) h22 else some (false, h22))) = E := fun E C => by
          rw [j1, bind_s, if_pos bf]
          by_cases y : gI h 4 0 6 = 41
          · have : o = 0 := Decidable.byContradiction fun w => j2 ⟨y, by omega⟩
            rw [if_neg (fun q => q y), o1, this, if_pos (show nI 0 ≤ 0 by decide)]
          · rw [if_pos y]
        rw [cls]
        by_cases ho : o = 0
        · subst ho
          obtain ⟨h4, g6, st', z', b1, b2, b3, b4, b5, b6, b7⟩ := law_done hN r q d
          have r4 := r.up b3.1.1
          rw [o1, if_pos (show nI 0 ≤ 0 by decide), b1, bind_s, r4.2, onO_s, cl_end hk, bind_s, b5.2.2.1]
          by_cases y : gI h 4 0 6 = 59
          · rw [decide_eq_true (ts.mp y), if_neg bt, if_neg (show ¬ ¬ b2i false = 0 from fun q => q bf), o2, if_pos (show nI 0 ≤ 0 by decide), b2, bind_s]
            have L := l.up b3.1.1 b4.1.1 (fun k => congrFun b3.2 k) b4.2
            have ft' : FT h4 g6 := ft.eq (b3.1.2.1 4 (by omega)) (b3.1.2.1 5 (by omega)) (b4.1.2.1 4 (by omega)) (b4.1.2.1 5 (by omega))
            exact Or.inr (Or.inr ⟨h4, g6, z', st', p, rfl, rfl, b3.1, b4.1, Nat.le_refl p, ⟨L, r4, ft'⟩, by rw [b3.2]; exact y, b5, b6, b7⟩)
          · rw [ref (Or.inl y), j3, m_wrong, bd2_s, bd2_s, if_neg (fun q => q bf)]
            refine Or.inr (Or.inl ⟨_, _, rfl, rfl, b3.1.1.tr (RF.a u h4 0 u 3 kk _ (by omega)), (LG.fail g 1 _).mf, ?_, ?_, ?_, rfl, ?_⟩)
            · exact congrFun b3.1.2.2.1.1 10
            · exact r4
            · show ¬ gI h4 4 0 6 = 59
              rw [b3.2]; exact y
            · show gI g 8 0 10 = gI h4 4 0 5
              rw [b3.2]; exact l.at.symm
        · rw [ref (Or.inr (by omega)), j3, o1, if_neg (show ¬ nI o ≤ 0 from nleN (b := 0) (by omega) (by omega)), cl_fails r.1, m_wrong, bd2_s, bd2_s, bd2_s, if_neg (fun q => q bf)]
          exact Or.inl ⟨_, _, rfl, rfl, (LF.fail h 1 _).rfr u, (LG.fail g 1 _).mf, ft_fail 1 l.at, (LF.fail h 1 _).2.2.1 5 u 10 (by omega) (by omega)⟩
end LawLoop
