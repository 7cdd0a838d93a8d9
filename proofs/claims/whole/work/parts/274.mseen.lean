-- PURE: see, strike, known, by the reference
/-- the state told anew: seen's rows -/
theorem R8.seen {g g' : Hp} {T : Txt} {S I : Str} {X X' : Xs} (r : R8 g T S I X) (hi : ∀ k, k ≠ 72 → k ≠ 73 → gI g' 8 0 k = gI g 8 0 k) (hl : ∀ k, gL g' 8 0 k = gL g 8 0 k) (ha : ∀ k, k ≠ 37 → gA g' 8 0 k = gA g 8 0 k) (x1 : ∀ j, j ≠ 3 → j ≠ 4 → j ≠ 5 → X'.1 j = X.1 j) (x2 : ∀ j, j ≠ 1 → j ≠ 2 → X'.2 j = X.2 j) (s : SR g' X') : R8 g' T S I X' := by
  obtain ⟨r1, r2, r3, r4, r5, r6, r7, r8, r9, r10, r11⟩ := r
  refine ⟨r1.cg (fun k hk => hi k (by omega) (by omega)) (hl 62) (fun k hk => ha k (by omega)), ?_, ?_, (hl 62).trans r4, s, ?_, ?_, ?_, ?_, ?_, ?_⟩
  · unfold TX; rw [ha 4 (by decide), ha 5 (by decide), ha 6 (by decide), ha 7 (by decide), ha 8 (by decide), ha 3 (by decide), ha 1 (by decide), ha 13 (by decide), ha 14 (by decide), ha 15 (by decide), ha 16 (by decide), ha 17 (by decide), ha 18 (by decide)]; exact r2
  · unfold gZ; rw [hi 64 (by decide) (by decide)]; exact r3
  · rw [hi 76 (by decide) (by decide), ha 39 (by decide), x2 0 (by decide) (by decide)]
    refine ⟨r6.1, UR_cg r1.1 (s := 0) _ S r6.2 (fun k j hk hj => ?_) (fun j i _ _ => rfl)⟩
    rw [x1 k (by omega) (by omega) (by omega)]
    rfl
  · rw [hi 78 (by decide) (by decide), x2 7 (by decide) (by decide)]
    refine ⟨r7.1, fun q => ?_⟩
    have := r7.2 q
    unfold IMr
    rw [ha 40 (by decide), ha 41 (by decide), ha 42 (by decide), ha 43 (by decide), ha 44 (by decide), hi 84 (by decide) (by decide), hi 85 (by decide) (by decide), hi 86 (by decide) (by decide), hl]
    exact this
  · rw [hi 1 (by decide) (by decide), ha 0 (by decide), x2 3 (by decide) (by decide), x1 6 (by decide) (by decide) (by decide)]; exact r8
  · rw [hi 4 (by decide) (by decide), x2 4 (by decide) (by decide)]; exact r9
  · rw [hi 5 (by decide) (by decide), x2 5 (by decide) (by decide)]; exact r10
  · rw [hi 16 (by decide) (by decide), x2 6 (by decide) (by decide)]; exact r11
section MSeen
variable {N : Nat} {g : Hp} {T : Txt} {S I : Str} {X : Xs}
theorem m_noted (r : R8 g T S I X) (x : SX X) (hz : szN X < 24) {k w o a c : Int32} (h2 : k = 2 → a = -1) (hn : ¬ k = 2 → a = w ∧ c = if k = 0 then 1 else 0) : ∃ g', f_X8_noted g a o c = some (nI (szN X), g') ∧ R8 g' T S I (seX X k w o) ∧ K7 g g' := by
  obtain ⟨s1, s2⟩ := sz_x x
  have e72 : gI g 8 0 72 = nI (szN X) := r.2.2.2.2.1.1.trans s2
  have e0 : (3 : Int32) * nI (szN X) = nI (3 * szN X) := nI_mulN 3 _
  have e1 : nI (3 * szN X) + 1 = nI (3 * szN X + 1) := nI_1 _
  have e2 : nI (3 * szN X) + 2 = nI (3 * szN X + 2) := nI_add _ 2
  have b1 : gI (sA g 8 0 37 (3 * szN X) a) 8 0 72 = nI (szN X) := e72
  have b2 : gI (sA (sA g 8 0 37 (3 * szN X) a) 8 0 37 (3 * szN X + 1) o) 8 0 72 = nI (szN X) := e72
  have b3 : gI (sA (sA (sA g 8 0 37 (3 * szN X) a) 8 0 37 (3 * szN X + 1) o) 8 0 37 (3 * szN X + 2) c) 8 0 72 = nI (szN X) := e72
  have em : nI (szN X + 1) - 1 = nI (szN X) := by rw [show (1 : Int32) = nI 1 from rfl, nI_sub (by omega)]; rfl
  unfold f_X8_noted
  rw [e72, e0, grd_p (inb_n (show 3 * szN X < 72 by omega) (by omega)), lt_e, clN (show 3 * szN X < 2 ^ 31 by omega), b1, e0, e1, grd_p (inb_n (show 3 * szN X + 1 < 72 by omega) (by omega)), lt_e, clN (show 3 * szN X + 1 < 2 ^ 31 by omega), b2, e0, e2, grd_p (inb_n (show 3 * szN X + 2 < 72 by omega) (by omega)), lt_e, clN (show 3 * szN X + 2 < 2 ^ 31 by omega), lt_e, b3, nI_1, I_at, if_pos rfl, em]
  have ag : ∀ j, gA (sI (sA (sA (sA g 8 0 37 (3 * szN X) a) 8 0 37 (3 * szN X + 1) o) 8 0 37 (3 * szN X + 2) c) 8 0 72 (nI (szN X + 1))) 8 0 37 j = if j = 3 * szN X + 2 then c else if j = 3 * szN X + 1 then o else if j = 3 * szN X then a else gA g 8 0 37 j := fun j => by
    show gA (sA (sA (sA g 8 0 37 (3 * szN X) a) 8 0 37 (3 * szN X + 1) o) 8 0 37 (3 * szN X + 2) c) 8 0 37 j = _
    simp [A_at]
  refine ⟨_, rfl, r.seen (fun j h1 h2 => by rw [I_at, if_neg h1]; rfl) (fun _ => rfl) (fun j hj => ?_) (fun j h3 h4 h5 => ?_) (fun j h1 _ => if_neg h1) ?_, ((K7.a g 37 _ _).tr (K7.a _ 37 _ _)).tr ((K7.a _ 37 _ _).tr (K7.i _ 72 _))⟩
  · funext u
    show gA (sA (sA (sA g 8 0 37 (3 * szN X) a) 8 0 37 (3 * szN X + 1) o) 8 0 37 (3 * szN X + 2) c) 8 0 j u = _
    rw [A_at, if_neg (fun q => hj q.1), A_at, if_neg (fun q => hj q.1), A_at, if_neg (fun q => hj q.1)]
  · show (if j = 3 then _ else if j = 4 then _ else if j = 5 then _ else X.1 j) = X.1 j
    rw [if_neg h3, if_neg h4, if_neg h5]
  · have x3 : (seX X k w o).1 3 = upd (X.1 3) (szN X) k := rfl
    have x4 : (seX X k w o).1 4 = upd (X.1 4) (szN X) w := rfl
    have x5 : (seX X k w o).1 5 = upd (X.1 5) (szN X) o := rfl
    have y1 : (seX X k w o).2 1 = nI (szN X + 1) := rfl
    have y2 : (seX X k w o).2 2 = X.2 2 := rfl
    obtain ⟨q1, q2, q3⟩ := r.2.2.2.2.1
    refine ⟨by rw [I_at, if_pos rfl, y1], ?_, fun i hi => ?_⟩
    · rw [I_at, if_neg (by decide), y2]; exact q2
    · rw [y1, clN (by omega)] at hi
      rw [x3, x4, x5, ag, ag, ag]
      by_cases y : i = szN X
      · subst y
        rw [upd_s, upd_s, upd_s, if_neg (by omega), if_neg (by omega), if_pos rfl, if_neg (by omega), if_pos rfl, if_pos rfl]
        exact ⟨fun q => ⟨h2 q, rfl⟩, fun q => ⟨(hn q).1, rfl, (hn q).2⟩⟩
      · rw [upd_n _ _ y, upd_n _ _ y, upd_n _ _ y, if_neg (by omega), if_neg (by omega), if_neg (by omega), if_neg (by omega), if_neg (by omega), if_neg (by omega), if_neg (by omega), if_neg (by omega), if_neg (by omega)]
        exact q3 i (by show i < szN X; omega)
theorem m_see (r : R8 g T S I X) (x : SX X) (w o : Int32) (b : Bool) : ∃ g', f_X8_see g w o b = some (if seeQ X w o = true then nI (szN X) else -1, g') ∧ R8 g' T S I (if seeQ X w o = true then seX X (if b = true then 0 else 1) w o else X) ∧ K7 g g' := by
  obtain ⟨r0, k0⟩ := r.z0
  obtain ⟨s1, s2⟩ := sz_x x
  have e72 : gI (sI g 8 0 2 0) 8 0 72 = nI (szN X) := r0.2.2.2.2.1.1.trans s2
  have no : seeQ X w o = false → ∃ g', some ((-1 : Int32), sI g 8 0 2 0) = some (if seeQ X w o = true then nI (szN X) else -1, g') ∧ R8 g' T S I (if seeQ X w o = true then seX X (if b = true then 0 else 1) w o else X) ∧ K7 g g' := fun q => by
    rw [q, if_neg (fun w => Bool.noConfusion w), if_neg (fun w => Bool.noConfusion w)]
    exact ⟨_, rfl, r0, k0⟩
  unfold f_X8_see
  simp only [jn_e, lt_e, m_isIn, bind_s, e72]
  by_cases z : szN X = 24
  · rw [if_pos (show nI (szN X) = 24 by rw [z]; rfl)]
    exact no (by unfold seeQ; rw [decide_eq_false (show ¬ szN X < 24 by omega), Bool.and_false])
  have hz : szN X < 24 := by omega
  rw [if_neg (show ¬ nI (szN X) = 24 from fun q => z (nI_inj (j := 24) (by omega) (by omega) q))]
  by_cases y : 1 ≤ w ∧ w ≤ 99
  rotate_left
  · rw [decide_eq_false y, if_pos (show b2i false = 0 from rfl)]; exact no (by unfold seeQ; rw [decide_eq_false y]; rfl)
  rw [decide_eq_true y, if_neg (show ¬ b2i true = 0 by decide)]
  by_cases v : 0 ≤ o ∧ o ≤ 9999
  rotate_left
  · rw [decide_eq_false v, if_neg (show ¬ ¬ b2i false = 0 by decide)]; exact no (by unfold seeQ; rw [decide_eq_false v, Bool.and_false]; rfl)
  rw [decide_eq_true v, if_pos (show ¬ b2i true = 0 by decide)]
  have eq : seeQ X w o = true := by unfold seeQ; rw [decide_eq_true y, decide_eq_true v, decide_eq_true hz]; rfl
  rw [eq, if_pos rfl, if_pos (show true = true from rfl)]
  cases b with
  | true =>
    obtain ⟨g', e', r', k'⟩ := m_noted r0 x hz (k := 0) (w := w) (o := o) (a := w) (c := b2i true) (fun q => absurd q (by decide)) (fun _ => ⟨rfl, rfl⟩)
    rw [if_neg (show ¬ b2i true = 0 by decide), e', bd2_s, if_pos (show true = true from rfl)]
    exact ⟨g', rfl, r', k0.tr k'⟩
  | false =>
    obtain ⟨g', e', r', k'⟩ := m_noted r0 x hz (k := 1) (w := w) (o := o) (a := w) (c := b2i false) (fun q => absurd q (by decide)) (fun _ => ⟨rfl, rfl⟩)
    rw [if_pos (show b2i false = 0 from rfl), e', bd2_s, if_neg (show ¬ false = true from fun q => Bool.noConfusion q)]
    exact ⟨g', rfl, r', k0.tr k'⟩
theorem m_strike (r : R8 g T S I X) (x : SX X) (o : Int32) : ∃ g', f_X8_strike g o = some (if stkQ X o = true then nI (szN X) else -1, g') ∧ R8 g' T S I (if stkQ X o = true then seX X 2 0 o else X) ∧ K7 g g' := by
  obtain ⟨r0, k0⟩ := r.z0
  obtain ⟨s1, s2⟩ := sz_x x
  have e72 : gI (sI g 8 0 2 0) 8 0 72 = nI (szN X) := r0.2.2.2.2.1.1.trans s2
  have no : stkQ X o = false → ∃ g', some ((-1 : Int32), sI g 8 0 2 0) = some (if stkQ X o = true then nI (szN X) else -1, g') ∧ R8 g' T S I (if stkQ X o = true then seX X 2 0 o else X) ∧ K7 g g' := fun q => by
    rw [q, if_neg (fun w => Bool.noConfusion w), if_neg (fun w => Bool.noConfusion w)]
    exact ⟨_, rfl, r0, k0⟩
  unfold f_X8_strike
  simp only [jn_e, lt_e, e72]
  by_cases z : szN X = 24
  · rw [if_pos (show nI (szN X) = 24 by rw [z]; rfl)]
    exact no (by unfold stkQ; rw [decide_eq_false (show ¬ szN X < 24 by omega), Bool.and_false])
  have hz : szN X < 24 := by omega
  rw [if_neg (show ¬ nI (szN X) = 24 from fun q => z (nI_inj (j := 24) (by omega) (by omega) q))]
  by_cases y : o < 0
  · rw [if_pos y]; exact no (by unfold stkQ; rw [decide_eq_false (fun q => absurd q.1 (Int32.not_le.mpr y))]; rfl)
  rw [if_neg y]
  by_cases v : o < nI (szN X)
  rotate_left
  · rw [if_neg v]; exact no (by unfold stkQ; rw [s2, decide_eq_false (fun q => v q.2)]; rfl)
  have eq : stkQ X o = true := by unfold stkQ; rw [s2, decide_eq_true ⟨Int32.not_lt.mp y, v⟩, decide_eq_true hz]; rfl
  obtain ⟨g', e', r', k'⟩ := m_noted r0 x hz (k := 2) (w := 0) (o := o) (a := -1) (c := 0) (fun _ => rfl) (fun q => absurd rfl q)
  rw [if_pos v, e', bd2_s, eq, if_pos rfl, if_pos rfl]
  exact ⟨g', rfl, r', k0.tr k'⟩
theorem m_knownOp (r : R8 g T S I X) (n : Int32) : ∃ g', f_X8_known g n = some (knoQ X n, g') ∧ R8 g' T S I (if knoQ X n = true then uX2 X 2 n else X) ∧ K7 g g' := by
  obtain ⟨r0, k0⟩ := r.z0
  have e72 : gI (sI g 8 0 2 0) 8 0 72 = X.2 1 := r0.2.2.2.2.1.1
  unfold f_X8_known
  rw [lt_e, e72, m_isIn, bind_s]
  have eq : decide (-1 ≤ n ∧ n ≤ X.2 1) = knoQ X n := rfl
  rw [eq]
  cases q : knoQ X n with
  | false => rw [if_neg (show ¬ ¬ b2i false = 0 by decide), if_neg (fun w => Bool.noConfusion w)]; exact ⟨_, rfl, r0, k0⟩
  | true =>
    rw [if_pos (show ¬ b2i true = 0 by decide), if_pos rfl, lt_e]
    refine ⟨_, rfl, r0.seen (fun j _ h2 => by rw [I_at, if_neg h2]) (fun _ => rfl) (fun _ _ => rfl) (fun _ _ _ _ => rfl) (fun j _ h2 => if_neg h2) ?_, k0.tr (K7.i _ 73 _)⟩
    obtain ⟨q1, q2, q3⟩ := r0.2.2.2.2.1
    refine ⟨?_, by rw [I_at, if_pos rfl]; rfl, q3⟩
    rw [I_at, if_neg (by decide)]; exact q1
theorem PI_see (p : PI T S I X) (w o : Int32) (b : Bool) : PI T S I (if seeQ X w o = true then seX X (if b = true then 0 else 1) w o else X) := by
  by_cases z : seeQ X w o = true
  · rw [if_pos z]
    unfold seeQ at z
    simp only [Bool.and_eq_true, decide_eq_true_eq] at z
    obtain ⟨k, hk, rfl⟩ := rngN (a := w) (m := 99) (by omega) (Int32.le_trans (by decide) z.1.1.1) z.1.1.2
    refine p.seX (seX_SX p.2.2.2.2.2.1 z.2 (Or.inr ⟨?_, k, ?_, hk, rfl⟩))
    · cases b with
      | true => exact Or.inl (if_pos rfl)
      | false => exact Or.inr (if_neg (fun q => Bool.noConfusion q))
    · refine Decidable.byContradiction fun v => ?_
      have := z.1.1.1
      rw [show k = 0 by omega] at this
      exact absurd this (by decide)
  · rw [if_neg z]; exact p
theorem PI_strike (p : PI T S I X) (o : Int32) : PI T S I (if stkQ X o = true then seX X 2 0 o else X) := by
  by_cases z : stkQ X o = true
  · rw [if_pos z]
    obtain ⟨s1, s2⟩ := sz_x p.2.2.2.2.2.1
    unfold stkQ at z
    simp only [Bool.and_eq_true, decide_eq_true_eq] at z
    rw [s2] at z
    obtain ⟨j, hj, rfl⟩ := ltN (a := o) (m := szN X) (by omega) z.1.1 z.1.2
    exact p.seX (seX_SX p.2.2.2.2.2.1 z.2 (Or.inl ⟨rfl, rfl, j, hj, rfl⟩))
  · rw [if_neg z]; exact p
theorem PI_known (p : PI T S I X) (n : Int32) : PI T S I (if knoQ X n = true then uX2 X 2 n else X) := by
  by_cases z : knoQ X n = true
  · rw [if_pos z]
    obtain ⟨p1, p2, p3, p4, p5, p6, p7, p8, p9⟩ := p
    refine ⟨p1, p2, p3, p4, p5, ?_, p7, p8, p9⟩
    obtain ⟨y, h1, h2, h3, h4⟩ := p6
    have w := of_decide_eq_true z
    refine ⟨y, h1, h2, ?_, h4⟩
    show n = -1 ∨ ∃ k, k ≤ y ∧ n = nI k
    by_cases v : n = -1
    · exact Or.inl v
    · right
      have a := Int32.le_iff_toInt_le.mp w.1
      have e1 : (-1 : Int32).toInt = -1 := rfl
      have ne : n.toInt ≠ -1 := fun q => v (Int32.toInt_inj.mp q)
      have z0 : (0 : Int32).toInt = 0 := rfl
      exact rngN (a := n) (m := y) (by omega) (Int32.le_iff_toInt_le.mpr (by omega)) (by have := w.2; rw [h2] at this; exact this)
  · rw [if_neg z]; exact p
end MSeen
