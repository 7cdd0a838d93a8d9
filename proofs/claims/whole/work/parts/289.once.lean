-- PURE: lines of tides, lines that may be told once
theorem tk_word {ck cn cl mk mw : Int32} (t : TKR ck cn cl mk mw) : ((256 ≤ ck ↔ mk = 1) ∧ (mk = 1 → ∃ k, k < 26 ∧ mw = nI k ∧ ck = nI (256 + cwd k))) := by
  rcases t with ⟨rfl, rfl⟩ | ⟨rfl, t⟩ | ⟨rfl, rfl, t⟩ | ⟨rfl, rfl, t⟩ | ⟨rfl, rfl, t⟩ | ⟨rfl, t⟩ | ⟨rfl, k, hk, rfl, rfl⟩
  · exact ⟨⟨fun q => absurd q (by decide), fun q => absurd q (by decide)⟩, fun q => absurd q (by decide)⟩
  · have : ¬ mk = 1 := fun q => by
      rcases t with t | t
      · rw [q] at t; exact absurd t (by decide)
      · have := t.1; rw [q] at this; exact absurd this (by decide)
    exact ⟨⟨fun q => absurd q (by decide), fun q => absurd q this⟩, fun q => absurd q this⟩
  · exact ⟨⟨fun q => absurd q (by decide), fun q => absurd q (by decide)⟩, fun q => absurd q (by decide)⟩
  · exact ⟨⟨fun q => absurd q (by decide), fun q => absurd q (by decide)⟩, fun q => absurd q (by decide)⟩
  · refine ⟨⟨fun q => ?_, fun q => absurd q (by decide)⟩, fun q => absurd q (by decide)⟩
    rcases t with rfl | rfl | rfl | rfl | rfl | rfl | rfl <;> exact absurd q (by decide)
  · refine ⟨⟨fun q => ?_, fun q => absurd q (by decide)⟩, fun q => absurd q (by decide)⟩
    rcases t with ⟨rfl, -⟩ | ⟨rfl, -⟩ | ⟨rfl, -⟩ | ⟨rfl, -⟩ | ⟨rfl, -⟩ | ⟨rfl, -⟩ <;> exact absurd q (by decide)
  · have := cwd_lt k hk
    exact ⟨⟨fun _ => rfl, fun _ => leN (a := 256) (by omega) (by omega)⟩, fun _ => ⟨k, hk, rfl, rfl⟩⟩
/-- the words from lo to hi -/
theorem tk_range {ck cn cl mk mw : Int32} (t : TKR ck cn cl mk mw) {a b d : Nat} (h : ∀ k, k < 26 → ((a ≤ cwd k ∧ cwd k ≤ b) ↔ (a + d ≤ k ∧ k ≤ b + d)) ∧ (a ≤ cwd k ∧ cwd k ≤ b → k = cwd k + d)) (hb : b < 26) (hd : d < 26) (ab : a ≤ b) : ((nI (256 + a) ≤ ck ∧ ck ≤ nI (256 + b)) ↔ (mk = 1 ∧ nI (a + d) ≤ mw ∧ mw ≤ nI (b + d))) ∧ ((mk = 1 ∧ nI (a + d) ≤ mw ∧ mw ≤ nI (b + d)) → ∃ j, a ≤ j ∧ j ≤ b ∧ ck = nI (256 + j) ∧ mw = nI (j + d)) := by
  obtain ⟨t1, t2⟩ := tk_word t
  have le_ : ∀ {x y : Nat}, x < 2 ^ 31 → nI x ≤ nI y → x ≤ y := fun {x y} hx q => Decidable.byContradiction fun w => nleN (by omega) hx q
  have key : mk = 1 ∧ nI (a + d) ≤ mw ∧ mw ≤ nI (b + d) → ∃ j, a ≤ j ∧ j ≤ b ∧ ck = nI (256 + j) ∧ mw = nI (j + d) := fun ⟨q1, q2, q3⟩ => by
    obtain ⟨k, hk, rfl, rfl⟩ := t2 q1
    have h1 := le_ (by omega) q2
    have h2 := le_ (by omega) q3
    have := (h k hk).1.mpr ⟨h1, h2⟩
    exact ⟨cwd k, this.1, this.2, rfl, by rw [← (h k hk).2 this]⟩
  refine ⟨⟨fun ⟨q1, q2⟩ => ?_, fun q => ?_⟩, key⟩
  · have m1 := t1.mp (Int32.le_trans (leN (a := 256) (b := 256 + a) (by omega) (by omega)) q1)
    obtain ⟨k, hk, rfl, rfl⟩ := t2 m1
    have := cwd_lt k hk
    have h1 := le_ (by omega) q1
    have h2 := le_ (by omega) q2
    have := (h k hk).1.mp ⟨by omega, by omega⟩
    exact ⟨m1, leN this.1 (by omega), leN this.2 (by omega)⟩
  · obtain ⟨j, j1, j2, rfl, -⟩ := key q
    exact ⟨leN (by omega) (by omega), leN (by omega) (by omega)⟩
section Once
variable {N : Nat} {h g hk gk : Hp} {n p q u : Nat} {CI RI : Nat → Int32} {CA RA : Nat → Nat → Int32} {O7 : Int32}
theorem both_tide (hN : 1000 ≤ N) {t : Nat} (h4 : t ≤ 4) (e14 : gI h 5 u 14 = nI t) (x : Int32) (en : ∀ i, i < t → gA h 5 u 8 i = gA g 8 0 12 (4 + i)) : ∃ b v, f_X5_hasTide N h u x = some b ∧ f_X8_find N g 8 0 12 4 (nI t) x = some v ∧ (b = true → ∃ j, j < t ∧ v = nI j ∧ gA h 5 u 8 j = x) ∧ (b = false → v = -1) := by
  unfold f_X5_hasTide f_X8_find
  have main : ∀ k i, i + k = t → ∀ m m', k < m → k < m' → ∃ b v, iter (fun _ => none) (f_X5_hasTide_2 h u x) m (nI i) = some b ∧ iter (fun _ => none) (f_X8_find_3 g 8 0 12 4 (nI t) x) m' (nI i) = some v ∧ (b = true → ∃ j, j < t ∧ v = nI j ∧ gA h 5 u 8 j = x) ∧ (b = false → v = -1) := by
    intro k
    induction k with
    | zero =>
      intro i hi m m' hm hm'
      obtain ⟨m, rfl⟩ : ∃ x, m = x + 1 := ⟨m - 1, by omega⟩
      obtain ⟨m', rfl⟩ : ∃ x, m' = x + 1 := ⟨m' - 1, by omega⟩
      rw [iter_s, iter_s]
      unfold f_X5_hasTide_2 f_X8_find_3
      rw [e14, if_pos (leN (by omega) (by omega)), if_pos (leN (by omega) (by omega))]
      exact ⟨_, _, rfl, rfl, fun q => Bool.noConfusion q, fun _ => rfl⟩
    | succ k ih =>
      intro i hi m m' hm hm'
      obtain ⟨m, rfl⟩ : ∃ x, m = x + 1 := ⟨m - 1, by omega⟩
      obtain ⟨m', rfl⟩ : ∃ x, m' = x + 1 := ⟨m' - 1, by omega⟩
      rw [iter_s, iter_s]
      have ei : (4 : Int32) + nI i = nI (4 + i) := by rw [show (4 : Int32) = nI 4 from rfl, nI_add]
      have in8 : inb (nI (4 + i)) (ak 8 12).2 := inb_n (n := 8) (show 4 + i < 8 by omega) (by omega)
      have e1 : f_X5_hasTide_2 h u x (iter (fun _ => none) (f_X5_hasTide_2 h u x) m) (nI i) = if ¬ gA h 5 u 8 i = x then iter (fun _ => none) (f_X5_hasTide_2 h u x) m (nI (i + 1)) else some true := by
        show (if gI h 5 u 14 ≤ nI i then some false else grd (inb (nI i) 4) (if ¬ gA h 5 u 8 (nI i).toNatClampNeg = x then lt_ (nI i + 1) (fun v2 => iter (fun _ => none) (f_X5_hasTide_2 h u x) m v2) else some true)) = _
        rw [e14, if_neg (nleN (by omega) (by omega)), grd_p (inb_n (show i < 4 by omega) (by omega)), clN (by omega), lt_e, nI_1]
      have e2 : f_X8_find_3 g 8 0 12 4 (nI t) x (iter (fun _ => none) (f_X8_find_3 g 8 0 12 4 (nI t) x) m') (nI i) = if ¬ gA g 8 0 12 (4 + i) = x then iter (fun _ => none) (f_X8_find_3 g 8 0 12 4 (nI t) x) m' (nI (i + 1)) else some (nI i) := by
        show (if nI t ≤ nI i then some (-1) else grd (inb (4 + nI i) (ak 8 12).2) (if ¬ gA g 8 0 12 (4 + nI i).toNatClampNeg = x then lt_ (nI i + 1) (fun v2 => iter (fun _ => none) (f_X8_find_3 g 8 0 12 4 (nI t) x) m' v2) else some (nI i))) = _
        rw [if_neg (nleN (by omega) (by omega)), ei, grd_p in8, clN (by omega), lt_e, nI_1]
      rw [e1, e2, ← en i (by omega)]
      by_cases z : gA h 5 u 8 i = x
      · rw [if_neg (fun q => q z), if_neg (fun q => q z)]
        exact ⟨_, _, rfl, rfl, fun _ => ⟨i, by omega, rfl, z⟩, fun q => Bool.noConfusion q⟩
      · rw [if_pos z, if_pos z]
        exact ih (i + 1) (by omega) m m' (by omega) (by omega)
  exact main t 0 (by omega) N N (by omega) (by omega)
theorem p_tide (hN : 1000 ≤ N) (d : RD u n h g p) : POut u n h g p (f_X1_readTide N h) (f_X8_tideLine N g) := by
  obtain ⟨l, r, ft, td, ld⟩ := id d
  obtain ⟨s, c, f, t, -, -, -, ⟨t1, t2, t3, t4⟩, -⟩ := id td
  have S0 := SS.st d
  unfold f_X1_readTide f_X8_tideLine
  rw [r.2, onO_s, t2, t3]
  by_cases z : t = 4
  · rw [if_neg (Int32.not_lt.mpr (show (4 : Int32) ≤ nI t from leN (a := 4) (by omega) (by omega))), if_neg (fun q => q (by rw [z]; rfl))]
    exact S0.fail rfl 2
  rw [if_pos (show nI t < 4 from Int32.not_le.mp (nleN (a := 4) (show t < 4 by omega) (by omega))), if_pos (show ¬ nI t = 4 from fun q => z (nI_inj (j := 4) (by omega) (by omega) q)), r.1, onO_s]
  obtain ⟨h1, g1, p1, c1, c2, S1, c6, c7⟩ := S0.lex hN
  rw [c1, c2, bind_s, bind_s]
  simp only [S1.2.2.2.2.1, S1.2.2.2.2.2, onO_s, jn_e, lt_e]
  have e14 : gI h1 5 u 14 = nI t := (congrFun S1.2.1.1 14).trans t2
  have e20 : ∀ {g' : Hp}, LG g1 g' → gI g' 8 0 20 = nI t := fun e => (e.2.1 20 (by omega) (by omega) (by omega)).trans ((S1.2.1.2.2.1 20 (by omega) (by omega)).trans t3)
  have ea : ∀ i, i < t → Eq9 23 (gA h1 5 u 8 i) (gA g1 8 0 12 (4 + i)) := fun i hi => by rw [S1.2.1.2.1, S1.2.1.2.2.2.1]; exact t4 i hi
  have ea' : ∀ i, i < t → gA h1 5 u 8 i = gA g1 8 0 12 (4 + i) := fun i hi => by
    obtain ⟨v, -, x, y⟩ := ea i hi
    rw [x, y]
  have i4 : (4 : Int32) + nI t = nI (4 + t) := by rw [show (4 : Int32) = nI 4 from rfl, nI_add]
  obtain ⟨b, h2, g2, d1, d2, d3, d4, d5, d6⟩ := take_num hN S1.2.2.1 S1.2.2.2.2.1 S1.2.2.2.1 (most := 23) (by omega)
  have d1 : f_X1_takeNumber N h1 23 = some (b, h2) := d1
  have d2 : f_X8_number N g1 0 23 = some (b, g2) := d2
  rw [d1, d2, bd2_s, bd2_s]
  obtain ⟨bt, vt, w1, -, w3, w4⟩ := both_tide (h := h1) (g := g1) (u := u) hN t1 e14 (gI h1 4 0 7) ea'
  have tn := tk_num S1.2.2.1.2.2.1
  rw [w1, bind_s]
  cases b with
  | false =>
    rw [if_neg (fun q : ¬ b2i false = 0 => q rfl), if_neg (fun q : ¬ b2i false = 0 => q rfl)]
    by_cases y : gI h1 4 0 6 = 2
    · rw [if_neg (fun q => q y)]
      cases bt with
      | false =>
        rw [if_pos (show b2i false = 0 from rfl)]
        exact S1.stop rfl d3 d4 d5
      | true =>
        exfalso
        obtain ⟨j, hj, -, ex⟩ := w3 rfl
        obtain ⟨v, hv, x1, x2⟩ := ea j hj
        have e7 : gI h1 4 0 7 = nI v := by rw [← ex, x1]
        -- then the number fits, and the number is taken
        have this : ∃ h', f_X1_takeNumber N h1 23 = some (true, h') := by
          unfold f_X1_takeNumber
          simp only [S1.2.2.2.2.1, onO_s]
          obtain ⟨h', p', a1, -⟩ := cl_advance (h := sI h1 1 0 6 (gI h1 4 0 7)) hN S1.2.2.1.1.2.2.1 S1.2.2.1.1.1 S1.2.2.1.1.2.2.2.2.2.2.2.1 S1.2.2.1.1.2.2.2.1 S1.2.2.1.1.2.1
          have ro : gO (sI h1 1 0 6 (gI h1 4 0 7)) 1 0 2 = some 0 := S1.2.2.2.2.1
          simp only [if_pos y, e7, if_pos (show nI v ≤ 23 from leN (b := 23) (by omega) (by omega)), lt_e]
          rw [e7] at a1 ro
          simp only [ro, onO_s, a1, bind_s]
          exact ⟨_, rfl⟩
        obtain ⟨h', this⟩ := this
        have this := d1.symm.trans this
        have : (false, h2) = (true, h') := Option.some.inj this
        exact Bool.noConfusion (congrArg Prod.fst this)
    · rw [if_pos y]
      exact S1.stop rfl d3 d4 d5
  | true =>
    obtain ⟨v, p2, v1, v2, v3, v4, v5, v6, v7, v8⟩ := d6 rfl
    have S2 := S1.lf d3 d4 v4 d5
    have px : p < p1 := c7 (by rw [v7]; decide)
    obtain ⟨bu, vu, y1, y2, y3, y4⟩ := both_tide (h := h2) (g := g2) (u := u) hN t1 ((congrFun (d3.f5 u) 14).trans e14) (nI v) (fun i hi => by rw [d3.fa, d4.fa]; exact ea' i hi)
    rw [if_pos (show ¬ b2i true = 0 by decide), if_pos (show ¬ b2i true = 0 by decide), if_neg (fun q => q v7), e20 d4, v3, y2, bind_s]
    have same : bt = bu := by
      have e : f_X5_hasTide N h1 u (gI h1 4 0 7) = f_X5_hasTide N h2 u (nI v) := by
        unfold f_X5_hasTide
        have : f_X5_hasTide_2 h1 u (gI h1 4 0 7) = f_X5_hasTide_2 h2 u (nI v) := by
          unfold f_X5_hasTide_2
          rw [d3.f5 u, d3.fa 5 u, v8]
        rw [this]
      rw [w1, y1] at e
      exact Option.some.inj e
    subst same
    cases bt with
    | true =>
      obtain ⟨j, hj, rfl, -⟩ := y3 rfl
      rw [if_neg (show ¬ b2i true = 0 by decide), if_neg (show ¬ nI j < 0 from Int32.not_lt.mpr (leN (a := 0) (Nat.zero_le _) (by omega))), cl_fails S1.2.2.2.2.1, m_wrong, bd2_s, bd2_s]
      have e10 : gI (sI g2 8 0 10 (gI g1 8 0 10)) 8 0 10 = gI g1 8 0 10 := rfl
      rw [e10]
      refine POut.no (S1.1.1.tr ((LF.fail h1 3 _).rfr u)) (S2.1.2.1.tr ((LG.i g2 10 _ (by omega)).tr (LG.fail _ 3 _)).mf) ?_ ?_
      · unfold FT
        have e1 : gI (sI (sI h1 1 0 4 3) 1 0 5 (gI h1 4 0 5)) 1 0 4 = 3 := rfl
        have e2 : gI (sI (sI h1 1 0 4 3) 1 0 5 (gI h1 4 0 5)) 1 0 5 = gI h1 4 0 5 := rfl
        have e3 : gI (sI (sI (sI g2 8 0 10 (gI g1 8 0 10)) 8 0 4 3) 8 0 5 (gI g1 8 0 10)) 8 0 4 = 3 := rfl
        have e4 : gI (sI (sI (sI g2 8 0 10 (gI g1 8 0 10)) 8 0 4 3) 8 0 5 (gI g1 8 0 10)) 8 0 5 = gI g1 8 0 10 := rfl
        rw [e1, e2, e3, e4]
        exact ⟨rfl, S1.2.2.1.at⟩
      · rw [(LF.fail h1 3 _).f5 u, S1.2.1.1]
    | false =>
      have := y4 rfl
      subst this
      have in4 : ∀ k : Option (Bool × Hp), grd (inb (nI t) 4) k = k := fun k => grd_p (inb_n (by omega) (by omega)) k
      have in8 : ∀ k : Option (Bool × Hp), grd (inb (nI (4 + t)) 8) k = k := fun k => grd_p (inb_n (by omega) (by omega)) k
      have k1 : (nI t).toNatClampNeg = t := clN (by omega)
      have k2 : (nI (4 + t)).toNatClampNeg = 4 + t := clN (by omega)
      have e14' : gI h2 5 u 14 = nI t := (congrFun (d3.f5 u) 14).trans e14
      rw [if_pos (show b2i false = 0 from rfl), if_pos (show (-1 : Int32) < 0 by decide), i4]
      simp only [S2.2.2.2.2.2, onO_s, e14', in4, in8, k1, k2, v2]
      have S3 := S2.put 8 t 12 (4 + t) 4 (nI v) (nI v) rfl (by omega) (by omega)
      have ra : gO (sA h2 5 u 8 t (nI v)) 1 0 3 = some u := S3.2.2.2.2.2
      have f14 : gI (sA h2 5 u 8 t (nI v)) 5 u 14 = nI t := e14'
      have f20 : gI (sA g2 8 0 12 (4 + t) (nI v)) 8 0 20 = nI t := e20 (g' := g2) d4
      rw [ra, onO_s, f14, f20, nI_1]
      refine (S3.int 14 20 (nI (t + 1)) (nI (t + 1)) (by omega)).done d rfl (by omega) ?_
      exact td_tide td t2 (by omega) v1 (fun k h1 h2 => if_neg (by omega)) rfl
theorem SS.once (s : SS u n h g hk gk q CI CA RI RA O7) (i : Nat) (v w : Int32) : SS u n h g (sI hk 1 0 7 v) (sA gk 8 0 2 i w) q CI CA RI (upk RA 2 i w) v := by
  obtain ⟨⟨a1, a2, a3, a4⟩, ⟨b1, b2, b3, b4, b5⟩, c1, c2, c3⟩ := s
  have F := RF.i u hk 1 0 7 v (by omega)
  have G := MF.a gk 2 i w (Or.inl rfl)
  refine ⟨⟨a1.tr F, a2.tr G, a3.tr ⟨rfl, rfl, rfl⟩, a4.tr (KWG.a gk 2 i w (by omega))⟩, ⟨b1, b2, b3, ?_, rfl⟩, c1.up F G (fun _ => rfl) (fun _ _ _ => rfl), c2, c3⟩
  rw [fam_a, b4]
theorem both_once (hN : 1000 ≤ N) (d : RD u n h g p) {i : Nat} (hi : i < 4) (ek : gI h 4 0 6 = nI (260 + i)) : ∃ b h' g', f_X1_takeOnce N h = some (b, h') ∧ f_X8_isOnce N g (nI i) = some (b, g') ∧ (b = false → POut u n h g p (some (false, h')) (some (false, g'))) ∧ (b = true → ∃ p' O7', SS u n h g h' g' p' (gI h 5 u) (gA h 5 u) (gI g 8 0) (upk (gA g 8 0) 2 i 1) O7' ∧ p ≤ p' ∧ (¬ gI h' 4 0 6 = 0 → p < p') ∧ TdB O7' (upd (gA g 8 0 2) i 1)) := by
  obtain ⟨l, r, ft, td, ld⟩ := id d
  obtain ⟨_, _, _, _, -, -, -, -, -, tb⟩ := id td
  have S0 := SS.st d
  unfold f_X1_takeOnce f_X8_isOnce
  have ex : gI h 4 0 6 - 256 = nI (4 + i) := by
    rw [ek, show (256 : Int32) = nI 256 from rfl, nI_sub (by omega), show 260 + i - 256 = 4 + i by omega]
  rw [r.1, onO_s, ex, lt_e, grd_p (inb_n (show i < 4 by omega) (by omega))]
  simp only [clN (show i < 2 ^ 31 by omega)]
  rcases tdb_at tb i hi with ⟨t1, t2, t3⟩ | ⟨t1, t2⟩
  · have e1 : gY g 8 0 2 i = false := decide_eq_false (fun q => q t2)
    have S1 := S0.once i (gI h 1 0 7 ||| ((1 : Int32) <<< (nI (4 + i) &&& 31))) 1
    obtain ⟨h', g', p', c1, c2, S2, c6, c7⟩ := S1.lex hN
    rw [if_pos t1, e1, if_pos (show b2i false = 0 from rfl), lt_e, grd_p (inb_n (show i < 4 by omega) (by omega)), lt_e]
    have ro : gO (sI h 1 0 7 (gI h 1 0 7 ||| ((1 : Int32) <<< (nI (4 + i) &&& 31)))) 1 0 2 = some 0 := r.1
    have ey : sY g 8 0 2 i true = sA g 8 0 2 i 1 := rfl
    rw [ro, onO_s, c1, ey, c2, bind_s, bind_s]
    exact ⟨true, h', g', rfl, rfl, fun q => Bool.noConfusion q, fun _ => ⟨p', _, S2, c6, c7, t3⟩⟩
  · have e1 : gY g 8 0 2 i = true := decide_eq_true t2
    rw [if_neg t1, e1, if_neg (show ¬ b2i true = 0 by decide)]
    have F := S0.fail (p := p) rfl 3
    rw [cl_fails r.1, m_wrong, bd2_s, bd2_s] at F ⊢
    exact ⟨false, _, _, rfl, rfl, fun _ => F, fun q => Bool.noConfusion q⟩
theorem td_once {ci ci' ri : Nat → Int32} {ca ra : Nat → Nat → Int32} {o7 o7' : Int32} {w : Nat → Int32} (d : TDd ci ca ri ra o7) (a : ∀ k, 11 ≤ k → k ≤ 14 → ci' k = ci k) {ra' : Nat → Nat → Int32} (c : ∀ k, 4 ≤ k → k ≤ 12 → ra' k = ra k) (e2 : ra' 2 = w) (o : TdO ci (ra 3) → TdO ci' (ra' 3)) (q : TdB o7' w) : TDd ci' ca ri ra' o7' := by
  have d' := d
  obtain ⟨_, _, _, _, -, -, -, -, oo, -⟩ := d'
  exact td_cg d a (fun _ _ _ => rfl) c (o oo) (by rw [e2]; exact q)
end Once
