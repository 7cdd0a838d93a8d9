-- PURE: feed, by both
def byB (w : Int32) (k : Nat) : Int32 := (w.toUInt32 >>> ((nI (24 - 8 * k)).toUInt32 &&& Int32.toUInt32 31)).toInt32 &&& 255
theorem bit8 (x : BitVec 32) {s : Nat} (hs : s ≤ 24) : (x >>> s) &&& 255#32 = (x.sshiftRight s) &&& 255#32 := by
  refine BitVec.eq_of_getLsbD_eq (fun i hi => ?_)
  rw [BitVec.getLsbD_and, BitVec.getLsbD_and, BitVec.getLsbD_ushiftRight, BitVec.getLsbD_sshiftRight]
  by_cases z : i < 8
  · have h1 : s + i < 32 := by omega
    have h2 : ¬ 32 ≤ i := by omega
    simp [h1, h2]
  · have h255 : (255#32).getLsbD i = false := by
      have : ∀ j : Fin 32, 8 ≤ j.val → (255#32).getLsbD j.val = false := by decide
      exact this ⟨i, hi⟩ (by show 8 ≤ i; omega)
    rw [h255, Bool.and_false, Bool.and_false]
theorem byte_eq (w : Int32) {k : Nat} (hk : k < 4) : (w >>> ((24 - 8 * nI k) &&& 31)) &&& 255 = byB w k := by
  refine Int32.toBitVec_inj.mp ?_
  unfold byB
  rcases (show k = 0 ∨ k = 1 ∨ k = 2 ∨ k = 3 by omega) with rfl | rfl | rfl | rfl
  · exact (bit8 w.toBitVec (s := 24) (by omega)).symm
  · exact (bit8 w.toBitVec (s := 16) (by omega)).symm
  · exact (bit8 w.toBitVec (s := 8) (by omega)).symm
  · exact (bit8 w.toBitVec (s := 0) (by omega)).symm
def fd4 (f : Nat → Int32) (z : Nat) (w : Int32) : Nat → Int32 := fun i => if z ≤ i ∧ i < z + 4 then byB w (i - z) else f i
def fdM (f : Nat → Int32) (z : Nat) (a b c d e : Int32) : Nat → Int32 := fd4 (fd4 (fd4 (fd4 (fd4 f z a) (z + 4) b) (z + 8) c) (z + 12) d) (z + 16) e
def teN (X : Xs) : Nat := (X.2 3).toNatClampNeg
def feX (X : Xs) (a b c d e : Int32) : Xs := (fun j => if j = 6 then fdM (X.1 6) (teN X) a b c d e else X.1 j, fun j => if j = 3 then nI (teN X + 20) else X.2 j)
theorem A4_at (g : Hp) (i : Nat) (v : Int32) : gA (sA g 4 0 0 i v) 4 0 0 = upd (gA g 4 0 0) i v := by
  show at3 g.2.2.2.1 4 0 0 (upd (gA g 4 0 0) i v) 4 0 0 = _
  exact at3_s _ _ _ _ _
theorem A4_1 (g : Hp) (i : Nat) (v w : Int32) : gA (sI (sA g 4 0 0 i v) 4 0 2 w) 4 0 1 = gA g 4 0 1 := by
  show at3 g.2.2.2.1 4 0 0 (upd (gA g 4 0 0) i v) 4 0 1 = _
  unfold at3
  rw [if_neg (fun q => absurd q.2.2 (by decide))]
  rfl
theorem I4_at (g : Hp) (k : Nat) (v : Int32) (j : Nat) : gI (sI g 4 0 k v) 4 0 j = if j = k then v else gI g 4 0 j := by
  show at3 g.1 4 0 k v 4 0 j = _
  unfold at3
  by_cases z : j = k
  · rw [if_pos z, if_pos ⟨rfl, rfl, z⟩]
  · rw [if_neg z, if_neg (fun q => z q.2.2)]
    rfl
/-- nothing changed but the bytes -/
def N4 (h g : Hp) : Prop := Nx h g ∧ K8 h g ∧ (∀ c o k, c ≠ 4 → gI g c o k = gI h c o k ∧ gA g c o k = gA h c o k) ∧ gA g 4 0 1 = gA h 4 0 1
theorem N4.tr {h g k : Hp} (a : N4 h g) (b : N4 g k) : N4 h k := ⟨a.1.tr b.1, a.2.1.tr b.2.1, fun c o i q => ⟨(b.2.2.1 c o i q).1.trans (a.2.2.1 c o i q).1, (b.2.2.1 c o i q).2.trans (a.2.2.1 c o i q).2⟩, b.2.2.2.trans a.2.2.2⟩
section Feed
variable {N : Nat} {h g : Hp} {t : Nat} {T : Txt} {S I : Str} {X : Xs}
theorem cl_append (hN : 1000 ≤ N) (h : Hp) {z : Nat} (hz : z + 4 ≤ 700) (e2 : gI h 4 0 2 = nI z) (w : Int32) : ∃ g, f_X4_append N h w = some g ∧ N4 h g ∧ gA g 4 0 0 = fd4 (gA h 4 0 0) z w ∧ gI g 4 0 2 = nI (z + 4) := by
  unfold f_X4_append
  have n0 : N4 h h := ⟨⟨fun _ _ => ⟨rfl, rfl⟩, fun _ _ => ⟨rfl, rfl⟩, fun _ _ => rfl, fun _ _ _ _ => rfl⟩, K8.rf h, fun _ _ _ _ => ⟨rfl, rfl⟩, rfl⟩
  have sh : ∀ k, k < 5 → (if k < 4 then nI (24 - 8 * k) else -8) = (if k < 4 then nI (24 - 8 * k) else -8) := fun _ _ => rfl
  refine iter_inv (bot := fun _ _ => none) (b := f_X4_append_3 w) (fun m r => ∀ k g, k ≤ 4 → 4 < m + k → N4 h g → gI g 4 0 2 = nI (z + k) → (∀ i, gA g 4 0 0 i = if z ≤ i ∧ i < z + k then byB w (i - z) else gA h 4 0 0 i) → ∃ g', r (if k < 4 then nI (24 - 8 * k) else -8) g = some g' ∧ N4 h g' ∧ gA g' 4 0 0 = fd4 (gA h 4 0 0) z w ∧ gI g' 4 0 2 = nI (z + 4)) (fun k _ _ _ => by omega) (fun m r ih k g hk hm f e b => ?_) N 0 h (by omega) (by omega) n0 e2 (fun i => by rw [if_neg (fun q => by omega)])
  unfold f_X4_append_3
  rw [jn_e]
  by_cases y : k = 4
  · subst y
    rw [if_neg (show ¬ 4 < 4 by omega), if_pos (show (-8 : Int32) < 0 by decide)]
    exact ⟨g, rfl, f, funext b, e⟩
  · have k4 : k < 4 := by omega
    have nn : ¬ nI (24 - 8 * k) < 0 := Int32.not_lt.mpr (leN (a := 0) (Nat.zero_le _) (by omega))
    have nx8 : nI (24 - 8 * k) + -8 = (if k + 1 < 4 then nI (24 - 8 * (k + 1)) else -8) := by
      rcases (show k = 0 ∨ k = 1 ∨ k = 2 ∨ k = 3 by omega) with rfl | rfl | rfl | rfl <;> decide
    have e' : gI (sA g 4 0 0 (z + k) (byB w k)) 4 0 2 = nI (z + k) := e
    rw [if_pos k4, if_neg nn, e, if_neg (show ¬ (700 : Int32) ≤ nI (z + k) from nleN (a := 700) (by omega) (by omega)), grd_p (inb_n (show z + k < 700 by omega) (by omega)), lt_e, lt_e, lt_e, clN (show z + k < 2 ^ 31 by omega), nx8]
    show ∃ g', r _ (sI (sA g 4 0 0 (z + k) (byB w k)) 4 0 2 (gI (sA g 4 0 0 (z + k) (byB w k)) 4 0 2 + 1)) = some g' ∧ _
    rw [e', nI_1]
    refine ih (k + 1) _ (by omega) (by omega) (f.tr ⟨(Nx.a g 4 0 0 _ _ (by decide)).tr (Nx.i _ 4 0 2 _ (by decide)), (K8.a g 4 0 0 _ _ (by decide)).tr (K8.i _ 4 0 2 _ (by decide)), fun c o i hc => ⟨if_neg (fun q => hc q.1), if_neg (fun q => hc q.1)⟩, A4_1 _ _ _ _⟩) ?_ (fun i => ?_)
    · rw [I4_at, if_pos rfl]; rfl
    · show gA (sA g 4 0 0 (z + k) (byB w k)) 4 0 0 i = _
      rw [A4_at]
      by_cases v : i = z + k
      · rw [v, upd_s, if_pos ⟨by omega, by omega⟩]
        congr 1
        omega
      · rw [upd_n _ _ v, b i]
        by_cases u : z ≤ i ∧ i < z + k
        · rw [if_pos u, if_pos ⟨u.1, by omega⟩]
        · rw [if_neg u, if_neg (fun q => by omega)]
theorem cl_feed (hN : 1000 ≤ N) (r : RC h t T S I X) (u : ∃ y : Nat, y ≤ 700 ∧ X.2 3 = nI y) (a b c d e : Int32) : ∃ g, f_X7_feed N h a b c d e = some (if teN X + 20 ≤ 700 then nI (teN X + 20) else -1, g) ∧ RC g t T S I (if teN X + 20 ≤ 700 then feX X a b c d e else X) ∧ K8 h g := by
  obtain ⟨z, hz, e3⟩ := u
  have ez : teN X = z := by unfold teN; rw [e3, clN (by omega)]
  have ex0 := r.2.2.2.1
  have e2 : gI h 4 0 2 = nI z := by rw [← e3, ← ex0]; rfl
  have x6 : gA h 4 0 0 = X.1 6 := by rw [← ex0]; rfl
  have e20 : nI z + 20 = nI (z + 20) := nI_add z 20
  unfold f_X7_feed
  rw [e2, e20, ez]
  by_cases y : z + 20 ≤ 700
  rotate_left
  · rw [if_neg (show ¬ nI (z + 20) ≤ 700 from nleN (b := 700) (by omega) (by omega)), if_neg y, if_neg y]
    exact ⟨h, rfl, r, K8.rf h⟩
  obtain ⟨g1, q1, n1, a1, i1⟩ := cl_append hN h (z := z) (by omega) e2 a
  obtain ⟨g2, q2, n2, a2, i2⟩ := cl_append hN g1 (z := z + 4) (by omega) i1 b
  obtain ⟨g3, q3, n3, a3, i3⟩ := cl_append hN g2 (z := z + 8) (by omega) i2 c
  obtain ⟨g4, q4, n4, a4, i4⟩ := cl_append hN g3 (z := z + 12) (by omega) i3 d
  obtain ⟨g5, q5, n5, a5, i5⟩ := cl_append hN g4 (z := z + 16) (by omega) i4 e
  have nn := (((n1.tr n2).tr n3).tr n4).tr n5
  have rows : gA g5 4 0 0 = fdM (X.1 6) z a b c d e := by rw [a5, a4, a3, a2, a1, x6]; rfl
  have i5' : gI g5 4 0 2 = nI (z + 20) := i5
  rw [if_pos (show nI (z + 20) ≤ 700 from leN (b := 700) y (by omega)), q1, bind_s, q2, bind_s, q3, bind_s, q4, bind_s, q5, bind_s, i5', if_pos y, if_pos y]
  refine ⟨g5, rfl, r.nx nn.1 (Prod.ext ?_ (fun8 (fun j hj => ?_) (fun _ => rfl) (fun j => ?_))) id, nn.2.1⟩
  · funext j
    show (ex g5 t).1 j = if j = 6 then fdM (X.1 6) (teN X) a b c d e else X.1 j
    by_cases v : j = 6
    · rw [if_pos v, ez, ← rows, v]
      rfl
    · rw [if_neg v, ← ex0]
      by_cases v7 : 7 ≤ j
      · obtain ⟨i, rfl⟩ : ∃ i, j = i + 7 := ⟨j - 7, by omega⟩
        exact nn.2.2.2
      rcases (show j = 0 ∨ j = 1 ∨ j = 2 ∨ j = 3 ∨ j = 4 ∨ j = 5 by omega) with rfl | rfl | rfl | rfl | rfl | rfl
      · exact (nn.2.2.1 6 0 0 (by decide)).2
      · exact (nn.2.2.1 6 0 1 (by decide)).2
      · exact (nn.2.2.1 6 0 2 (by decide)).2
      · exact (nn.2.2.1 2 0 0 (by decide)).2
      · exact (nn.2.2.1 2 0 1 (by decide)).2
      · exact (nn.2.2.1 2 0 2 (by decide)).2
  · show (ex g5 t).2 j = if j = 3 then nI (teN X + 20) else X.2 j
    rw [ez, ← ex0]
    rcases (show j = 0 ∨ j = 1 ∨ j = 2 ∨ j = 3 ∨ j = 4 ∨ j = 5 ∨ j = 6 ∨ j = 7 by omega) with rfl | rfl | rfl | rfl | rfl | rfl | rfl | rfl
    · exact (nn.2.2.1 6 0 3 (by decide)).1
    · exact (nn.2.2.1 2 0 4 (by decide)).1
    · exact (nn.2.2.1 2 0 5 (by decide)).1
    · exact i5'
    · exact (nn.2.2.1 7 0 16 (by decide)).1
    · exact (nn.2.2.1 7 0 17 (by decide)).1
    · exact (nn.2.2.1 0 t 6 (by decide)).1
    · exact (nn.2.2.1 7 0 15 (by decide)).1
  · show X.2 (j + 8) = X.2 7
    rw [← ex0]; rfl
/-- which of the five ints holds the byte -/
def sel5 (a b c d e : Int32) (k : Nat) : Int32 := if k < 4 then a else if k < 8 then b else if k < 12 then c else if k < 16 then d else e
theorem fdM_at (f : Nat → Int32) (z : Nat) (a b c d e : Int32) (i : Nat) : fdM f z a b c d e i = if z ≤ i ∧ i < z + 20 then byB (sel5 a b c d e (i - z)) ((i - z) % 4) else f i := by
  unfold fdM fd4 sel5
  by_cases y : z ≤ i ∧ i < z + 20
  · rw [if_pos y]
    by_cases h1 : i - z < 4
    · rw [if_pos h1, if_neg (by omega), if_neg (by omega), if_neg (by omega), if_neg (by omega), if_pos (by omega)]
      congr 1; omega
    rw [if_neg h1]
    by_cases h2 : i - z < 8
    · rw [if_pos h2, if_neg (by omega), if_neg (by omega), if_neg (by omega), if_pos (by omega)]
      congr 1; omega
    rw [if_neg h2]
    by_cases h3 : i - z < 12
    · rw [if_pos h3, if_neg (by omega), if_neg (by omega), if_pos (by omega)]
      congr 1; omega
    rw [if_neg h3]
    by_cases h4 : i - z < 16
    · rw [if_pos h4, if_neg (by omega), if_pos (by omega)]
      congr 1; omega
    · rw [if_neg h4, if_pos (by omega)]
      congr 1; omega
  · rw [if_neg y, if_neg (by omega), if_neg (by omega), if_neg (by omega), if_neg (by omega), if_neg (by omega)]
theorem m_feed (hN : 1000 ≤ N) (r : R8 g T S I X) (u : ∃ y : Nat, y ≤ 700 ∧ X.2 3 = nI y) (a b c d e : Int32) : ∃ g', f_X8_feed N g a b c d e = some (if teN X + 20 ≤ 700 then nI (teN X + 20) else -1, g') ∧ R8 g' T S I (if teN X + 20 ≤ 700 then feX X a b c d e else X) ∧ K7 g g' := by
  obtain ⟨r0, k0⟩ := r.z0
  obtain ⟨z, hz, e3⟩ := u
  have ez : teN X = z := by unfold teN; rw [e3, clN (by omega)]
  obtain ⟨r1, r2, r3, r4, r5, r6, r7, r8, r9, r10, r11⟩ := r0
  have e1 : gI (sI g 8 0 2 0) 8 0 1 = nI z := r8.1.trans e3
  have e20 : nI z + 20 = nI (z + 20) := nI_add z 20
  unfold f_X8_feed
  rw [lt_e, e1, e20, ez]
  by_cases y : z + 20 ≤ 700
  rotate_left
  · rw [if_neg (show ¬ nI (z + 20) ≤ 700 from nleN (b := 700) (by omega) (by omega)), if_neg y, if_neg y]
    exact ⟨_, rfl, ⟨r1, r2, r3, r4, r5, r6, r7, r8, r9, r10, r11⟩, k0⟩
  rw [if_pos (show nI (z + 20) ≤ 700 from leN (b := 700) y (by omega)), if_pos y, if_pos y]
  refine (iter_inv (bot := fun _ _ => none) (b := f_X8_feed_23 a b c d e) (fun m q => ∀ k h, k ≤ 20 → 20 < m + k → PA 0 (sI g 8 0 2 0) h → (∀ i, i < z + k → gA h 8 0 0 i = if z ≤ i then byB (sel5 a b c d e (i - z)) ((i - z) % 4) else gA (sI g 8 0 2 0) 8 0 0 i) → ∃ y, q (nI k) h = some y ∧ (y.1 = nI (z + 20) ∧ R8 y.2 T S I (feX X a b c d e) ∧ K7 g y.2)) (fun k _ _ _ => by omega) (fun m q ih k h hk hm f w => ?_) N 0 _ (by omega) (by omega) (PA.rf 0 _) (fun i hi => by rw [if_neg (by omega)])).elim (fun y hy => ⟨y.2, by rw [← hy.2.1]; exact hy.1, hy.2.2⟩)
  have e1h : gI h 8 0 1 = nI z := (f.2.1 1).trans e1
  unfold f_X8_feed_23
  by_cases v : k = 20
  · subst v
    rw [if_pos (show (20 : Int32) ≤ nI 20 by decide), lt_e, e1h, e20, I_at, if_pos rfl]
    have hi : ∀ j, j ≠ 1 → gI (sI h 8 0 1 (nI (z + 20))) 8 0 j = gI (sI g 8 0 2 0) 8 0 j := fun j hj => by rw [I_at, if_neg hj]; exact f.2.1 j
    have ha : ∀ j, j ≠ 0 → gA (sI h 8 0 1 (nI (z + 20))) 8 0 j = gA (sI g 8 0 2 0) 8 0 j := fun j hj => f.2.2.2 j hj
    have hl : ∀ j, gL (sI h 8 0 1 (nI (z + 20))) 8 0 j = gL (sI g 8 0 2 0) 8 0 j := fun j => f.2.2.1 j
    have x1 : ∀ j, j < 6 → (feX X a b c d e).1 j = X.1 j := fun j hj => if_neg (by omega)
    have x2 : ∀ j, j ≠ 3 → (feX X a b c d e).2 j = X.2 j := fun j hj => if_neg hj
    refine ⟨_, rfl, rfl, ⟨?_, ?_, ?_, (hl 62).trans r4, ?_, ?_, ?_, ⟨?_, fun i hi' => ?_⟩, ?_, ?_, ?_⟩, (k0.tr f.1).tr (K7.i _ 1 _)⟩
    · obtain ⟨q1, q2, q3, q4, q5⟩ := r1
      have eb : b8 (sI h 8 0 1 (nI (z + 20))) 0 = b8 (sI g 8 0 2 0) 0 := by
        unfold b8
        rw [hi 61 (by decide), hl 62, ha 23 (by decide), ha 24 (by decide), ha 25 (by decide), ha 7 (by decide), ha 26 (by decide), ha 27 (by decide), ha 28 (by decide), ha 29 (by decide), ha 30 (by decide), ha 31 (by decide), ha 32 (by decide), ha 33 (by decide)]
      refine ⟨q1, q2, ?_, by rw [eb]; exact q4, ?_⟩
      · obtain ⟨m1, m2, m3, m4, m5, m6, m7, m8, m9⟩ := q3
        refine ⟨by rw [hi 12 (by decide)]; exact m1, by rw [hi 13 (by decide)]; exact m2, by rw [hi 14 (by decide)]; exact m3, by rw [hi 15 (by decide)]; exact m4, by rw [ha 9 (by decide), ha 10 (by decide), ha 11 (by decide)]; exact m5, by rw [ha 12 (by decide)]; exact m6, by rw [ha 3 (by decide)]; exact m7, by rw [ha 3 (by decide)]; exact m8, ?_⟩
        intro k hk
        have yy : gY (sI h 8 0 1 (nI (z + 20))) 8 0 13 k = gY (sI g 8 0 2 0) 8 0 13 k := by unfold gY; rw [ha 13 (by decide)]
        rw [yy]
        rcases m9 k hk with q | ⟨q1, q2⟩
        · exact Or.inl q
        · exact Or.inr ⟨q1, fun N x hN hx hn => q2 N x hN (fun c h1 h2 => by rw [hx c h1 h2, ha c (by omega)]) hn⟩
      · unfold gZ at q5 ⊢
        rw [hi 49 (by decide)]
        exact q5
    · unfold TX; rw [ha 4 (by decide), ha 5 (by decide), ha 6 (by decide), ha 7 (by decide), ha 8 (by decide), ha 3 (by decide), ha 1 (by decide), ha 13 (by decide), ha 14 (by decide), ha 15 (by decide), ha 16 (by decide), ha 17 (by decide), ha 18 (by decide)]; exact r2
    · unfold gZ; rw [hi 64 (by decide)]; exact r3
    · unfold SR
      rw [hi 72 (by decide), hi 73 (by decide), ha 37 (by decide), x1 3 (by omega), x1 4 (by omega), x1 5 (by omega), x2 1 (by decide), x2 2 (by decide)]; exact r5
    · rw [hi 76 (by decide), ha 39 (by decide), x2 0 (by decide)]
      refine ⟨r6.1, UR_cg r1.1 (s := 0) _ S r6.2 (fun k j hk hj => ?_) (fun j i _ _ => rfl)⟩
      rw [x1 k (by omega)]
      rfl
    · rw [hi 78 (by decide), x2 7 (by decide)]
      refine ⟨r7.1, fun q => ?_⟩
      have := r7.2 q
      unfold IMr
      rw [ha 40 (by decide), ha 41 (by decide), ha 42 (by decide), ha 43 (by decide), ha 44 (by decide), hi 84 (by decide), hi 85 (by decide), hi 86 (by decide), hl]
      exact this
    · rw [I_at, if_pos rfl]
      show nI (z + 20) = nI (teN X + 20)
      rw [ez]
    · have e3' : (feX X a b c d e).2 3 = nI (z + 20) := by show nI (teN X + 20) = _; rw [ez]
      rw [e3', clN (by omega)] at hi'
      show gA h 8 0 0 i = fdM (X.1 6) (teN X) a b c d e i
      rw [ez, fdM_at, w i hi']
      by_cases v : z ≤ i
      · rw [if_pos v, if_pos ⟨v, hi'⟩]
      · rw [if_neg v, if_neg (fun q => v q.1)]
        exact r8.2 i (by rw [e3, clN (by omega)]; omega)
    · rw [hi 4 (by decide), x2 4 (by decide)]; exact r9
    · rw [hi 5 (by decide), x2 5 (by decide)]; exact r10
    · rw [hi 16 (by decide), x2 6 (by decide)]; exact r11
  · have ezk : nI z + nI k = nI (z + k) := nI_add z k
    have m4 : nI k - nI k / 4 * 4 = nI (k % 4) := nI_mod (b := 4) (by omega) (by omega)
    rw [if_neg (show ¬ (20 : Int32) ≤ nI k from nleN (a := 20) (show k < 20 by omega) (by omega)), jn_e, e1h, ezk, m4]
    have step : ∀ v5, v5 = sel5 a b c d e k → ∃ y, (grd (inb (nI (z + k)) 700) <| lt_ (sA h 8 0 0 (nI (z + k)).toNatClampNeg ((v5 >>> ((24 - (8 * nI (k % 4))) &&& 31)) &&& 255)) fun h6 => lt_ (nI k + 1) fun v7 => q v7 h6) = some y ∧ (y.1 = nI (z + 20) ∧ R8 y.2 T S I (feX X a b c d e) ∧ K7 g y.2) := by
      intro v5 hv
      rw [grd_p (inb_n (show z + k < 700 by omega) (by omega)), lt_e, lt_e, nI_1, clN (show z + k < 2 ^ 31 by omega), byte_eq v5 (show k % 4 < 4 by omega), hv]
      refine ih (k + 1) _ (by omega) (by omega) (f.tr (PA.a 0 _ h _)) (fun i hi => ?_)
      rw [A_at]
      by_cases u : i = z + k
      · rw [if_pos ⟨rfl, u⟩, if_pos (by omega), show i - z = k by omega]
      · rw [if_neg (fun q => u q.2)]; exact w i (by omega)
    have c4 : ∀ n : Nat, n < 100 → ((nI n : Int32) ≤ nI k ↔ n ≤ k) := fun n hn => ⟨fun q => Decidable.byContradiction fun w => nleN (show k < n by omega) (by omega) q, fun q => leN q (by omega)⟩
    by_cases h1 : 4 ≤ k
    · rw [if_pos (show (4 : Int32) ≤ nI k from (c4 4 (by omega)).mpr h1)]
      by_cases h2 : 8 ≤ k
      · rw [if_pos (show (8 : Int32) ≤ nI k from (c4 8 (by omega)).mpr h2)]
        by_cases h3 : 12 ≤ k
        · rw [if_pos (show (12 : Int32) ≤ nI k from (c4 12 (by omega)).mpr h3)]
          by_cases h4 : 16 ≤ k
          · rw [if_pos (show (16 : Int32) ≤ nI k from (c4 16 (by omega)).mpr h4)]
            exact step e (by unfold sel5; rw [if_neg (by omega), if_neg (by omega), if_neg (by omega), if_neg (by omega)])
          · rw [if_neg (show ¬ (16 : Int32) ≤ nI k from fun q => h4 ((c4 16 (by omega)).mp q))]
            exact step d (by unfold sel5; rw [if_neg (by omega), if_neg (by omega), if_neg (by omega), if_pos (by omega)])
        · rw [if_neg (show ¬ (12 : Int32) ≤ nI k from fun q => h3 ((c4 12 (by omega)).mp q))]
          exact step c (by unfold sel5; rw [if_neg (by omega), if_neg (by omega), if_pos (by omega)])
      · rw [if_neg (show ¬ (8 : Int32) ≤ nI k from fun q => h2 ((c4 8 (by omega)).mp q))]
        exact step b (by unfold sel5; rw [if_neg (by omega), if_pos (by omega)])
    · rw [if_neg (show ¬ (4 : Int32) ≤ nI k from fun q => h1 ((c4 4 (by omega)).mp q))]
      exact step a (by unfold sel5; rw [if_pos (by omega)])
theorem PI_feed (p : PI T S I X) (a b c d e : Int32) : PI T S I (if teN X + 20 ≤ 700 then feX X a b c d e else X) := by
  by_cases z : teN X + 20 ≤ 700
  · rw [if_pos z]
    obtain ⟨p1, p2, p3, p4, p5, p6, p7, p8, p9⟩ := p
    exact ⟨p1, p2, p3, p4, p5, p6, p7, p8, ⟨teN X + 20, z, rfl⟩, p9.2⟩
  · rw [if_neg z]; exact p
end Feed
