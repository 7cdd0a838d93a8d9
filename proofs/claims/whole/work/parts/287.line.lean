-- PURE: lines read by both
def LdW (z : Nat) (cA ra : Nat → Nat → Int32) (k : Nat) : Prop := (ra 13 (4 + k) = 0 ∧ cA 2 k = 0 ∧ cA 3 k = 0) ∨ (ra 13 (4 + k) = 1 ∧ ∃ a b : Nat, a < b ∧ b ≤ z ∧ cA 2 k = nI a ∧ cA 3 k = nI b ∧ ra 14 (4 + k) = nI a ∧ ra 15 (4 + k) = nI b ∧ ∃ st : Nat → List Nat, st a = [] ∧ (∀ i, a ≤ i → i < b → STP (cA 0 i) (cA 1 i) (ra 16 (64 + i)) (ra 17 (64 + i)) (ra 18 (64 + i)) i (st i) (st (i + 1))) ∧ st b = [b - 1])
def LDd (cA : Nat → Nat → Int32) (c6 c10 r21 r44 : Int32) (ra : Nat → Nat → Int32) : Prop := ∃ z : Nat, z ≤ 64 ∧ c6 = nI z ∧ c10 = nI z ∧ r21 = nI z ∧ r44 = nI z ∧ ∀ k, k < 4 → LdW z cA ra k
theorem MF.w (g : Hp) {k i w : Nat} (v : Int32) (hw : hfT k = w) (hk : 3 ≤ k ∧ k ≤ 18) (hi : w ≤ i) : MF g (sA g 8 0 k i v) := MF.a g k i v (Or.inr (Or.inr (Or.inr ⟨hk.1, hk.2, by rw [hw]; exact hi⟩)))
/-- laws' cells left as they are -/
def KWL (u : Nat) (h h' : Hp) : Prop := gA h' 0 u = gA h 0 u ∧ gI h' 0 u 6 = gI h 0 u 6 ∧ gI h' 1 0 10 = gI h 1 0 10
def KWG (g g' : Hp) : Prop := gI g' 8 0 21 = gI g 8 0 21 ∧ gI g' 8 0 44 = gI g 8 0 44 ∧ ∀ k, 13 ≤ k → k ≤ 18 → gA g' 8 0 k = gA g 8 0 k
theorem KWL.tr {u : Nat} {h h' h'' : Hp} (a : KWL u h h') (b : KWL u h' h'') : KWL u h h'' := ⟨b.1.trans a.1, b.2.1.trans a.2.1, b.2.2.trans a.2.2⟩
theorem KWG.tr {g g' g'' : Hp} (a : KWG g g') (b : KWG g' g'') : KWG g g'' := ⟨b.1.trans a.1, b.2.1.trans a.2.1, fun k x y => (b.2.2 k x y).trans (a.2.2 k x y)⟩
theorem LF.kl {h h' : Hp} (u : Nat) (f : LF h h') : KWL u h h' := ⟨funext fun k => f.2.2.2 0 u k, f.2.2.1 0 u 6 (by omega) (by omega), f.2.2.1 1 0 10 (by omega) (by omega)⟩
theorem LG.kg {g g' : Hp} (f : LG g g') : KWG g g' := ⟨f.2.1 21 (by omega) (by omega) (by omega), f.2.1 44 (by omega) (by omega) (by omega), fun k _ _ => f.2.2.2 k⟩
theorem KWL.a (u : Nat) (h : Hp) (k i : Nat) (v : Int32) : KWL u h (sA h 5 u k i v) := ⟨rfl, rfl, rfl⟩
theorem KWL.i (u : Nat) (h : Hp) (k : Nat) (v : Int32) : KWL u h (sI h 5 u k v) := ⟨rfl, rfl, rfl⟩
theorem KWG.a (g : Hp) (k i : Nat) (v : Int32) (hk : k ≤ 12) : KWG g (sA g 8 0 k i v) := ⟨rfl, rfl, fun j _ _ => by rw [GA, if_neg (by omega)]⟩
theorem KWG.i (g : Hp) (k : Nat) (v : Int32) (hk : k ≤ 20) : KWG g (sI g 8 0 k v) := ⟨by rw [I_at, if_neg (by omega)], by rw [I_at, if_neg (by omega)], fun _ _ _ => rfl⟩
def REF (u : Nat) (h : Hp) : Prop := gO h 1 0 2 = some 0 ∧ gO h 1 0 3 = some u
/-- reading, between two lines -/
def RD (u n : Nat) (h g : Hp) (p : Nat) : Prop := LX n h g p ∧ REF u h ∧ FT h g ∧ TDd (gI h 5 u) (gA h 5 u) (gI g 8 0) (gA g 8 0) (gI h 1 0 7) ∧ LDd (gA h 0 u) (gI h 0 u 6) (gI h 1 0 10) (gI g 8 0 21) (gI g 8 0 44) (gA g 8 0)
def POut (u n : Nat) (h g : Hp) (p : Nat) (A B : Option (Bool × Hp)) : Prop := ∃ b h' g', A = some (b, h') ∧ B = some (b, g') ∧ RF u h h' ∧ MF g g' ∧ FT h' g' ∧ gI h' 5 u 10 = gI h 5 u 10 ∧ (b = true → ∃ p', p < p' ∧ RD u n h' g' p')
theorem REF.up {u : Nat} {h h' : Hp} (r : REF u h) (f : RF u h h') : REF u h' := ⟨(f.2.1 1 0 2 (by decide)).trans r.1, (f.2.1 1 0 3 (by decide)).trans r.2⟩
/-- laws' cells left as they are -/
theorem LDd.cg {cA cA' ra ra' : Nat → Nat → Int32} {c6 c10 r21 r44 c6' c10' r21' r44' : Int32} (l : LDd cA c6 c10 r21 r44 ra) (a : cA' = cA) (b : c6' = c6) (c : c10' = c10) (d : r21' = r21) (e : r44' = r44) (f : ∀ k, 13 ≤ k → k ≤ 18 → ra' k = ra k) : LDd cA' c6' c10' r21' r44' ra' := by
  subst a b c d e
  obtain ⟨z, l1, l2, l3, l4, l5, l6⟩ := l
  refine ⟨z, l1, l2, l3, l4, l5, fun k hk => ?_⟩
  unfold LdW
  rw [f 13 (by omega) (by omega), f 14 (by omega) (by omega), f 15 (by omega) (by omega), f 16 (by omega) (by omega), f 17 (by omega) (by omega), f 18 (by omega) (by omega)]
  exact l6 k hk
theorem LDd.kl {u : Nat} {h h' g g' : Hp} (l : LDd (gA h 0 u) (gI h 0 u 6) (gI h 1 0 10) (gI g 8 0 21) (gI g 8 0 44) (gA g 8 0)) (a : KWL u h h') (b : KWG g g') : LDd (gA h' 0 u) (gI h' 0 u 6) (gI h' 1 0 10) (gI g' 8 0 21) (gI g' 8 0 44) (gA g' 8 0) := l.cg a.1 a.2.1 a.2.2 b.1 b.2.1 b.2.2
section Line
variable {N : Nat} {h g : Hp} {n p u : Nat}
theorem POut.no {h' g' : Hp} (f : RF u h h') (e : MF g g') (t : FT h' g') (x : gI h' 5 u 10 = gI h 5 u 10) : POut u n h g p (some (false, h')) (some (false, g')) := ⟨false, h', g', rfl, rfl, f, e, t, x, fun q => Bool.noConfusion q⟩
theorem fail2 {h1 g1 : Hp} (f : RF u h h1) (e : MF g g1) (x : gI h1 5 u 10 = gI h 5 u 10) (r : REF u h1) (a : gI h1 4 0 5 = gI g1 8 0 10) (w : Int32) : POut u n h g p (bd2 (f_X1_fails h1 w) fun v4 h3 => some (v4, h3)) (bd2 (f_X8_wrong g1 w) fun v4 h3 => some (v4, h3)) := by
  rw [cl_fails r.1, m_wrong, bd2_s, bd2_s]
  refine POut.no (f.tr ((LF.fail h1 w _).rfr u)) (e.tr (LG.fail g1 w _).mf) (ft_fail w a) (Eq.trans ?_ x)
  exact ((LF.fail h1 w _).2.2.1 5 u 10 (by omega) (by omega))
theorem step_num (hN : 1000 ≤ N) {h1 g1 : Hp} {q : Nat} (l : LX n h1 g1 q) (r : gO h1 1 0 2 = some 0) (ft : FT h1 g1) (most : Nat) (hm : most ≤ 99999) {Q : Option (Bool × Hp) → Option (Bool × Hp) → Prop} {A' B' : Hp → Option (Bool × Hp)} (yes : ∀ v p' h' g', v ≤ most → LF h1 h' → LG g1 g' → FT h' g' → LX n h' g' p' → q ≤ p' → (¬ gI h' 4 0 6 = 0 → q < p') → gI h' 1 0 6 = nI v → gI g' 8 0 11 = nI v → gI h1 4 0 6 = 2 → gI h1 4 0 7 = nI v → Q (A' h') (B' g')) (no : ∀ h' g', LF h1 h' → LG g1 g' → FT h' g' → Q (some (false, h')) (some (false, g'))) : Q (bd2 (f_X1_takeNumber N h1 (nI most)) fun v h3 => if ¬ b2i v = 0 then A' h3 else some (false, h3)) (bd2 (f_X8_number N g1 0 (nI most)) fun v h3 => if ¬ b2i v = 0 then B' h3 else some (false, h3)) := by
  obtain ⟨b, h', g', c1, c2, c3, c4, c5, c6⟩ := take_num hN l r ft hm
  rw [c1, c2, bd2_s, bd2_s]
  cases b with
  | false =>
    rw [if_neg (fun q => q (show b2i false = 0 from rfl)), if_neg (fun q => q (show b2i false = 0 from rfl))]
    exact no h' g' c3 c4 c5
  | true =>
    rw [if_pos (show ¬ b2i true = 0 by decide), if_pos (show ¬ b2i true = 0 by decide)]
    obtain ⟨v, p', d1, d2, d3, d4, d5, d6, d7, d8⟩ := c6 rfl
    exact yes v p' h' g' d1 c3 c4 c5 d4 d5 d6 d2 d3 d7 d8
theorem FT.eq {h' g' : Hp} (x : FT h g) (a : gI h' 1 0 4 = gI h 1 0 4) (b : gI h' 1 0 5 = gI h 1 0 5) (c : gI g' 8 0 4 = gI g 8 0 4) (d : gI g' 8 0 5 = gI g 8 0 5) : FT h' g' := by
  unfold FT
  rw [a, b, c, d]
  exact x
theorem LF.fa {h h' : Hp} (f : LF h h') (c o : Nat) : gA h' c o = gA h c o := funext fun k => f.2.2.2 c o k
theorem LF.f5 {h h' : Hp} (f : LF h h') (u : Nat) : gI h' 5 u = gI h 5 u := funext fun k => f.2.2.1 5 u k (by omega) (by omega)
theorem LG.fa {g g' : Hp} (f : LG g g') : gA g' 8 0 = gA g 8 0 := funext fun k => f.2.2.2 k
theorem both_named (hN : 1000 ≤ N) {c : Nat} (h4 : c ≤ 4) (e12 : gI h 5 u 12 = nI c) (nm : Int32) (en : ∀ i, i < c → gA h 5 u 1 i = gA g 8 0 5 (4 + i)) (e18 : gI g 8 0 18 = nI c) : ∃ v, f_X5_croftNamed N h u nm = some v ∧ f_X8_find N g 8 0 5 4 (nI c) nm = some v ∧ (v = -1 ∨ ∃ j, j < c ∧ v = nI j) := by
  unfold f_X5_croftNamed f_X8_find
  have main : ∀ k i, i + k = c → ∀ m m', k < m → k < m' → ∃ v, iter (fun _ => none) (f_X5_croftNamed_2 h u nm) m (nI i) = some v ∧ iter (fun _ => none) (f_X8_find_3 g 8 0 5 4 (nI c) nm) m' (nI i) = some v ∧ (v = -1 ∨ ∃ j, j < c ∧ v = nI j) := by
    intro k
    induction k with
    | zero =>
      intro i hi m m' hm hm'
      obtain ⟨m, rfl⟩ : ∃ x, m = x + 1 := ⟨m - 1, by omega⟩
      obtain ⟨m', rfl⟩ : ∃ x, m' = x + 1 := ⟨m' - 1, by omega⟩
      rw [iter_s, iter_s]
      unfold f_X5_croftNamed_2 f_X8_find_3
      rw [e12, if_pos (leN (by omega) (by omega)), if_pos (leN (by omega) (by omega))]
      exact ⟨_, rfl, rfl, Or.inl rfl⟩
    | succ k ih =>
      intro i hi m m' hm hm'
      obtain ⟨m, rfl⟩ : ∃ x, m = x + 1 := ⟨m - 1, by omega⟩
      obtain ⟨m', rfl⟩ : ∃ x, m' = x + 1 := ⟨m' - 1, by omega⟩
      rw [iter_s, iter_s]
      have ei : (4 : Int32) + nI i = nI (4 + i) := by rw [show (4 : Int32) = nI 4 from rfl, nI_add]
      have in8 : inb (nI (4 + i)) (ak 8 5).2 := inb_n (n := 8) (show 4 + i < 8 by omega) (by omega)
      have e1 : f_X5_croftNamed_2 h u nm (iter (fun _ => none) (f_X5_croftNamed_2 h u nm) m) (nI i) = if ¬ gA h 5 u 1 i = nm then iter (fun _ => none) (f_X5_croftNamed_2 h u nm) m (nI (i + 1)) else some (nI i) := by
        show (if gI h 5 u 12 ≤ nI i then some (-1) else grd (inb (nI i) 4) (if ¬ gA h 5 u 1 (nI i).toNatClampNeg = nm then lt_ (nI i + 1) (fun v2 => iter (fun _ => none) (f_X5_croftNamed_2 h u nm) m v2) else some (nI i))) = _
        rw [e12, if_neg (nleN (by omega) (by omega)), grd_p (inb_n (show i < 4 by omega) (by omega)), clN (by omega), lt_e, nI_1]
      have e2 : f_X8_find_3 g 8 0 5 4 (nI c) nm (iter (fun _ => none) (f_X8_find_3 g 8 0 5 4 (nI c) nm) m') (nI i) = if ¬ gA g 8 0 5 (4 + i) = nm then iter (fun _ => none) (f_X8_find_3 g 8 0 5 4 (nI c) nm) m' (nI (i + 1)) else some (nI i) := by
        show (if nI c ≤ nI i then some (-1) else grd (inb (4 + nI i) (ak 8 5).2) (if ¬ gA g 8 0 5 (4 + nI i).toNatClampNeg = nm then lt_ (nI i + 1) (fun v2 => iter (fun _ => none) (f_X8_find_3 g 8 0 5 4 (nI c) nm) m' v2) else some (nI i))) = _
        rw [if_neg (nleN (by omega) (by omega)), ei, grd_p in8, clN (by omega), lt_e, nI_1]
      rw [e1, e2, ← en i (by omega)]
      by_cases z : gA h 5 u 1 i = nm
      · rw [if_neg (fun q => q z), if_neg (fun q => q z)]
        exact ⟨_, rfl, rfl, Or.inr ⟨i, by omega, rfl⟩⟩
      · rw [if_pos z, if_pos z]
        exact ih (i + 1) (by omega) m m' (by omega) (by omega)
  exact main c 0 (by omega) N N (by omega) (by omega)
theorem p_stripe (hN : 1000 ≤ N) (d : RD u n h g p) (J : Hp → Option (Bool × Hp)) (hJ : True) : ∃ b h' g', f_X1_readStripe N h = some (b, h') ∧ (if ¬ (gI g 8 0 17) = 8 then (f_X8_token N g).bind fun h9 => bd2 (f_X8_number N h9 0 999) fun v11 h10 => if ¬ (b2i v11) = 0 then grd (inb (8 + (gI h10 8 0 17)) 16) <| J (sI (sA h10 8 0 4 (8 + (gI h10 8 0 17)).toNatClampNeg (gI h10 8 0 11)) 8 0 17 ((gI (sA h10 8 0 4 (8 + (gI h10 8 0 17)).toNatClampNeg (gI h10 8 0 11)) 8 0 17) + 1)) else some (false, h10) else bd2 (f_X8_wrong g 2) fun v15 h14 => some (v15, h14)) = (if b = true then J g' else some (false, g')) ∧ RF u h h' ∧ MF g g' ∧ FT h' g' ∧ gI h' 5 u 10 = gI h 5 u 10 ∧ (b = true → ∃ p', p < p' ∧ RD u n h' g' p') := by
  obtain ⟨l, r, ft, td, ld⟩ := d
  obtain ⟨s, c, f, t, ⟨s1, s2, s3, -⟩, -⟩ := id td
  unfold f_X1_readStripe
  rw [r.2, onO_s, s2, s3]
  by_cases z : s = 8
  · rw [if_neg (Int32.not_lt.mpr (show (8 : Int32) ≤ nI s from leN (a := 8) (by omega) (by omega))), if_neg (fun q => q (by rw [z]; rfl)), cl_fails r.1, m_wrong, bd2_s, bd2_s]
    exact ⟨false, _, _, rfl, rfl, (LF.fail h 2 _).rfr u, (LG.fail g 2 _).mf, ft_fail 2 l.at, (LF.fail h 2 _).2.2.1 5 u 10 (by omega) (by omega), fun q => Bool.noConfusion q⟩
  rw [if_pos (show nI s < 8 from Int32.not_le.mp (nleN (a := 8) (show s < 8 by omega) (by omega))), if_pos (show ¬ nI s = 8 from fun q => z (nI_inj (j := 8) (by omega) (by omega) q)), r.1, onO_s]
  obtain ⟨h1, g1, p1, c1, c2, c3, c4, c5, c6, c7⟩ := lex hN l.1
  rw [c1, c2, bind_s, bind_s]
  have r1 := r.up (c3.lf.rfr u)
  obtain ⟨b, h2, g2, d1, d2, d3, d4, d5, d6⟩ := take_num hN c5 r1.1 (ft.lf c3 c4) (most := 999) (by omega)
  have d1 : f_X1_takeNumber N h1 999 = some (b, h2) := d1
  have d2 : f_X8_number N g1 0 999 = some (b, g2) := d2
  rw [d1, d2, bd2_s, bd2_s]
  have f12 := c3.lf.tr d3
  have g12 := c4.lg.tr d4
  have r2 := r1.up (d3.rfr u)
  cases b with
  | false =>
    rw [if_neg (fun q => q (show b2i false = 0 from rfl)), if_neg (fun q => q (show b2i false = 0 from rfl))]
    exact ⟨false, h2, g2, rfl, rfl, f12.rfr u, g12.mf, d5, congrFun (f12.f5 u) 10, fun q => Bool.noConfusion q⟩
  | true =>
    rw [if_pos (show ¬ b2i true = 0 by decide), if_pos (show ¬ b2i true = 0 by decide)]
    obtain ⟨v, p2, v1, v2, v3, v4, v5, v6, v7, -⟩ := d6 rfl
    have e17 : gI g2 8 0 17 = nI s := (g12.2.1 17 (by omega) (by omega) (by omega)).trans s3
    have e11 : gI h2 5 u 11 = nI s := (congrFun (f12.f5 u) 11).trans s2
    have i8 : (8 : Int32) + nI s = nI (8 + s) := by rw [show (8 : Int32) = nI 8 from rfl, nI_add]
    simp only [r2.2, onO_s, lt_e, e11, e17, v2, v3, i8]
    rw [grd_p (inb_n (show s < 8 by omega) (by omega)), grd_p (inb_n (show 8 + s < 16 by omega) (by omega)), clN (show s < 2 ^ 31 by omega), clN (show 8 + s < 2 ^ 31 by omega)]
    have r3 : gO (sA h2 5 u 0 s (nI v)) 1 0 3 = some u := r2.2
    rw [r3, onO_s]
    have x11 : gI (sA h2 5 u 0 s (nI v)) 5 u 11 = nI s := e11
    have x17 : gI (sA g2 8 0 4 (8 + s) (nI v)) 8 0 17 = nI s := e17
    rw [x11, x17, nI_1]
    have F : RF u h2 (sI (sA h2 5 u 0 s (nI v)) 5 u 11 (nI (s + 1))) := (RF.a u h2 5 u 0 s _ (by omega)).tr (RF.i u _ 5 u 11 _ (by omega))
    have G : MF g2 (sI (sA g2 8 0 4 (8 + s) (nI v)) 8 0 17 (nI (s + 1))) := (MF.w g2 (w := 8) _ rfl (by omega) (by omega)).tr (MF.i _ 17 _ (by unfold mfI; omega))
    have L := v4.up F G (fun k => by rw [GI, if_neg (by omega)]; rfl) (fun k h1 h2 => by rw [I_at, if_neg (by omega)]; rfl)
    have T : FT (sI (sA h2 5 u 0 s (nI v)) 5 u 11 (nI (s + 1))) (sI (sA g2 8 0 4 (8 + s) (nI v)) 8 0 17 (nI (s + 1))) := d5.eq (by rw [GI, if_neg (by omega)]; rfl) (by rw [GI, if_neg (by omega)]; rfl) (by rw [I_at, if_neg (by omega)]; rfl) (by rw [I_at, if_neg (by omega)]; rfl)
    refine ⟨true, _, _, rfl, (if_pos rfl).symm, (f12.rfr u).tr F, g12.mf.tr G, T, ?_, fun _ => ⟨p2, ?_, L, r2.up F, T, ?_, ?_⟩⟩
    · rw [GI, if_neg (by omega)]
      exact congrFun (f12.f5 u) 10
    · have := c7 (by rw [v7]; decide)
      omega
    · have := td_stripe td s2 (show s < 8 by omega) v1 (ri' := gI (sI (sA g2 8 0 4 (8 + s) (nI v)) 8 0 17 (nI (s + 1))) 8 0) (by rw [I_at, if_pos rfl]) (fun k k1 k2 => by
        rw [I_at, if_neg (by omega)]
        exact g12.2.1 k (by omega) (by omega) (by omega))
      rw [fam_i, show gI (sA h2 5 u 0 s (nI v)) 5 u = gI h2 5 u from rfl, f12.f5 u, show gA (sI (sA h2 5 u 0 s (nI v)) 5 u 11 (nI (s + 1))) 5 u = gA (sA h2 5 u 0 s (nI v)) 5 u from rfl, fam_a, f12.fa 5 u, show gA (sI (sA g2 8 0 4 (8 + s) (nI v)) 8 0 17 (nI (s + 1))) 8 0 = gA (sA g2 8 0 4 (8 + s) (nI v)) 8 0 from rfl, fam_a, g12.fa, show gI (sI (sA h2 5 u 0 s (nI v)) 5 u 11 (nI (s + 1))) 1 0 7 = gI h2 1 0 7 from rfl, f12.2.2.1 1 0 7 (by omega) (by omega)]
      exact this
    · exact ld.kl ((f12.kl u).tr ((KWL.a u h2 0 s _).tr (KWL.i u _ 11 _))) (g12.kg.tr ((KWG.a g2 4 (8 + s) _ (by omega)).tr (KWG.i _ 17 _ (by omega))))
end Line
