-- PURE: within a law, by both: what stands between two tokens
theorem m_isKey (g : Hp) (k : Int32) : f_X8_isKey g k = some (decide (gI g 8 0 8 = 1 ∧ gI g 8 0 9 = k)) := by
  unfold f_X8_isKey
  simp only [jn_e]
  by_cases y : gI g 8 0 8 = 1
  · rw [if_neg (fun q => q y)]
    by_cases w : gI g 8 0 9 = k
    · rw [if_neg (fun q => q w), decide_eq_true ⟨y, w⟩]
    · rw [if_pos w, decide_eq_false (fun q => w q.2)]
  · rw [if_pos y, decide_eq_false (fun q => y q.1)]
theorem m_isSg (g : Hp) (k : Int32) : f_X8_isSign g k = some (decide (gI g 8 0 8 = 4 ∧ gI g 8 0 9 = k)) := by
  unfold f_X8_isSign
  simp only [jn_e]
  by_cases y : gI g 8 0 8 = 4
  · rw [if_neg (fun q => q y)]
    by_cases w : gI g 8 0 9 = k
    · rw [if_neg (fun q => q w), decide_eq_true ⟨y, w⟩]
    · rw [if_pos w, decide_eq_false (fun q => w q.2)]
  · rw [if_pos y, decide_eq_false (fun q => y q.1)]
theorem m_nameMet (g : Hp) : f_X8_nameMet g = some (if gI g 8 0 8 = 1 ∧ 19 ≤ gI g 8 0 9 then gI g 8 0 9 - 19 else -1) := by
  unfold f_X8_nameMet
  simp only [jn_e]
  by_cases y : gI g 8 0 8 = 1
  · rw [if_neg (fun q => q y)]
    by_cases w : gI g 8 0 9 < 19
    · rw [if_pos w, if_neg (fun q => Int32.not_lt.mpr q.2 w)]
    · rw [if_neg w, if_pos ⟨y, Int32.not_lt.mp w⟩]
  · rw [if_pos y, if_neg (fun q => y q.1)]
/-- what reading a law changes, the class: no fault, no token -/
def LW (u z0 : Nat) (h h' : Hp) : Prop := RF u h h' ∧ (∀ k, k = 4 ∨ k = 5 ∨ k = 7 → gI h' 1 0 k = gI h 1 0 k) ∧ (gI h' 5 u = gI h 5 u ∧ gA h' 5 u = gA h 5 u) ∧ (∀ k, ¬ k = 0 → ¬ k = 1 → gA h' 0 u k = gA h 0 u k) ∧ ∀ k i, i < z0 → gA h' 0 u k i = gA h 0 u k i
def NW (u z0 : Nat) (h h' : Hp) : Prop := LW u z0 h h' ∧ gI h' 4 0 = gI h 4 0
/-- the reference -/
def LV (z0 : Nat) (g g' : Hp) : Prop := MF g g' ∧ (∀ k, k = 4 ∨ k = 5 ∨ (17 ≤ k ∧ k ≤ 20) → gI g' 8 0 k = gI g 8 0 k) ∧ (∀ k, k < 16 → gA g' 8 0 k = gA g 8 0 k) ∧ ∀ k i, 16 ≤ k → k ≤ 18 → i < z0 → gA g' 8 0 k (64 + i) = gA g 8 0 k (64 + i)
def NV (z0 : Nat) (g g' : Hp) : Prop := LV z0 g g' ∧ ∀ k, 6 ≤ k → k ≤ 10 → gI g' 8 0 k = gI g 8 0 k
section Within
variable {h h' h'' g g' g'' : Hp} {u n p z0 z o : Nat} {W : Wtg} {H : List Nat} {st : Nat → List Nat}
theorem LW.rf (u z0 : Nat) (h : Hp) : LW u z0 h h := ⟨RF.rf u h, fun _ _ => rfl, ⟨rfl, rfl⟩, fun _ _ _ => rfl, fun _ _ _ => rfl⟩
theorem LW.tr (a : LW u z0 h h') (b : LW u z0 h' h'') : LW u z0 h h'' := ⟨a.1.tr b.1, fun k q => (b.2.1 k q).trans (a.2.1 k q), ⟨b.2.2.1.1.trans a.2.2.1.1, b.2.2.1.2.trans a.2.2.1.2⟩, fun k q r => (b.2.2.2.1 k q r).trans (a.2.2.2.1 k q r), fun k i q => (b.2.2.2.2 k i q).trans (a.2.2.2.2 k i q)⟩
theorem LV.rf (z0 : Nat) (g : Hp) : LV z0 g g := ⟨MF.rf g, fun _ _ => rfl, fun _ _ => rfl, fun _ _ _ _ _ => rfl⟩
theorem LV.tr (a : LV z0 g g') (b : LV z0 g' g'') : LV z0 g g'' := ⟨a.1.tr b.1, fun k q => (b.2.1 k q).trans (a.2.1 k q), fun k q => (b.2.2.1 k q).trans (a.2.2.1 k q), fun k i q r s => (b.2.2.2 k i q r s).trans (a.2.2.2 k i q r s)⟩
theorem NW.tr (a : NW u z0 h h') (b : NW u z0 h' h'') : NW u z0 h h'' := ⟨a.1.tr b.1, b.2.trans a.2⟩
theorem NV.tr (a : NV z0 g g') (b : NV z0 g' g'') : NV z0 g g'' := ⟨a.1.tr b.1, fun k q r => (b.2 k q r).trans (a.2 k q r)⟩
theorem NW.rf (u z0 : Nat) (h : Hp) : NW u z0 h h := ⟨LW.rf u z0 h, rfl⟩
theorem NV.rf (z0 : Nat) (g : Hp) : NV z0 g g := ⟨LV.rf z0 g, fun _ _ _ => rfl⟩
theorem NW.i (u z0 : Nat) (h : Hp) (k : Nat) (v : Int32) (hk : 8 ≤ k) : NW u z0 h (sI h 1 0 k v) := ⟨⟨RF.i u h 1 0 k v (by omega), fun j q => by rw [GI, if_neg (by omega)], ⟨rfl, rfl⟩, fun _ _ _ => rfl, fun _ _ _ => rfl⟩, rfl⟩
theorem NW.a (u z0 : Nat) (h : Hp) (k i : Nat) (v : Int32) : NW u z0 h (sA h 1 0 k i v) := ⟨⟨RF.a u h 1 0 k i v (by omega), fun _ _ => rfl, ⟨rfl, rfl⟩, fun _ _ _ => rfl, fun _ _ _ => rfl⟩, rfl⟩
theorem NV.i (z0 : Nat) (g : Hp) (k : Nat) (v : Int32) (hk : 41 ≤ k ∧ k ≤ 46) : NV z0 g (sI g 8 0 k v) := ⟨⟨MF.i g k v (by unfold mfI; omega), fun j q => by rw [I_at, if_neg (by omega)], fun _ _ => rfl, fun _ _ _ _ _ => rfl⟩, fun j q r => by rw [I_at, if_neg (by omega)]⟩
theorem NV.a (z0 : Nat) (g : Hp) (i : Nat) (v : Int32) : NV z0 g (sA g 8 0 19 i v) := ⟨⟨MF.a g 19 i v (by unfold mfA; omega), fun _ _ => rfl, fun k q => by rw [GA, if_neg (by omega)], fun k j q r s => by rw [A_at, if_neg (by omega)]⟩, fun _ _ _ => rfl⟩
theorem BW.nw (hz : z0 ≤ z) (a : BW u z h h') : NW u z0 h h' := ⟨⟨a.1, fun k q => a.2.1 k (by omega), ⟨a.2.2.2.1.1, a.2.2.2.1.2.2.2⟩, a.2.2.2.2.1, fun k i q => a.2.2.2.2.2 k i (by omega)⟩, a.2.2.2.1.2.1⟩
theorem BV.nv (hz : z0 ≤ z) (a : BV z g g') : NV z0 g g' := ⟨⟨a.1, fun k q => a.2.1 k (by omega) (by omega) (by omega), fun k q => a.2.2.1 k (by omega), fun k i q r s => a.2.2.2 k i q r (by omega)⟩, fun k q r => a.2.1 k (by omega) (by omega) (by omega)⟩
theorem T4.lw (a : T4 h h') : LW u z0 h h' := ⟨a.lf.rfr u, fun k q => a.2.2.1 1 0 k (by omega), ⟨a.lf.f5 u, a.lf.fa 5 u⟩, fun k _ _ => a.2.2.2 0 u k, fun k i _ => by rw [a.2.2.2 0 u k]⟩
theorem U8.lv (a : U8 g g') : LV z0 g g' := ⟨a.lg.mf, fun k q => a.2.1 k (by omega), fun k _ => a.2.2.2 k, fun k i _ _ _ => by rw [a.2.2.2 k]⟩
/-- cells that stacks stand in, left as they are -/
def KH (u : Nat) (h h' : Hp) : Prop := gI h' 0 u 6 = gI h 0 u 6 ∧ gI h' 1 0 8 = gI h 1 0 8 ∧ gA h' 1 0 0 = gA h 1 0 0 ∧ gA h' 0 u = gA h 0 u
def KG (g g' : Hp) : Prop := gI g' 8 0 21 = gI g 8 0 21 ∧ gI g' 8 0 41 = gI g 8 0 41 ∧ gI g' 8 0 42 = gI g 8 0 42 ∧ ∀ k, 16 ≤ k → k ≤ 20 → gA g' 8 0 k = gA g 8 0 k
theorem KH.rf (u : Nat) (h : Hp) : KH u h h := ⟨rfl, rfl, rfl, rfl⟩
theorem KG.rf (g : Hp) : KG g g := ⟨rfl, rfl, rfl, fun _ _ _ => rfl⟩
theorem KH.tr (a : KH u h h') (b : KH u h' h'') : KH u h h'' := ⟨b.1.trans a.1, b.2.1.trans a.2.1, b.2.2.1.trans a.2.2.1, b.2.2.2.trans a.2.2.2⟩
theorem KG.tr (a : KG g g') (b : KG g' g'') : KG g g'' := ⟨b.1.trans a.1, b.2.1.trans a.2.1, b.2.2.1.trans a.2.2.1, fun k q r => (b.2.2.2 k q r).trans (a.2.2.2 k q r)⟩
theorem KH.i (u : Nat) (h : Hp) (k : Nat) (v : Int32) (hk : ¬ k = 8) : KH u h (sI h 1 0 k v) := ⟨rfl, by rw [GI, if_neg (by omega)], rfl, rfl⟩
theorem KH.a (u : Nat) (h : Hp) (i : Nat) (v : Int32) : KH u h (sA h 1 0 1 i v) := ⟨rfl, rfl, rfl, rfl⟩
theorem KG.i (g : Hp) (k : Nat) (v : Int32) (hk : 43 ≤ k) : KG g (sI g 8 0 k v) := ⟨by rw [I_at, if_neg (by omega)], by rw [I_at, if_neg (by omega)], by rw [I_at, if_neg (by omega)], fun _ _ _ => rfl⟩
theorem T4.kh (a : T4 h h') : KH u h h' := ⟨a.2.2.1 0 u 6 (by omega), a.2.2.1 1 0 8 (by omega), a.2.2.2 1 0 0, funext fun k => a.2.2.2 0 u k⟩
theorem U8.kg (a : U8 g g') : KG g g' := ⟨a.2.1 21 (by omega), a.2.1 41 (by omega), a.2.1 42 (by omega), fun k _ _ => a.2.2.2 k⟩
/-- the stacks -/
def CO (u z0 : Nat) (h g : Hp) (W : Wtg) (H : List Nat) (st : Nat → List Nat) (z : Nat) : Prop := (gI h 0 u 6 = nI z ∧ gI h 1 0 8 = nI W.length ∧ gI g 8 0 21 = nI z ∧ gI g 8 0 41 = nI W.length ∧ gI g 8 0 42 = nI H.length) ∧ WLs (gA h 1 0 0) (gA g 8 0 19) W ∧ HLs (gA g 8 0 20) H ∧ SPS z0 z (gA h 0 u 0) (gA h 0 u 1) (gA g 8 0 16) (gA g 8 0 17) (gA g 8 0 18) st ∧ st z = H ∧ z + npC W ≤ 64
theorem BS.co (b : BS u z0 h g W H st z) : CO u z0 h g W H st z := ⟨⟨b.1.2.1, b.1.2.2.1, b.1.2.2.2.1, b.1.2.2.2.2.1, b.1.2.2.2.2.2⟩, b.2.1, b.2.2.1, b.2.2.2.1, b.2.2.2.2.1, b.2.2.2.2.2.2.1⟩
theorem CO.bs (c : CO u z0 h g W H st z) (r : gO h 1 0 3 = some u) (l : H.length = bnC W + 1) (m : W.length ≤ 72) (x : ∃ r, H = (z - 1) :: r) (y : z0 < z) : BS u z0 h g W H st z := ⟨⟨r, c.1⟩, c.2.1, c.2.2.1, c.2.2.2.1, c.2.2.2.2.1, l, c.2.2.2.2.2, m, by obtain ⟨r, x⟩ := x; exact ⟨r, x, y⟩⟩
theorem CO.cg (c : CO u z0 h g W H st z) (a : KH u h h') (b : KG g g') : CO u z0 h' g' W H st z := by
  obtain ⟨a1, a2, a3, a4⟩ := a
  obtain ⟨b1, b2, b3, b4⟩ := b
  unfold CO
  rw [a1, a2, a3, a4, b1, b2, b3, b4 16 (by omega) (by omega), b4 17 (by omega) (by omega), b4 18 (by omega) (by omega), b4 19 (by omega) (by omega), b4 20 (by omega) (by omega)]
  exact c
theorem CO.grow (c : CO u z0 h g W H st z) (hz : z + npC W < 64) {kn nu kt a b : Int32} (q : STP kn nu kt a b z H (z :: H)) : CO u z0 (putH h u z kn nu) (grH g z H.length kt a b) W (z :: H) (fun i => if i = z + 1 then z :: H else st i) (z + 1) := by
  obtain ⟨⟨c1, c2, c3, c4, c5⟩, c6, c7, c8, c9, c10⟩ := c
  obtain ⟨p1, p2, p3⟩ := putH_v (h := h) (u := u) (z := z) kn nu
  obtain ⟨q1, q2, q3, q4, q5, q6, q7⟩ := grH_v (g := g) (z := z) (l := H.length) kt a b
  have bv := grH_bg (g := g) (z := z) (l := H.length) kt a b
  refine ⟨⟨p1, c2, q1, q7.trans c4, q2⟩, ?_, ?_, ?_, if_pos rfl, by omega⟩
  · rw [bv.2.2.1 19 (by omega)]; exact c6
  · rw [q6]
    exact ⟨up_p _ _ _, c7.cg (fun i hi => up_n (by omega))⟩
  · rw [p2, p3, q3, q4, q5]
    exact c8.grow (by rw [c9]; exact q)
theorem CO.push (c : CO u z0 h g W H st z) {kn kt : Int32} (en : ENT (kn, kt)) (hz : z + npC ((kn, kt) :: W) ≤ 64) : CO u z0 (sI (sA h 1 0 0 W.length kn) 1 0 8 (nI (W.length + 1))) (sI (sA g 8 0 19 W.length kt) 8 0 41 (nI (W.length + 1))) ((kn, kt) :: W) H st z := by
  obtain ⟨⟨c1, c2, c3, c4, c5⟩, c6, c7, c8, c9, c10⟩ := c
  refine ⟨⟨c1, rfl, c3, rfl, c5⟩, ?_, c7, c8, c9, hz⟩
  have e1 : gA (sI (sA h 1 0 0 W.length kn) 1 0 8 (nI (W.length + 1))) 1 0 0 = upd (gA h 1 0 0) W.length kn := rfl
  have e2 : gA (sI (sA g 8 0 19 W.length kt) 8 0 41 (nI (W.length + 1))) 8 0 19 = upd (gA g 8 0 19) W.length kt := rfl
  rw [e1, e2]
  exact ⟨up_p _ _ _, up_p _ _ _, en, c6.cg (fun i hi => ⟨up_n (by omega), up_n (by omega)⟩)⟩
theorem CO.pop (c : CO u z0 h g ((40, 0) :: W) H st z) : CO u z0 (sI h 1 0 8 (nI W.length)) (sI g 8 0 41 (nI W.length)) W H st z := by
  obtain ⟨⟨c1, c2, c3, c4, c5⟩, ⟨-, -, -, c6⟩, c7, c8, c9, c10⟩ := c
  have e : npC ((40, 0) :: W) = 0 + npC W := rfl
  rw [e] at c10
  exact ⟨⟨c1, rfl, c3, rfl, c5⟩, c6, c7, c8, c9, by omega⟩
theorem CMP.cg {cm cm' : Nat → Int32} : ∀ {W : Wtg} {o : Nat}, CMP cm W o → (∀ i, i < o → cm' i = cm i) → CMP cm' W o
  | [], _, h, _ => h
  | e :: w, o, h, q => by
    have h : (if e.2 = 0 then ∃ o', o = o' + 1 ∧ cm o' = b2i (cmpd w) ∧ CMP cm w o' else CMP cm w o) := h
    show (if e.2 = 0 then ∃ o', o = o' + 1 ∧ cm' o' = b2i (cmpd w) ∧ CMP cm' w o' else CMP cm' w o)
    by_cases y : e.2 = 0
    · rw [if_pos y] at h ⊢
      obtain ⟨o', h1, h2, h3⟩ := h
      exact ⟨o', h1, (q o' (by omega)).trans h2, CMP.cg h3 (fun i hi => q i (by omega))⟩
    · rw [if_neg y] at h ⊢
      exact CMP.cg h q
/-- stacks, how many are open, knots, comparisons -/
def LQ (u z0 : Nat) (h g : Hp) (W : Wtg) (H : List Nat) (st : Nat → List Nat) (z o : Nat) : Prop := CO u z0 h g W H st z ∧ (gI h 1 0 9 = nI o ∧ gI g 8 0 43 = nI o ∧ o ≤ 8 ∧ W.length = npC W + o) ∧ (gI h 1 0 10 = nI (z + npC W) ∧ gI g 8 0 44 = nI (z + npC W)) ∧ CMP (gA h 1 0 1) W o ∧ gA h 1 0 1 o = b2i (cmpd W)
/-- an operand is due; or a sign -/
def DU (h g : Hp) (W : Wtg) (H : List Nat) : Prop := gI h 1 0 11 = 1 ∧ gI g 8 0 45 = 1 ∧ H.length = bnC W ∧ ∃ mn : Bool, gI h 1 0 12 = b2i mn ∧ gI g 8 0 46 = b2i mn ∧ (mn = true → cmpd W = false)
def ND (h g : Hp) (W : Wtg) (H : List Nat) (z0 z : Nat) : Prop := gI h 1 0 11 = 0 ∧ gI g 8 0 45 = 0 ∧ H.length = bnC W + 1 ∧ (∃ r, H = (z - 1) :: r) ∧ z0 < z
def Go (u n z0 : Nat) (h g : Hp) (p : Nat) (h' g' : Hp) : Prop := ∃ W H st z o p', LW u z0 h h' ∧ LV z0 g g' ∧ (p ≤ p' ∧ (¬ gI h' 4 0 6 = 0 → p < p')) ∧ (LX n h' g' p' ∧ REF u h' ∧ FT h' g') ∧ LQ u z0 h' g' W H st z o ∧ (DU h' g' W H ∨ ND h' g' W H z0 z)
def Bad (u : Nat) (h g h' g' : Hp) : Prop := RF u h h' ∧ MF g g' ∧ FT h' g' ∧ gI h' 5 u 10 = gI h 5 u 10
theorem bad_fail (r : REF u h) (a : gI h 4 0 5 = gI g 8 0 10) (w : Int32) : ∃ h' g', (bd2 (f_X1_fails h w) fun v4 h3 => some (v4, h3)) = some (false, h') ∧ (bd2 (f_X8_wrong g w) fun v4 h3 => some (v4, h3)) = some (false, g') ∧ Bad u h g h' g' := by
  rw [cl_fails r.1, m_wrong, bd2_s, bd2_s]
  exact ⟨_, _, rfl, rfl, (LF.fail h w _).rfr u, (LG.fail g w _).mf, ft_fail w a, (LF.fail h w _).2.2.1 5 u 10 (by omega) (by omega)⟩
theorem Bad.tr (a : NW u z0 h h') (b : NV z0 g g') {h2 g2 : Hp} (c : Bad u h' g' h2 g2) : Bad u h g h2 g2 := ⟨a.1.1.tr c.1, b.1.1.tr c.2.1, c.2.2.1, c.2.2.2.trans (congrFun a.1.2.2.1.1 10)⟩
/-- the next token -/
theorem adv {N : Nat} (hN : 1000 ≤ N) (l : LX n h g p) (r : REF u h) (ft : FT h g) (F : NW u z0 h h') (G : NV z0 g g') (q : LQ u z0 h' g' W H st z o) (m : DU h' g' W H ∨ ND h' g' W H z0 z) : ∃ h2 g2, f_X4_advance N h' = some h2 ∧ f_X8_token N g' = some g2 ∧ Go u n z0 h g p h2 g2 := by
  have L := l.up F.1.1 G.1.1 (fun k => congrFun F.2 k) G.2
  have r' := r.up F.1.1
  have ft' : FT h' g' := ft.eq (F.1.2.1 4 (by omega)) (F.1.2.1 5 (by omega)) (G.1.2.1 4 (by omega)) (G.1.2.1 5 (by omega))
  obtain ⟨h2, g2, p', c1, c2, c3, c4, c5, c6, c7⟩ := lex hN L.1
  refine ⟨h2, g2, c1, c2, W, H, st, z, o, p', F.1.tr c3.lw, G.1.tr c4.lv, ⟨c6, c7⟩, ⟨c5, r'.up (c3.lf.rfr u), ft'.lf c3 c4⟩, ?_, ?_⟩
  · obtain ⟨q1, ⟨q2, q3, q4, q5⟩, ⟨q6, q7⟩, q8, q9⟩ := q
    refine ⟨q1.cg c3.kh c4.kg, ⟨?_, ?_, q4, q5⟩, ⟨?_, ?_⟩, ?_⟩
    · rw [c3.2.2.1 1 0 9 (by omega)]; exact q2
    · rw [c4.2.1 43 (by omega)]; exact q3
    · rw [c3.2.2.1 1 0 10 (by omega)]; exact q6
    · rw [c4.2.1 44 (by omega)]; exact q7
    · rw [c3.2.2.2 1 0 1]; exact ⟨q8, q9⟩
  · unfold DU ND
    rw [c3.2.2.1 1 0 11 (by omega), c3.2.2.1 1 0 12 (by omega), c4.2.1 45 (by omega), c4.2.1 46 (by omega)]
    exact m
end Within
