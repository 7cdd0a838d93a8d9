-- PURE: what reading changes; tokens and numbers taken, by both
theorem GI (h : Hp) (c o k : Nat) (v : Int32) (c' o' k' : Nat) : gI (sI h c o k v) c' o' k' = if c' = c ∧ o' = o ∧ k' = k then v else gI h c' o' k' := rfl
theorem GA (h : Hp) (c o k i : Nat) (v : Int32) (c' o' k' : Nat) : gA (sA h c o k i v) c' o' k' = if c' = c ∧ o' = o ∧ k' = k then upd (gA h c o k) i v else gA h c' o' k' := rfl
/-- the class: nothing changed but the tokens, what is taken, the fault -/
def LF (h h' : Hp) : Prop := K8 h h' ∧ (∀ c o k, c ≠ 8 → gO h' c o k = gO h c o k) ∧ (∀ c o k, ¬ (c = 4 ∧ o = 0 ∧ 4 ≤ k ∧ k ≤ 8) → ¬ (c = 1 ∧ o = 0 ∧ 4 ≤ k ∧ k ≤ 6) → gI h' c o k = gI h c o k) ∧ ∀ c o k, gA h' c o k = gA h c o k
theorem LF.rf (h : Hp) : LF h h := ⟨K8.rf h, fun _ _ _ _ => rfl, fun _ _ _ _ _ => rfl, fun _ _ _ => rfl⟩
theorem LF.tr {h g k : Hp} (a : LF h g) (b : LF g k) : LF h k := ⟨a.1.tr b.1, fun c o i q => (b.2.1 c o i q).trans (a.2.1 c o i q), fun c o i q r => (b.2.2.1 c o i q r).trans (a.2.2.1 c o i q r), fun c o i => (b.2.2.2 c o i).trans (a.2.2.2 c o i)⟩
theorem LF.i (h : Hp) (k : Nat) (v : Int32) (hk : 4 ≤ k ∧ k ≤ 6) : LF h (sI h 1 0 k v) := ⟨K8.i h 1 0 k v (by decide), fun _ _ _ _ => rfl, fun c o i _ q => if_neg (fun z => q ⟨z.1, z.2.1, by omega, by omega⟩), fun _ _ _ => rfl⟩
theorem T4.lf {h g : Hp} (a : T4 h g) : LF h g := ⟨a.2.1, fun c o k q => a.1.2.2.2 c o k q, fun c o k q _ => a.2.2.1 c o k q, a.2.2.2⟩
/-- the reference: nothing changed but its token, what it got, the fault -/
def LG (g g' : Hp) : Prop := K7 g g' ∧ (∀ k, ¬ k = 4 → ¬ k = 5 → (k < 7 ∨ 11 < k) → gI g' 8 0 k = gI g 8 0 k) ∧ (∀ k, gL g' 8 0 k = gL g 8 0 k) ∧ ∀ k, gA g' 8 0 k = gA g 8 0 k
theorem LG.rf (g : Hp) : LG g g := ⟨K7.rf g, fun _ _ _ _ => rfl, fun _ => rfl, fun _ => rfl⟩
theorem LG.tr {g g' g'' : Hp} (x : LG g g') (y : LG g' g'') : LG g g'' := ⟨x.1.tr y.1, fun k q r s => (y.2.1 k q r s).trans (x.2.1 k q r s), fun k => (y.2.2.1 k).trans (x.2.2.1 k), fun k => (y.2.2.2 k).trans (x.2.2.2 k)⟩
theorem LG.i (g : Hp) (k : Nat) (v : Int32) (hk : k = 4 ∨ k = 5 ∨ (7 ≤ k ∧ k ≤ 11)) : LG g (sI g 8 0 k v) := ⟨K7.i g k v, fun j h1 h2 h3 => by rw [I_at, if_neg (by omega)], fun _ => rfl, fun _ => rfl⟩
theorem U8.lg {g g' : Hp} (a : U8 g g') : LG g g' := ⟨a.1, fun k _ _ q => a.2.1 k (by omega), a.2.2.1, a.2.2.2⟩
/-- the class, reading: nothing changed but the reader, the tokens, what is told into u -/
def RF (u : Nat) (h h' : Hp) : Prop := K8 h h' ∧ (∀ c o k, c ≠ 8 → gO h' c o k = gO h c o k) ∧ (∀ c o k, ¬ c = 1 → ¬ (c = 4 ∧ o = 0 ∧ 4 ≤ k ∧ k ≤ 8) → ¬ (c = 5 ∧ o = u) → ¬ (c = 0 ∧ o = u) → gI h' c o k = gI h c o k) ∧ ∀ c o k, ¬ c = 1 → ¬ (c = 5 ∧ o = u) → ¬ (c = 0 ∧ o = u) → gA h' c o k = gA h c o k
theorem RF.rf (u : Nat) (h : Hp) : RF u h h := ⟨K8.rf h, fun _ _ _ _ => rfl, fun _ _ _ _ _ _ _ => rfl, fun _ _ _ _ _ _ => rfl⟩
theorem RF.tr {u : Nat} {h g k : Hp} (a : RF u h g) (b : RF u g k) : RF u h k := ⟨a.1.tr b.1, fun c o i q => (b.2.1 c o i q).trans (a.2.1 c o i q), fun c o i q r s t => (b.2.2.1 c o i q r s t).trans (a.2.2.1 c o i q r s t), fun c o i q r s => (b.2.2.2 c o i q r s).trans (a.2.2.2 c o i q r s)⟩
theorem LF.rfr {h g : Hp} (u : Nat) (a : LF h g) : RF u h g := ⟨a.1, a.2.1, fun c o k q r _ _ => a.2.2.1 c o k r (fun z => q z.1), fun c o k _ _ _ => a.2.2.2 c o k⟩
theorem RF.i (u : Nat) (h : Hp) (c o k : Nat) (v : Int32) (hc : c = 1 ∨ (c = 5 ∧ o = u) ∨ (c = 0 ∧ o = u)) : RF u h (sI h c o k v) := ⟨K8.i h c o k v (by omega), fun _ _ _ _ => rfl, fun c' o' i q r s t => if_neg (fun z => by
  obtain ⟨rfl, rfl, rfl⟩ := z
  rcases hc with hc | hc | hc
  · exact q hc
  · exact s hc
  · exact t hc), fun _ _ _ _ _ _ => rfl⟩
theorem RF.a (u : Nat) (h : Hp) (c o k i : Nat) (v : Int32) (hc : c = 1 ∨ (c = 5 ∧ o = u) ∨ (c = 0 ∧ o = u)) : RF u h (sA h c o k i v) := ⟨K8.a h c o k i v (by omega), fun _ _ _ _ => rfl, fun _ _ _ _ _ _ _ => rfl, fun c' o' i q s t => if_neg (fun z => by
  obtain ⟨rfl, rfl, rfl⟩ := z
  rcases hc with hc | hc | hc
  · exact q hc
  · exact s hc
  · exact t hc)⟩
/-- half of a row of the reference's text -/
def hfT (k : Nat) : Nat := if k = 3 then 5 else if k = 4 then 8 else if k < 9 then 4 else if k < 12 then 6 else if k < 16 then 4 else 64
def mfI (k : Nat) : Prop := k = 4 ∨ k = 5 ∨ (7 ≤ k ∧ k ≤ 11) ∨ (17 ≤ k ∧ k ≤ 21) ∨ (41 ≤ k ∧ k ≤ 46)
def mfA (k i : Nat) : Prop := k = 2 ∨ k = 19 ∨ k = 20 ∨ (3 ≤ k ∧ k ≤ 18 ∧ hfT k ≤ i)
/-- the reference, reading: nothing changed but what reading changes -/
def MF (g g' : Hp) : Prop := K7 g g' ∧ (∀ k, ¬ mfI k → gI g' 8 0 k = gI g 8 0 k) ∧ (∀ k, gL g' 8 0 k = gL g 8 0 k) ∧ ∀ k i, ¬ mfA k i → gA g' 8 0 k i = gA g 8 0 k i
theorem MF.rf (g : Hp) : MF g g := ⟨K7.rf g, fun _ _ => rfl, fun _ => rfl, fun _ _ _ => rfl⟩
theorem MF.tr {g g' g'' : Hp} (x : MF g g') (y : MF g' g'') : MF g g'' := ⟨x.1.tr y.1, fun k q => (y.2.1 k q).trans (x.2.1 k q), fun k => (y.2.2.1 k).trans (x.2.2.1 k), fun k i q => (y.2.2.2 k i q).trans (x.2.2.2 k i q)⟩
theorem LG.mf {g g' : Hp} (x : LG g g') : MF g g' := ⟨x.1, fun k q => x.2.1 k (fun z => q (Or.inl z)) (fun z => q (Or.inr (Or.inl z))) (by unfold mfI at q; omega), x.2.2.1, fun k i _ => by rw [x.2.2.2 k]⟩
theorem MF.i (g : Hp) (k : Nat) (v : Int32) (hk : mfI k) : MF g (sI g 8 0 k v) := ⟨K7.i g k v, fun j q => by rw [I_at, if_neg (fun z => q (by rw [z]; exact hk))], fun _ => rfl, fun _ _ _ => rfl⟩
theorem MF.a (g : Hp) (k i : Nat) (v : Int32) (hk : mfA k i) : MF g (sA g 8 0 k i v) := ⟨K7.a g k i v, fun _ _ => rfl, fun _ => rfl, fun j u q => by rw [A_at, if_neg (fun z => q (by rw [z.1, z.2]; exact hk))]⟩
/-- before a token is read, the rest of the texts alike -/
def LB (n : Nat) (h g : Hp) (p : Nat) : Prop := n ≤ 700 ∧ p ≤ n ∧ gI h 4 0 3 = nI n ∧ gI h 4 0 4 = nI p ∧ gI g 8 0 6 = nI n ∧ gI g 8 0 7 = nI p ∧ (∀ i, i < n → gA h 4 0 0 i = gA g 8 0 0 i) ∧ SPL (gA h 4 0 1) ∧ WRD (gA g 8 0 1)
/-- a token read by both -/
def LX (n : Nat) (h g : Hp) (p : Nat) : Prop := LB n h g p ∧ (∃ a, a ≤ n ∧ gI h 4 0 5 = nI a ∧ gI g 8 0 10 = nI a) ∧ TKR (gI h 4 0 6) (gI h 4 0 7) (gI h 4 0 8) (gI g 8 0 8) (gI g 8 0 9) ∧ (¬ gI h 4 0 6 = 0 → 0 < p)
section Take
variable {N : Nat} {h g h' g' : Hp} {n p u : Nat}
theorem LB.lf (l : LB n h g p) (f : LF h h') (e : LG g g') (c : gI h' 4 0 4 = gI h 4 0 4) (d : gI g' 8 0 7 = gI g 8 0 7) : LB n h' g' p := by
  obtain ⟨l1, l2, l3, l4, l5, l6, l7, l8, l9⟩ := l
  refine ⟨l1, l2, ?_, c.trans l4, ?_, d.trans l6, ?_, ?_, ?_⟩
  · rw [f.2.2.1 4 0 3 (by omega) (by omega)]; exact l3
  · rw [e.2.1 6 (by omega) (by omega) (by omega)]; exact l5
  · rw [f.2.2.2 4 0 0, e.2.2.2 0]; exact l7
  · rw [f.2.2.2 4 0 1]; exact l8
  · rw [e.2.2.2 1]; exact l9
/-- beside the token -/
theorem LX.up (l : LX n h g p) (f : RF u h h') (e : MF g g') (c : ∀ k, gI h' 4 0 k = gI h 4 0 k) (d : ∀ k, 6 ≤ k → k ≤ 10 → gI g' 8 0 k = gI g 8 0 k) : LX n h' g' p := by
  obtain ⟨⟨l1, l2, l3, l4, l5, l6, l7, l8, l9⟩, l10, l11, l12⟩ := l
  have a0 : gA h' 4 0 0 = gA h 4 0 0 := f.2.2.2 4 0 0 (by omega) (by omega) (by omega)
  have a1 : gA h' 4 0 1 = gA h 4 0 1 := f.2.2.2 4 0 1 (by omega) (by omega) (by omega)
  have b0 : gA g' 8 0 0 = gA g 8 0 0 := funext fun i => e.2.2.2 0 i (by unfold mfA; omega)
  have b1 : gA g' 8 0 1 = gA g 8 0 1 := funext fun i => e.2.2.2 1 i (by unfold mfA; omega)
  unfold LX LB
  rw [c 3, c 4, c 5, c 6, c 7, c 8, d 6 (by omega) (by omega), d 7 (by omega) (by omega), d 8 (by omega) (by omega), d 9 (by omega) (by omega), d 10 (by omega) (by omega), a0, a1, b0, b1]
  exact ⟨⟨l1, l2, l3, l4, l5, l6, l7, l8, l9⟩, l10, l11, l12⟩
theorem lex (hN : 1000 ≤ N) (l : LB n h g p) : ∃ h' g' p', f_X4_advance N h = some h' ∧ f_X8_token N g = some g' ∧ T4 h h' ∧ U8 g g' ∧ LX n h' g' p' ∧ p ≤ p' ∧ (¬ gI h' 4 0 6 = 0 → p < p') := by
  obtain ⟨l1, l2, l3, l4, l5, l6, l7, l8, l9⟩ := l
  obtain ⟨h', p', c1, c2, c3, c4, c5⟩ := cl_advance hN l3 l1 l8 l4 l2
  obtain ⟨g', p'', m1, m2, m3, m4, m5⟩ := m_token hN l5 l1 l9 l6 l2
  have ea : rnE isSp (gA g 8 0 0) (n - p) p = rnE isSp (gA h 4 0 0) (n - p) p := rnE_cg isSp _ _ (fun i h1 h2 => (l7 i (by omega)).symm)
  rw [ea] at m3 m5
  have al : p ≤ rnE isSp (gA h 4 0 0) (n - p) p ∧ rnE isSp (gA h 4 0 0) (n - p) p ≤ n := by
    have := rnE_le isSp (gA h 4 0 0) (n - p) p
    omega
  obtain ⟨t1, t2, t3, t4, t5⟩ := tok_same c5 (OM_cg l7 m5)
  subst t1
  refine ⟨h', g', p', c1, m1, c2, m2, ⟨⟨l1, t4, ?_, c4, ?_, m4, ?_, ?_, ?_⟩, ⟨_, al.2, c3, m3⟩, t2, fun q => by have := t5 q; omega⟩, by omega, fun q => by have := t5 q; omega⟩
  · rw [c2.2.2.1 4 0 3 (by omega)]; exact l3
  · rw [m2.2.1 6 (by omega)]; exact l5
  · rw [c2.2.2.2 4 0 0, m2.2.2.2 0]; exact l7
  · rw [c2.2.2.2 4 0 1]; exact l8
  · rw [m2.2.2.2 1]; exact l9
/-- the faults alike -/
def FT (h g : Hp) : Prop := gI h 1 0 4 = gI g 8 0 4 ∧ gI h 1 0 5 = gI g 8 0 5
theorem cl_fails (r : gO h 1 0 2 = some 0) (w : Int32) : f_X1_fails h w = some (false, sI (sI h 1 0 4 w) 1 0 5 (gI h 4 0 5)) := by
  unfold f_X1_fails
  rw [lt_e, show gO (sI h 1 0 4 w) 1 0 2 = gO h 1 0 2 from rfl, r, onO_s, lt_e]
  rfl
theorem m_wrong (w : Int32) : f_X8_wrong g w = some (false, sI (sI g 8 0 4 w) 8 0 5 (gI g 8 0 10)) := by
  unfold f_X8_wrong
  rw [lt_e, lt_e, I_at, if_neg (by decide)]
theorem ft_fail (w : Int32) (a : gI h 4 0 5 = gI g 8 0 10) : FT (sI (sI h 1 0 4 w) 1 0 5 (gI h 4 0 5)) (sI (sI g 8 0 4 w) 8 0 5 (gI g 8 0 10)) := by
  unfold FT
  have e1 : gI (sI (sI h 1 0 4 w) 1 0 5 (gI h 4 0 5)) 1 0 4 = w := rfl
  have e2 : gI (sI (sI h 1 0 4 w) 1 0 5 (gI h 4 0 5)) 1 0 5 = gI h 4 0 5 := rfl
  have e3 : gI (sI (sI g 8 0 4 w) 8 0 5 (gI g 8 0 10)) 8 0 4 = w := rfl
  have e4 : gI (sI (sI g 8 0 4 w) 8 0 5 (gI g 8 0 10)) 8 0 5 = gI g 8 0 10 := rfl
  rw [e1, e2, e3, e4]
  exact ⟨rfl, a⟩
theorem LF.fail (h : Hp) (w v : Int32) : LF h (sI (sI h 1 0 4 w) 1 0 5 v) := (LF.i h 4 w (by omega)).tr (LF.i _ 5 v (by omega))
theorem LG.fail (g : Hp) (w v : Int32) : LG g (sI (sI g 8 0 4 w) 8 0 5 v) := (LG.i g 4 w (by omega)).tr (LG.i _ 5 v (by omega))
theorem LX.at (l : LX n h g p) : gI h 4 0 5 = gI g 8 0 10 := by
  obtain ⟨a, -, x, y⟩ := l.2.1
  rw [x, y]
theorem FT.lf (x : FT h g) (a : T4 h h') (b : U8 g g') : FT h' g' := by
  unfold FT
  rw [a.2.2.1 1 0 4 (by omega), a.2.2.1 1 0 5 (by omega), b.2.1 4 (by omega), b.2.1 5 (by omega)]
  exact x
theorem wd_ne {k j : Nat} (hk : k < 26) (hj : j < 256) : ¬ nI (256 + cwd k) = nI j := fun q => by
  have := cwd_lt k hk
  have := nI_inj (by omega) (by omega) q
  omega
theorem tk_num {ck cn cl mk mw : Int32} (t : TKR ck cn cl mk mw) : (ck = 2 ↔ mk = 3) ∧ (ck = 2 → NR cn mw) := by
  rcases t with ⟨rfl, rfl⟩ | ⟨rfl, t⟩ | ⟨rfl, rfl, t⟩ | ⟨rfl, rfl, t⟩ | ⟨rfl, rfl, t⟩ | ⟨rfl, t⟩ | ⟨rfl, k, hk, rfl, rfl⟩
  · exact ⟨⟨fun q => absurd q (by decide), fun q => absurd q (by decide)⟩, fun q => absurd q (by decide)⟩
  · refine ⟨⟨fun q => absurd q (by decide), fun q => ?_⟩, fun q => absurd q (by decide)⟩
    rcases t with t | t
    · rw [q] at t; exact absurd t (by decide)
    · have := t.1; rw [q] at this; exact absurd this (by decide)
  · exact ⟨⟨fun _ => rfl, fun _ => rfl⟩, fun _ => t⟩
  · exact ⟨⟨fun q => absurd q (by decide), fun q => absurd q (by decide)⟩, fun q => absurd q (by decide)⟩
  · have : ¬ ck = 2 := fun q => by rw [q] at t; rcases t with t | t | t | t | t | t | t <;> exact absurd t (by decide)
    exact ⟨⟨fun q => absurd q this, fun q => absurd q (by decide)⟩, fun q => absurd q this⟩
  · have : ¬ ck = 2 := fun q => by rw [q] at t; rcases t with t | t | t | t | t | t <;> exact absurd t.1 (by decide)
    exact ⟨⟨fun q => absurd q this, fun q => absurd q (by decide)⟩, fun q => absurd q this⟩
  · have : ¬ nI (256 + cwd k) = 2 := wd_ne (j := 2) hk (by omega)
    exact ⟨⟨fun q => absurd q this, fun q => absurd q (by decide)⟩, fun q => absurd q this⟩
theorem take_num (hN : 1000 ≤ N) (l : LX n h g p) (r : gO h 1 0 2 = some 0) (ft : FT h g) {most : Nat} (hm : most ≤ 99999) : ∃ b h' g', f_X1_takeNumber N h (nI most) = some (b, h') ∧ f_X8_number N g 0 (nI most) = some (b, g') ∧ LF h h' ∧ LG g g' ∧ FT h' g' ∧ (b = true → ∃ v p', v ≤ most ∧ gI h' 1 0 6 = nI v ∧ gI g' 8 0 11 = nI v ∧ LX n h' g' p' ∧ p ≤ p' ∧ (¬ gI h' 4 0 6 = 0 → p < p') ∧ gI h 4 0 6 = 2 ∧ gI h 4 0 7 = nI v) := by
  have tn := tk_num l.2.2.1
  have fail : ∀ w, ∃ h' g', (bd2 (f_X1_fails h w) fun v4 h3 => some (v4, h3)) = some (false, h') ∧ (bd2 (f_X8_wrong g w) fun v4 h3 => some (v4, h3)) = some (false, g') ∧ LF h h' ∧ LG g g' ∧ FT h' g' := fun w => by
    rw [cl_fails r, m_wrong, bd2_s, bd2_s]
    exact ⟨_, _, rfl, rfl, LF.fail h w _, LG.fail g w _, ft_fail w l.at⟩
  unfold f_X1_takeNumber f_X8_number
  rw [r, onO_s]
  by_cases z : gI h 4 0 6 = 2
  · rw [if_pos z, if_pos (tn.1.mp z), onO_s, m_isIn, bind_s]
    rcases tn.2 z with ⟨v, hv, e1, e2⟩ | ⟨v, w, h1, h2, h3, h4, e1, e2⟩
    · by_cases y : v ≤ most
      · rw [e1, e2, if_pos (leN y (by omega)), decide_eq_true (show (0 : Int32) ≤ nI v ∧ nI v ≤ nI most from ⟨leN (a := 0) (Nat.zero_le _) (by omega), leN y (by omega)⟩), if_pos (show ¬ b2i true = 0 by decide), onO_s, lt_e, lt_e, show gO (sI h 1 0 6 (nI v)) 1 0 2 = gO h 1 0 2 from rfl, r, onO_s]
        have f1 := LF.i h 6 (nI v) (by omega)
        have f2 := LG.i g 11 (nI v) (by omega)
        obtain ⟨h', g', p', c1, c2, c3, c4, c5, c6, c7⟩ := lex hN (l.1.lf f1 f2 rfl rfl)
        rw [c1, c2, bind_s, bind_s]
        refine ⟨true, h', g', rfl, rfl, f1.tr c3.lf, f2.tr c4.lg, ?_, fun _ => ⟨v, p', y, ?_, ?_, c5, c6, c7, z, rfl⟩⟩
        · refine FT.lf (h := sI h 1 0 6 (nI v)) (g := sI g 8 0 11 (nI v)) ?_ c3 c4
          exact ft
        · rw [c3.2.2.1 1 0 6 (by omega)]; rfl
        · rw [c4.2.1 11 (by omega)]; rfl
      · rw [e1, e2, if_neg (nleN (show most < v by omega) (by omega)), decide_eq_false (show ¬ ((0 : Int32) ≤ nI v ∧ nI v ≤ nI most) from fun q => nleN (show most < v by omega) (by omega) q.2), if_neg (fun q => q (show b2i false = 0 from rfl))]
        obtain ⟨h', g', a1, a2, a3, a4, a5⟩ := fail 2
        exact ⟨false, h', g', a1, a2, a3, a4, a5, fun q => Bool.noConfusion q⟩
    · rw [e1, e2, if_neg (nleN (show most < v by omega) (by omega)), decide_eq_false (show ¬ ((0 : Int32) ≤ nI w ∧ nI w ≤ nI most) from fun q => nleN (show most < w by omega) (by omega) q.2), if_neg (fun q => q (show b2i false = 0 from rfl))]
      obtain ⟨h', g', a1, a2, a3, a4, a5⟩ := fail 2
      exact ⟨false, h', g', a1, a2, a3, a4, a5, fun q => Bool.noConfusion q⟩
  · rw [if_neg z, if_neg (fun q => z (tn.1.mpr q))]
    obtain ⟨h', g', a1, a2, a3, a4, a5⟩ := fail 1
    exact ⟨false, h', g', a1, a2, a3, a4, a5, fun q => Bool.noConfusion q⟩
end Take

