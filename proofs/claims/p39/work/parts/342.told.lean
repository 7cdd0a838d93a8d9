-- PURE: what a text tells, as lists; the class's reader beside it
/-- stripes; crofts (letters, carts, hill, come); fields (croft, wants, sort); tides; (heap, rule, odds, tons, once, lines); worth's number -/
abbrev DT : Type := List Nat × List (Int32 × Nat × Nat × Nat) × List (Nat × Nat × Nat) × List Nat × (Nat × Nat × Nat × Nat × Nat × Nat) × Option Nat
def dN : Int32 × Nat × Nat × Nat := (0, 0, 0, 0)
def dF : Nat × Nat × Nat := (0, 0, 0)
def dA (D : DT) : Nat → Nat → Int32 := fun k i => match k with
  | 0 => nI (D.1.getD i 0)
  | 1 => (D.2.1.getD i dN).1
  | 2 => nI (D.2.1.getD i dN).2.1
  | 3 => nI (D.2.1.getD i dN).2.2.1
  | 4 => nI (D.2.1.getD i dN).2.2.2
  | 5 => nI (D.2.2.1.getD i dF).1
  | 6 => nI (D.2.2.1.getD i dF).2.1
  | 7 => nI (D.2.2.1.getD i dF).2.2
  | 8 => nI (D.2.2.2.1.getD i 0)
  | _ => 0
def dI (D : DT) : Nat → Int32 := fun k => match k with
  | 10 => nI D.2.2.2.2.1.2.2.2.2.2
  | 11 => nI D.1.length
  | 12 => nI D.2.1.length
  | 13 => nI D.2.2.1.length
  | 14 => nI D.2.2.2.1.length
  | 15 => nI D.2.2.2.2.1.1
  | 16 => nI D.2.2.2.2.1.2.1
  | 17 => nI D.2.2.2.2.1.2.2.1
  | 18 => nI D.2.2.2.2.1.2.2.2.1
  | _ => 0
def PDv (I : Nat → Int32) (A : Nat → Nat → Int32) (D : DT) : Prop := (∀ k, 10 ≤ k → k ≤ 19 → I k = dI D k) ∧ (∀ i, i < D.1.length → A 0 i = dA D 0 i) ∧ (∀ i, i < D.2.1.length → A 1 i = dA D 1 i ∧ A 2 i = dA D 2 i ∧ A 3 i = dA D 3 i ∧ A 4 i = dA D 4 i) ∧ (∀ i, i < D.2.2.1.length → A 5 i = dA D 5 i ∧ A 6 i = dA D 6 i ∧ A 7 i = dA D 7 i) ∧ ∀ i, i < D.2.2.2.1.length → A 8 i = dA D 8 i
def PL (u : Nat) (h : Hp) (w : Option Nat) : Prop := match w with
  | none => gI h 1 0 10 = 0 ∧ gI h 0 u 6 = 0 ∧ ∀ i, i < 4 → gA h 0 u 2 i = 0 ∧ gA h 0 u 3 i = 0
  | some v => gA h 0 u 0 0 = 2 ∧ gA h 0 u 1 0 = nI v ∧ (∀ i, i < 4 → gA h 0 u 2 i = 0) ∧ gA h 0 u 3 3 = 1 ∧ ∀ i, i < 3 → gA h 0 u 3 i = 0
/-- the current token is the list's first, the place is behind it -/
def TkAt (h : Hp) (n : Nat) (l : List Int32) : Prop := ∃ p, gI h 4 0 3 = nI n ∧ gI h 4 0 4 = nI p ∧ Lp (gA h 4 0 0) n p (tkK l).2.2.2 ∧ gI h 4 0 6 = (tkK l).1 ∧ ((tkK l).1 = 2 → gI h 4 0 7 = (tkK l).2.1) ∧ ((tkK l).1 = 3 → gI h 4 0 8 = (tkK l).2.2.1)
/-- the reader, nothing else changed since h0 -/
def PS (u n : Nat) (h0 h : Hp) (l : List Int32) : Prop := n ≤ 700 ∧ REF u h ∧ RF u h0 h ∧ SPL (gA h 4 0 1) ∧ TkAt h n l
def PD (u : Nat) (h : Hp) (D : DT) : Prop := PDv (gI h 5 u) (gA h 5 u) D ∧ gI h 1 0 7 = nI D.2.2.2.2.1.2.2.2.2.1 ∧ PL u h D.2.2.2.2.2
/-- told, laws and the reader's own (but its number 6) as they were -/
def Kp (u : Nat) (h g : Hp) : Prop := gI g 5 u = gI h 5 u ∧ gA g 5 u = gA h 5 u ∧ gI g 1 0 7 = gI h 1 0 7 ∧ gI g 1 0 10 = gI h 1 0 10 ∧ gI g 0 u 6 = gI h 0 u 6 ∧ gA g 0 u = gA h 0 u
theorem Kp.tr {u : Nat} {h g k : Hp} (a : Kp u h g) (b : Kp u g k) : Kp u h k := ⟨b.1.trans a.1, b.2.1.trans a.2.1, b.2.2.1.trans a.2.2.1, b.2.2.2.1.trans a.2.2.2.1, b.2.2.2.2.1.trans a.2.2.2.2.1, b.2.2.2.2.2.trans a.2.2.2.2.2⟩
theorem Kp.rf (u : Nat) (h : Hp) : Kp u h h := ⟨rfl, rfl, rfl, rfl, rfl, rfl⟩
theorem Kp.pd {u : Nat} {h g : Hp} {D : DT} (a : Kp u h g) (b : PD u h D) : PD u g D := by
  obtain ⟨a1, a2, a3, a4, a5, a6⟩ := a
  obtain ⟨b1, b2, b3⟩ := b
  refine ⟨by rw [a1, a2]; exact b1, a3.trans b2, ?_⟩
  unfold PL at b3 ⊢
  cases hw : D.2.2.2.2.2 with
  | none =>
    rw [hw] at b3
    exact ⟨a4.trans b3.1, a5.trans b3.2.1, by rw [a6]; exact b3.2.2⟩
  | some v =>
    rw [hw] at b3
    rw [a6]
    exact b3
section PSs
variable {N u n : Nat} {h0 h g : Hp} {l : List Int32} {D : DT}
theorem T4.rfu (a : T4 h g) (u : Nat) : RF u h g := ⟨a.2.1, a.1.2.2.2, fun c o k _ q _ _ => a.2.2.1 c o k q, fun c o k _ _ _ => a.2.2.2 c o k⟩
theorem T4.kp (a : T4 h g) (u : Nat) : Kp u h g := ⟨funext fun k => a.2.2.1 5 u k (by omega), funext fun k => a.2.2.2 5 u k, a.2.2.1 1 0 7 (by omega), a.2.2.1 1 0 10 (by omega), a.2.2.1 0 u 6 (by omega), funext fun k => a.2.2.2 0 u k⟩
theorem PS.adv (hN : 1000 ≤ N) (s : PS u n h0 h l) : ∃ g, f_X4_advance N h = some g ∧ T4 h g ∧ PS u n h0 g (tkK l).2.2.2 ∧ Kp u h g := by
  obtain ⟨hn, r, f, sp, p, e3, e4, lp, -⟩ := s
  obtain ⟨g, p', a1, a2, a3, a4, a5⟩ := cl_advance hN e3 hn sp e4 (show p ≤ n by have := lp.1; omega)
  obtain ⟨t1, t2, t3, t4, t5⟩ := tk_of lp a5
  exact ⟨g, a1, a2, ⟨hn, ⟨(a2.1.2.2.2 1 0 2 (by decide)).trans r.1, (a2.1.2.2.2 1 0 3 (by decide)).trans r.2⟩, f.tr (a2.rfu u), by rw [a2.2.2.2 4 0 1]; exact sp, p', (a2.2.2.1 4 0 3 (by omega)).trans e3, a4, by rw [a2.2.2.2 4 0 0]; exact t5, t1, fun z => t2 (t1.trans z), fun z => t4 (t1.trans z)⟩, a2.kp u⟩
theorem PS.k6 (s : PS u n h0 h l) : gI h 4 0 6 = (tkK l).1 := by
  obtain ⟨-, -, -, -, p, -, -, -, e, -⟩ := s
  exact e
theorem PS.k7 (s : PS u n h0 h l) (z : (tkK l).1 = 2) : gI h 4 0 7 = (tkK l).2.1 := by
  obtain ⟨-, -, -, -, p, -, -, -, -, e, -⟩ := s
  exact e z
theorem PS.k8 (s : PS u n h0 h l) (z : (tkK l).1 = 3) : gI h 4 0 8 = (tkK l).2.2.1 := by
  obtain ⟨-, -, -, -, p, -, -, -, -, -, e⟩ := s
  exact e z
/-- a cell of the reader, of what is told or of the laws set -/
theorem PS.i (s : PS u n h0 h l) {c o k : Nat} {v : Int32} (hc : c = 1 ∨ (c = 5 ∧ o = u) ∨ (c = 0 ∧ o = u)) : PS u n h0 (sI h c o k v) l := by
  obtain ⟨hn, r, f, sp, p, e3, e4, lp, e6, e7, e8⟩ := s
  have q : ∀ j, gI (sI h c o k v) 4 0 j = gI h 4 0 j := fun j => by rw [GI, if_neg (by omega)]
  exact ⟨hn, r, f.tr (RF.i u h c o k v hc), sp, p, (q 3).trans e3, (q 4).trans e4, lp, (q 6).trans e6, fun z => (q 7).trans (e7 z), fun z => (q 8).trans (e8 z)⟩
theorem PS.a (s : PS u n h0 h l) {c o k i : Nat} {v : Int32} (hc : c = 1 ∨ (c = 5 ∧ o = u) ∨ (c = 0 ∧ o = u)) : PS u n h0 (sA h c o k i v) l := by
  obtain ⟨hn, r, f, sp, p, e3, e4, lp, e6, e7, e8⟩ := s
  have q : ∀ j, gA (sA h c o k i v) 4 0 j = gA h 4 0 j := fun j => by rw [GA, if_neg (by omega)]
  exact ⟨hn, r, f.tr (RF.a u h c o k i v hc), by rw [q]; exact sp, p, e3, e4, by rw [q]; exact lp, e6, e7, e8⟩
theorem nI_self (x : Int32) (y : 0 ≤ x) : x = nI x.toNatClampNeg := (i32_of_nn y).1
/-- a number of at most m taken -/
def numP (m : Nat) (l : List Int32) : Option (Nat × List Int32) := if (tkK l).1 = 2 ∧ (tkK l).2.1 = nI (tkK l).2.1.toNatClampNeg ∧ (tkK l).2.1.toNatClampNeg ≤ m then some ((tkK l).2.1.toNatClampNeg, (tkK l).2.2.2) else none
theorem numP_e {m v : Nat} {l' : List Int32} (e : numP m l = some (v, l')) : (tkK l).1 = 2 ∧ (tkK l).2.1 = nI v ∧ v ≤ m ∧ (tkK l).2.2.2 = l' := by
  unfold numP at e
  by_cases z : (tkK l).1 = 2 ∧ (tkK l).2.1 = nI (tkK l).2.1.toNatClampNeg ∧ (tkK l).2.1.toNatClampNeg ≤ m
  · rw [if_pos z] at e
    have e := Option.some.inj e
    have e1 := congrArg Prod.fst e
    have e2 := congrArg Prod.snd e
    exact ⟨z.1, z.2.1.trans (congrArg nI e1), Nat.le_trans (Nat.le_of_eq e1.symm) z.2.2, e2⟩
  · rw [if_neg z] at e
    exact absurd e (by simp)
theorem PS.num (hN : 1000 ≤ N) (s : PS u n h0 h l) {m v : Nat} {l' : List Int32} (hm : m < 2 ^ 31) (e : numP m l = some (v, l')) : ∃ g, f_X1_takeNumber N h (nI m) = some (true, g) ∧ PS u n h0 g l' ∧ Kp u h g ∧ gI g 1 0 6 = nI v := by
  obtain ⟨e1, e2, e3, e4⟩ := numP_e e
  have r := s.2.1.1
  obtain ⟨h1, hh1⟩ : ∃ h1, h1 = sI h 1 0 6 (nI v) := ⟨_, rfl⟩
  have s1 : PS u n h0 h1 l := by rw [hh1]; exact s.i (Or.inl rfl)
  obtain ⟨g, a1, a2, a3, a4⟩ := s1.adv hN
  unfold f_X1_takeNumber
  simp only [r, onO_s, lt_e]
  rw [s.k6, if_pos e1, s.k7 e1, e2, if_pos (leN e3 hm), ← hh1, s1.2.1.1, onO_s, a1, bind_s]
  refine ⟨g, rfl, by rw [← e4]; exact a3, ?_, ?_⟩
  · refine Kp.tr ?_ a4
    rw [hh1]
    exact ⟨funext fun k => by rw [GI, if_neg (by omega)], rfl, by rw [GI, if_neg (by omega)], by rw [GI, if_neg (by omega)], by rw [GI, if_neg (by omega)], rfl⟩
  · rw [a2.2.2.1 1 0 6 (by omega), hh1, GI, if_pos ⟨rfl, rfl, rfl⟩]
end PSs
