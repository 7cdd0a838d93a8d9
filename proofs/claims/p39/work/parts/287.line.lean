-- PURE: lines read by both
def LdW (z : Nat) (cA ra : Nat → Nat → Int32) (k : Nat) : Prop := (ra 13 (4 + k) = 0 ∧ cA 2 k = 0 ∧ cA 3 k = 0) ∨ (ra 13 (4 + k) = 1 ∧ ∃ a b : Nat, a < b ∧ b ≤ z ∧ cA 2 k = nI a ∧ cA 3 k = nI b ∧ ra 14 (4 + k) = nI a ∧ ra 15 (4 + k) = nI b ∧ ∃ st : Nat → List Nat, st a = [] ∧ (∀ i, a ≤ i → i < b → STP (cA 0 i) (cA 1 i) (ra 16 (64 + i)) (ra 17 (64 + i)) (ra 18 (64 + i)) i (st i) (st (i + 1))) ∧ st b = [b - 1])
def LDd (cA : Nat → Nat → Int32) (c6 c10 r21 r44 : Int32) (ra : Nat → Nat → Int32) : Prop := ∃ z : Nat, z ≤ 64 ∧ c6 = nI z ∧ c10 = nI z ∧ r21 = nI z ∧ r44 = nI z ∧ ∀ k, k < 4 → LdW z cA ra k
theorem MF.w (g : Hp) {k i w : Nat} (v : Int32) (hw : hfT k = w) (hk : 3 ≤ k ∧ k ≤ 18) (hi : w ≤ i) : MF g (sA g 8 0 k i v) := MF.a g k i v (Or.inr (Or.inr (Or.inr ⟨hk.1, hk.2, by rw [hw]; exact hi⟩)))
/-- laws' cells left as they are -/
def KWL (u : Nat) (h h' : Hp) : Prop := gA h' 0 u = gA h 0 u ∧ gI h' 0 u 6 = gI h 0 u 6 ∧ gI h' 1 0 10 = gI h 1 0 10
def KWG (g g' : Hp) : Prop := gI g' 8 0 21 = gI g 8 0 21 ∧ gI g' 8 0 44 = gI g 8 0 44 ∧ ∀ k, 13 ≤ k → k ≤ 18 → gA g' 8 0 k = gA g 8 0 k
theorem KWL.tr {u : Nat} {h h' h'' : Hp} (a : KWL u h h') (b : KWL u h' h'') : KWL u h h'' := ⟨b.1.trans a.1, b.2.1.trans a.2.1, b.2.2.trans a.2.2⟩
theorem KWG.tr {g g' g'' : Hp} (a : KWG g g') (b : KWG g' g'') : KWG g g'' := ⟨b.1.trans a.1, b.2.1.trans a.2.1, fun k x y => (b.2.2 k x y).trans (a.2.2 k x y)⟩
theorem LF.kl {h h' : Hp} (u : Nat) (f : LF h h') : KWL u h h' := ⟨funext fun k => f.2.2.2 0 u k, f.2.2.1 0 u 6 (by omega) (by omega), f.2.2.1 1 0 10 (by omega) (by omega)⟩
theorem LG.kg {g g' : Hp} (f : LG g g') : KWG g g' := ⟨f.2.1 21 (by omega) (by omega) (by omega), f.2.1 44 (by omega) (by omega) (by omega), fun k _ _ => f.2.2.2 k⟩
theorem KWL.a (u : Nat) (h : Hp) (k i : Nat) (v : Int32) : KWL u h (sA h 5 u k i v) := ⟨rfl, rfl, rfl⟩
theorem KWL.i (u : Nat) (h : Hp) (k : Nat) (v : Int32) : KWL u h (sI h 5 u k v) := ⟨rfl, rfl, rfl⟩
theorem KWG.a (g : Hp) (k i : Nat) (v : Int32) (hk : k ≤ 12) : KWG g (sA g 8 0 k i v) := ⟨rfl, rfl, fun j _ _ => by rw [GA, if_neg (by omega)]⟩
theorem KWG.i (g : Hp) (k : Nat) (v : Int32) (hk : k ≤ 20) : KWG g (sI g 8 0 k v) := ⟨by rw [I_at, if_neg (by omega)], by rw [I_at, if_neg (by omega)], fun _ _ _ => rfl⟩
def REF (u : Nat) (h : Hp) : Prop := gO h 1 0 2 = some 0 ∧ gO h 1 0 3 = some u
/-- reading, between two lines -/
def RD (u n : Nat) (h g : Hp) (p : Nat) : Prop := LX n h g p ∧ REF u h ∧ FT h g ∧ TDd (gI h 5 u) (gA h 5 u) (gI g 8 0) (gA g 8 0) (gI h 1 0 7) ∧ LDd (gA h 0 u) (gI h 0 u 6) (gI h 1 0 10) (gI g 8 0 21) (gI g 8 0 44) (gA g 8 0)
def POut (u n : Nat) (h g : Hp) (p : Nat) (A B : Option (Bool × Hp)) : Prop := ∃ b h' g', A = some (b, h') ∧ B = some (b, g') ∧ RF u h h' ∧ MF g g' ∧ FT h' g' ∧ gI h' 5 u 10 = gI h 5 u 10 ∧ (b = true → ∃ p', p < p' ∧ RD u n h' g' p')
theorem REF.up {u : Nat} {h h' : Hp} (r : REF u h) (f : RF u h h') : REF u h' := ⟨(f.2.1 1 0 2 (by decide)).trans r.1, (f.2.1 1 0 3 (by decide)).trans r.2⟩
/-- laws' cells left as they are -/
theorem LDd.cg {cA cA' ra ra' : Nat → Nat → Int32} {c6 c10 r21 r44 c6' c10' r21' r44' : Int32} (l : LDd cA c6 c10 r21 r44 ra) (a : cA' = cA) (b : c6' = c6) (c : c10' = c10) (d : r21' = r21) (e : r44' = r44) (f : ∀ k, 13 ≤ k → k ≤ 18 → ra' k = ra k) : LDd cA' c6' c10' r21' r44' ra' := by
  subst a b c d e
  obtain ⟨z, l1, l2, l3, l4, l5, l6⟩ := l
  refine ⟨z, l1, l2, l3, l4, l5, fun k hk => ?_⟩
  unfold LdW
  rw [f 13 (by omega) (by omega), f 14 (by omega) (by omega), f 15 (by omega) (by omega), f 16 (by omega) (by omega), f 17 (by omega) (by omega), f 18 (by omega) (by omega)]
  exact l6 k hk
theorem LDd.kl {u : Nat} {h h' g g' : Hp} (l : LDd (gA h 0 u) (gI h 0 u 6) (gI h 1 0 10) (gI g 8 0 21) (gI g 8 0 44) (gA g 8 0)) (a : KWL u h h') (b : KWG g g') : LDd (gA h' 0 u) (gI h' 0 u 6) (gI h' 1 0 10) (gI g' 8 0 21) (gI g' 8 0 44) (gA g' 8 0) := l.cg a.1 a.2.1 a.2.2 b.1 b.2.1 b.2.2
section Line
variable {N : Nat} {h g : Hp} {n p u : Nat}
theorem POut.no {h' g' : Hp} (f : RF u h h') (e : MF g g') (t : FT h' g') (x : gI h' 5 u 10 = gI h 5 u 10) : POut u n h g p (some (false, h')) (some (false, g')) := ⟨false, h', g', rfl, rfl, f, e, t, x, fun q => Bool.noConfusion q⟩
theorem fail2 {h1 g1 : Hp} (f : RF u h h1) (e : MF g g1) (x : gI h1 5 u 10 = gI h 5 u 10) (r : REF u h1) (a : gI h1 4 0 5 = gI g1 8 0 10) (w : Int32) : POut u n h g p (bd2 (f_X1_fails h1 w) fun v4 h3 => some (v4, h3)) (bd2 (f_X8_wrong g1 w) fun v4 h3 => some (v4, h3)) := by
  rw [cl_fails r.1, m_wrong, bd2_s, bd2_s]
  refine POut.no (f.tr ((LF.fail h1 w _).rfr u)) (e.tr (LG.fail g1 w _).mf) (ft_fail w a) (Eq.trans ?_ x)
  exact ((LF.fail h1 w _).2.2.1 5 u 10 (by omega) (by omega))
theorem step_num (hN : 1000 ≤ N) {h1 g1 : Hp} {q : Nat} (l : LX n h1 g1 q) (r : gO h1 1 0 2 = some 0) (ft : FT h1 g1) (most : Nat) (hm : most ≤ 99999) {Q : Option (Bool × Hp) → Option (Bool × Hp) → Prop} {A' B' : Hp → Option (Bool × Hp)} (yes : ∀ v p' h' g', v ≤ most → LF h1 h' → LG g1 g' → FT h' g' → LX n h' g' p' → q ≤ p' → (¬ gI h' 4 0 6 = 0 → q < p') → gI h' 1 0 6 = nI v → gI g' 8 0 11 = nI v → gI h1 4 0 6 = 2 → gI h1 4 0 7 = nI v → Q (A' h') (B' g')) (no : ∀ h' g', LF h1 h' → LG g1 g' → FT h' g' → Q (some (false, h')) (some (false, g'))) : Q (bd2 (f_X1_takeNumber N h1 (nI most)) fun v h3 => if ¬ b2i v = 0 then A' h3 else some (false, h3)) (bd2 (f_X8_number N g1 0 (nI most)) fun v h3 => if ¬ b2i v = 0 then B' h3 else some (false, h3)) := by
  obtain ⟨b, h', g', c1, c2, c3, c4, c5, c6⟩ := take_num hN l r ft hm
  rw [c1, c2, bd2_s, bd2_s]
  cases b with
  | false =>
    rw [if_neg (fun q => q (show b2i false = 0 from rfl)), if_neg (fun q => q (show b2i false = 0 from rfl))]
    exact no h' g' c3 c4 c5
  | true =>
    rw [if_pos (show ¬ b2i true = 0 by decide), if_pos (show ¬ b2i true = 0 by decide)]
    obtain ⟨v, p', d1, d2, d3, d4, d5, d6, d7, d8⟩ := c6 rfl
    exact yes v p' h' g' d1 c3 c4 c5 d4 d5 d6 d2 d3 d7 d8
theorem LF.fa {h h' : Hp} (f : LF h h') (c o : Nat) : gA h' c o = gA h c o := funext fun k => f.2.2.2 c o k
theorem LF.f5 {h h' : Hp} (f : LF h h') (u : Nat) : gI h' 5 u = gI h 5 u := funext fun k => f.2.2.1 5 u k (by omega) (by omega)
theorem LG.fa {g g' : Hp} (f : LG g g') : gA g' 8 0 = gA g 8 0 := funext fun k => f.2.2.2 k
end Line

