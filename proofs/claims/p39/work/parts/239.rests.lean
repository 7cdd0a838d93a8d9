-- PURE: two who choose when to come: by the class
def coM (T : Txt) (S : Str) (a b n : Int32) : Bool := inC T a && inC T b && decide (¬ a = b) && decide (1 ≤ n ∧ n ≤ 99) && decide (S.2 11 < S.1 4 a.toNatClampNeg) && decide (S.2 11 < S.1 4 b.toNatClampNeg)
def cmS (S : Str) (a b x : Nat) : Str := upA (upA S 4 a (S.2 11 + nI (x / 4))) 4 b (S.2 11 + nI (x % 4))
def gnM (T : Txt) (S : Str) (a b n q x : Nat) : Int32 := (passN T (cmS S a b x) n).1 6 q
/-- neither would rather come otherwise, as far as i others are looked at -/
def rsM (A B : Nat → Int32) (x : Nat) : Nat → Bool
  | 0 => true
  | i + 1 => rsM A B x i && decide (¬ A x < A (i * 4 + x % 4)) && decide (¬ B x < B (x / 4 * 4 + i))
def rcM (A B : Nat → Int32) : Nat → Nat
  | 0 => 0
  | x + 1 => if rsM A B x 4 = true then rcM A B x + 1 else rcM A B x
def rkM (A B : Nat → Int32) (k : Int32) : Nat → Nat → Int32
  | 0, _ => -2
  | n + 1, x => if rsM A B x 4 = true ∧ nI (rcM A B x) = k then nI (10 * (x / 4) + x % 4) else rkM A B k n (x + 1)
theorem rsM_s (A B : Nat → Int32) (x i : Nat) : rsM A B x (i + 1) = (rsM A B x i && decide (¬ A x < A (i * 4 + x % 4)) && decide (¬ B x < B (x / 4 * 4 + i))) := rfl
/-- found so far not to be one: never one -/
theorem rsM_f (A B : Nat → Int32) (x : Nat) {i : Nat} (h : rsM A B x i = false) : ∀ n, rsM A B x (i + n) = false
  | 0 => h
  | n + 1 => by rw [show i + (n + 1) = (i + n) + 1 from rfl, rsM_s, rsM_f A B x h n, Bool.false_and, Bool.false_and]
section Rests
variable {N : Nat} {h : Hp} {t : Nat} {T : Txt} {S I : Str} {X : Xs}
theorem cl_mayCome (r : RC h t T S I X) (a b n : Int32) : f_X7_mayCome h a b n = some (coM T S a b n) := by
  obtain ⟨⟨-, k2, -, k4, hT, -⟩, ⟨-, q⟩, -⟩ := r
  have hc4 := hT.2.1.2
  unfold f_X7_mayCome coM
  rw [cl_isCroft k2 k4 a, bind_s, cl_isCroft k2 k4 b]
  simp only [jn_e, b2i0, bind_s, cl_isIn, decide_eq_false_iff_not]
  cases ha : inC T a with
  | false => rw [if_pos rfl]; rfl
  | true =>
    rw [if_neg (fun q => Bool.noConfusion q)]
    cases hb : inC T b with
    | false => rw [if_pos rfl]; rfl
    | true =>
      rw [if_neg (fun q => Bool.noConfusion q)]
      obtain ⟨i, hi, rfl⟩ := inC_of hT ha
      obtain ⟨j, hj, rfl⟩ := inC_of hT hb
      have qi : gA h 3 1 4 i = S.1 4 i := (q.2.1 i hi).2.2.1
      have qj : gA h 3 1 4 j = S.1 4 j := (q.2.1 j hj).2.2.1
      have qh : gI h 3 1 11 = S.2 11 := q.2.2.2 11 (by omega) (by omega)
      simp only [clN (show i < 2 ^ 31 by omega), clN (show j < 2 ^ 31 by omega), grd_p (inb_n (show i < 4 by omega) (show 4 < 2 ^ 31 by omega)), grd_p (inb_n (show j < 4 by omega) (show 4 < 2 ^ 31 by omega)), qi, qj, qh]
      by_cases z : nI i = nI j
      · simp [z]
      by_cases u : 1 ≤ n ∧ n ≤ 99
      rotate_left
      · simp [z, u]
      by_cases y : S.1 4 i ≤ S.2 11
      · simp [z, u, y, Int32.not_lt.mpr y]
      have y' := Int32.not_le.mp y
      by_cases w : S.1 4 j ≤ S.2 11
      · simp [z, u, y, y', w, Int32.not_lt.mpr w]
      · have w' := Int32.not_le.mp w
        simp [z, u, y, y', w, w']
theorem cl_workOut (hN : 1000 ≤ N) (s : Sd h 1 t T S) (hz : S.2 16 = 1) {a b n : Nat} (ha : a < nCr T) (hb : b < nCr T) (hn : n ≤ 99) : ∃ g, f_X7_workOutComing N h (nI a) (nI b) (nI n) = some g ∧ Fr h g ∧ (∀ x, x < 16 → gA g 7 0 2 x = gnM T S a b n a x) ∧ ∀ x, x < 16 → gA g 7 0 3 x = gnM T S a b n b x := by
  have hT := s.2.2.2.1
  have hc4 := hT.2.1.2
  unfold f_X7_workOutComing
  rw [grd_p (show inb 0 7 by decide), lt_e]
  refine iter_inv (bot := fun _ _ => none) (b := f_X7_workOutComing_11 N (nI a) (nI b) (nI n) (3 + (0 : Int32).toNatClampNeg)) (fun m r => ∀ x g, x ≤ 16 → 16 < m + x → Fr h g → Sd g 1 t T S → (∀ y, y < x → gA g 7 0 2 y = gnM T S a b n a y ∧ gA g 7 0 3 y = gnM T S a b n b y) → ∃ g', r (nI x) g = some g' ∧ Fr h g' ∧ (∀ x, x < 16 → gA g' 7 0 2 x = gnM T S a b n a x) ∧ ∀ x, x < 16 → gA g' 7 0 3 x = gnM T S a b n b x) (fun x _ _ _ => by omega) (fun m r ih x g hx hm f s1 w => ?_) N 0 h (by omega) (by omega) (Fr.rf h) s (fun y hy => absurd hy (Nat.not_lt_zero _))
  unfold f_X7_workOutComing_11
  by_cases z : x = 16
  · subst z
    rw [if_pos (show (16 : Int32) ≤ nI 16 by decide)]
    exact ⟨g, rfl, f, fun y hy => (w y hy).1, fun y hy => (w y hy).2⟩
  · rw [if_neg (show ¬ (16 : Int32) ≤ nI x from nleN (a := 16) (show x < 16 by omega) (by omega))]
    obtain ⟨g1, e1, c1, d1⟩ := s1.copyC (o := 3) (by decide) hz (by decide)
    have e1' : f_X3_copy g (3 + (0 : Int32).toNatClampNeg) 1 = some g1 := e1
    have n1 := c1.2.1 1 S (by decide) s1
    have h11 : gI g1 3 1 11 = S.2 11 := n1.2.2.2.2.2.2.2 11 (by omega) (by omega)
    obtain ⟨f2, d2⟩ := d1.row 4 a (S.2 11 + nI (x / 4))
    have h11' : gI (sA g1 3 3 4 a (S.2 11 + nI (x / 4))) 3 1 11 = S.2 11 := h11
    obtain ⟨f3, d3⟩ := d2.row 4 b (S.2 11 + nI (x % 4))
    obtain ⟨g4, e4, f4, d4⟩ := d3.pass hN (n := n) (by omega)
    have e4' : f_X3_passHours N (sA (sA g1 3 3 4 a (S.2 11 + nI (x / 4))) 3 3 4 b (S.2 11 + nI (x % 4))) (3 + (0 : Int32).toNatClampNeg) (nI n) = some g4 := e4
    have cc := ((c1.tr (f2.ch (by decide))).tr (f3.ch (by decide))).tr (f4.ch (by decide))
    have q4 : nI x / 4 = nI (x / 4) := nI_div (b := 4) (by omega) (by omega)
    have m4 : nI x - nI x / 4 * 4 = nI (x % 4) := nI_mod (b := 4) (by omega) (by omega)
    rw [q4] at m4
    have ga : ∀ q, q < nCr T → gA g4 3 (3 + (0 : Int32).toNatClampNeg) 6 q = gnM T S a b n q x := fun q hq => (d4.2.2.2.2.2.1 q hq).2.2.2.2.1
    have gb : gA (sA g4 7 0 2 x (gnM T S a b n a x)) 3 (3 + (0 : Int32).toNatClampNeg) 6 b = gnM T S a b n b x := by
      rw [(W7.a g4 2 x _).2 3 _ 6 (by decide)]; exact ga b hb
    have e23 : ∀ k v i, sA g1 3 (3 + (0 : Int32).toNatClampNeg) k i v = sA g1 3 3 k i v := fun k v i => rfl
    have h11s : gI (sA g1 3 (3 + (0 : Int32).toNatClampNeg) 4 a (S.2 11 + nI (x / 4))) 3 1 11 = S.2 11 := h11
    have e4s : f_X3_passHours N (sA (sA g1 3 (3 + (0 : Int32).toNatClampNeg) 4 a (S.2 11 + nI (x / 4))) 3 (3 + (0 : Int32).toNatClampNeg) 4 b (S.2 11 + nI (x % 4))) (3 + (0 : Int32).toNatClampNeg) (nI n) = some g4 := e4
    simp only [e1', bind_s, lt_e, q4, m4, h11, clN (show a < 2 ^ 31 by omega), clN (show b < 2 ^ 31 by omega), clN (show x < 2 ^ 31 by omega), grd_p (inb_n (show a < 4 by omega) (show 4 < 2 ^ 31 by omega)), grd_p (inb_n (show b < 4 by omega) (show 4 < 2 ^ 31 by omega)), grd_p (inb_n (show x < 16 by omega) (show 16 < 2 ^ 31 by omega)), h11s, e4s, ga a ha, gb, nI_1]
    refine ih (x + 1) _ (by omega) (by omega) ((f.tr cc.1).tr ((W7.a g4 2 x _).tr (W7.a _ 3 x _)).fr) (((W7.a g4 2 x _).tr (W7.a _ 3 x _)).sd (cc.2.1 1 S (by decide) s1)) (fun y hy => ?_)
    refine ⟨?_, ?_⟩
    · rw [A7_at, if_neg (fun q => absurd q.1 (by decide)), A7_at, cc.2.2 2]
      by_cases v : y = x
      · rw [if_pos ⟨rfl, v⟩, v]
      · rw [if_neg (fun q => v q.2)]; exact (w y (by omega)).1
    · rw [A7_at]
      by_cases v : y = x
      · rw [if_pos ⟨rfl, v⟩, v]
      · rw [if_neg (fun q => v q.2), A7_at, if_neg (fun q => absurd q.1 (show ¬ 3 = 2 by decide)), cc.2.2 3]; exact (w y (by omega)).2
theorem cl_isRest (hN : 1000 ≤ N) (h : Hp) {x : Nat} (hx : x < 16) : f_X7_isRest N h (nI x) = some (rsM (gA h 7 0 2) (gA h 7 0 3) x 4) := by
  have q4 : nI x / 4 = nI (x / 4) := nI_div (b := 4) (by omega) (by omega)
  have m4 : nI x - nI x / 4 * 4 = nI (x % 4) := nI_mod (b := 4) (by omega) (by omega)
  unfold f_X7_isRest
  rw [lt_e, lt_e, m4, q4]
  refine iter_inv (bot := fun _ => none) (b := f_X7_isRest_11 h (nI x) (nI (x / 4)) (nI (x % 4))) (fun m r => ∀ i, i ≤ 4 → 4 < m + i → rsM (gA h 7 0 2) (gA h 7 0 3) x i = true → r (nI i) = some (rsM (gA h 7 0 2) (gA h 7 0 3) x 4)) (fun x _ _ => by omega) (fun m r ih i hi hm w => ?_) N 0 (by omega) (by omega) rfl
  unfold f_X7_isRest_11
  by_cases z : i = 4
  · subst z
    rw [if_pos (show (4 : Int32) ≤ nI 4 by decide), w]
  · rw [if_neg (show ¬ (4 : Int32) ≤ nI i from nleN (a := 4) (show i < 4 by omega) (by omega))]
    have e1 : nI i * 4 + nI (x % 4) = nI (i * 4 + x % 4) := by rw [show (4 : Int32) = nI 4 from rfl, nI_mulN, nI_add]
    have e2 : nI (x / 4) * 4 + nI i = nI (x / 4 * 4 + i) := by rw [show (4 : Int32) = nI 4 from rfl, nI_mulN, nI_add]
    simp only [jn_e, lt_e, e1, e2, grd_p (inb_n (show i * 4 + x % 4 < 16 by omega) (show 16 < 2 ^ 31 by omega)), grd_p (inb_n (show x / 4 * 4 + i < 16 by omega) (show 16 < 2 ^ 31 by omega)), grd_p (inb_n hx (show 16 < 2 ^ 31 by omega)), clN (show x < 2 ^ 31 by omega), clN (show i * 4 + x % 4 < 2 ^ 31 by omega), clN (show x / 4 * 4 + i < 2 ^ 31 by omega), nI_1]
    have no : rsM (gA h 7 0 2) (gA h 7 0 3) x (i + 1) = false → rsM (gA h 7 0 2) (gA h 7 0 3) x 4 = false := fun q => by
      have := rsM_f _ _ x q (4 - (i + 1))
      rw [show i + 1 + (4 - (i + 1)) = 4 by omega] at this
      exact this
    rw [rsM_s, w, Bool.true_and] at no
    by_cases y : gA h 7 0 2 x < gA h 7 0 2 (i * 4 + x % 4)
    · rw [if_pos y, no (by rw [decide_eq_false (fun q => q y), Bool.false_and])]
    · rw [if_neg y]
      by_cases v : gA h 7 0 3 (x / 4 * 4 + i) ≤ gA h 7 0 3 x
      · rw [if_pos v]
        refine ih (i + 1) (by omega) (by omega) ?_
        rw [rsM_s, w, decide_eq_true y, decide_eq_true (Int32.not_lt.mpr v)]; rfl
      · rw [if_neg v, no (by rw [decide_eq_true y, decide_eq_false (fun q => q (Int32.not_le.mp v)), Bool.true_and])]
end Rests

