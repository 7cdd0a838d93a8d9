-- PURE: an hour's run with one thing otherwise
def ot0 (S : Str) (what : Int32) (c : Nat) : Str := if what = 0 then upI S 16 0 else if what = 1 then upA S 4 c 2147483647 else if what = 4 then upI S 12 0 else S
def otL (S : Str) (what : Int32) : Nat → Str
  | 0 => S
  | j + 1 => upA (upA (otL S what j) 2 j ((otL S what j).1 2 j + (if what = 2 then 1 else 0))) 3 j (if what = 3 then 0 else (otL S what j).1 3 j)
def otM (T : Txt) (S : Str) (what : Int32) (c : Nat) : Str := otL (ot0 S what c) what (nCr T)
def triM (T : Txt) (S : Str) (what : Int32) (c n : Nat) : Int32 := sumM ((passN T (otM T S what c) n).1 6) (nCr T) - sumM (S.1 6) (nCr T)
def trOK (T : Txt) (what c : Int32) : Bool := if what = 1 then inC T c else decide ((0 ≤ what ∧ what ≤ 4) ∧ c = 0)
def tri (T : Txt) (S : Str) (what c n : Int32) : Int32 := if trOK T what c = true ∧ 0 ≤ n ∧ n ≤ 99 then triM T S what c.toNatClampNeg n.toNatClampNeg else -1
section Tried
variable {N : Nat} {h g : Hp} {t o : Nat} {T : Txt} {S I : Str} {X : Xs}
theorem cl_tryOut (hN : 1000 ≤ N) (s : Sd g o t T S) (what : Int32) {c : Nat} (hc : c < 4) : ∃ g', f_X3_tryOut N g o what (nI c) = some g' ∧ Fo o g g' ∧ Sd g' o t T (otM T S what c) := by
  have hc4 := s.2.2.2.1.2.1.2
  have loop : ∀ g1, Fo o g g1 → Sd g1 o t T (ot0 S what c) → ∃ g', iter (fun _ _ => none) (f_X3_tryOut_40 o what) N 0 g1 = some g' ∧ Fo o g g' ∧ Sd g' o t T (otM T S what c) := by
    intro g1 f1 d1
    refine iter_inv (bot := fun _ _ => none) (b := f_X3_tryOut_40 o what) (fun m r => ∀ j g2, j ≤ nCr T → nCr T < m + j → Fo o g g2 → Sd g2 o t T (otL (ot0 S what c) what j) → ∃ g', r (nI j) g2 = some g' ∧ Fo o g g' ∧ Sd g' o t T (otM T S what c)) (fun j _ _ _ => by omega) (fun m r ih j g2 hj hm f d => ?_) N 0 g1 (by omega) (by omega) f1 d1
    have e10 := d.1
    have e12 : gI g2 5 t 12 = nI (nCr T) := by rw [← d.2.2.2.1.2.1.1, ← d.2.1]; rfl
    unfold f_X3_tryOut_40
    rw [e10, onO_s, e12]
    by_cases z : nCr T = j
    · subst z
      rw [if_pos (leN (Nat.le_refl _) (by omega))]
      exact ⟨g2, rfl, f, d⟩
    · rw [if_neg (nleN (show j < nCr T by omega) (show nCr T < 2 ^ 31 by omega))]
      have a2 : gA g2 3 o 2 j = (otL (ot0 S what c) what j).1 2 j := (d.2.2.2.2.2.1 j (by omega)).1
      obtain ⟨f3, d3⟩ := d.row 2 j ((otL (ot0 S what c) what j).1 2 j + (if what = 2 then 1 else 0))
      have a3 : gA (sA g2 3 o 2 j ((otL (ot0 S what c) what j).1 2 j + (if what = 2 then 1 else 0))) 3 o 3 j = (otL (ot0 S what c) what j).1 3 j := (d3.2.2.2.2.2.1 j (by omega)).2.1
      obtain ⟨f4, d4⟩ := d3.row 3 j (if what = 3 then 0 else (otL (ot0 S what c) what j).1 3 j)
      have nx := ih (j + 1) _ (by omega) (by omega) (f.tr (f3.tr f4)) d4
      simp only [jn_e, lt_e, grd_p (inb_n (show j < 4 by omega) (show 4 < 2 ^ 31 by omega)), clN (show j < 2 ^ 31 by omega), nI_1, a2]
      have k2 : ∀ x : Int32, (if ¬ what = 2 then x + b2i false else x + b2i true) = x + (if what = 2 then 1 else 0) := fun x => by
        by_cases y : what = 2
        · rw [if_neg (fun q => q y), if_pos y]; rfl
        · rw [if_pos y, if_neg y]; rfl
      have step : ∀ v : Int32, v = (otL (ot0 S what c) what j).1 2 j + (if what = 2 then 1 else 0) → ∃ g', (if ¬ what = 3 then r (nI (j + 1)) (sA (sA g2 3 o 2 j v) 3 o 3 j (gA (sA g2 3 o 2 j v) 3 o 3 j)) else r (nI (j + 1)) (sA (sA g2 3 o 2 j v) 3 o 3 j 0)) = some g' ∧ Fo o g g' ∧ Sd g' o t T (otM T S what c) := by
        intro v hv
        subst hv
        rw [a3]
        by_cases y : what = 3
        · rw [if_neg (fun q => q y)]
          rw [if_pos y] at nx
          exact nx
        · rw [if_pos y]
          rw [if_neg y] at nx
          exact nx
      by_cases y : what = 2
      · rw [if_neg (fun q => q y)]
        exact step _ (by rw [if_pos y]; rfl)
      · rw [if_pos y]
        exact step _ (by rw [if_neg y]; rfl)
  unfold f_X3_tryOut
  simp only [jn_e, lt_e, grd_p (inb_n hc (show 4 < 2 ^ 31 by omega)), clN (show c < 2 ^ 31 by omega)]
  unfold ot0 at loop
  by_cases q0 : what = 0
  · rw [if_neg (fun q => q q0)]
    obtain ⟨f, d⟩ := s.num 16 0
    exact loop _ f (by rw [if_pos q0]; exact d)
  rw [if_pos q0]
  by_cases q1 : what = 1
  · rw [if_neg (fun q => q q1)]
    obtain ⟨f, d⟩ := s.row 4 c 2147483647
    exact loop _ f (by rw [if_neg q0, if_pos q1]; exact d)
  rw [if_pos q1]
  by_cases q4 : what = 4
  · rw [if_neg (fun q => q q4)]
    obtain ⟨f, d⟩ := s.num 12 0
    exact loop _ f (by rw [if_neg q0, if_neg q1, if_pos q4]; exact d)
  rw [if_pos q4]
  exact loop _ (Fo.rf o g) (by rw [if_neg q0, if_neg q1, if_neg q4]; exact s)
theorem cl_tried (hN : 1000 ≤ N) (r : RC h t T S I X) (hz : S.2 16 = 1) (what c n : Int32) : ∃ g, f_X7_tried N h what c n = some (tri T S what c n, g) ∧ Fr h g := by
  have hT := r.1.2.2.2.2.1
  have hc4 := hT.2.1.2
  have key : ∀ i : Nat, i < 4 → (∃ g, (f_X7_isIn n 0 99).bind (fun v2 => if ¬ (b2i v2) = 0 then grd (inb 0 7) <| lt_ (3 + (0 : Int32).toNatClampNeg) fun o3 => (f_X3_copy h o3 1).bind fun h4 => (f_X3_tryOut N h4 o3 what (nI i)).bind fun h5 => (f_X3_passHours N h5 o3 n).bind fun h6 => (f_X3_allGains N h6 o3).bind fun v7 => (f_X3_allGains N h6 1).bind fun v8 => some ((v7 - v8), h6) else some ((-1), h)) = some (if 0 ≤ n ∧ n ≤ 99 then triM T S what i n.toNatClampNeg else -1, g) ∧ Fr h g) := by
    intro i hi
    rw [cl_isIn, bind_s]
    by_cases w : 0 ≤ n ∧ n ≤ 99
    · rw [if_pos w, if_pos (show ¬ b2i (decide (0 ≤ n ∧ n ≤ 99)) = 0 by rw [nb2i0, decide_eq_true w])]
      obtain ⟨k, hk, rfl⟩ := rngN (a := n) (m := 99) (by omega) w.1 w.2
      obtain ⟨g1, e1, f1, d1, k1⟩ := r.sd.copy (o := 3) (by decide) (Or.inr hz) (by decide)
      have n1 := k1 1 (by decide) S r.sd
      obtain ⟨g2, e2, f2, d2⟩ := cl_tryOut hN d1 what hi
      obtain ⟨g3, e3, f3, d3⟩ := d2.pass hN (n := k) (by omega)
      have n3 := (f2.tr f3).sd (p := 1) (by decide) n1
      have e1' : f_X3_copy h (3 + (0 : Int32).toNatClampNeg) 1 = some g1 := e1
      have e2' : f_X3_tryOut N g1 (3 + (0 : Int32).toNatClampNeg) what (nI i) = some g2 := e2
      have e3' : f_X3_passHours N g2 (3 + (0 : Int32).toNatClampNeg) (nI k) = some g3 := e3
      have e4' : f_X3_allGains N g3 (3 + (0 : Int32).toNatClampNeg) = some _ := d3.gains hN
      rw [grd_p (show inb 0 7 by decide), lt_e, e1', bind_s, e2', bind_s, e3', bind_s, e4', bind_s, n3.gains hN, bind_s, clN (show k < 2 ^ 31 by omega)]
      exact ⟨g3, rfl, f1.tr ((f2.tr f3).fr (by decide))⟩
    · rw [if_neg w, if_neg (show ¬ ¬ b2i (decide (0 ≤ n ∧ n ≤ 99)) = 0 by rw [nb2i0, decide_eq_false w]; decide)]
      exact ⟨h, rfl, Fr.rf h⟩
  unfold f_X7_tried tri
  simp only [jn_e]
  by_cases q1 : what = 1
  · rw [if_neg (fun q => q q1), cl_isCroft r.1.2.1 r.1.2.2.2.1 c, bind_s, show trOK T what c = inC T c from if_pos q1]
    cases hc : inC T c with
    | false =>
      rw [if_pos (show b2i false = 0 from rfl), if_neg (fun q => Bool.noConfusion q.1)]
      exact ⟨h, rfl, Fr.rf h⟩
    | true =>
      obtain ⟨i, hi, rfl⟩ := inC_of hT hc
      rw [if_neg (show ¬ b2i true = 0 by decide), clN (show i < 2 ^ 31 by omega)]
      obtain ⟨g, e, f⟩ := key i (by omega)
      refine ⟨g, e.trans ?_, f⟩
      by_cases w : 0 ≤ n ∧ n ≤ 99
      · rw [if_pos w, if_pos ⟨rfl, w⟩]
      · rw [if_neg w, if_neg (fun q => w q.2)]
  · rw [if_pos q1, cl_isIn, bind_s, show trOK T what c = decide ((0 ≤ what ∧ what ≤ 4) ∧ c = 0) from if_neg q1]
    by_cases y : 0 ≤ what ∧ what ≤ 4
    rotate_left
    · rw [if_pos (show b2i (decide (0 ≤ what ∧ what ≤ 4)) = 0 by rw [b2i0, decide_eq_false y]), if_pos (show b2i false = 0 from rfl), if_neg (fun q => y (of_decide_eq_true q.1).1)]
      exact ⟨h, rfl, Fr.rf h⟩
    rw [if_neg (show ¬ b2i (decide (0 ≤ what ∧ what ≤ 4)) = 0 by rw [nb2i0, decide_eq_true y])]
    by_cases x : c = 0
    rotate_left
    · rw [if_pos x, if_pos (show b2i false = 0 from rfl), if_neg (fun q => x (of_decide_eq_true q.1).2)]
      exact ⟨h, rfl, Fr.rf h⟩
    rw [if_neg (fun q => q x), if_neg (show ¬ b2i true = 0 by decide)]
    subst x
    obtain ⟨g, e, f⟩ := key 0 (by omega)
    refine ⟨g, e.trans ?_, f⟩
    by_cases w : 0 ≤ n ∧ n ≤ 99
    · rw [if_pos w, if_pos ⟨decide_eq_true ⟨y, rfl⟩, w⟩]; rfl
    · rw [if_neg w, if_neg (fun q => w q.2)]
end Tried

