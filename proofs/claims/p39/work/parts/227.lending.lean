-- PURE: lending
def lndM (T : Txt) (S : Str) (a b n : Nat) (what : Int32) : Int32 :=
  let less := mx0 ((passN T S n).1 6 a - (passN T (mvM S a b) n).1 6 a)
  let more := mx0 ((passN T (mvM S a b) n).1 6 b - (passN T S n).1 6 b)
  if what = 2 then (if more ≤ less then -2 else less + 1) else if what = 0 then less else more
def lnd (T : Txt) (S : Str) (a b n what : Int32) : Int32 := if lenM T S a b = true ∧ (1 ≤ n ∧ n ≤ 99) ∧ 0 ≤ what ∧ what ≤ 2 then lndM T S a.toNatClampNeg b.toNatClampNeg n.toNatClampNeg what else -1
theorem ite_pr {α β : Type} (p : Prop) [Decidable p] (x y : α) (g : β) : (if p then some (x, g) else some (y, g)) = some (if p then x else y, g) := by
  by_cases z : p
  · rw [if_pos z, if_pos z]
  · rw [if_neg z, if_neg z]
section Lend
variable {N : Nat} {h g : Hp} {t : Nat} {T : Txt} {S I : Str} {X : Xs}
theorem Sd.move {o : Nat} (s : Sd g o t T S) {a b : Nat} (ha : a < nCr T) (hb : b < nCr T) : ∃ g', f_X3_moveCart g o (nI a) (nI b) = some g' ∧ Fo o g g' ∧ Sd g' o t T (mvM S a b) := by
  have hc4 := s.2.2.2.1.2.1.2
  have qa : gA g 3 o 2 a = S.1 2 a := (s.2.2.2.2.2.1 a ha).1
  obtain ⟨f1, d1⟩ := s.row 2 a (S.1 2 a - 1)
  have qb : gA (sA g 3 o 2 a (S.1 2 a - 1)) 3 o 2 b = (upA S 2 a (S.1 2 a - 1)).1 2 b := (d1.2.2.2.2.2.1 b hb).1
  obtain ⟨f2, d2⟩ := d1.row 2 b ((upA S 2 a (S.1 2 a - 1)).1 2 b + 1)
  refine ⟨_, ?_, f1.tr f2, d2⟩
  unfold f_X3_moveCart
  simp only [lt_e, clN (show a < 2 ^ 31 by omega), clN (show b < 2 ^ 31 by omega), grd_p (inb_n (show a < 4 by omega) (show 4 < 2 ^ 31 by omega)), grd_p (inb_n (show b < 4 by omega) (show 4 < 2 ^ 31 by omega)), qa, qb]
theorem lenM_of (hT : TOK T) {a b : Int32} (h : lenM T S a b = true) : ∃ i j, i < nCr T ∧ j < nCr T ∧ i ≠ j ∧ a = nI i ∧ b = nI j ∧ 0 < S.1 2 i ∧ S.1 2 j < 5 := by
  unfold lenM at h
  simp only [Bool.and_eq_true, decide_eq_true_eq] at h
  obtain ⟨⟨⟨⟨h1, h2⟩, h3⟩, h4⟩, h5⟩ := h
  obtain ⟨i, hi, rfl⟩ := inC_of hT h1
  obtain ⟨j, hj, rfl⟩ := inC_of hT h2
  have hc4 := hT.2.1.2
  rw [clN (show i < 2 ^ 31 by omega)] at h4
  rw [clN (show j < 2 ^ 31 by omega)] at h5
  exact ⟨i, j, hi, hj, fun q => h3 (by rw [q]), rfl, rfl, h4, h5⟩
theorem cl_lending (hN : 1000 ≤ N) (r : RC h t T S I X) (hz : S.2 16 = 1) (a b n what : Int32) : ∃ g, f_X7_lending N h a b n what = some (lnd T S a b n what, g) ∧ Fr h g := by
  have hT := r.1.2.2.2.2.1
  have hc4 := hT.2.1.2
  unfold f_X7_lending lnd
  rw [cl_canLend r, bind_s]
  simp only [jn_e, lt_e, cl_isIn, bind_s, b2i0, decide_eq_false_iff_not, Classical.not_not]
  cases hl : lenM T S a b with
  | false => rw [if_pos rfl, if_neg (fun q => Bool.noConfusion q.1)]; exact ⟨h, rfl, Fr.rf h⟩
  | true =>
    rw [if_neg (fun q => Bool.noConfusion q)]
    by_cases w : 1 ≤ n ∧ n ≤ 99
    rotate_left
    · rw [if_pos w, if_neg (fun q => w q.2.1)]; exact ⟨h, rfl, Fr.rf h⟩
    rw [if_neg (fun q => q w)]
    by_cases y : 0 ≤ what ∧ what ≤ 2
    rotate_left
    · rw [if_neg y, if_neg (fun q => y q.2.2)]; exact ⟨h, rfl, Fr.rf h⟩
    rw [if_pos y, if_pos (show true = true ∧ (1 ≤ n ∧ n ≤ 99) ∧ 0 ≤ what ∧ what ≤ 2 from ⟨rfl, w, y⟩)]
    obtain ⟨i, j, hi, hj, hij, rfl, rfl, h4, h5⟩ := lenM_of hT hl
    obtain ⟨k, hk, rfl⟩ := rngN (a := n) (m := 99) (by omega) (Int32.le_trans (by decide) w.1) w.2
    obtain ⟨g1, e1, f1, d1, k1⟩ := r.sd.copy (o := 3) (by decide) (Or.inr hz) (by decide)
    have n1 := k1 1 (by decide) S r.sd
    obtain ⟨g2, e2, f2, d2⟩ := d1.pass hN (n := k) (by omega)
    have n2 := f2.sd (p := 1) (by decide) n1
    obtain ⟨g3, e3, f3, d3, k3⟩ := n2.copy (o := 4) (by decide) (Or.inr hz) (by decide)
    have t3 := k3 3 (by decide) _ d2
    obtain ⟨g4, e4, f4, d4⟩ := d3.move hi hj
    obtain ⟨g5, e5, f5, d5⟩ := d4.pass hN (n := k) (by omega)
    have t5 := (f4.tr f5).sd (p := 3) (by decide) t3
    have e1' : f_X3_copy h (3 + (0 : Int32).toNatClampNeg) 1 = some g1 := e1
    have e2' : f_X3_passHours N g1 (3 + (0 : Int32).toNatClampNeg) (nI k) = some g2 := e2
    have e3' : f_X3_copy g2 (3 + (1 : Int32).toNatClampNeg) 1 = some g3 := e3
    have e4' : f_X3_moveCart g3 (3 + (1 : Int32).toNatClampNeg) (nI i) (nI j) = some g4 := e4
    have e5' : f_X3_passHours N g4 (3 + (1 : Int32).toNatClampNeg) (nI k) = some g5 := e5
    have a3 : ∀ c, c < nCr T → gA g5 3 (3 + (0 : Int32).toNatClampNeg) 6 c = (passN T S k).1 6 c := fun c hc => (t5.2.2.2.2.2.1 c hc).2.2.2.2.1
    have a4 : ∀ c, c < nCr T → gA g5 3 (3 + (1 : Int32).toNatClampNeg) 6 c = (passN T (mvM S i j) k).1 6 c := fun c hc => (d5.2.2.2.2.2.1 c hc).2.2.2.2.1
    simp only [e1', e2', e3', e4', e5', bind_s, grd_p (show inb 0 7 by decide), grd_p (show inb 1 7 by decide), clN (show i < 2 ^ 31 by omega), clN (show j < 2 ^ 31 by omega), clN (show k < 2 ^ 31 by omega), grd_p (inb_n (show i < 4 by omega) (show 4 < 2 ^ 31 by omega)), grd_p (inb_n (show j < 4 by omega) (show 4 < 2 ^ 31 by omega)), a3 i hi, a3 j hj, a4 i hi, a4 j hj]
    refine ⟨g5, ?_, ((f1.tr (f2.fr (by decide))).tr f3).tr ((f4.tr f5).fr (by decide))⟩
    unfold lndM mx0
    by_cases q2 : what = 2
    · simp only [q2, not_true_eq_false, if_true, if_false]
      exact ite_pr _ _ _ _
    · by_cases q0 : what = 0
      · simp [q0]
      · simp [q2, q0]
end Lend

