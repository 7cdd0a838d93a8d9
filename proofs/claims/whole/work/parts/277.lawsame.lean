-- PURE: laws worked out alike
def BD (v : Int64) : Prop := -1000000000000 ≤ v.toInt ∧ v.toInt ≤ 1000000000000
theorem ov_bd (v : Int64) : ovM v = false ↔ BD v := by
  unfold ovM BD
  rw [decide_eq_false_iff_not, not_or, Int64.not_lt, Int64.not_lt, Int64.le_iff_toInt_le, Int64.le_iff_toInt_le]
  have e1 : (1000000000000 : Int64).toInt = 1000000000000 := by decide
  have e2 : (-1000000000000 : Int64).toInt = -1000000000000 := by decide
  rw [e1, e2]
  exact And.comm
theorem bd_one : BD 1 ∧ BD 0 := by unfold BD; exact ⟨by decide, by decide⟩
theorem bd_ite (p : Prop) [Decidable p] : BD (if p then 1 else 0) := by
  by_cases z : p
  · rw [if_pos z]; exact bd_one.1
  · rw [if_neg z]; exact bd_one.2
theorem bd_i32 (x : Int32) : BD x.toInt64 := by
  have h1 := Int32.le_toInt x
  have h2 := Int32.toInt_lt x
  unfold BD
  rw [Int32.toInt_toInt64]
  omega
theorem abs_x {a : Int64} (h : BD a) : (if 0 ≤ a then a else -a).toInt = (a.toInt.natAbs : Int) := by
  obtain ⟨h1, h2⟩ := h
  by_cases z : 0 ≤ a
  · rw [if_pos z]
    have := Int64.le_iff_toInt_le.mp z
    have e : (0 : Int64).toInt = 0 := by decide
    omega
  · rw [if_neg z]
    have := Int64.lt_iff_toInt_lt.mp (Int64.not_le.mp z)
    have e : (0 : Int64).toInt = 0 := by decide
    rw [Int64.toInt_neg, Int.bmod_eq_of_le (by omega) (by omega)]
    omega
theorem div_x {a : Int64} (h : BD a) (ha : ¬ a = 0) : ((1000000000000 : Int64) / (if 0 ≤ a then a else -a)).toInt = ((1000000000000 / a.toInt.natAbs : Nat) : Int) := by
  have e1 : (1000000000000 : Int64).toInt = ((1000000000000 : Nat) : Int) := by decide
  have h1 : 1000000000000 / a.toInt.natAbs ≤ 1000000000000 := Nat.div_le_self _ _
  rw [Int64.toInt_div, abs_x h, e1, Int.tdiv_eq_ediv_of_nonneg (by omega)]
  have e : (((1000000000000 : Nat) : Int) / ((a.toInt.natAbs : Nat) : Int)) = ((1000000000000 / a.toInt.natAbs : Nat) : Int) := rfl
  rw [e]
  generalize 1000000000000 / a.toInt.natAbs = q at h1 ⊢
  rw [Int.bmod_eq_of_le (by omega) (by omega)]
theorem mul_x {a b : Int64} (ha : BD a) (hb : BD b) (ha0 : ¬ a = 0) : ((1000000000000 / (if 0 ≤ a then a else -a)) < (if 0 ≤ b then b else -b)) ↔ ¬ a.toInt.natAbs * b.toInt.natAbs ≤ 1000000000000 := by
  have p0 : 0 < a.toInt.natAbs := by
    refine Int.natAbs_pos.mpr (fun q => ha0 (Int64.toInt_inj.mp ?_))
    rw [q]
    decide
  rw [Int64.lt_iff_toInt_lt, div_x ha ha0, abs_x hb, Nat.mul_comm, ← Nat.le_div_iff_mul_le p0]
  omega
theorem mul_bd {a b : Int64} (h : a.toInt.natAbs * b.toInt.natAbs ≤ 1000000000000) : BD (a * b) := by
  have e : (a.toInt * b.toInt).natAbs ≤ 1000000000000 := by rw [Int.natAbs_mul]; exact h
  have h1 : -1000000000000 ≤ a.toInt * b.toInt ∧ a.toInt * b.toInt ≤ 1000000000000 := by omega
  unfold BD
  rw [Int64.toInt_mul, Int.bmod_eq_of_le (by omega) (by omega)]
  exact h1
theorem div_bd {a b : Int64} (h : BD a) : BD (a / b) := by
  have e : (a.toInt.tdiv b.toInt).natAbs ≤ a.toInt.natAbs := by rw [Int.natAbs_tdiv]; exact Nat.div_le_self _ _
  obtain ⟨h1, h2⟩ := h
  unfold BD
  have h3 : -1000000000000 ≤ a.toInt.tdiv b.toInt ∧ a.toInt.tdiv b.toInt ≤ 1000000000000 := by omega
  rw [Int64.toInt_div, Int.bmod_eq_of_le (by omega) (by omega)]
  exact h3
/-- the class's stack holds what the reference's values hold -/
def AL (cs V : Nat → Int64) : List Nat → Prop
  | [] => True
  | x :: r => cs r.length = V x ∧ BD (V x) ∧ AL cs V r
theorem AL_upd {cs V : Nat → Int64} {i t : Nat} {v w : Int64} : ∀ r : List Nat, AL cs V r → (∀ x, x ∈ r → x < i) → r.length ≤ t → AL (vp_updL cs t v) (vp_updL V i w) r
  | [], _, _, _ => trivial
  | x :: r, ⟨a, b, c⟩, h, ht => by
    have hx : x ≠ i := Nat.ne_of_lt (h x (List.mem_cons_self ..))
    have hl : r.length ≠ t := by
      have : (x :: r).length = r.length + 1 := rfl
      omega
    have e1 : vp_updL V i w x = V x := by unfold vp_updL; rw [if_neg hx]
    have e2 : vp_updL cs t v r.length = cs r.length := by unfold vp_updL; rw [if_neg hl]
    refine ⟨by rw [e1, e2]; exact a, by rw [e1]; exact b, AL_upd r c (fun y hy => h y (List.mem_cons_of_mem _ hy)) ?_⟩
    have : (x :: r).length = r.length + 1 := rfl
    omega
theorem bin_no {kn kt : Int32} (h : bin2 kn kt) : ¬ kn = 2 ∧ ¬ (272 ≤ kn ∧ kn ≤ 278) ∧ ¬ kn = 279 ∧ ¬ kt = 0 ∧ ¬ kt = 1 ∧ ¬ kt = 2 := by
  rcases h with ⟨rfl, rfl⟩ | ⟨rfl, rfl⟩ | ⟨rfl, rfl⟩ | ⟨rfl, rfl⟩ | ⟨rfl, rfl⟩ | ⟨rfl, rfl⟩ | ⟨rfl, rfl⟩ | ⟨rfl, rfl⟩ | ⟨rfl, rfl⟩ | ⟨rfl, rfl⟩ | ⟨rfl, rfl⟩ | ⟨rfl, rfl⟩ <;> decide
/-- two joined: by the class, by the reference -/
def JS (w : Int64 × Bool) (J : Int64) : Prop := (w.2 = true → ovM J = true) ∧ (w.2 = false → w.1 = J ∧ BD J)
theorem js_ite {p q : Prop} [Decidable p] [Decidable q] (h : p ↔ q) : JS (if p then 1 else 0, false) (if q then 1 else 0) := by
  refine ⟨fun z => Bool.noConfusion z, fun _ => ⟨?_, bd_ite q⟩⟩
  by_cases z : p
  · rw [if_pos z, if_pos (h.mp z)]
  · rw [if_neg z, if_neg (fun y => z (h.mpr y))]
theorem js_ov (J : Int64) : JS (if (false || ovM J) = true then 0 else J, false || ovM J) J := by
  cases z : ovM J with
  | true => exact ⟨fun _ => z, fun q => Bool.noConfusion q⟩
  | false => exact ⟨fun q => Bool.noConfusion q, fun _ => ⟨rfl, (ov_bd J).mp z⟩⟩
theorem join_same {kn kt : Int32} (h : bin2 kn kt) {pt ot : Int32} {nm V : Nat → Int64} (ha : BD (V pt.toNatClampNeg)) (hb : BD (V ot.toNatClampNeg)) : JS (vlM kt pt ot nm V false) (joinM kn (V pt.toNatClampNeg) (V ot.toNatClampNeg)) := by
  have dt : ∀ p : Prop, ∀ [Decidable p], (decide p = true) ↔ p := fun p _ => decide_eq_true_iff
  rcases h with ⟨rfl, rfl⟩ | ⟨rfl, rfl⟩ | ⟨rfl, rfl⟩ | ⟨rfl, rfl⟩ | ⟨rfl, rfl⟩ | ⟨rfl, rfl⟩ | ⟨rfl, rfl⟩ | ⟨rfl, rfl⟩ | ⟨rfl, rfl⟩ | ⟨rfl, rfl⟩ | ⟨rfl, rfl⟩ | ⟨rfl, rfl⟩
  · exact js_ite (p := ¬ V pt.toNatClampNeg = 0 ∧ ¬ V ot.toNatClampNeg = 0) (q := ¬ V pt.toNatClampNeg = 0 ∧ ¬ V ot.toNatClampNeg = 0) Iff.rfl
  · exact js_ite (p := ¬ V pt.toNatClampNeg = 0 ∨ ¬ V ot.toNatClampNeg = 0) (q := ¬ V pt.toNatClampNeg = 0 ∨ ¬ V ot.toNatClampNeg = 0) Iff.rfl
  · exact js_ite (p := decide (V pt.toNatClampNeg < V ot.toNatClampNeg) = true) (q := V pt.toNatClampNeg < V ot.toNatClampNeg) (dt _)
  · exact js_ite (p := decide (V pt.toNatClampNeg ≤ V ot.toNatClampNeg) = true) (q := V pt.toNatClampNeg ≤ V ot.toNatClampNeg) (dt _)
  · exact js_ite (p := decide (V pt.toNatClampNeg = V ot.toNatClampNeg) = true) (q := V pt.toNatClampNeg = V ot.toNatClampNeg) (dt _)
  · have e : joinM 5 (V pt.toNatClampNeg) (V ot.toNatClampNeg) = if ¬ V pt.toNatClampNeg = V ot.toNatClampNeg then 1 else 0 := by
      show (if V pt.toNatClampNeg = V ot.toNatClampNeg then (0 : Int64) else 1) = _
      by_cases z : V pt.toNatClampNeg = V ot.toNatClampNeg
      · rw [if_pos z, if_neg (fun q => q z)]
      · rw [if_neg z, if_pos z]
    rw [e]
    exact js_ite (p := decide (¬ V pt.toNatClampNeg = V ot.toNatClampNeg) = true) (q := ¬ V pt.toNatClampNeg = V ot.toNatClampNeg) (dt _)
  · exact js_ite (p := decide (V ot.toNatClampNeg ≤ V pt.toNatClampNeg) = true) (q := V ot.toNatClampNeg ≤ V pt.toNatClampNeg) (dt _)
  · exact js_ite (p := decide (V ot.toNatClampNeg < V pt.toNatClampNeg) = true) (q := V ot.toNatClampNeg < V pt.toNatClampNeg) (dt _)
  · exact js_ov _
  · exact js_ov _
  · -- products
    show JS (if (false || muM (V pt.toNatClampNeg) (V ot.toNatClampNeg)) = true then 0 else V pt.toNatClampNeg * V ot.toNatClampNeg, false || muM (V pt.toNatClampNeg) (V ot.toNatClampNeg)) (if V pt.toNatClampNeg = 0 ∨ ¬ (1000000000000 / (if 0 ≤ V pt.toNatClampNeg then V pt.toNatClampNeg else -V pt.toNatClampNeg)) < (if 0 ≤ V ot.toNatClampNeg then V ot.toNatClampNeg else -V ot.toNatClampNeg) then V pt.toNatClampNeg * V ot.toNatClampNeg else (-9223372036854775808 : Int64))
    generalize V pt.toNatClampNeg = a at ha ⊢
    generalize V ot.toNatClampNeg = b at hb ⊢
    by_cases za : a = 0
    · have : muM a b = false := decide_eq_false (fun q => q.1 za)
      rw [this, if_pos (Or.inl za)]
      refine ⟨fun q => Bool.noConfusion q, fun _ => ⟨rfl, mul_bd ?_⟩⟩
      rw [za]
      show (0 : Int64).toInt.natAbs * _ ≤ _
      rw [show (0 : Int64).toInt.natAbs = 0 by decide, Nat.zero_mul]
      omega
    · have mx := mul_x ha hb za
      by_cases y : a.toInt.natAbs * b.toInt.natAbs ≤ 1000000000000
      · have : muM a b = false := decide_eq_false (fun q => mx.mp q.2.2 y)
        rw [this, if_pos (Or.inr (fun q => mx.mp q y))]
        exact ⟨fun q => Bool.noConfusion q, fun _ => ⟨rfl, mul_bd y⟩⟩
      · have zb : ¬ b = 0 := fun q => y (by
          rw [q]
          show _ * (0 : Int64).toInt.natAbs ≤ _
          rw [show (0 : Int64).toInt.natAbs = 0 by decide, Nat.mul_zero]
          omega)
        have : muM a b = true := decide_eq_true ⟨za, zb, mx.mpr y⟩
        have nn : ¬ (a = 0 ∨ ¬ (1000000000000 / (if 0 ≤ a then a else -a)) < (if 0 ≤ b then b else -b)) := fun q => q.elim za (fun q => q (mx.mpr y))
        rw [this, if_neg nn]
        exact ⟨fun _ => by decide, fun q => Bool.noConfusion q⟩
  · show JS (if (false || decide (V ot.toNatClampNeg = 0)) = true then 0 else V pt.toNatClampNeg / V ot.toNatClampNeg, false || decide (V ot.toNatClampNeg = 0)) (if V ot.toNatClampNeg = 0 then (-9223372036854775808 : Int64) else V pt.toNatClampNeg / V ot.toNatClampNeg)
    by_cases z : V ot.toNatClampNeg = 0
    · rw [if_pos z, decide_eq_true z]
      exact ⟨fun _ => by decide, fun q => Bool.noConfusion q⟩
    · rw [if_neg z, decide_eq_false z]
      exact ⟨fun q => Bool.noConfusion q, fun _ => ⟨rfl, div_bd ha⟩⟩
/-- in error, in error it stays -/
theorem vl_err (kt pt ot : Int32) (nm V : Nat → Int64) : (vlM kt pt ot nm V true).2 = true := by
  unfold vlM
  by_cases q0 : kt = 0
  · rw [if_pos q0]
  rw [if_neg q0]
  by_cases q1 : kt = 1
  · rw [if_pos q1]
  rw [if_neg q1]
  by_cases q2 : kt = 2
  · rw [if_pos q2]
  rw [if_neg q2]
  by_cases q3 : kt = 3
  · rw [if_pos q3]
  rw [if_neg q3]
  by_cases q4 : kt = 4
  · rw [if_pos q4]
  rw [if_neg q4]
  by_cases q11 : kt = 11
  · rw [if_pos q11]; rfl
  rw [if_neg q11]
  by_cases q12 : kt = 12
  · rw [if_pos q12]; rfl
  rw [if_neg q12]
  by_cases q13 : kt = 13
  · rw [if_pos q13]; rfl
  rw [if_neg q13]
  by_cases q14 : kt = 14
  · rw [if_pos q14]; rfl
  · rw [if_neg q14]
/-- one knot: the class's value and the reference's -/
theorem step_same {kn nu kt pt ot : Int32} {i : Nat} {s s' : List Nat} (st : STP kn nu kt pt ot i s s') (hi : i < 64) (hs : ∀ x, x ∈ s → x < i) {nm cs V : Nat → Int64} (hnm : nmOK nm) (al : AL cs V s) : ∃ t v r, stC kn nu nm s.length cs = some (t, v) ∧ s' = i :: r ∧ r.length = t ∧ t ≤ s.length ∧ (∀ x, x ∈ r → x < i) ∧ AL cs V r ∧ JS (vlM kt pt ot nm V false) v := by
  unfold stC
  rcases st with ⟨rfl, rfl, rfl, ⟨v, hv, rfl⟩, rfl⟩ | ⟨j, hj, rfl, rfl, rfl, rfl⟩ | ⟨x, r, rfl, rfl, rfl, rfl, rfl⟩ | ⟨x, y, r, rfl, hb, rfl, rfl, rfl⟩
  · rw [if_pos rfl]
    exact ⟨_, _, s, rfl, rfl, rfl, Nat.le_refl _, hs, al, fun q => Bool.noConfusion q, fun _ => ⟨rfl, bd_i32 _⟩⟩
  · have n2 : ¬ nI (272 + j) = 2 := fun q => by have := nI_inj (j := 2) (by omega) (by omega) q; omega
    have g1 : (272 : Int32) ≤ nI (272 + j) := leN (a := 272) (by omega) (by omega)
    have g2 : nI (272 + j) ≤ (278 : Int32) := leN (b := 278) (by omega) (by omega)
    have e : (nI (272 + j) - 272).toNatClampNeg = j := by
      rw [show (272 : Int32) = nI 272 from rfl, nI_sub (by omega), clN (by omega)]
      omega
    rw [if_neg n2, if_pos ⟨g1, g2⟩, e]
    obtain ⟨x, hx⟩ := hnm j hj
    have ev : vlM 1 (nI j) ot nm V false = (nm (nI j).toNatClampNeg, false) := rfl
    rw [clN (show j < 2 ^ 31 by omega)] at ev
    exact ⟨_, _, s, rfl, rfl, rfl, Nat.le_refl _, hs, al, by rw [ev]; exact fun q => Bool.noConfusion q, by rw [ev]; exact fun _ => ⟨rfl, by rw [hx]; exact bd_i32 x⟩⟩
  · have hx := hs x (List.mem_cons_self ..)
    have el : (x :: r).length = r.length + 1 := rfl
    rw [if_neg (show ¬ (279 : Int32) = 2 by decide), if_neg (show ¬ ((272 : Int32) ≤ 279 ∧ (279 : Int32) ≤ 278) by decide), el, if_pos ⟨rfl, by omega⟩, Nat.add_sub_cancel]
    obtain ⟨a1, a2, a3⟩ := al
    have ev : vlM 2 (nI x) ot nm V false = (if V (nI x).toNatClampNeg = 0 then 1 else 0, false) := rfl
    rw [clN (show x < 2 ^ 31 by omega)] at ev
    refine ⟨_, _, r, rfl, rfl, rfl, by omega, fun y hy => hs y (List.mem_cons_of_mem _ hy), a3, ?_⟩
    rw [ev, a1]
    exact js_ite Iff.rfl
  · obtain ⟨b1, b2, b3, b4, b5, b6⟩ := bin_no hb
    have el : (y :: x :: r).length = r.length + 2 := rfl
    have hy := hs y (List.mem_cons_self ..)
    have hx := hs x (List.mem_cons_of_mem _ (List.mem_cons_self ..))
    obtain ⟨a1, a2, a3, a4, a5⟩ := al
    have a1' : cs (r.length + 1) = V y := a1
    have e1 : r.length + 2 - 1 = r.length + 1 := rfl
    rw [if_neg b1, if_neg b2, if_neg (fun q => b3 q.1), el, if_pos (by omega), Nat.add_sub_cancel, e1, a1', a3]
    have j := join_same hb (pt := nI x) (ot := nI y) (nm := nm) (V := V) (by rw [clN (by omega)]; exact a4) (by rw [clN (by omega)]; exact a2)
    rw [clN (show x < 2 ^ 31 by omega), clN (show y < 2 ^ 31 by omega)] at j
    exact ⟨_, _, r, rfl, rfl, rfl, by omega, fun z hz => hs z (List.mem_cons_of_mem _ (List.mem_cons_of_mem _ hz)), a5, j⟩
