-- PURE: plan and planned by both
def plnM (T : Txt) (S : Str) (c n : Int32) : Int32 := if inC T c = true ∧ 1 ≤ n ∧ n ≤ 6 then (plB T S c.toNatClampNeg n.toNatClampNeg (3 ^ n.toNatClampNeg)).1 else -1
def pldM (T : Txt) (S : Str) (c n k : Int32) : Int32 := if (inC T c = true ∧ 1 ≤ n ∧ n ≤ 6) ∧ 0 ≤ k then (if k < n then nI (1 + dg 3 n.toNatClampNeg (plB T S c.toNatClampNeg n.toNatClampNeg (3 ^ n.toNatClampNeg)).2 k.toNatClampNeg) else -2) else -1
/-- a number below another -/
theorem ltN {a : Int32} {m : Nat} (hm : m < 2 ^ 31) (h0 : 0 ≤ a) (h1 : a < nI m) : ∃ k, k < m ∧ a = nI k := by
  obtain ⟨k, rfl, hk⟩ := eq_nI (Int32.le_iff_toInt_le.mp h0)
  refine ⟨k, ?_, rfl⟩
  have := Int32.lt_iff_toInt_lt.mp h1
  rw [nI_toInt hm] at this
  omega
section Plan
variable {N : Nat} {h g : Hp} {t : Nat} {T : Txt} {S I : Str} {X : Xs}
theorem cl_plan (hN : 1000 ≤ N) (r : RC h t T S I X) (hz : S.2 16 = 1) (K : SOK T 0 S) (hh : (S.2 11).toInt ≤ 4000000) (c n : Int32) : ∃ g, f_X7_plan N h c n = some (plnM T S c n, g) ∧ Fr h g := by
  have hT := r.1.2.2.2.2.1
  have hc4 := hT.2.1.2
  unfold f_X7_plan plnM
  simp only [jn_e, cl_isCroft r.1.2.1 r.1.2.2.2.1, cl_isIn, bind_s, b2i0, decide_eq_false_iff_not]
  cases hc : inC T c with
  | false => rw [if_pos rfl, if_neg (fun q => Bool.noConfusion q.1)]; exact ⟨h, rfl, Fr.rf h⟩
  | true =>
    rw [if_neg (fun q => Bool.noConfusion q)]
    by_cases w : 1 ≤ n ∧ n ≤ 6
    rotate_left
    · rw [if_pos w, if_neg (fun q => w q.2)]; exact ⟨h, rfl, Fr.rf h⟩
    rw [if_neg (fun q => q w), if_pos (show true = true ∧ 1 ≤ n ∧ n ≤ 6 from ⟨rfl, w⟩)]
    obtain ⟨i, hi, rfl⟩ := inC_of hT hc
    obtain ⟨k, hk, rfl⟩ := rngN (a := n) (m := 6) (by omega) (Int32.le_trans (by decide) w.1) w.2
    obtain ⟨g', e, f, -⟩ := cl_planFor hN r.sd hz K hh hi hk
    rw [e, bd2_s, clN (show i < 2 ^ 31 by omega), clN (show k < 2 ^ 31 by omega)]
    exact ⟨g', rfl, f⟩
theorem cl_planned (hN : 1000 ≤ N) (r : RC h t T S I X) (hz : S.2 16 = 1) (K : SOK T 0 S) (hh : (S.2 11).toInt ≤ 4000000) (c n p : Int32) : ∃ g, f_X7_planned N h c n p = some (pldM T S c n p, g) ∧ Fr h g := by
  have hT := r.1.2.2.2.2.1
  have hc4 := hT.2.1.2
  unfold f_X7_planned pldM
  simp only [jn_e, cl_isCroft r.1.2.1 r.1.2.2.2.1, cl_isIn, bind_s, b2i0, decide_eq_false_iff_not]
  cases hc : inC T c with
  | false => rw [if_pos rfl, if_neg (fun q => Bool.noConfusion q.1.1)]; exact ⟨h, rfl, Fr.rf h⟩
  | true =>
    rw [if_neg (fun q => Bool.noConfusion q)]
    by_cases w : 1 ≤ n ∧ n ≤ 6
    rotate_left
    · rw [if_pos w, if_neg (fun q => w q.1.2)]; exact ⟨h, rfl, Fr.rf h⟩
    rw [if_neg (fun q => q w)]
    by_cases y : 0 ≤ p
    rotate_left
    · rw [if_neg y, if_neg (fun q => y q.2)]; exact ⟨h, rfl, Fr.rf h⟩
    rw [if_pos y, if_pos (show (true = true ∧ 1 ≤ n ∧ n ≤ 6) ∧ 0 ≤ p from ⟨⟨rfl, w⟩, y⟩)]
    by_cases z : p < n
    rotate_left
    · rw [if_neg z, if_neg z]; exact ⟨h, rfl, Fr.rf h⟩
    rw [if_pos z, if_pos z]
    obtain ⟨i, hi, rfl⟩ := inC_of hT hc
    obtain ⟨k, hk, rfl⟩ := rngN (a := n) (m := 6) (by omega) (Int32.le_trans (by decide) w.1) w.2
    obtain ⟨j, hj, rfl⟩ := ltN (a := p) (m := k) (by omega) y z
    obtain ⟨g', e, f, b⟩ := cl_planFor hN r.sd hz K hh hi hk
    rw [e, bd2_s, clN (show i < 2 ^ 31 by omega), clN (show k < 2 ^ 31 by omega), grd_p (inb_n (show j < 6 by omega) (show 6 < 2 ^ 31 by omega))]
    simp only [clN (show j < 2 ^ 31 by omega), b j hj]
    exact ⟨g', rfl, f⟩
end Plan
section MPlan
variable {N : Nat} {g : Hp} {T : Txt} {S : Str}
end MPlan

