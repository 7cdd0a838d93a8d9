-- PURE: which crofts, stripes, fields there are
def inC (T : Txt) (c : Int32) : Bool := decide (0 ≤ c ∧ c < T.2.1 12)
def inS (T : Txt) (c : Int32) : Bool := decide (0 ≤ c ∧ c < T.2.1 11)
def inF (T : Txt) (c : Int32) : Bool := decide (0 ≤ c ∧ c < T.2.1 13)
theorem inN {a m : Int32} {n : Nat} (hm : m = nI n) (hn : n < 1000) (h : decide (0 ≤ a ∧ a < m) = true) : ∃ k, k < n ∧ a = nI k := by
  obtain ⟨h0, h1⟩ := of_decide_eq_true h
  obtain ⟨k, rfl, hk⟩ := eq_nI (Int32.le_iff_toInt_le.mp h0)
  refine ⟨k, ?_, rfl⟩
  have := Int32.lt_iff_toInt_lt.mp h1
  rw [hm, nI_toInt (show n < 2 ^ 31 by omega)] at this
  omega
theorem inC_of {T : Txt} (hT : TOK T) {c : Int32} (h : inC T c = true) : ∃ k, k < nCr T ∧ c = nI k := inN hT.2.1.1 (by have := hT.2.1.2; omega) h
theorem inS_of {T : Txt} (hT : TOK T) {c : Int32} (h : inS T c = true) : ∃ k, k < nSt T ∧ c = nI k := inN hT.1.1 (by have := hT.1.2; omega) h
theorem inF_of {T : Txt} (hT : TOK T) {c : Int32} (h : inF T c = true) : ∃ k, k < nFi T ∧ c = nI k := inN hT.2.2.1.1 (by have := hT.2.2.1.2; omega) h
section Common
variable {N : Nat} {h g : Hp} {t : Nat} {T : Txt} {S I : Str} {X : Xs}
theorem cl_isCroft (ht : gO h 7 0 13 = some t) (e : txt h t = T) (c : Int32) : f_X7_isCroft h c = some (inC T c) := by
  have e12 : gI h 5 t 12 = T.2.1 12 := by rw [← e]; rfl
  unfold f_X7_isCroft inC
  simp only [jn_e, ht, onO_s, e12]
  by_cases z : c < 0
  · rw [if_pos z, decide_eq_false (fun q => absurd q.1 (Int32.not_le.mpr z))]
  rw [if_neg z]
  by_cases w : T.2.1 12 ≤ c
  · rw [if_pos w, decide_eq_false (fun q => absurd q.2 (Int32.not_lt.mpr w))]
  · rw [if_neg w, decide_eq_true ⟨Int32.not_lt.mp z, Int32.not_le.mp w⟩]
theorem cl_isStripe (ht : gO h 7 0 13 = some t) (e : txt h t = T) (c : Int32) : f_X7_isStripe h c = some (inS T c) := by
  have e12 : gI h 5 t 11 = T.2.1 11 := by rw [← e]; rfl
  unfold f_X7_isStripe inS
  simp only [jn_e, ht, onO_s, e12]
  by_cases z : c < 0
  · rw [if_pos z, decide_eq_false (fun q => absurd q.1 (Int32.not_le.mpr z))]
  rw [if_neg z]
  by_cases w : T.2.1 11 ≤ c
  · rw [if_pos w, decide_eq_false (fun q => absurd q.2 (Int32.not_lt.mpr w))]
  · rw [if_neg w, decide_eq_true ⟨Int32.not_lt.mp z, Int32.not_le.mp w⟩]
theorem cl_isField (ht : gO h 7 0 13 = some t) (e : txt h t = T) (c : Int32) : f_X7_isField h c = some (inF T c) := by
  have e12 : gI h 5 t 13 = T.2.1 13 := by rw [← e]; rfl
  unfold f_X7_isField inF
  simp only [jn_e, ht, onO_s, e12]
  by_cases z : c < 0
  · rw [if_pos z, decide_eq_false (fun q => absurd q.1 (Int32.not_le.mpr z))]
  rw [if_neg z]
  by_cases w : T.2.1 13 ≤ c
  · rw [if_pos w, decide_eq_false (fun q => absurd q.2 (Int32.not_lt.mpr w))]
  · rw [if_neg w, decide_eq_true ⟨Int32.not_lt.mp z, Int32.not_le.mp w⟩]
end Common

