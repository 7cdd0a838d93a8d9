-- PURE: which crofts, stripes, fields there are
def inC (T : Txt) (c : Int32) : Bool := decide (0 ≤ c ∧ c < T.2.1 12)
def inS (T : Txt) (c : Int32) : Bool := decide (0 ≤ c ∧ c < T.2.1 11)
def inF (T : Txt) (c : Int32) : Bool := decide (0 ≤ c ∧ c < T.2.1 13)
theorem inN {a m : Int32} {n : Nat} (hm : m = nI n) (hn : n < 1000) (h : decide (0 ≤ a ∧ a < m) = true) : ∃ k, k < n ∧ a = nI k := by
  obtain ⟨h0, h1⟩ := of_decide_eq_true h
  obtain ⟨k, rfl, hk⟩ := eq_nI (Int32.le_iff_toInt_le.mp h0)
  refine ⟨k, ?_, rfl⟩
  have := Int32.lt_iff_toInt_lt.mp h1
  rw [hm, nI_toInt (show n < 2 ^ 31 by omega)] at this
  omega
theorem inC_of {T : Txt} (hT : TOK T) {c : Int32} (h : inC T c = true) : ∃ k, k < nCr T ∧ c = nI k := inN hT.2.1.1 (by have := hT.2.1.2; omega) h
theorem inS_of {T : Txt} (hT : TOK T) {c : Int32} (h : inS T c = true) : ∃ k, k < nSt T ∧ c = nI k := inN hT.1.1 (by have := hT.1.2; omega) h
theorem inF_of {T : Txt} (hT : TOK T) {c : Int32} (h : inF T c = true) : ∃ k, k < nFi T ∧ c = nI k := inN hT.2.2.1.1 (by have := hT.2.2.1.2; omega) h
section Common
variable {N : Nat} {h g : Hp} {t : Nat} {T : Txt} {S I : Str} {X : Xs}
theorem cl_isCroft (ht : gO h 7 0 13 = some t) (e : txt h t = T) (c : Int32) : f_X7_isCroft h c = some (inC T c) := by
  have e12 : gI h 5 t 12 = T.2.1 12 := by rw [← e]; rfl
  unfold f_X7_isCroft inC
  simp only [jn_e, ht, onO_s, e12]
  by_cases z : c < 0
  · rw [if_pos z, decide_eq_false (fun q => absurd q.1 (Int32.not_le.mpr z))]
  rw [if_neg z]
  by_cases w : T.2.1 12 ≤ c
  · rw [if_pos w, decide_eq_false (fun q => absurd q.2 (Int32.not_lt.mpr w))]
  · rw [if_neg w, decide_eq_true ⟨Int32.not_lt.mp z, Int32.not_le.mp w⟩]
theorem cl_isStripe (ht : gO h 7 0 13 = some t) (e : txt h t = T) (c : Int32) : f_X7_isStripe h c = some (inS T c) := by
  have e12 : gI h 5 t 11 = T.2.1 11 := by rw [← e]; rfl
  unfold f_X7_isStripe inS
  simp only [jn_e, ht, onO_s, e12]
  by_cases z : c < 0
  · rw [if_pos z, decide_eq_false (fun q => absurd q.1 (Int32.not_le.mpr z))]
  rw [if_neg z]
  by_cases w : T.2.1 11 ≤ c
  · rw [if_pos w, decide_eq_false (fun q => absurd q.2 (Int32.not_lt.mpr w))]
  · rw [if_neg w, decide_eq_true ⟨Int32.not_lt.mp z, Int32.not_le.mp w⟩]
theorem cl_isField (ht : gO h 7 0 13 = some t) (e : txt h t = T) (c : Int32) : f_X7_isField h c = some (inF T c) := by
  have e12 : gI h 5 t 13 = T.2.1 13 := by rw [← e]; rfl
  unfold f_X7_isField inF
  simp only [jn_e, ht, onO_s, e12]
  by_cases z : c < 0
  · rw [if_pos z, decide_eq_false (fun q => absurd q.1 (Int32.not_le.mpr z))]
  rw [if_neg z]
  by_cases w : T.2.1 13 ≤ c
  · rw [if_pos w, decide_eq_false (fun q => absurd q.2 (Int32.not_lt.mpr w))]
  · rw [if_neg w, decide_eq_true ⟨Int32.not_lt.mp z, Int32.not_le.mp w⟩]
theorem m_isCroft (e : T.2.1 12 = gI g 8 0 13) (c : Int32) : f_X8_isCroft g c = some (inC T c) := by
  unfold f_X8_isCroft inC
  simp only [jn_e, ← e]
  by_cases z : c < 0
  · simp [z, Int32.not_le.mpr z]
  have z' := Int32.not_lt.mp z
  by_cases w : T.2.1 12 ≤ c
  · simp [z, w, Int32.not_lt.mpr w]
  · have w' := Int32.not_le.mp w
    simp [z, w, z', w']
theorem m_isStripe (e : T.2.1 11 = gI g 8 0 12) (c : Int32) : f_X8_isStripe g c = some (inS T c) := by
  unfold f_X8_isStripe inS
  simp only [jn_e, ← e]
  by_cases z : c < 0
  · simp [z, Int32.not_le.mpr z]
  have z' := Int32.not_lt.mp z
  by_cases w : T.2.1 11 ≤ c
  · simp [z, w, Int32.not_lt.mpr w]
  · have w' := Int32.not_le.mp w
    simp [z, w, z', w']
theorem m_isField (e : T.2.1 13 = gI g 8 0 14) (c : Int32) : f_X8_isField g c = some (inF T c) := by
  unfold f_X8_isField inF
  simp only [jn_e, ← e]
  by_cases z : c < 0
  · simp [z, Int32.not_le.mpr z]
  have z' := Int32.not_lt.mp z
  by_cases w : T.2.1 13 ≤ c
  · simp [z, w, Int32.not_lt.mpr w]
  · have w' := Int32.not_le.mp w
    simp [z, w, z', w']
theorem m_lay (hN : 1000 ≤ N) (r : R8a g T S) : ∃ g1, f_X8_layTried N g = some g1 ∧ F8 g g1 ∧ Plain g1 ∧ Sm g1 1 (S.2 14) T S ∧ gI g1 8 0 61 = S.2 14 ∧ R8a g1 T S := by
  obtain ⟨g1, e1, l1⟩ := m_layTried hN g
  have f1 := l1.1
  have p1 := l1.2.2.1
  have r1 := r.f8 f1
  obtain ⟨hT, R, X, q, h49⟩ := r
  have h61 : gI g1 8 0 61 = S.2 14 := r1.2.2.2.1.2.2.2 14 (by omega) (by omega)
  have qs : Sq T (upI S 14 (S.2 14)) S := ⟨fun _ _ => ⟨rfl, rfl⟩, fun _ _ => ⟨rfl, rfl, rfl, rfl, rfl, rfl⟩, fun _ _ => rfl, fun k _ _ => by
    by_cases z : k = 14
    · rw [z, upI_i]
    · rw [upI_n S _ z]⟩
  exact ⟨g1, e1, f1, p1, ⟨hT, R, f1.mt X, ((v8_b8 hT p1 1 (S.2 14)).tr (((b8_lay hT l1).tr q).upI 14 (S.2 14))).tr qs, f1.2.2.1.2.2 h49⟩, h61, r1⟩
end Common
