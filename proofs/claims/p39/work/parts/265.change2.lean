-- PURE: act, rule, lot, lend, undo by the class
def actQ (T : Txt) (S : Str) (c a : Int32) : Bool := inC T c && decide (0 ≤ a ∧ a ≤ 3) && decide (¬ S.1 5 c.toNatClampNeg = a)
def rulQ (S : Str) (a : Int32) : Bool := decide (0 ≤ a ∧ a ≤ 2) && decide (¬ S.2 14 = a)
def lotQ (T : Txt) (S : Str) (s c : Int32) : Bool := inS T s && inC T c && decide (¬ S.1 1 s.toNatClampNeg = c)
section Change
variable {N : Nat} {h g : Hp} {t : Nat} {T : Txt} {S I : Str} {X : Xs}
theorem cl_act (r : RC h t T S I X) (u : UX X) (c a : Int32) : ∃ g, f_X7_act h c a = some (actQ T S c a, g) ∧ RC g t T (if actQ T S c a = true then upA S 5 c.toNatClampNeg a else S) I (if actQ T S c a = true then adX X 0 c (S.1 5 c.toNatClampNeg) else X) ∧ K8 h g := by
  have hT := r.1.2.2.2.2.1
  have hc4 := hT.2.1.2
  have no : actQ T S c a = false → ∃ g, some (false, h) = some (actQ T S c a, g) ∧ RC g t T (if actQ T S c a = true then upA S 5 c.toNatClampNeg a else S) I (if actQ T S c a = true then adX X 0 c (S.1 5 c.toNatClampNeg) else X) ∧ K8 h g := fun q => by
    rw [q, if_neg (fun w => Bool.noConfusion w), if_neg (fun w => Bool.noConfusion w)]
    exact ⟨h, rfl, r, K8.rf h⟩
  unfold f_X7_act
  simp only [jn_e, cl_isCroft r.1.2.1 r.1.2.2.2.1, bind_s]
  cases hc : inC T c with
  | false => rw [if_pos (show b2i false = 0 from rfl)]; exact no (by unfold actQ; rw [hc]; rfl)
  | true =>
    obtain ⟨i, hi, rfl⟩ := inC_of hT hc
    have a5 : gA h 3 1 5 i = S.1 5 i := (r.sd.2.2.2.2.2.1 i hi).2.2.2.1
    rw [if_neg (show ¬ b2i true = 0 by decide)]
    by_cases z0 : a < 0
    · rw [if_pos z0]; exact no (by unfold actQ; rw [decide_eq_false (fun q => absurd q.1 (Int32.not_le.mpr z0)), Bool.and_false]; rfl)
    rw [if_neg z0]
    by_cases z1 : 3 < a
    · rw [if_pos z1]; exact no (by unfold actQ; rw [decide_eq_false (fun q => absurd q.2 (Int32.not_le.mpr z1)), Bool.and_false]; rfl)
    rw [if_neg z1, grd_p (inb_n (show i < 4 by omega) (by omega))]
    simp only [clN (show i < 2 ^ 31 by omega), a5]
    simp only [clN (show i < 2 ^ 31 by omega)] at no
    by_cases z2 : S.1 5 i = a
    · rw [if_neg (fun q => q z2)]
      exact no (by unfold actQ; rw [clN (show i < 2 ^ 31 by omega), decide_eq_false (show ¬ ¬ S.1 5 i = a from fun q => q z2), Bool.and_false])
    have yes : actQ T S (nI i) a = true := by
      unfold actQ
      rw [hc, clN (show i < 2 ^ 31 by omega), decide_eq_true z2, decide_eq_true ⟨Int32.not_lt.mp z0, Int32.not_lt.mp z1⟩]; rfl
    obtain ⟨g1, e1, n1, r1, k1⟩ := cl_add r u 0 (nI i) (S.1 5 i)
    obtain ⟨f2, d2⟩ := r1.sd.row 5 i a
    rw [if_pos z2, grd_p (inb_n (show i < 4 by omega) (by omega)), e1, bind_s, grd_p (inb_n (show i < 4 by omega) (by omega)), lt_e, yes, if_pos rfl, if_pos rfl]
    exact ⟨_, rfl, r1.set1 f2 d2, k1.tr f2.k8⟩
theorem cl_rule (r : RC h t T S I X) (u : UX X) (a : Int32) : ∃ g, f_X7_rule h a = some (rulQ S a, g) ∧ RC g t T (if rulQ S a = true then upI S 14 a else S) I (if rulQ S a = true then adX X 1 0 (S.2 14) else X) ∧ K8 h g := by
  have no : rulQ S a = false → ∃ g, some (false, h) = some (rulQ S a, g) ∧ RC g t T (if rulQ S a = true then upI S 14 a else S) I (if rulQ S a = true then adX X 1 0 (S.2 14) else X) ∧ K8 h g := fun q => by
    rw [q, if_neg (fun w => Bool.noConfusion w), if_neg (fun w => Bool.noConfusion w)]
    exact ⟨h, rfl, r, K8.rf h⟩
  have e14 : gI h 3 1 14 = S.2 14 := r.sd.2.2.2.2.2.2.2 14 (by omega) (by omega)
  unfold f_X7_rule
  simp only [jn_e, cl_isRule, bind_s, b2i0, decide_eq_false_iff_not, e14]
  by_cases z : 0 ≤ a ∧ a ≤ 2
  rotate_left
  · rw [if_pos z]; exact no (by unfold rulQ; rw [decide_eq_false z]; rfl)
  rw [if_neg (fun q => q z)]
  by_cases z2 : S.2 14 = a
  · rw [if_neg (fun q => q z2)]; exact no (by unfold rulQ; rw [decide_eq_false (show ¬ ¬ S.2 14 = a from fun q => q z2), Bool.and_false])
  have yes : rulQ S a = true := by
    unfold rulQ
    rw [decide_eq_true z, decide_eq_true z2]; rfl
  obtain ⟨g1, e1, n1, r1, k1⟩ := cl_add r u 1 0 (S.2 14)
  obtain ⟨f2, d2⟩ := r1.sd.num 14 a
  rw [if_pos z2, e1, bind_s, lt_e, yes, if_pos rfl, if_pos rfl]
  exact ⟨_, rfl, r1.set1 f2 d2, k1.tr f2.k8⟩
theorem cl_lot (r : RC h t T S I X) (u : UX X) (s c : Int32) : ∃ g, f_X7_lot h s c = some (lotQ T S s c, g) ∧ RC g t T (if lotQ T S s c = true then upA S 1 s.toNatClampNeg c else S) I (if lotQ T S s c = true then adX X 2 s (S.1 1 s.toNatClampNeg) else X) ∧ K8 h g := by
  have hT := r.1.2.2.2.2.1
  have h8 := hT.1.2
  have no : lotQ T S s c = false → ∃ g, some (false, h) = some (lotQ T S s c, g) ∧ RC g t T (if lotQ T S s c = true then upA S 1 s.toNatClampNeg c else S) I (if lotQ T S s c = true then adX X 2 s (S.1 1 s.toNatClampNeg) else X) ∧ K8 h g := fun q => by
    rw [q, if_neg (fun w => Bool.noConfusion w), if_neg (fun w => Bool.noConfusion w)]
    exact ⟨h, rfl, r, K8.rf h⟩
  unfold f_X7_lot
  simp only [jn_e, cl_isStripe r.1.2.1 r.1.2.2.2.1, cl_isCroft r.1.2.1 r.1.2.2.2.1, bind_s]
  cases hs : inS T s with
  | false => rw [if_pos (show b2i false = 0 from rfl)]; exact no (by unfold lotQ; rw [hs]; rfl)
  | true =>
    rw [if_neg (show ¬ b2i true = 0 by decide)]
    cases hc : inC T c with
    | false => rw [if_pos (show b2i false = 0 from rfl)]; exact no (by unfold lotQ; rw [hs, hc]; rfl)
    | true =>
      obtain ⟨i, hi, rfl⟩ := inS_of hT hs
      have a1 : gA h 3 1 1 i = S.1 1 i := (r.sd.2.2.2.2.1 i hi).2
      rw [if_neg (show ¬ b2i true = 0 by decide), grd_p (inb_n (show i < 8 by omega) (by omega))]
      simp only [clN (show i < 2 ^ 31 by omega), a1]
      simp only [clN (show i < 2 ^ 31 by omega)] at no
      by_cases z2 : S.1 1 i = c
      · rw [if_neg (fun q => q z2)]
        exact no (by unfold lotQ; rw [clN (show i < 2 ^ 31 by omega), decide_eq_false (fun q => q z2), Bool.and_false])
      have yes : lotQ T S (nI i) c = true := by
        unfold lotQ
        rw [hs, hc, clN (show i < 2 ^ 31 by omega), decide_eq_true z2]; rfl
      obtain ⟨g1, e1, n1, r1, k1⟩ := cl_add r u 2 (nI i) (S.1 1 i)
      obtain ⟨f2, d2⟩ := r1.sd.row 1 i c
      rw [if_pos z2, grd_p (inb_n (show i < 8 by omega) (by omega)), e1, bind_s, grd_p (inb_n (show i < 8 by omega) (by omega)), lt_e, yes, if_pos rfl, if_pos rfl]
      exact ⟨_, rfl, r1.set1 f2 d2, k1.tr f2.k8⟩
theorem cl_lend (r : RC h t T S I X) (u : UX X) (a b : Int32) : ∃ g, f_X7_lend h a b = some (lenM T S a b, g) ∧ RC g t T (if lenM T S a b = true then mvM S a.toNatClampNeg b.toNatClampNeg else S) I (if lenM T S a b = true then adX X 3 a b else X) ∧ K8 h g := by
  have hT := r.1.2.2.2.2.1
  have hc4 := hT.2.1.2
  unfold f_X7_lend
  rw [cl_canLend r, bind_s]
  cases hl : lenM T S a b with
  | false =>
    rw [if_neg (show ¬ ¬ b2i false = 0 by decide), if_neg (fun w => Bool.noConfusion w), if_neg (fun w => Bool.noConfusion w)]
    exact ⟨h, rfl, r, K8.rf h⟩
  | true =>
    obtain ⟨i, j, hi, hj, hij, rfl, rfl, h4, h5⟩ := lenM_of hT hl
    obtain ⟨g1, e1, n1, r1, k1⟩ := cl_add r u 3 (nI i) (nI j)
    obtain ⟨g2, e2, f2, d2⟩ := r1.sd.move hi hj
    rw [if_pos (show ¬ b2i true = 0 by decide), e1, bind_s, e2, bind_s, if_pos rfl, if_pos rfl, clN (show i < 2 ^ 31 by omega), clN (show j < 2 ^ 31 by omega)]
    exact ⟨g2, rfl, r1.set1 f2 d2, k1.tr f2.k8⟩
end Change

