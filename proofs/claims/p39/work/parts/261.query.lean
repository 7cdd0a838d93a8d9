-- PURE: plain questions, by both
def crfM (T : Txt) (S : Str) (c w : Int32) : Int32 := if inC T c = true then (if w = 0 then S.1 2 c.toNatClampNeg else if w = 1 then S.1 3 c.toNatClampNeg else if w = 2 then S.1 4 c.toNatClampNeg else if w = 3 then S.1 5 c.toNatClampNeg else if w = 4 then S.1 6 c.toNatClampNeg else if w = 5 then S.1 7 c.toNatClampNeg else if w = 6 then lotM S c (nSt T) else -1) else -1
def fldM (T : Txt) (S : Str) (f w : Int32) : Int32 := if inF T f = true then (if w = 0 then T.1 5 f.toNatClampNeg else if w = 1 then T.1 6 f.toNatClampNeg else if w = 2 then T.1 7 f.toNatClampNeg else if w = 3 then S.1 9 f.toNatClampNeg else if w = 4 then worM T S f.toNatClampNeg else -1) else -1
def souM (T : Txt) (S : Str) (c w : Int32) : Int32 := if inC T c = true ∧ 0 ≤ w ∧ w ≤ 1 then srcM T S c (decide (w = 1)) else -1
def couM (T : Txt) (S : Str) (X : Xs) (w : Int32) : Int32 := if w = 0 then T.2.1 11 else if w = 1 then T.2.1 12 else if w = 2 then T.2.1 13 else if w = 3 then T.2.1 14 else if w = 4 then X.2 6 else if w = 5 then S.2 11 else if w = 6 then sumM (S.1 0) (nSt T) else if w = 7 then S.2 12 else if w = 8 then S.2 13 else if w = 9 then sumM (S.1 9) (nFi T) else if w = 10 then sumM (S.1 6) (nCr T) else if w = 11 then S.2 14 else if w = 12 then X.2 1 else if w = 13 then nI (kzM X) else if w = 14 then X.2 0 else -1
theorem ite_so {α : Type} (p : Prop) [Decidable p] (x y : α) : (if p then some x else some y) = some (if p then x else y) := by
  by_cases z : p
  · rw [if_pos z, if_pos z]
  · rw [if_neg z, if_neg z]
section Query
variable {N : Nat} {h g : Hp} {t : Nat} {T : Txt} {S I : Str} {X : Xs}
theorem cl_croft (hN : 1000 ≤ N) (r : RC h t T S I X) (c w : Int32) : f_X7_croft N h c w = some (crfM T S c w) := by
  have hT := r.1.2.2.2.2.1
  have hc4 := hT.2.1.2
  unfold f_X7_croft crfM
  rw [cl_isCroft r.1.2.1 r.1.2.2.2.1 c, bind_s]
  cases hc : inC T c with
  | false => rw [if_neg (show ¬ ¬ b2i false = 0 by decide), if_neg (fun q => Bool.noConfusion q)]
  | true =>
    rw [if_pos (show ¬ b2i true = 0 by decide), if_pos (show true = true from rfl)]
    obtain ⟨i, hi, rfl⟩ := inC_of hT hc
    obtain ⟨a2, a3, a4, a5, a6, a7⟩ := r.sd.2.2.2.2.2.1 i hi
    have b2 : gA h 3 1 2 i = S.1 2 i := a2
    have b3 : gA h 3 1 3 i = S.1 3 i := a3
    have b4 : gA h 3 1 4 i = S.1 4 i := a4
    have b5 : gA h 3 1 5 i = S.1 5 i := a5
    have b6 : gA h 3 1 6 i = S.1 6 i := a6
    have b7 : gA h 3 1 7 i = S.1 7 i := a7
    simp only [clN (show i < 2 ^ 31 by omega), grd_p (inb_n (show i < 4 by omega) (show 4 < 2 ^ 31 by omega)), b2, b3, b4, b5, b6, b7, r.sd.lots hN, bind_s]
    by_cases q0 : w = 0
    · rw [if_pos q0, if_pos q0]
    rw [if_neg q0, if_neg q0]
    by_cases q1 : w = 1
    · rw [if_pos q1, if_pos q1]
    rw [if_neg q1, if_neg q1]
    by_cases q2 : w = 2
    · rw [if_pos q2, if_pos q2]
    rw [if_neg q2, if_neg q2]
    by_cases q3 : w = 3
    · rw [if_pos q3, if_pos q3]
    rw [if_neg q3, if_neg q3]
    by_cases q4 : w = 4
    · rw [if_pos q4, if_pos q4]
    rw [if_neg q4, if_neg q4]
    by_cases q5 : w = 5
    · rw [if_pos q5, if_pos q5]
    rw [if_neg q5, if_neg q5]
    by_cases q6 : w = 6
    · rw [if_pos q6, if_pos q6]
    · rw [if_neg q6, if_neg q6]
theorem cl_source (hN : 1000 ≤ N) (r : RC h t T S I X) (c w : Int32) : f_X7_source N h c w = some (souM T S c w) := by
  have hT := r.1.2.2.2.2.1
  unfold f_X7_source souM
  simp only [jn_e, cl_isCroft r.1.2.1 r.1.2.2.2.1, bind_s, b2i0, r.sd.source hN]
  cases hc : inC T c with
  | false => rw [if_pos rfl, if_neg (fun q => Bool.noConfusion q.1)]
  | true =>
    rw [if_neg (fun q => Bool.noConfusion q)]
    by_cases z0 : w < 0
    · rw [if_pos z0, if_neg (fun q => absurd q.2.1 (Int32.not_le.mpr z0))]
    rw [if_neg z0]
    by_cases z1 : w ≤ 1
    · rw [if_pos z1, if_pos (show true = true ∧ 0 ≤ w ∧ w ≤ 1 from ⟨rfl, Int32.not_lt.mp z0, z1⟩)]
      by_cases z2 : w = 1
      · rw [if_neg (fun q => q z2), decide_eq_true z2]
      · rw [if_pos z2, decide_eq_false z2]
    · rw [if_neg z1, if_neg (fun q => z1 q.2.2)]
theorem cl_field (hN : 1000 ≤ N) (r : RC h t T S I X) (f w : Int32) : ∃ g, f_X7_field N h f w = some (fldM T S f w, g) ∧ RC g t T S I X ∧ K8 h g := by
  have hT := r.1.2.2.2.2.1
  have hf6 := hT.2.2.1.2
  have et : ∀ k i, gA h 5 t k i = T.1 k i := fun k i => by rw [← r.1.2.2.2.1]; rfl
  unfold f_X7_field fldM
  rw [cl_isField r.1.2.1 r.1.2.2.2.1 f, bind_s]
  cases hc : inF T f with
  | false => rw [if_neg (show ¬ ¬ b2i false = 0 by decide), if_neg (fun q => Bool.noConfusion q)]; exact ⟨h, rfl, r, K8.rf h⟩
  | true =>
    rw [if_pos (show ¬ b2i true = 0 by decide), if_pos (show true = true from rfl)]
    obtain ⟨i, hi, rfl⟩ := inF_of hT hc
    have a9 : gA h 3 1 9 i = S.1 9 i := r.sd.2.2.2.2.2.2.1 i hi
    simp only [r.1.2.1, onO_s, clN (show i < 2 ^ 31 by omega), grd_p (inb_n (show i < 6 by omega) (show 6 < 2 ^ 31 by omega)), et, a9]
    by_cases q0 : w = 0
    · rw [if_pos q0, if_pos q0]; exact ⟨h, rfl, r, K8.rf h⟩
    rw [if_neg q0, if_neg q0]
    by_cases q1 : w = 1
    · rw [if_pos q1, if_pos q1]; exact ⟨h, rfl, r, K8.rf h⟩
    rw [if_neg q1, if_neg q1]
    by_cases q2 : w = 2
    · rw [if_pos q2, if_pos q2]; exact ⟨h, rfl, r, K8.rf h⟩
    rw [if_neg q2, if_neg q2]
    by_cases q3 : w = 3
    · rw [if_pos q3, if_pos q3]; exact ⟨h, rfl, r, K8.rf h⟩
    rw [if_neg q3, if_neg q3]
    by_cases q4 : w = 4
    · rw [if_pos q4, if_pos q4]
      obtain ⟨g', e, f1, d1⟩ := r.sd.worth hN hi
      rw [e, bd2_s]
      exact ⟨g', rfl, r.set1 f1 d1, f1.k8⟩
    · rw [if_neg q4, if_neg q4]; exact ⟨h, rfl, r, K8.rf h⟩
theorem cl_count (hN : 1000 ≤ N) (r : RC h t T S I X) (x : SX X) (w : Int32) : f_X7_count N h w = some (couM T S X w) := by
  have ei : ∀ k, gI h 5 t k = T.2.1 k := fun k => by rw [← r.1.2.2.2.1]; rfl
  have si : ∀ k, 11 ≤ k → k ≤ 16 → gI h 3 1 k = S.2 k := fun k h1 h2 => r.sd.2.2.2.2.2.2.2 k h1 h2
  have e6 : gI h 0 t 6 = X.2 6 := by rw [← r.2.2.2.1]; rfl
  have e1 : gI h 2 0 4 = X.2 1 := by rw [← r.2.2.2.1]; rfl
  have e0 : gI h 6 0 3 = X.2 0 := by rw [← r.2.2.2.1]; rfl
  unfold f_X7_count couM
  simp only [r.1.2.1, onO_s, ei, si 11 (by omega) (by omega), si 12 (by omega) (by omega), si 13 (by omega) (by omega), si 14 (by omega) (by omega), e6, e1, e0, r.sd.lying hN, r.sd.got hN, r.sd.gains hN, cl_known r.seen x, bind_s, ite_so]
end Query

