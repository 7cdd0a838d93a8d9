-- PURE: an hour by the reference, whole
def SameH (S S' : Str) : Prop := SameC S S' ∧ S'.2 11 = S.2 11 ∧ S'.2 15 = S.2 15
theorem SameH.rf (S : Str) : SameH S S := ⟨SameC.rf S, rfl, rfl⟩
theorem SameH.tr {S S' S'' : Str} (a : SameH S S') (b : SameH S' S'') : SameH S S'' := ⟨a.1.tr b.1, b.2.1.trans a.2.1, b.2.2.trans a.2.2⟩
theorem SameH.upA {S : Str} {k : Nat} (i : Nat) (v : Int32) (hk : k = 0 ∨ k = 6 ∨ k = 7 ∨ k = 9) : SameH S (upA S k i v) := ⟨SameC.upA i v hk, rfl, rfl⟩
theorem SameH.upI {S : Str} {k : Nat} (v : Int32) (hk : k = 12 ∨ k = 13) : SameH S (upI S k v) := ⟨SameC.upI v (by omega), upI_n S v (by omega), upI_n S v (by omega)⟩
theorem lessM_same (S : Str) (w v : Int32) : SameH S (lessM S w v) := by
  unfold lessM
  by_cases z : w = -3
  · rw [if_pos z]; exact SameH.upI _ (by omega)
  · rw [if_neg z]; exact SameH.upA _ _ (by omega)
theorem cartM_same (T : Txt) (S : Str) (c : Nat) : SameH S (cartM T S c) := by
  unfold cartM
  by_cases z : srcM T S (nI c) false = -2
  · rw [if_pos z]; exact SameH.rf S
  rw [if_neg z]
  by_cases w : (bfM T S (nI c) (nFi T)).1 = -1
  · rw [if_pos w]; exact SameH.rf S
  rw [if_neg w]
  unfold gotM
  exact ((lessM_same S _ _).tr (SameH.upA _ _ (by omega))).tr (SameH.upA _ _ (by omega))
theorem forkM_same (T : Txt) (S : Str) (c : Nat) : SameH S (forkM T S c) := by
  unfold forkM
  by_cases z : 0 ≤ srcM T S (nI c) true
  · rw [if_pos z]
    unfold forkS
    exact ((SameH.upA _ _ (by omega)).tr (SameH.upI _ (by omega))).tr (SameH.upA _ _ (by omega))
  · rw [if_neg z]; exact SameH.rf S
theorem actM_same (T : Txt) (S : Str) (c : Nat) : SameH S (actM T S c) := by
  unfold actM
  by_cases z : doesM T S c = 1
  · rw [if_pos z]; exact cartM_same T S c
  rw [if_neg z]
  by_cases w : doesM T S c = 2
  · rw [if_pos w]; exact forkM_same T S c
  · rw [if_neg w]; exact SameH.rf S
theorem crM_same (T : Txt) (S : Str) : ∀ c, SameH S (crM T S c)
  | 0 => SameH.rf S
  | c + 1 => by
    rw [crM_s]
    by_cases z : (crM T S c).2 11 < (crM T S c).1 4 c
    · rw [if_pos z]; exact crM_same T S c
    · rw [if_neg z]; exact (crM_same T S c).tr (actM_same T _ c)
theorem ebM_same (T : Txt) (S : Str) : ∀ j, SameH S (ebM T S j)
  | 0 => SameH.rf S
  | j + 1 => by
    rw [ebM_s]
    exact ((ebM_same T S j).tr (SameH.upA _ _ (by omega))).tr (SameH.upI _ (by omega))
theorem tdM_same (T : Txt) (S : Str) : SameH S (tdM T S) := by
  unfold tdM
  by_cases z : ¬ S.2 16 = 0 ∧ tideM T (hrM S) = true
  · rw [if_pos z]; exact ebM_same T S _
  · rw [if_neg z]; exact SameH.rf S
theorem passM_same (T : Txt) (S : Str) : SameC S (passM T S) ∧ (passM T S).2 11 = S.2 11 + 1 ∧ (passM T S).2 15 = S.2 15 := by
  have a := (crM_same T S (nCr T)).tr (tdM_same T _)
  unfold passM
  exact ⟨a.1.tr (SameC.upI _ (by omega)), by rw [upI_i, a.2.1], by rw [upI_n _ _ (show (15 : Nat) ≠ 11 by decide), a.2.2]⟩
theorem SOK.pass {T : Txt} {S : Str} (K : SOK T 0 S) (hT : TOK T) (hh : (S.2 11).toInt < 5000000) : SOK T 0 (passM T S) := by
  have a := (crM_same T S (nCr T)).tr (tdM_same T _)
  unfold passM
  exact SOK.hour (((K.crofts hT _ hT.2.1.2).more hT.2.1.2 (by omega)).tide) hT (by rw [a.2.1]; exact hh)
section Model
variable {N : Nat} {h : Hp} {b : Nat} {ru : Int32} {T : Txt} {S : Str} {e : Bool} {B : Scr} {n : Nat}
end Model

