-- PURE: what lending would bring
def lenM (T : Txt) (S : Str) (a b : Int32) : Bool := inC T a && inC T b && decide (¬ a = b) && decide (0 < S.1 2 a.toNatClampNeg) && decide (S.1 2 b.toNatClampNeg < 5)
def mvM (S : Str) (a b : Nat) : Str := upA (upA S 2 a (S.1 2 a - 1)) 2 b ((upA S 2 a (S.1 2 a - 1)).1 2 b + 1)
def mx0 (x : Int32) : Int32 := if x < 0 then 0 else x
section Lend
variable {N : Nat} {h g : Hp} {t : Nat} {T : Txt} {S I : Str} {X : Xs}
theorem cl_canLend (r : RC h t T S I X) (a b : Int32) : f_X7_canLend h a b = some (lenM T S a b) := by
  obtain ⟨⟨-, k2, -, k4, hT, -⟩, ⟨-, q⟩, -⟩ := r
  have hc4 := hT.2.1.2
  unfold f_X7_canLend lenM
  rw [cl_isCroft k2 k4 a, bind_s, cl_isCroft k2 k4 b]
  simp only [jn_e, b2i0, bind_s]
  cases ha : inC T a with
  | false => rw [if_pos rfl]; rfl
  | true =>
    rw [if_neg (fun q => Bool.noConfusion q)]
    cases hb : inC T b with
    | false => rw [if_pos rfl]; rfl
    | true =>
      rw [if_neg (fun q => Bool.noConfusion q)]
      obtain ⟨i, hi, rfl⟩ := inC_of hT ha
      obtain ⟨j, hj, rfl⟩ := inC_of hT hb
      have qi : gA h 3 1 2 i = S.1 2 i := (q.2.1 i hi).1
      have qj : gA h 3 1 2 j = S.1 2 j := (q.2.1 j hj).1
      simp only [clN (show i < 2 ^ 31 by omega), clN (show j < 2 ^ 31 by omega), grd_p (inb_n (show i < 4 by omega) (show 4 < 2 ^ 31 by omega)), grd_p (inb_n (show j < 4 by omega) (show 4 < 2 ^ 31 by omega)), qi, qj]
      by_cases z : nI i = nI j
      · simp [z]
      by_cases y : S.1 2 i ≤ 0
      · simp [z, y, Int32.not_lt.mpr y]
      have y' := Int32.not_le.mp y
      by_cases w : 5 ≤ S.1 2 j
      · simp [z, y, y', w, Int32.not_lt.mpr w]
      · have w' := Int32.not_le.mp w
        simp [z, y, y', w, w']
end Lend

