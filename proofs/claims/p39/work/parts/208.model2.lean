-- PURE: an hour by the reference, where it takes from and what it moves
/-- what is so of a strand that is played -/
def SOK (T : Txt) (n : Nat) (S : Str) : Prop := (∀ s, s < nSt T → 0 ≤ (S.1 0 s).toInt ∧ (S.1 0 s).toInt ≤ 9999) ∧ (∀ c, c < nCr T → 0 ≤ (S.1 2 c).toInt ∧ (S.1 2 c).toInt ≤ 6 ∧ 0 ≤ (S.1 3 c).toInt ∧ (S.1 3 c).toInt ≤ 9 ∧ (S.1 5 c = 0 ∨ S.1 5 c = 1 ∨ S.1 5 c = 2 ∨ S.1 5 c = 3)) ∧ (∀ f, f < nFi T → 0 ≤ (S.1 9 f).toInt ∧ (S.1 9 f).toInt ≤ 396 * (S.2 11).toInt + 99 * n) ∧ 0 ≤ (S.2 11).toInt ∧ (S.2 11).toInt ≤ 5000000 ∧ n ≤ 4 ∧ (0 ≤ (S.2 12).toInt ∧ (S.2 12).toInt ≤ 999 + 396 * (S.2 11).toInt + 99 * n) ∧ ∀ c, c < nCr T → 0 ≤ (S.1 7 c).toInt ∧ (S.1 7 c).toInt ≤ 99 * (S.2 11).toInt + (if c < n then 99 else 0)
def TR (T : Txt) : Prop := (∀ f, f < nFi T → 0 ≤ (T.1 6 f).toInt ∧ (T.1 6 f).toInt ≤ 99) ∧ 0 ≤ (T.2.1 17).toInt ∧ (T.2.1 17).toInt ≤ 100 ∧ 0 ≤ (T.2.1 18).toInt ∧ (T.2.1 18).toInt ≤ 9999
theorem eq_nI {x : Int32} (h : 0 ≤ x.toInt) : ∃ k : Nat, x = nI k ∧ x.toInt = k := by
  have h2 := Int32.toInt_lt x
  have e : (x.toInt.toNat : Int) = x.toInt := Int.toNat_of_nonneg h
  refine ⟨x.toInt.toNat, ?_, e.symm⟩
  apply Int32.toInt_inj.mp
  rw [nI_toInt (by omega), e]
theorem sub_toInt {x y : Int32} (h : -2147483648 ≤ x.toInt - y.toInt ∧ x.toInt - y.toInt < 2147483648) : (x - y).toInt = x.toInt - y.toInt := by
  rw [Int32.toInt_sub, Int.bmod_eq_of_le (by omega) (by omega)]
theorem add_toInt {x y : Int32} (h : -2147483648 ≤ x.toInt + y.toInt ∧ x.toInt + y.toInt < 2147483648) : (x + y).toInt = x.toInt + y.toInt := by
  rw [Int32.toInt_add, Int.bmod_eq_of_le (by omega) (by omega)]
section Model
variable {N : Nat} {h : Hp} {b : Nat} {ru : Int32} {T : Txt} {S : Str} {e : Bool} {B : Scr} {n : Nat}
end Model

