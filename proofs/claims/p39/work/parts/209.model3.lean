-- PURE: an hour by the reference, what it does
theorem nI_inj {i j : Nat} (hi : i < 2 ^ 31) (hj : j < 2 ^ 31) (q : nI i = nI j) : i = j := by
  have := congrArg Int32.toInt q
  rw [nI_toInt hi, nI_toInt hj] at this
  omega
theorem pwM_rng (v : Int64) (m : Nat) (hm : m < 2 ^ 31) : ∃ k : Nat, k ≤ m ∧ pwM v (nI m) = nI k := by
  unfold pwM
  by_cases z : v < 0
  · rw [if_pos z]; exact ⟨0, by omega, rfl⟩
  rw [if_neg z]
  by_cases w : (nI m).toInt64 < v
  · rw [if_pos w]; exact ⟨m, Nat.le_refl _, rfl⟩
  rw [if_neg w]
  have z1 : ¬ v.toInt < 0 := fun q => z (Int64.lt_iff_toInt_lt.mpr q)
  have w1 : ¬ (nI m).toInt < v.toInt := fun q => w (Int64.lt_iff_toInt_lt.mpr (by rw [Int32.toInt_toInt64]; exact q))
  rw [nI_toInt hm] at w1
  have e : v.toInt32.toInt = v.toInt := by
    rw [Int64.toInt_toInt32, Int.bmod_eq_of_le (by omega) (by omega)]
  obtain ⟨k, q1, q2⟩ := eq_nI (x := v.toInt32) (by omega)
  exact ⟨k, by omega, q1⟩
theorem worM_nn (T : Txt) (S : Str) (f : Nat) : ∃ k : Nat, k ≤ 99 ∧ worM T S f = nI k := pwM_rng _ 99 (by omega)
theorem bfM_val (T : Txt) (S : Str) (c : Int32) : ∀ n, ((bfM T S c n).1 = -1 ∧ (bfM T S c n).2 = -1) ∨ ∃ j, j < n ∧ (bfM T S c n).1 = nI j ∧ (bfM T S c n).2 = worM T S j
  | 0 => Or.inl ⟨rfl, rfl⟩
  | n + 1 => by
    rw [bfM_s]
    by_cases z : T.1 5 n = c ∧ (bfM T S c n).2 < worM T S n
    · rw [if_pos z]; exact Or.inr ⟨n, Nat.lt_succ_self n, rfl, rfl⟩
    · rw [if_neg z]
      rcases bfM_val T S c n with e | ⟨j, hj, e⟩
      · exact Or.inl e
      · exact Or.inr ⟨j, by omega, e⟩
section Model
variable {N : Nat} {h : Hp} {b : Nat} {ru : Int32} {T : Txt} {S : Str} {e : Bool} {B : Scr} {n : Nat}
end Model

