-- PURE: lending by the reference
section Lend
variable {N : Nat} {g : Hp} {ru : Int32} {T : Txt} {S : Str}
theorem Sm.cart1 (s : Sm g 1 ru T S) {j : Nat} (v : Int32) (hj : j < 4) : F8 g (sA g 8 0 25 (4 + j) v) ∧ Sm (sA g 8 0 25 (4 + j) v) 1 ru T (upA S 2 j v) := by
  have f : F8 g (sA g 8 0 25 (4 + j) v) := F8.a g v (by decide) (fun _ _ => by rw [h4x 25 (by omega) (by omega)]; omega)
  obtain ⟨hT, R, X, q, h49⟩ := s
  refine ⟨f, hT, R, f.mt X, Sq.tr ?_ (q.upA 2 j v), h49⟩
  refine ⟨fun s _ => ⟨rfl, rfl⟩, fun c _ => ⟨?_, rfl, rfl, rfl, rfl, rfl⟩, fun i _ => rfl, fun k _ _ => rfl⟩
  rw [upA_at]
  show gA (sA g 8 0 25 (4 + j) v) 8 0 25 (4 * 1 + c) = if c = j then v else gA g 8 0 25 (4 * 1 + c)
  rw [A_at]
  by_cases z : c = j
  · rw [if_pos z, if_pos ⟨rfl, by omega⟩]
  · rw [if_neg z, if_neg (by omega)]
theorem SOK.carts {n : Nat} (K : SOK T n S) {j : Nat} {v : Int32} (h0 : 0 ≤ v.toInt) (h1 : v.toInt ≤ 6) : SOK T n (upA S 2 j v) := by
  obtain ⟨a, c, d, e1, e2, e3, e4, e5⟩ := K
  refine ⟨fun s hs => ?_, fun q hq => ?_, fun f hf => ?_, e1, e2, e3, e4, fun q hq => ?_⟩
  · rw [upA_n S j v (show (0 : Nat) ≠ 2 by decide)]; exact a s hs
  · rw [upA_n S j v (show (5 : Nat) ≠ 2 by decide), upA_n S j v (show (3 : Nat) ≠ 2 by decide), upA_at]
    obtain ⟨c1, c2, c3, c4, c5⟩ := c q hq
    by_cases z : q = j
    · rw [if_pos z]; exact ⟨h0, h1, c3, c4, c5⟩
    · rw [if_neg z]; exact ⟨c1, c2, c3, c4, c5⟩
  · rw [upA_n S j v (show (9 : Nat) ≠ 2 by decide)]; exact d f hf
  · rw [upA_n S j v (show (7 : Nat) ≠ 2 by decide)]; exact e5 q hq
theorem mvM_SOK {n : Nat} (K : SOK T n S) {i j : Nat} (hi : i < nCr T) (hj : j < nCr T) (hij : i ≠ j) (h4 : 0 < S.1 2 i) (h5 : S.1 2 j < 5) : SOK T n (mvM S i j) := by
  have h4' := Int32.lt_iff_toInt_lt.mp h4
  have h5' := Int32.lt_iff_toInt_lt.mp h5
  have z0 : (0 : Int32).toInt = 0 := rfl
  have z1 : (1 : Int32).toInt = 1 := rfl
  have z5 : (5 : Int32).toInt = 5 := rfl
  have a := K.2.1 i hi
  have c := K.2.1 j hj
  have e1 : (S.1 2 i - 1).toInt = (S.1 2 i).toInt - 1 := by rw [sub_toInt (by omega)]; rfl
  have e2 : (S.1 2 j + 1).toInt = (S.1 2 j).toInt + 1 := by rw [add_toInt (by omega)]; rfl
  unfold mvM
  have K1 := K.carts (j := i) (v := S.1 2 i - 1) (by omega) (by omega)
  rw [upA_at, if_neg (fun q => hij q.symm)]
  exact K1.carts (j := j) (v := S.1 2 j + 1) (by omega) (by omega)
theorem mvM_hour (S : Str) (i j : Nat) : (mvM S i j).2 = S.2 := rfl
end Lend
