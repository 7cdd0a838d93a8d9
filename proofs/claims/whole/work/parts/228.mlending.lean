-- PURE: lending by the reference
section Lend
variable {N : Nat} {g : Hp} {ru : Int32} {T : Txt} {S : Str}
theorem Sm.cart1 (s : Sm g 1 ru T S) {j : Nat} (v : Int32) (hj : j < 4) : F8 g (sA g 8 0 25 (4 + j) v) ∧ Sm (sA g 8 0 25 (4 + j) v) 1 ru T (upA S 2 j v) := by
  have f : F8 g (sA g 8 0 25 (4 + j) v) := F8.a g v (by decide) (fun _ _ => by rw [h4x 25 (by omega) (by omega)]; omega)
  obtain ⟨hT, R, X, q, h49⟩ := s
  refine ⟨f, hT, R, f.mt X, Sq.tr ?_ (q.upA 2 j v), h49⟩
  refine ⟨fun s _ => ⟨rfl, rfl⟩, fun c _ => ⟨?_, rfl, rfl, rfl, rfl, rfl⟩, fun i _ => rfl, fun k _ _ => rfl⟩
  rw [upA_at]
  show gA (sA g 8 0 25 (4 + j) v) 8 0 25 (4 * 1 + c) = if c = j then v else gA g 8 0 25 (4 * 1 + c)
  rw [A_at]
  by_cases z : c = j
  · rw [if_pos z, if_pos ⟨rfl, by omega⟩]
  · rw [if_neg z, if_neg (by omega)]
theorem SOK.carts {n : Nat} (K : SOK T n S) {j : Nat} {v : Int32} (h0 : 0 ≤ v.toInt) (h1 : v.toInt ≤ 6) : SOK T n (upA S 2 j v) := by
  obtain ⟨a, c, d, e1, e2, e3, e4, e5⟩ := K
  refine ⟨fun s hs => ?_, fun q hq => ?_, fun f hf => ?_, e1, e2, e3, e4, fun q hq => ?_⟩
  · rw [upA_n S j v (show (0 : Nat) ≠ 2 by decide)]; exact a s hs
  · rw [upA_n S j v (show (5 : Nat) ≠ 2 by decide), upA_n S j v (show (3 : Nat) ≠ 2 by decide), upA_at]
    obtain ⟨c1, c2, c3, c4, c5⟩ := c q hq
    by_cases z : q = j
    · rw [if_pos z]; exact ⟨h0, h1, c3, c4, c5⟩
    · rw [if_neg z]; exact ⟨c1, c2, c3, c4, c5⟩
  · rw [upA_n S j v (show (9 : Nat) ≠ 2 by decide)]; exact d f hf
  · rw [upA_n S j v (show (7 : Nat) ≠ 2 by decide)]; exact e5 q hq
theorem mvM_SOK {n : Nat} (K : SOK T n S) {i j : Nat} (hi : i < nCr T) (hj : j < nCr T) (hij : i ≠ j) (h4 : 0 < S.1 2 i) (h5 : S.1 2 j < 5) : SOK T n (mvM S i j) := by
  have h4' := Int32.lt_iff_toInt_lt.mp h4
  have h5' := Int32.lt_iff_toInt_lt.mp h5
  have z0 : (0 : Int32).toInt = 0 := rfl
  have z1 : (1 : Int32).toInt = 1 := rfl
  have z5 : (5 : Int32).toInt = 5 := rfl
  have a := K.2.1 i hi
  have c := K.2.1 j hj
  have e1 : (S.1 2 i - 1).toInt = (S.1 2 i).toInt - 1 := by rw [sub_toInt (by omega)]; rfl
  have e2 : (S.1 2 j + 1).toInt = (S.1 2 j).toInt + 1 := by rw [add_toInt (by omega)]; rfl
  unfold mvM
  have K1 := K.carts (j := i) (v := S.1 2 i - 1) (by omega) (by omega)
  rw [upA_at, if_neg (fun q => hij q.symm)]
  exact K1.carts (j := j) (v := S.1 2 j + 1) (by omega) (by omega)
theorem mvM_hour (S : Str) (i j : Nat) : (mvM S i j).2 = S.2 := rfl
end Lend
section Lend2
variable {N : Nat} {g : Hp} {T : Txt} {S : Str}
theorem neg_add_i (x y : Int32) : -x + y = y - x := by rw [Int32.add_comm, ← Int32.sub_eq_add_neg]
theorem mx0_e {α : Type} (x : Int32) (k : Int32 → α) : (if 0 ≤ x then k x else k 0) = k (mx0 x) := by
  unfold mx0
  by_cases z : 0 ≤ x
  · rw [if_pos z, if_neg (Int32.not_lt.mpr z)]
  · rw [if_neg z, if_pos (Int32.not_le.mp z)]
theorem m_lending (hN : 1000 ≤ N) (r : R8a g T S) (K : SOK T 0 S) (hh : (S.2 11).toInt ≤ 4000000) (p64 : gZ g 8 0 64 = false) (a b n what : Int32) : ∃ g', f_X8_lending N g a b n what = some (lnd T S a b n what, g') ∧ F8 g g' ∧ gZ g' 8 0 64 = false := by
  have f0 : F8 g (sI g 8 0 2 0) := F8.i g 0 (by decide)
  have r0 := r.f8 f0
  have hT := r.1
  have hc4 := hT.2.1.2
  unfold f_X8_lending lnd
  rw [lt_e, m_canLend r0, bind_s]
  simp only [jn_e, lt_e, m_isIn, bind_s, b2i0, decide_eq_false_iff_not, Classical.not_not]
  cases hl : lenM T S a b with
  | false => rw [if_pos rfl, if_neg (fun q => Bool.noConfusion q.1)]; exact ⟨_, rfl, f0, p64⟩
  | true =>
    rw [if_neg (fun q => Bool.noConfusion q)]
    by_cases w : 1 ≤ n ∧ n ≤ 99
    rotate_left
    · rw [if_pos w, if_neg (fun q => w q.2.1)]; exact ⟨_, rfl, f0, p64⟩
    rw [if_neg (fun q => q w)]
    by_cases y : 0 ≤ what ∧ what ≤ 2
    rotate_left
    · rw [if_neg y, if_neg (fun q => y q.2.2)]; exact ⟨_, rfl, f0, p64⟩
    rw [if_pos y, if_pos (show true = true ∧ (1 ≤ n ∧ n ≤ 99) ∧ 0 ≤ what ∧ what ≤ 2 from ⟨rfl, w, y⟩)]
    obtain ⟨i, j, hi, hj, hij, rfl, rfl, h4, h5⟩ := lenM_of hT hl
    obtain ⟨k, hk, rfl⟩ := rngN (a := n) (m := 99) (by omega) (Int32.le_trans (by decide) w.1) w.2
    obtain ⟨g1, e1, f1, p1, s1, u1, -⟩ := m_lay hN r0
    obtain ⟨g2, e2, f2, s2⟩ := s1.pass hN K hh (n := k) (by omega)
    have r2 := (r0.f8 f1).f8 f2.f8
    obtain ⟨g3, e3, f3, p3, s3, u3, -⟩ := m_lay hN r2
    have x3 : ∀ c, c < nCr T → gA g3 8 0 25 (4 + c) = S.1 2 c := fun c hc => (s3.2.2.2.1.2.1 c hc).1
    obtain ⟨f4, s4⟩ := s3.cart1 (j := i) (S.1 2 i - 1) (by omega)
    have x4 : gA (sA g3 8 0 25 (4 + i) (S.1 2 i - 1)) 8 0 25 (4 + j) = (upA S 2 i (S.1 2 i - 1)).1 2 j := (s4.2.2.2.1.2.1 j hj).1
    obtain ⟨f5, s5⟩ := s4.cart1 (j := j) ((upA S 2 i (S.1 2 i - 1)).1 2 j + 1) (by omega)
    have s5' : Sm (sA (sA g3 8 0 25 (4 + i) (S.1 2 i - 1)) 8 0 25 (4 + j) ((upA S 2 i (S.1 2 i - 1)).1 2 j + 1)) 1 (S.2 14) T (mvM S i j) := s5
    have u5 : gI (sA (sA g3 8 0 25 (4 + i) (S.1 2 i - 1)) 8 0 25 (4 + j) ((upA S 2 i (S.1 2 i - 1)).1 2 j + 1)) 8 0 61 = S.2 14 := u3
    obtain ⟨g6, e6, f6, s6⟩ := s5'.pass hN (mvM_SOK K hi hj hij h4 h5) hh (n := k) (by omega)
    have b2 : ∀ c, c < nCr T → gA g2 8 0 28 (4 + c) = (passN T S k).1 6 c := fun c hc => (s2.2.2.2.1.2.1 c hc).2.2.2.2.1
    have b6 : ∀ c, c < nCr T → gA g6 8 0 28 (4 + c) = (passN T (mvM S i j) k).1 6 c := fun c hc => (s6.2.2.2.1.2.1 c hc).2.2.2.2.1
    have hi4 : (4 : Int32) + nI i = nI (4 + i) := nI_add 4 i
    have hj4 : (4 : Int32) + nI j = nI (4 + j) := nI_add 4 j
    simp only [e1, bind_s, u1, e2, hi4, hj4, grd_p (inb_n (show 4 + i < 8 by omega) (show 8 < 2 ^ 31 by omega)), grd_p (inb_n (show 4 + j < 8 by omega) (show 8 < 2 ^ 31 by omega)), clN (show 4 + i < 2 ^ 31 by omega), clN (show 4 + j < 2 ^ 31 by omega), clN (show i < 2 ^ 31 by omega), clN (show j < 2 ^ 31 by omega), clN (show k < 2 ^ 31 by omega), b2 i hi, b2 j hj, e3, x3 i hi, x4, u5, e6, b6 i hi, b6 j hj, neg_add_i]
    refine ⟨g6, ?_, (((f0.tr f1).tr f2.f8).tr f3).tr ((f4.tr f5).tr f6.f8), ?_⟩
    · unfold lndM
      rw [mx0_e ((passN T S k).1 6 i - (passN T (mvM S i j) k).1 6 i) (fun v15 => if 0 ≤ (passN T (mvM S i j) k).1 6 j - (passN T S k).1 6 j then (if ¬ what = 0 then if ¬ what = 1 then if (passN T (mvM S i j) k).1 6 j - (passN T S k).1 6 j ≤ v15 then some (-2, g6) else some (v15 + 1, g6) else some ((passN T (mvM S i j) k).1 6 j - (passN T S k).1 6 j, g6) else some (v15, g6)) else (if ¬ what = 0 then if ¬ what = 1 then if 0 ≤ v15 then some (-2, g6) else some (v15 + 1, g6) else some (0, g6) else some (v15, g6)))]
      rw [mx0_e ((passN T (mvM S i j) k).1 6 j - (passN T S k).1 6 j) (fun v16 => if ¬ what = 0 then if ¬ what = 1 then if v16 ≤ mx0 ((passN T S k).1 6 i - (passN T (mvM S i j) k).1 6 i) then some (-2, g6) else some (mx0 ((passN T S k).1 6 i - (passN T (mvM S i j) k).1 6 i) + 1, g6) else some (v16, g6) else some (mx0 ((passN T S k).1 6 i - (passN T (mvM S i j) k).1 6 i), g6))]
      obtain ⟨q, hq, rfl⟩ := rngN (a := what) (m := 2) (by omega) y.1 y.2
      rcases (show q = 0 ∨ q = 1 ∨ q = 2 by omega) with rfl | rfl | rfl
      · rfl
      · rfl
      · exact ite_pr _ _ _ _
    · obtain ⟨S', e', B', rfl⟩ := f6
      rw [M8_Z _ 1 S' e' B' 64 (by decide)]
      exact p3.2.1
end Lend2
