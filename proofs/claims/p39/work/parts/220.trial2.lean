-- PURE: hours tried by the reference, many; sums
theorem passN_hour {T : Txt} {S : Str} (hT : TOK T) (K : SOK T 0 S) (hh : (S.2 11).toInt ≤ 4000000) : ∀ n : Nat, n ≤ 1000 → SOK T 0 (passN T S n) ∧ ((passN T S n).2 11).toInt = (S.2 11).toInt + n
  | 0, _ => ⟨K, by show (S.2 11).toInt = _; omega⟩
  | n + 1, h => by
    obtain ⟨a, b⟩ := passN_hour hT K hh n (by omega)
    have h0 := K.2.2.2.1
    rw [passN_s]
    refine ⟨a.pass hT (by omega), ?_⟩
    rw [(passM_same T (passN T S n)).2.1, add_toInt (by have : (1 : Int32).toInt = 1 := rfl; omega), b]
    have : (1 : Int32).toInt = 1 := rfl
    omega
section Trial
variable {N : Nat} {g : Hp} {b : Nat} {ru : Int32} {T : Txt} {S : Str}
theorem Sm.pass (hN : 1000 ≤ N) (s : Sm g 1 ru T S) (K : SOK T 0 S) (hh : (S.2 11).toInt ≤ 4000000) {n : Nat} (hn : n < 900) : ∃ g', f_X8_goTried N g (nI n) ru = some g' ∧ G8 1 g g' ∧ Sm g' 1 ru T (passN T S n) := by
  unfold f_X8_goTried
  have g0 : G8 1 g g := ⟨v8 g 1 ru, gZ g 8 0 49, g.2.2.2.2, (M8_v8 g 1 ru s.2.2.2.2).symm⟩
  refine iter_inv (bot := fun _ _ => none) (b := f_X8_goTried_2 N (nI n) ru) (fun m r => ∀ j g', j ≤ n → n < m + j → G8 1 g g' → Sm g' 1 ru T (passN T S j) → ∃ g'', r (nI j) g' = some g'' ∧ G8 1 g g'' ∧ Sm g'' 1 ru T (passN T S n)) (fun j _ _ _ => by omega) (fun m r ih j g' hj hm f d => ?_) N 0 g (by omega) (by omega) g0 s
  unfold f_X8_goTried_2
  by_cases z : n = j
  · subst z
    rw [if_pos (leN (Nat.le_refl _) (by omega))]
    exact ⟨g', rfl, f, d⟩
  · rw [if_neg (nleN (show j < n by omega) (show n < 2 ^ 31 by omega))]
    obtain ⟨g2, e2, f2, d2⟩ := d.hour hN (by omega) (passN_hour s.1 K hh j (by omega)).1
    have e2' : f_X8_goOn N g' 1 ru = some g2 := e2
    rw [e2', bind_s, lt_e, nI_1]
    exact ih (j + 1) g2 (by omega) (by omega) (f.tr f2) d2
theorem Sm.gains (hN : 1000 ≤ N) (hb : b < 2) (s : Sm g b ru T S) : f_X8_gains N g (nI b) = some (sumM (S.1 6) (nCr T)) := by
  obtain ⟨hT, R, X, q, -⟩ := s
  obtain ⟨hf, hf6⟩ := hT.2.1
  have hf' : gI g 8 0 13 = nI (nCr T) := X.2.1.symm.trans hf
  rw [← sumM_sq (nCr T) (fun i hi => (q.2.1 i hi).2.2.2.2.1)]
  unfold f_X8_gains
  exact iter_inv (bot := fun _ _ => none) (b := f_X8_gains_4 g (nI b)) (fun m r => ∀ j, j ≤ nCr T → nCr T < m + j → r (sumM ((v8 g b ru).1 6) j) (nI j) = some (sumM ((v8 g b ru).1 6) (nCr T))) (fun j _ _ => by omega) (fun m r ih j hj hm => by
    unfold f_X8_gains_4
    simp only [lt_e, hf']
    by_cases z : nCr T = j
    · subst z
      rw [if_pos (leN (Nat.le_refl _) (by omega))]
    · have h12 : 4 * b + j < 8 := mul_lt hb (by omega)
      simp only [if_neg (nleN (show j < nCr T by omega) (show nCr T < 2 ^ 31 by omega)), ix4 hb (show j < 4 by omega), grd_p (inb_n h12 (show 8 < 2 ^ 31 by omega)), clN (show 4 * b + j < 2 ^ 31 by omega), nI_1]
      exact ih (j + 1) (by omega) (by omega)) N 0 (by omega) (by omega)
end Trial

