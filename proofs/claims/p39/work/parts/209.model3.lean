-- PURE: an hour by the reference, what it does
theorem nI_inj {i j : Nat} (hi : i < 2 ^ 31) (hj : j < 2 ^ 31) (q : nI i = nI j) : i = j := by
  have := congrArg Int32.toInt q
  rw [nI_toInt hi, nI_toInt hj] at this
  omega
theorem pwM_rng (v : Int64) (m : Nat) (hm : m < 2 ^ 31) : ∃ k : Nat, k ≤ m ∧ pwM v (nI m) = nI k := by
  unfold pwM
  by_cases z : v < 0
  · rw [if_pos z]; exact ⟨0, by omega, rfl⟩
  rw [if_neg z]
  by_cases w : (nI m).toInt64 < v
  · rw [if_pos w]; exact ⟨m, Nat.le_refl _, rfl⟩
  rw [if_neg w]
  have z1 : ¬ v.toInt < 0 := fun q => z (Int64.lt_iff_toInt_lt.mpr q)
  have w1 : ¬ (nI m).toInt < v.toInt := fun q => w (Int64.lt_iff_toInt_lt.mpr (by rw [Int32.toInt_toInt64]; exact q))
  rw [nI_toInt hm] at w1
  have e : v.toInt32.toInt = v.toInt := by
    rw [Int64.toInt_toInt32, Int.bmod_eq_of_le (by omega) (by omega)]
  obtain ⟨k, q1, q2⟩ := eq_nI (x := v.toInt32) (by omega)
  exact ⟨k, by omega, q1⟩
theorem worM_nn (T : Txt) (S : Str) (f : Nat) : ∃ k : Nat, k ≤ 99 ∧ worM T S f = nI k := pwM_rng _ 99 (by omega)
theorem bfM_val (T : Txt) (S : Str) (c : Int32) : ∀ n, ((bfM T S c n).1 = -1 ∧ (bfM T S c n).2 = -1) ∨ ∃ j, j < n ∧ (bfM T S c n).1 = nI j ∧ (bfM T S c n).2 = worM T S j
  | 0 => Or.inl ⟨rfl, rfl⟩
  | n + 1 => by
    rw [bfM_s]
    by_cases z : T.1 5 n = c ∧ (bfM T S c n).2 < worM T S n
    · rw [if_pos z]; exact Or.inr ⟨n, Nat.lt_succ_self n, rfl, rfl⟩
    · rw [if_neg z]
      rcases bfM_val T S c n with e | ⟨j, hj, e⟩
      · exact Or.inl e
      · exact Or.inr ⟨j, by omega, e⟩
section Model
variable {N : Nat} {h : Hp} {b : Nat} {ru : Int32} {T : Txt} {S : Str} {e : Bool} {B : Scr} {n : Nat}
theorem m_fieldFor (hN : 1000 ≤ N) (hb : b < 2) (hT : TOK T) (X : MT h T) (V : MV h b ru S) (R : TR T) (K : SOK T n S) (c : Int32) : ∃ e' B', f_X8_fieldFor N (M8 h b S e B) (nI b) c = some ((bfM T S c (nFi T)).1, M8 h b S e' B') := by
  obtain ⟨hf, hf6⟩ := hT.2.2.1
  have hf' : gI h 8 0 14 = nI (nFi T) := X.2.2.1.symm.trans hf
  unfold f_X8_fieldFor
  exact iter_inv (bot := fun _ _ _ => none) (b := f_X8_fieldFor_5 N (nI b) c) (fun m r => ∀ j e B, j ≤ nFi T → nFi T < m + j → ∃ e' B', r (bfM T S c j).1 (nI j) (M8 h b S e B) = some ((bfM T S c (nFi T)).1, M8 h b S e' B')) (fun j _ _ _ _ => by omega) (fun m r ih j e B hj hm => by
    unfold f_X8_fieldFor_5
    simp only [jn_e, lt_e, M8_I h b S e B 14 (by decide), hf', M8_A]
    by_cases z : nFi T = j
    · subst z
      rw [if_pos (leN (Nat.le_refl _) (by omega))]
      exact ⟨e, B, rfl⟩
    · have jf : j < nFi T := by omega
      obtain ⟨f5, -, -⟩ := X.2.2.2.2.1 j jf
      simp only [if_neg (nleN jf (show nFi T < 2 ^ 31 by omega)), grd_p (inb_n (show j < 12 by omega) (show 12 < 2 ^ 31 by omega)), clN (show j < 2 ^ 31 by omega), arr8_n b S (gA h 8 0) (show 9 < 23 ∨ 33 < 9 ∨ (23 < 9 ∧ 9 < 28) by omega), nI_1, ← f5]
      have nx := fun e B => ih (j + 1) e B (by omega) (by omega)
      rw [bfM_s] at nx
      by_cases w : T.1 5 j = c
      · rw [if_neg (fun q => q w)]
        rcases bfM_val T S c j with ⟨h1, h2⟩ | ⟨k, hk, h1, h2⟩
        · rw [h1, if_pos (show (-1 : Int32) < 0 by decide)]
          obtain ⟨u, hu, hw⟩ := worM_nn T S j
          have nx := nx e B
          rw [if_pos ⟨w, by rw [h2, hw]; exact Int32.lt_of_lt_of_le (show (-1 : Int32) < 0 by decide) (nI_pos' (show u < 2 ^ 31 by omega))⟩] at nx
          exact nx
        · rw [h1, if_neg (nI_pos (show k < 2 ^ 31 by omega))]
          obtain ⟨e1, B1, q1⟩ := m_worthOf (e := e) (B := B) hN hb hT X V R K jf
          obtain ⟨e2, B2, q2⟩ := m_worthOf (e := e1) (B := B1) hN hb hT X V R K (f := k) (by omega)
          rw [q1, bd2_s, q2, bd2_s]
          have nx := nx e2 B2
          rw [h2] at nx
          by_cases y : worM T S j ≤ worM T S k
          · rw [if_neg (fun q => absurd q.2 (Int32.not_lt.mpr y)), h1] at nx
            rw [if_pos y]
            exact nx
          · rw [if_pos ⟨w, Int32.not_le.mp y⟩] at nx
            rw [if_neg y]
            exact nx
      · rw [if_pos w]
        have nx := nx e B
        rw [if_neg (fun q => w q.1)] at nx
        exact nx) N 0 e B (by omega) (by omega)
theorem m_carts (hN : 1000 ≤ N) (hb : b < 2) (hT : TOK T) (X : MT h T) (V : MV h b ru S) (R : TR T) (K : SOK T n S) {c : Nat} (hc : c < nCr T) : ∃ e' B', f_X8_carts N (M8 h b S e B) (nI b) (nI c) ru = some (M8 h b (cartM T S c) e' B') := by
  have hf6 := hT.2.2.1.2
  have hc4 := hT.2.1.2
  have hs8 := hT.1.2
  obtain ⟨e1, B1, q1⟩ := m_fieldFor (e := e) (B := B) hN hb hT X V R K (nI c)
  have q2 := m_sourceOf (e := e1) (B := B1) hN hb hT X V (fun s hs => Int32.le_iff_toInt_le.mpr (K.1 s hs).1) (nI c) false
  unfold f_X8_carts cartM
  rw [q1, bd2_s, q2, bind_s]
  simp only [jn_e, lt_e]
  rcases bfM_rng T S (nI c) (nFi T) with h1 | ⟨f, hf, h1⟩
  · rw [h1, if_pos (show (-1 : Int32) < 0 by decide), if_pos rfl, ite_self]
    exact ⟨e1, B1, rfl⟩
  have hne : ¬ nI f = -1 := nI_ne_neg (show f < 2 ^ 31 by omega) (by decide)
  rw [h1, if_neg (nI_pos (show f < 2 ^ 31 by omega)), if_neg hne]
  by_cases z : srcM T S (nI c) false = -2
  · rw [if_neg (fun q => q z), if_pos z]
    exact ⟨e1, B1, rfl⟩
  rw [if_pos z, if_neg z]
  have hw : srcM T S (nI c) false = -3 ∨ ∃ j, j < 8 ∧ srcM T S (nI c) false = nI j := by
    rcases srcM_rng T S (nI c) false with q | ⟨-, q⟩ | ⟨j, hj, q⟩
    · exact absurd q z
    · exact Or.inl q
    · exact Or.inr ⟨j, by omega, q⟩
  obtain ⟨e2, B2, v, q3, q4⟩ := m_loadOf (e := e1) (B := B1) hN hb hT X V K hc hw
  obtain ⟨e3, B3, q5⟩ := m_worthOf (e := e2) (B := B2) hN hb hT X V R K hf
  have h12 : 6 * b + f < 12 := mul_lt hb (by omega)
  have h8 : 4 * b + c < 8 := mul_lt hb (by omega)
  have hwor : (bfM T S (nI c) (nFi T)).2 = worM T S f := by
    rcases bfM_val T S (nI c) (nFi T) with ⟨a, -⟩ | ⟨k, hk, a, d⟩
    · exact absurd (h1.symm.trans a) hne
    · have : f = k := nI_inj (show f < 2 ^ 31 by omega) (show k < 2 ^ 31 by omega) (h1.symm.trans a)
      rw [d, this]
  rw [hwor, q4]
  generalize srcM T S (nI c) false = w at *
  have fin : ∀ n : Int32, ((f_X8_lessAt (M8 h b S e3 B3) (nI b) w n).bind fun h10 => grd (inb (6 * nI b + nI f) 12) <| grd (inb (6 * nI b + nI f) 12) <| (fun h11 => grd (inb (4 * nI b + nI c) 8) <| grd (inb (4 * nI b + nI c) 8) <| some (sA h11 8 0 28 (4 * nI b + nI c).toNatClampNeg (gA h11 8 0 28 (4 * nI b + nI c).toNatClampNeg + worM T S f * n))) (sA h10 8 0 30 (6 * nI b + nI f).toNatClampNeg (gA h10 8 0 30 (6 * nI b + nI f).toNatClampNeg + n))) = some (M8 h b (gotM (lessM S w n) f c (worM T S f) n) e3 B3) := by
    intro n
    rw [m_lessAt hb n hw, bind_s]
    simp only [ix4 hb (show c < 4 by omega), ix6 hb (show f < 6 by omega), grd_p (inb_n h12 (show 12 < 2 ^ 31 by omega)), grd_p (inb_n h8 (show 8 < 2 ^ 31 by omega)), clN (show 6 * b + f < 2 ^ 31 by omega), clN (show 4 * b + c < 2 ^ 31 by omega), M8_A, arr8_30, wr_at (n := 6) (b := b) ((lessM S w n).1 9) (gA h 8 0 30) (show f < 6 by omega), M8_s9 h b (lessM S w n) e3 B3 (show f < 6 by omega)]
    rw [arr8_28, wr_at (n := 4) (b := b) _ (gA h 8 0 28) (show c < 4 by omega), M8_s6 h b _ e3 B3 (show c < 4 by omega)]
    rfl
  rw [q3, bd2_s, m_liesAt hb hw, bind_s, clN (show f < 2 ^ 31 by omega)]
  by_cases y : v ≤ thereM S w
  · rw [if_pos y, if_neg (Int32.not_lt.mpr y), q5, bd2_s]
    exact ⟨e3, B3, fin v⟩
  · rw [if_neg y, if_pos (Int32.not_le.mp y), bind_s, q5, bd2_s]
    exact ⟨e3, B3, fin (thereM S w)⟩
theorem m_forks (hN : 1000 ≤ N) (hb : b < 2) (hT : TOK T) (X : MT h T) (V : MV h b ru S) (K : SOK T n S) {c : Nat} (hc : c < nCr T) : ∃ e' B', f_X8_forks N (M8 h b S e B) (nI b) (nI c) ru = some (M8 h b (forkM T S c) e' B') := by
  have hc4 := hT.2.1.2
  have hs8 := hT.1.2
  have hb31 : b < 2 ^ 31 := by omega
  have q2 := m_sourceOf (e := e) (B := B) hN hb hT X V (fun s hs => Int32.le_iff_toInt_le.mpr (K.1 s hs).1) (nI c) true
  unfold f_X8_forks forkM
  rw [q2, bind_s]
  simp only [jn_e, lt_e]
  rcases srcM_rng T S (nI c) true with q | ⟨q, -⟩ | ⟨j, hj, q⟩
  · rw [q, if_neg (fun q => q rfl), if_neg (show ¬ (0 : Int32) ≤ -2 by decide)]
    exact ⟨e, B, rfl⟩
  · exact Bool.noConfusion q
  have h16 : 8 * b + j < 16 := mul_lt hb (by omega)
  have h8 : 4 * b + c < 8 := mul_lt hb (by omega)
  have hw : nI j = -3 ∨ ∃ i, i < 8 ∧ nI j = nI i := Or.inr ⟨j, by omega, rfl⟩
  obtain ⟨e1, B1, q1⟩ := m_forkOf (S := S) (e := e) (B := B) hN hb hT X V (c := c) (by omega) hw
  have ht : thereM S (nI j) = S.1 0 j := by
    unfold thereM
    rw [if_neg (nI_ne_neg (show j < 2 ^ 31 by omega) (by decide)), clN (show j < 2 ^ 31 by omega)]
  have hl : ∀ m, lessM S (nI j) m = upA S 0 j (S.1 0 j - m) := fun m => by
    unfold lessM
    rw [if_neg (nI_ne_neg (show j < 2 ^ 31 by omega) (by decide)), clN (show j < 2 ^ 31 by omega)]
  rw [ht] at q1
  rw [q, if_pos (nI_ne_neg (show j < 2 ^ 31 by omega) (by decide)), if_pos (nI_pos' (show j < 2 ^ 31 by omega)), clN (show j < 2 ^ 31 by omega), q1, bd2_s]
  have fin : ∀ m : Int32, ((f_X8_lessAt (M8 h b S e1 B1) (nI b) (nI j) m).bind fun h5 => grd (inb (nI b) 2) <| grd (inb (nI b) 2) <| (fun h6 => grd (inb (4 * nI b + nI c) 8) <| grd (inb (4 * nI b + nI c) 8) <| some (sA h6 8 0 29 (4 * nI b + nI c).toNatClampNeg (gA h6 8 0 29 (4 * nI b + nI c).toNatClampNeg + m))) (sA h5 8 0 31 (nI b).toNatClampNeg (gA h5 8 0 31 (nI b).toNatClampNeg + m))) = some (M8 h b (forkS S j c m) e1 B1) := by
    intro m
    rw [m_lessAt hb m hw, bind_s, hl]
    simp only [ix4 hb (show c < 4 by omega), grd_p (inb_n hb (show 2 < 2 ^ 31 by omega)), grd_p (inb_n h8 (show 8 < 2 ^ 31 by omega)), clN hb31, clN (show 4 * b + c < 2 ^ 31 by omega), M8_A, arr8_31, wr_b, M8_sheap]
    rw [arr8_29, wr_at (n := 4) (b := b) _ (gA h 8 0 29) (show c < 4 by omega), M8_s7 h b _ e1 B1 (show c < 4 by omega)]
    rfl
  simp only [ix8 hb (show j < 8 by omega), grd_p (inb_n h16 (show 16 < 2 ^ 31 by omega)), clN (show 8 * b + j < 2 ^ 31 by omega), M8_A, arr8_23, wr_at (n := 8) (b := b) (S.1 0) (gA h 8 0 23) (show j < 8 by omega)]
  unfold tonsM
  generalize (if T.2.2 1 (nmP S (S.1 0 j) (nI c)) = erM then (8 : Int32) else pwM (T.2.2 1 (nmP S (S.1 0 j) (nI c))) 99) = v
  refine ⟨e1, B1, ?_⟩
  simp only []
  by_cases y : v ≤ S.1 0 j
  · rw [if_pos y, if_neg (Int32.not_lt.mpr y)]
    exact fin v
  · rw [if_neg y, if_pos (Int32.not_le.mp y)]
    exact fin (S.1 0 j)
theorem m_allLies (hN : 1000 ≤ N) (hb : b < 2) (hT : TOK T) (X : MT h T) : f_X8_allLies N (M8 h b S e B) (nI b) = some (sumM (S.1 0) (nSt T)) := by
  obtain ⟨⟨hs, hs8⟩, -⟩ := hT
  have hs' : gI h 8 0 12 = nI (nSt T) := X.1.symm.trans hs
  unfold f_X8_allLies
  exact iter_inv (bot := fun _ _ => none) (b := f_X8_allLies_4 (M8 h b S e B) (nI b)) (fun m r => ∀ j, j ≤ nSt T → nSt T < m + j → r (sumM (S.1 0) j) (nI j) = some (sumM (S.1 0) (nSt T))) (fun j _ _ => by omega) (fun m r ih j hj hm => by
    unfold f_X8_allLies_4
    simp only [jn_e, lt_e, M8_I h b S e B 12 (by decide), hs', M8_A, arr8_23]
    by_cases z : nSt T = j
    · subst z
      rw [if_pos (leN (Nat.le_refl _) (by omega))]
    · have h16 : 8 * b + j < 16 := mul_lt hb (by omega)
      simp only [if_neg (nleN (show j < nSt T by omega) (show nSt T < 2 ^ 31 by omega)), ix8 hb (show j < 8 by omega), grd_p (inb_n h16 (show 16 < 2 ^ 31 by omega)), clN (show 8 * b + j < 2 ^ 31 by omega), wr_at (n := 8) (b := b) (S.1 0) (gA h 8 0 23) (show j < 8 by omega), nI_1]
      exact ih (j + 1) (by omega) (by omega)) N 0 (by omega) (by omega)
theorem m_acts (hN : 1000 ≤ N) (hb : b < 2) (hT : TOK T) (X : MT h T) (V : MV h b ru S) (R : TR T) (K : SOK T n S) {c : Nat} (hc : c < nCr T) : ∃ e' B', f_X8_acts N (M8 h b S e B) (nI b) (nI c) ru = some (M8 h b (actM T S c) e' B') := by
  have hc4 := hT.2.1.2
  have h8 : 4 * b + c < 8 := mul_lt hb (by omega)
  have m5 := V.2.2.2.2.1 c (by omega)
  have m14 := V.2.2.2.2.2.1
  have ha := (K.2.1 c hc).2.2.2.2
  obtain ⟨e1, B1, q1⟩ := m_forks (e := e) (B := B) hN hb hT X V K hc
  obtain ⟨e2, B2, q2⟩ := m_carts (e := e) (B := B) hN hb hT X V R K hc
  have q3 := m_allLies (S := S) (e := e) (B := B) hN hb hT X
  unfold f_X8_acts actM doesM
  simp only [jn_e, lt_e, ix4 hb (show c < 4 by omega), grd_p (inb_n h8 (show 8 < 2 ^ 31 by omega)), clN (show 4 * b + c < 2 ^ 31 by omega), M8_A, arr8_n b S (gA h 8 0) (show 27 < 23 ∨ 33 < 27 ∨ (23 < 27 ∧ 27 < 28) by omega), ← m5, q1, q2, q3, bind_s, m14]
  rcases ha with z | z | z | z
  · rw [z]
    simp only [show ¬ (0 : Int32) = 3 by decide, show ¬ (0 : Int32) = 2 by decide, not_true_eq_false, not_false_eq_true, if_true, if_false]
    by_cases u : ru = 2
    · by_cases y : sumM (S.1 0) (nSt T) ≤ 0
      · simp only [u, y, Int32.not_lt.mpr y, not_true_eq_false, and_false, if_true, if_false, show (1 : Int32) = 1 from rfl]
        rw [u] at q2
        exact ⟨e2, B2, rfl⟩
      · simp only [u, y, Int32.not_le.mp y, not_true_eq_false, and_self, if_true, if_false, show ¬ (2 : Int32) = 1 by decide]
        exact ⟨e1, B1, rfl⟩
    · simp only [u, not_false_eq_true, false_and, if_true, if_false]
      exact ⟨e2, B2, rfl⟩
  · rw [z]
    simp only [show ¬ (1 : Int32) = 3 by decide, show ¬ (1 : Int32) = 2 by decide, show ¬ (1 : Int32) = 0 by decide, not_true_eq_false, not_false_eq_true, if_true, if_false]
    exact ⟨e2, B2, rfl⟩
  · rw [z]
    simp only [show ¬ (2 : Int32) = 3 by decide, show ¬ (2 : Int32) = 1 by decide, show ¬ (2 : Int32) = 0 by decide, not_true_eq_false, not_false_eq_true, if_true, if_false]
    exact ⟨e1, B1, rfl⟩
  · rw [z]
    simp only [show ¬ (3 : Int32) = 2 by decide, show ¬ (3 : Int32) = 1 by decide, show ¬ (3 : Int32) = 0 by decide, not_true_eq_false, not_false_eq_true, if_true, if_false]
    exact ⟨e, B, rfl⟩
end Model

