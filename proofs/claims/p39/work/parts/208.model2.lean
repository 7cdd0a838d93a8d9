-- PURE: an hour by the reference, where it takes from and what it moves
/-- what is so of a strand that is played -/
def SOK (T : Txt) (n : Nat) (S : Str) : Prop := (∀ s, s < nSt T → 0 ≤ (S.1 0 s).toInt ∧ (S.1 0 s).toInt ≤ 9999) ∧ (∀ c, c < nCr T → 0 ≤ (S.1 2 c).toInt ∧ (S.1 2 c).toInt ≤ 6 ∧ 0 ≤ (S.1 3 c).toInt ∧ (S.1 3 c).toInt ≤ 9 ∧ (S.1 5 c = 0 ∨ S.1 5 c = 1 ∨ S.1 5 c = 2 ∨ S.1 5 c = 3)) ∧ (∀ f, f < nFi T → 0 ≤ (S.1 9 f).toInt ∧ (S.1 9 f).toInt ≤ 396 * (S.2 11).toInt + 99 * n) ∧ 0 ≤ (S.2 11).toInt ∧ (S.2 11).toInt ≤ 5000000 ∧ n ≤ 4 ∧ (0 ≤ (S.2 12).toInt ∧ (S.2 12).toInt ≤ 999 + 396 * (S.2 11).toInt + 99 * n) ∧ ∀ c, c < nCr T → 0 ≤ (S.1 7 c).toInt ∧ (S.1 7 c).toInt ≤ 99 * (S.2 11).toInt + (if c < n then 99 else 0)
def TR (T : Txt) : Prop := (∀ f, f < nFi T → 0 ≤ (T.1 6 f).toInt ∧ (T.1 6 f).toInt ≤ 99) ∧ 0 ≤ (T.2.1 17).toInt ∧ (T.2.1 17).toInt ≤ 100 ∧ 0 ≤ (T.2.1 18).toInt ∧ (T.2.1 18).toInt ≤ 9999
theorem scM_val (T : Txt) (S : Str) (c : Int32) : ∀ n, ((scM T S c n).1 = -2 ∧ (scM T S c n).2 = 0) ∨ ∃ j, j < n ∧ (scM T S c n).1 = nI j ∧ (scM T S c n).2 = S.1 0 j
  | 0 => Or.inl ⟨rfl, rfl⟩
  | n + 1 => by
    rw [scM_s]
    by_cases z : (scM T S c n).2 < S.1 0 n ∧ (¬ S.2 14 = 1 ∨ S.1 1 n = c)
    · rw [if_pos z]; exact Or.inr ⟨n, Nat.lt_succ_self n, rfl, rfl⟩
    · rw [if_neg z]
      rcases scM_val T S c n with e | ⟨j, hj, e⟩
      · exact Or.inl e
      · exact Or.inr ⟨j, by omega, e⟩
theorem eq_nI {x : Int32} (h : 0 ≤ x.toInt) : ∃ k : Nat, x = nI k ∧ x.toInt = k := by
  have h2 := Int32.toInt_lt x
  have e : (x.toInt.toNat : Int) = x.toInt := Int.toNat_of_nonneg h
  refine ⟨x.toInt.toNat, ?_, e.symm⟩
  apply Int32.toInt_inj.mp
  rw [nI_toInt (by omega), e]
theorem sub_toInt {x y : Int32} (h : -2147483648 ≤ x.toInt - y.toInt ∧ x.toInt - y.toInt < 2147483648) : (x - y).toInt = x.toInt - y.toInt := by
  rw [Int32.toInt_sub, Int.bmod_eq_of_le (by omega) (by omega)]
theorem add_toInt {x y : Int32} (h : -2147483648 ≤ x.toInt + y.toInt ∧ x.toInt + y.toInt < 2147483648) : (x + y).toInt = x.toInt + y.toInt := by
  rw [Int32.toInt_add, Int.bmod_eq_of_le (by omega) (by omega)]
theorem ld_all : ∀ a : Fin 7, ∀ b : Fin 10, (5 * nI a.val - nI b.val).toInt ≤ 99 := by decide
theorem ld_rng {x y : Int32} (h1 : 0 ≤ x.toInt) (h2 : x.toInt ≤ 6) (h3 : 0 ≤ y.toInt) (h4 : y.toInt ≤ 9) : (5 * x - y).toInt ≤ 99 := by
  obtain ⟨a, rfl, ha⟩ := eq_nI h1
  obtain ⟨c, rfl, hc⟩ := eq_nI h3
  exact ld_all ⟨a, by omega⟩ ⟨c, by omega⟩
theorem pw_cl (L : Int64) {x : Int32} (hx : x.toInt ≤ 99) : (if L = erM then (if 0 ≤ x then x else 0) else pwM L 99) = pwM (if L = erM then x.toInt64 else L) 99 := by
  by_cases z : L = erM
  · rw [if_pos z, if_pos z]
    unfold pwM
    have z1 : (x.toInt64 < 0) ↔ x.toInt < 0 := by
      rw [Int64.lt_iff_toInt_lt, Int32.toInt_toInt64]; rfl
    have z2 : ¬ ((99 : Int32).toInt64 < x.toInt64) := by
      rw [Int64.lt_iff_toInt_lt, Int32.toInt_toInt64, Int32.toInt_toInt64]
      have : (99 : Int32).toInt = 99 := rfl
      omega
    by_cases y : 0 ≤ x
    · have y' : 0 ≤ x.toInt := Int32.le_iff_toInt_le.mp y
      rw [if_pos y, if_neg (fun q => absurd (z1.mp q) (by omega)), if_neg z2, Int32.toInt32_toInt64]
    · have y' : ¬ 0 ≤ x.toInt := fun q => y (Int32.le_iff_toInt_le.mpr q)
      rw [if_neg y, if_pos (z1.mpr (by omega))]
  · rw [if_neg z, if_neg z]
def mS (x : Int32) : Int32 := if x = -2 then -1 else x
section Model
variable {N : Nat} {h : Hp} {b : Nat} {ru : Int32} {T : Txt} {S : Str} {e : Bool} {B : Scr} {n : Nat}
theorem m_sourceOf (hN : 1000 ≤ N) (hb : b < 2) (hT : TOK T) (X : MT h T) (V : MV h b ru S) (P : ∀ s, s < nSt T → 0 ≤ S.1 0 s) (c : Int32) (w : Bool) : f_X8_sourceOf N (M8 h b S e B) (nI b) c ru w = some (srcM T S c w) := by
  obtain ⟨⟨hs, hs8⟩, -⟩ := hT
  obtain ⟨m1, -, -, -, -, m14, -⟩ := V
  subst m14
  have hs' : gI h 8 0 12 = nI (nSt T) := X.1.symm.trans hs
  have hb31 : b < 2 ^ 31 := by omega
  have loop : iter (fun _ _ => none) (f_X8_sourceOf_28 (M8 h b S e B) (nI b) c (S.2 14) w) N (-1) 0 = some (if (scM T S c (nSt T)).1 = -2 ∧ 0 < S.2 12 ∧ w = false then -3 else (scM T S c (nSt T)).1) := by
    refine iter_inv (bot := fun _ _ => none) (b := f_X8_sourceOf_28 (M8 h b S e B) (nI b) c (S.2 14) w) (fun m r => ∀ j, j ≤ nSt T → nSt T < m + j → r (mS (scM T S c j).1) (nI j) = some (if (scM T S c (nSt T)).1 = -2 ∧ 0 < S.2 12 ∧ w = false then -3 else (scM T S c (nSt T)).1)) (fun j _ _ => by omega) (fun m r ih j hj hm => ?_) N 0 (by omega) (by omega)
    unfold f_X8_sourceOf_28
    simp only [jn_e, lt_e, M8_I h b S e B 12 (by decide), hs', M8_A, arr8_31, arr8_23, arr8_n b S (gA h 8 0) (show 24 < 23 ∨ 33 < 24 ∨ (23 < 24 ∧ 24 < 28) by omega), clN hb31, wr_b, grd_p (inb_n hb (show 2 < 2 ^ 31 by omega))]
    by_cases z : nSt T = j
    · subst z
      rw [if_pos (leN (Nat.le_refl _) (by omega))]
      rcases scM_val T S c (nSt T) with ⟨h1, h2⟩ | ⟨k, hk, h1, h2⟩
      · rw [h1]
        have hm1 : mS (-2) = -1 := rfl
        rw [hm1, if_pos (show (-1 : Int32) < 0 by decide)]
        cases w
        · simp only [b2i0, nb2i0]
          by_cases y : S.2 12 ≤ 0
          · simp [y, Int32.not_lt.mpr y]
          · simp [y, Int32.not_le.mp y]
        · simp [b2i]
      · have hk2 : ¬ nI k = -2 := nI_ne_neg (show k < 2 ^ 31 by omega) (by decide)
        rw [h1]
        unfold mS
        rw [if_neg hk2, if_neg (nI_pos (show k < 2 ^ 31 by omega)), if_neg (fun q => hk2 q.1)]
    · have h16 : 8 * b + j < 16 := mul_lt hb (by omega)
      simp only [if_neg (nleN (show j < nSt T by omega) (show nSt T < 2 ^ 31 by omega)), ix8 hb (show j < 8 by omega), grd_p (inb_n h16 (show 16 < 2 ^ 31 by omega)), clN (show 8 * b + j < 2 ^ 31 by omega), wr_at (n := 8) (b := b) (S.1 0) (gA h 8 0 23) (show j < 8 by omega), nI_1, ← m1 j (by omega)]
      have nx := ih (j + 1) (by omega) (by omega)
      rw [scM_s] at nx
      have hp := P j (by omega)
      rcases scM_val T S c j with ⟨h1, h2⟩ | ⟨k, hk, h1, h2⟩
      · rw [h1]
        rw [h2] at nx
        have hm1 : mS (-2) = -1 := rfl
        rw [hm1]
        simp only [if_pos (show (-1 : Int32) < 0 by decide)]
        by_cases y : S.1 0 j = 0
        · rw [if_pos y]
          rw [y, if_neg (fun q => absurd q.1 (by decide)), h1, hm1] at nx
          exact nx
        · rw [if_neg y]
          have y' : 0 < S.1 0 j := Int32.lt_of_le_of_ne hp (fun q => y q.symm)
          by_cases u : S.2 14 = 1
          · rw [if_neg (fun q => q u)]
            by_cases v : S.1 1 j = c
            · rw [if_pos v]
              rw [if_pos ⟨y', Or.inr v⟩] at nx
              unfold mS at nx
              rw [if_neg (nI_ne_neg (show j < 2 ^ 31 by omega) (by decide))] at nx
              exact nx
            · rw [if_neg v]
              rw [if_neg (fun q => q.2.elim (fun z => z u) v), h1, hm1] at nx
              exact nx
          · rw [if_pos u]
            rw [if_pos ⟨y', Or.inl u⟩] at nx
            unfold mS at nx
            rw [if_neg (nI_ne_neg (show j < 2 ^ 31 by omega) (by decide))] at nx
            exact nx
      · have hk2 : ¬ nI k = -2 := nI_ne_neg (show k < 2 ^ 31 by omega) (by decide)
        have hm1 : mS (nI k) = nI k := if_neg hk2
        have h16k : 8 * b + k < 16 := mul_lt hb (by omega)
        have hpk := P k (by omega)
        rw [h1, hm1]
        rw [h2] at nx
        simp only [if_neg (nI_pos (show k < 2 ^ 31 by omega)), ix8 hb (show k < 8 by omega), grd_p (inb_n h16k (show 16 < 2 ^ 31 by omega)), clN (show 8 * b + k < 2 ^ 31 by omega), wr_at (n := 8) (b := b) (S.1 0) (gA h 8 0 23) (show k < 8 by omega)]
        by_cases y : S.1 0 j = 0
        · rw [if_pos y]
          rw [if_neg (fun q => absurd q.1 (by rw [y]; exact Int32.not_lt.mpr hpk)), h1, hm1] at nx
          exact nx
        · rw [if_neg y]
          have good : ∀ (d : ¬ S.2 14 = 1 ∨ S.1 1 j = c), (if S.1 0 j ≤ S.1 0 k then r (nI k) (nI (j + 1)) else r (nI j) (nI (j + 1))) = some (if (scM T S c (nSt T)).1 = -2 ∧ 0 < S.2 12 ∧ w = false then -3 else (scM T S c (nSt T)).1) := by
            intro d
            by_cases u : S.1 0 j ≤ S.1 0 k
            · rw [if_pos u]
              rw [if_neg (fun q => absurd q.1 (Int32.not_lt.mpr u)), h1, hm1] at nx
              exact nx
            · rw [if_neg u]
              rw [if_pos ⟨Int32.not_le.mp u, d⟩] at nx
              unfold mS at nx
              rw [if_neg (nI_ne_neg (show j < 2 ^ 31 by omega) (by decide))] at nx
              exact nx
          by_cases u : S.2 14 = 1
          · rw [if_neg (fun q => q u)]
            by_cases v : S.1 1 j = c
            · rw [if_pos v]
              exact good (Or.inr v)
            · rw [if_neg v]
              rw [if_neg (fun q => q.2.elim (fun z => z u) v), h1, hm1] at nx
              exact nx
          · rw [if_pos u]
            exact good (Or.inl u)
  unfold f_X8_sourceOf srcM
  simp only [jn_e, loop, nb2i0, M8_A, arr8_31, clN hb31, wr_b, grd_p (inb_n hb (show 2 < 2 ^ 31 by omega))]
  by_cases z : S.2 12 ≤ 0
  · have z' : ¬ 0 < S.2 12 := Int32.not_lt.mpr z
    simp [z, z']
  · have z' : 0 < S.2 12 := Int32.not_le.mp z
    cases w <;> simp [z, z']
    by_cases w : S.2 14 = 2 <;> simp [w]
theorem m_worthOf (hN : 1000 ≤ N) (hb : b < 2) (hT : TOK T) (X : MT h T) (V : MV h b ru S) (R : TR T) (K : SOK T n S) {f : Nat} (hf : f < nFi T) : ∃ e' B', f_X8_worthOf N (M8 h b S e B) (nI b) (nI f) = some (worM T S f, M8 h b S e' B') := by
  have hf6 := hT.2.2.1.2
  have hf31 : f < 2 ^ 31 := by omega
  have h12 : 6 * b + f < 12 := mul_lt hb (by omega)
  obtain ⟨f5, f6, f7⟩ := X.2.2.2.2.1 f hf
  obtain ⟨B1, e1, n1⟩ := m_layField (e := e) (B := B) hb hT X V hf
  have go : ∀ w, ∃ e' B', f_X8_boundLaw N (M8 h b S e B1) 3 w 99 = some (if T.2.2 3 (nmF T S f) = erM then w else pwM (T.2.2 3 (nmF T S f)) 99, M8 h b S e' B') := fun w => m_boundLaw (S := S) (e := e) hN hT X (k := 3) (by decide) w 99 (nmF_ok T S f) n1
  have hx : (T.1 6 f - S.1 9 f).toInt ≤ 99 := by
    have a := R.1 f hf
    have c := K.2.2.1 f hf
    have d1 := K.2.2.2.1
    have d2 := K.2.2.2.2.1
    have d3 := K.2.2.2.2.2.1
    rw [sub_toInt (by omega)]
    omega
  unfold f_X8_worthOf worM
  simp only [jn_e, lt_e, e1, bind_s, clN hf31, M8_A, arr8_n b S (gA h 8 0) (show 10 < 23 ∨ 33 < 10 ∨ (23 < 10 ∧ 10 < 28) by omega), arr8_30, ix6 hb (show f < 6 by omega), grd_p (inb_n h12 (show 12 < 2 ^ 31 by omega)), grd_p (inb_n (show f < 12 by omega) (show 12 < 2 ^ 31 by omega)), clN (show 6 * b + f < 2 ^ 31 by omega), wr_at (n := 6) (b := b) (S.1 9) (gA h 8 0 30) (show f < 6 by omega), ← f6]
  rw [← pw_cl _ hx]
  by_cases z : 0 ≤ T.1 6 f - S.1 9 f
  · obtain ⟨e', B', q⟩ := go (T.1 6 f - S.1 9 f)
    rw [if_pos z, q, bd2_s]
    exact ⟨e', B', by rw [if_pos z]⟩
  · obtain ⟨e', B', q⟩ := go 0
    rw [if_neg z, q, bd2_s]
    exact ⟨e', B', by rw [if_neg z]⟩
theorem m_loadOf (hN : 1000 ≤ N) (hb : b < 2) (hT : TOK T) (X : MT h T) (V : MV h b ru S) (K : SOK T n S) {c : Nat} (hc : c < nCr T) {w : Int32} (hw : w = -3 ∨ ∃ j, j < 8 ∧ w = nI j) : ∃ e' B' v, f_X8_loadOf N (M8 h b S e B) (nI b) (nI c) w = some (v, M8 h b S e' B') ∧ loadM T S c (thereM S w) = if thereM S w < v then thereM S w else v := by
  have hc4 := hT.2.1.2
  have hc31 : c < 2 ^ 31 := by omega
  have h8 : 4 * b + c < 8 := mul_lt hb (by omega)
  have m2 := V.2.1 c (by omega)
  have m3 := V.2.2.1 c (by omega)
  obtain ⟨B1, e1, n1⟩ := m_layNames (S := S) (e := e) (B := B) hb V (thereM S w) (nI c) (Or.inr ⟨c, by omega, rfl⟩)
  have go : ∀ w', ∃ e' B', f_X8_boundLaw N (M8 h b S e B1) 0 w' 99 = some (if T.2.2 0 (nmP S (thereM S w) (nI c)) = erM then w' else pwM (T.2.2 0 (nmP S (thereM S w) (nI c))) 99, M8 h b S e' B') := fun w' => m_boundLaw (S := S) (e := e) hN hT X (k := 0) (by decide) w' 99 (nmP_ok S (thereM S w) (nI c)) n1
  have hx : (5 * S.1 2 c - S.1 3 c).toInt ≤ 99 := by
    obtain ⟨a1, a2, a3, a4, -⟩ := K.2.1 c hc
    exact ld_rng a1 a2 a3 a4
  have both : ∃ e' B' v, (if 0 ≤ 5 * S.1 2 c - S.1 3 c then bd2 (f_X8_boundLaw N (M8 h b S e B1) 0 (5 * S.1 2 c - S.1 3 c) 99) fun v7 h6 => some (v7, h6) else bd2 (f_X8_boundLaw N (M8 h b S e B1) 0 0 99) fun v7 h6 => some (v7, h6)) = some (v, M8 h b S e' B') ∧ loadM T S c (thereM S w) = if thereM S w < v then thereM S w else v := by
    unfold loadM
    rw [← pw_cl _ hx]
    by_cases z : 0 ≤ 5 * S.1 2 c - S.1 3 c
    · obtain ⟨e', B', q⟩ := go (5 * S.1 2 c - S.1 3 c)
      rw [if_pos z, q, bd2_s]
      exact ⟨e', B', _, rfl, by rw [if_pos z]⟩
    · obtain ⟨e', B', q⟩ := go 0
      rw [if_neg z, q, bd2_s]
      exact ⟨e', B', _, rfl, by rw [if_neg z]⟩
  unfold f_X8_loadOf
  simp only [jn_e, lt_e, m_liesAt (S := S) (e := e) (B := B) (h := h) hb hw, e1, bind_s, clN hc31, M8_A, arr8_n b S (gA h 8 0) (show 25 < 23 ∨ 33 < 25 ∨ (23 < 25 ∧ 25 < 28) by omega), arr8_n b S (gA h 8 0) (show 7 < 23 ∨ 33 < 7 ∨ (23 < 7 ∧ 7 < 28) by omega), ix4 hb (show c < 4 by omega), grd_p (inb_n h8 (show 8 < 2 ^ 31 by omega)), grd_p (inb_n (show c < 8 by omega) (show 8 < 2 ^ 31 by omega)), clN (show 4 * b + c < 2 ^ 31 by omega), ← m2, M8_Z h b S e _ 64 (by decide), b2i0]
  cases hz : gZ h 8 0 64 with
  | false =>
    rw [hz, if_neg (fun q => Bool.noConfusion q)] at m3
    simp only [if_true, ← m3]
    exact both
  | true =>
    rw [hz, if_pos rfl] at m3
    rw [m3] at both
    simp only [Bool.true_eq_false, if_false]
    exact both
theorem m_forkOf (hN : 1000 ≤ N) (hb : b < 2) (hT : TOK T) (X : MT h T) (V : MV h b ru S) {c : Nat} (hc : c < 4) {w : Int32} (hw : w = -3 ∨ ∃ j, j < 8 ∧ w = nI j) : ∃ e' B', f_X8_forkOf N (M8 h b S e B) (nI b) (nI c) w = some (if T.2.2 1 (nmP S (thereM S w) (nI c)) = erM then 8 else pwM (T.2.2 1 (nmP S (thereM S w) (nI c))) 99, M8 h b S e' B') := by
  obtain ⟨B1, e1, n1⟩ := m_layNames (S := S) (e := e) (B := B) hb V (thereM S w) (nI c) (Or.inr ⟨c, by omega, rfl⟩)
  obtain ⟨e', B', q⟩ := m_boundLaw (S := S) (e := e) hN hT X (k := 1) (by decide) 8 99 (nmP_ok S (thereM S w) (nI c)) n1
  have q' : f_X8_boundLaw N (M8 h b S e B1) 1 8 99 = some _ := q
  unfold f_X8_forkOf
  rw [m_liesAt hb hw, bind_s, e1, bind_s, q', bd2_s]
  exact ⟨e', B', rfl⟩
theorem m_ebbOf (hN : 1000 ≤ N) (hb : b < 2) (hT : TOK T) (X : MT h T) (V : MV h b ru S) {s : Nat} (hs : s < 8) : ∃ e' B', f_X8_ebbOf N (M8 h b S e B) (nI b) (nI s) = some (goneM T S (S.1 0 s), M8 h b S e' B') := by
  have h16 : 8 * b + s < 16 := mul_lt hb hs
  obtain ⟨B1, e1, n1⟩ := m_layNames (S := S) (e := e) (B := B) hb V (S.1 0 s) (-1) (Or.inl rfl)
  obtain ⟨e', B', q⟩ := m_boundLaw (S := S) (e := e) hN hT X (k := 2) (by decide) (S.1 0 s / 2) (S.1 0 s) (nmP_ok S (S.1 0 s) (-1)) n1
  have q' : f_X8_boundLaw N (M8 h b S e B1) 2 (S.1 0 s / 2) (S.1 0 s) = some _ := q
  unfold f_X8_ebbOf
  simp only [lt_e, M8_A, arr8_23, ix8 hb hs, grd_p (inb_n h16 (show 16 < 2 ^ 31 by omega)), clN (show 8 * b + s < 2 ^ 31 by omega), wr_at (n := 8) (b := b) (S.1 0) (gA h 8 0 23) hs, e1, bind_s, q', bd2_s]
  exact ⟨e', B', rfl⟩
end Model

