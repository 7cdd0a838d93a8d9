-- PURE: an hour by the reference, whole
def SameH (S S' : Str) : Prop := SameC S S' ∧ S'.2 11 = S.2 11 ∧ S'.2 15 = S.2 15
theorem SameH.rf (S : Str) : SameH S S := ⟨SameC.rf S, rfl, rfl⟩
theorem SameH.tr {S S' S'' : Str} (a : SameH S S') (b : SameH S' S'') : SameH S S'' := ⟨a.1.tr b.1, b.2.1.trans a.2.1, b.2.2.trans a.2.2⟩
theorem SameH.upA {S : Str} {k : Nat} (i : Nat) (v : Int32) (hk : k = 0 ∨ k = 6 ∨ k = 7 ∨ k = 9) : SameH S (upA S k i v) := ⟨SameC.upA i v hk, rfl, rfl⟩
theorem SameH.upI {S : Str} {k : Nat} (v : Int32) (hk : k = 12 ∨ k = 13) : SameH S (upI S k v) := ⟨SameC.upI v (by omega), upI_n S v (by omega), upI_n S v (by omega)⟩
theorem lessM_same (S : Str) (w v : Int32) : SameH S (lessM S w v) := by
  unfold lessM
  by_cases z : w = -3
  · rw [if_pos z]; exact SameH.upI _ (by omega)
  · rw [if_neg z]; exact SameH.upA _ _ (by omega)
theorem cartM_same (T : Txt) (S : Str) (c : Nat) : SameH S (cartM T S c) := by
  unfold cartM
  by_cases z : srcM T S (nI c) false = -2
  · rw [if_pos z]; exact SameH.rf S
  rw [if_neg z]
  by_cases w : (bfM T S (nI c) (nFi T)).1 = -1
  · rw [if_pos w]; exact SameH.rf S
  rw [if_neg w]
  unfold gotM
  exact ((lessM_same S _ _).tr (SameH.upA _ _ (by omega))).tr (SameH.upA _ _ (by omega))
theorem forkM_same (T : Txt) (S : Str) (c : Nat) : SameH S (forkM T S c) := by
  unfold forkM
  by_cases z : 0 ≤ srcM T S (nI c) true
  · rw [if_pos z]
    unfold forkS
    exact ((SameH.upA _ _ (by omega)).tr (SameH.upI _ (by omega))).tr (SameH.upA _ _ (by omega))
  · rw [if_neg z]; exact SameH.rf S
theorem actM_same (T : Txt) (S : Str) (c : Nat) : SameH S (actM T S c) := by
  unfold actM
  by_cases z : doesM T S c = 1
  · rw [if_pos z]; exact cartM_same T S c
  rw [if_neg z]
  by_cases w : doesM T S c = 2
  · rw [if_pos w]; exact forkM_same T S c
  · rw [if_neg w]; exact SameH.rf S
theorem crM_same (T : Txt) (S : Str) : ∀ c, SameH S (crM T S c)
  | 0 => SameH.rf S
  | c + 1 => by
    rw [crM_s]
    by_cases z : (crM T S c).2 11 < (crM T S c).1 4 c
    · rw [if_pos z]; exact crM_same T S c
    · rw [if_neg z]; exact (crM_same T S c).tr (actM_same T _ c)
theorem ebM_same (T : Txt) (S : Str) : ∀ j, SameH S (ebM T S j)
  | 0 => SameH.rf S
  | j + 1 => by
    rw [ebM_s]
    exact ((ebM_same T S j).tr (SameH.upA _ _ (by omega))).tr (SameH.upI _ (by omega))
theorem tdM_same (T : Txt) (S : Str) : SameH S (tdM T S) := by
  unfold tdM
  by_cases z : ¬ S.2 16 = 0 ∧ tideM T (hrM S) = true
  · rw [if_pos z]; exact ebM_same T S _
  · rw [if_neg z]; exact SameH.rf S
theorem passM_same (T : Txt) (S : Str) : SameC S (passM T S) ∧ (passM T S).2 11 = S.2 11 + 1 ∧ (passM T S).2 15 = S.2 15 := by
  have a := (crM_same T S (nCr T)).tr (tdM_same T _)
  unfold passM
  exact ⟨a.1.tr (SameC.upI _ (by omega)), by rw [upI_i, a.2.1], by rw [upI_n _ _ (show (15 : Nat) ≠ 11 by decide), a.2.2]⟩
theorem SOK.pass {T : Txt} {S : Str} (K : SOK T 0 S) (hT : TOK T) (hh : (S.2 11).toInt < 5000000) : SOK T 0 (passM T S) := by
  have a := (crM_same T S (nCr T)).tr (tdM_same T _)
  unfold passM
  exact SOK.hour (((K.crofts hT _ hT.2.1.2).more hT.2.1.2 (by omega)).tide) hT (by rw [a.2.1]; exact hh)
/-- the first place of x, or -1 -/
def fstM (f : Nat → Int32) (x : Int32) : Nat → Nat → Int32
  | 0, _ => -1
  | n + 1, i => if f i = x then nI i else fstM f x n (i + 1)
theorem fstM_s (f : Nat → Int32) (x : Int32) (n i : Nat) : fstM f x (n + 1) i = if f i = x then nI i else fstM f x n (i + 1) := rfl
theorem m_find {N : Nat} (hN : 1000 ≤ N) (g : Hp) (k a n : Nat) (x : Int32) (hk : a + n ≤ (ak 8 k).2) (h9 : (ak 8 k).2 < 2 ^ 31) (hn : n < 1000) : f_X8_find N g 8 0 k (nI a) (nI n) x = some (fstM (fun i => gA g 8 0 k (a + i)) x n 0) := by
  unfold f_X8_find
  have key := iter_inv (bot := fun _ => none) (b := f_X8_find_3 g 8 0 k (nI a) (nI n) x) (fun m r => ∀ j, j ≤ n → n < m + j → r (nI j) = some (fstM (fun i => gA g 8 0 k (a + i)) x (n - j) j)) (fun j _ _ => by omega) (fun m r ih j hj hm => by
    unfold f_X8_find_3
    simp only [lt_e]
    by_cases z : n = j
    · subst z
      rw [if_pos (leN (Nat.le_refl _) (by omega)), Nat.sub_self]
      rfl
    · simp only [if_neg (nleN (show j < n by omega) (show n < 2 ^ 31 by omega)), nI_add, grd_p (inb_n (show a + j < (ak 8 k).2 by omega) h9), clN (show a + j < 2 ^ 31 by omega), nI_1]
      obtain ⟨u, hu⟩ : ∃ u, n - j = u + 1 := ⟨n - j - 1, by omega⟩
      rw [hu, fstM_s]
      by_cases w : gA g 8 0 k (a + j) = x
      · rw [if_neg (fun q => q w), if_pos w]
      · rw [if_pos w, if_neg w, ih (j + 1) (by omega) (by omega), show n - (j + 1) = u by omega]) N 0 (by omega) (by omega)
  exact key
theorem fstM_any (f : Nat → Int32) (x : Int32) : ∀ n i, i + n < 1000 → (fstM f x n i < 0 ↔ ((List.range' i n).any fun j => decide (f j = x)) = false)
  | 0, i, _ => by
    show (-1 : Int32) < 0 ↔ _
    simp
  | n + 1, i, h => by
    rw [fstM_s, List.range'_succ, List.any_cons]
    by_cases w : f i = x
    · rw [if_pos w, decide_eq_true w, Bool.true_or]
      exact ⟨fun q => absurd q (nI_pos (show i < 2 ^ 31 by omega)), fun q => Bool.noConfusion q⟩
    · rw [if_neg w, decide_eq_false w, Bool.false_or]
      exact fstM_any f x n (i + 1) (by omega)
section Model
variable {N : Nat} {h : Hp} {b : Nat} {ru : Int32} {T : Txt} {S : Str} {e : Bool} {B : Scr} {n : Nat}
theorem m_tide (hN : 1000 ≤ N) (hT : TOK T) (X : MT h T) (x : Int32) : ∃ v, f_X8_find N (M8 h b S e B) 8 0 12 0 (gI h 8 0 15) x = some v ∧ (v < 0 ↔ tideM T x = false) := by
  obtain ⟨-, -, -, ⟨hs, hs4⟩, -⟩ := hT
  obtain ⟨-, -, -, h15, -, ht, -⟩ := X
  have hs' : gI h 8 0 15 = nI (nTi T) := h15.symm.trans hs
  refine ⟨_, by rw [hs']; exact m_find hN (M8 h b S e B) 12 0 (nTi T) x (by have : (ak 8 12).2 = 8 := rfl; omega) (by decide) (by omega), ?_⟩
  rw [fstM_any _ _ _ _ (by omega)]
  unfold tideM
  rw [List.range_eq_range']
  have : (List.range' 0 (nTi T)).any (fun j => decide (gA (M8 h b S e B) 8 0 12 (0 + j) = x)) = (List.range' 0 (nTi T)).any (fun i => decide (T.1 8 i = x)) := by
    rw [Bool.eq_iff_iff, List.any_eq_true, List.any_eq_true]
    have k : ∀ j, j ∈ List.range' 0 (nTi T) → (decide (gA (M8 h b S e B) 8 0 12 (0 + j) = x) = true ↔ decide (T.1 8 j = x) = true) := fun j hj => by
      have hj2 := (List.mem_range'_1.mp hj).2
      rw [Nat.zero_add, M8_A, arr8_n b S (gA h 8 0) (show 12 < 23 ∨ 33 < 12 ∨ (23 < 12 ∧ 12 < 28) by omega), ht j (by omega)]
    exact ⟨fun ⟨j, hj, q⟩ => ⟨j, hj, (k j hj).mp q⟩, fun ⟨j, hj, q⟩ => ⟨j, hj, (k j hj).mpr q⟩⟩
  rw [this]
theorem m_ebb (hN : 1000 ≤ N) (hb : b < 2) (hT : TOK T) (X : MT h T) (V : MV h b ru S) (j139 : Hp → Option Hp) (Q : Str) (hj : ∀ e B, j139 (M8 h b (ebM T S (nSt T)) e B) = some (M8 h b Q e B)) : ∃ e' B', iter (fun _ _ => none) (f_X8_goOn_90 N (nI b) j139) N 0 (M8 h b S e B) = some (M8 h b Q e' B') := by
  obtain ⟨⟨hs, hs8⟩, -⟩ := id hT
  have hs' : gI h 8 0 12 = nI (nSt T) := X.1.symm.trans hs
  have hb31 : b < 2 ^ 31 := by omega
  exact iter_inv (bot := fun _ _ => none) (b := f_X8_goOn_90 N (nI b) j139) (fun m r => ∀ j e B, j ≤ nSt T → nSt T < m + j → ∃ e' B', r (nI j) (M8 h b (ebM T S j) e B) = some (M8 h b Q e' B')) (fun j _ _ _ _ => by omega) (fun m r ih j e B hj' hm => by
    unfold f_X8_goOn_90
    simp only [lt_e, M8_I h b _ e B 12 (by decide), hs']
    by_cases z : nSt T = j
    · subst z
      rw [if_pos (leN (Nat.le_refl _) (by omega))]
      exact ⟨e, B, hj e B⟩
    · have h16 : 8 * b + j < 16 := mul_lt hb (by omega)
      obtain ⟨e1, B1, q1⟩ := m_ebbOf (S := ebM T S j) (e := e) (B := B) hN hb hT X (V.same (ebM_same T S j).1) (s := j) (by omega)
      rw [if_neg (nleN (show j < nSt T by omega) (show nSt T < 2 ^ 31 by omega)), q1, bd2_s]
      simp only [ix8 hb (show j < 8 by omega), grd_p (inb_n h16 (show 16 < 2 ^ 31 by omega)), clN (show 8 * b + j < 2 ^ 31 by omega), nI_1, M8_A, arr8_23, wr_at (n := 8) (b := b) ((ebM T S j).1 0) (gA h 8 0 23) (show j < 8 by omega), M8_s0 h b _ _ _ (show j < 8 by omega), grd_p (inb_n hb (show 2 < 2 ^ 31 by omega)), clN hb31, arr8_32, wr_b, M8_ssea]
      have nx := ih (j + 1) e1 B1 (by omega) (by omega)
      rw [ebM_s] at nx
      exact nx) N 0 e B (by omega) (by omega)
theorem m_goOn (hN : 1000 ≤ N) (hb : b < 2) (hT : TOK T) (X : MT h T) (V : MV h b ru S) (R : TR T) (K : SOK T 0 S) : ∃ e' B', f_X8_goOn N (M8 h b S e B) (nI b) ru = some (M8 h b (passM T S) e' B') := by
  obtain ⟨-, ⟨hc, hc4⟩, -⟩ := id hT
  have hc' : gI h 8 0 13 = nI (nCr T) := X.2.1.symm.trans hc
  have hb31 : b < 2 ^ 31 := by omega
  unfold f_X8_goOn
  exact iter_inv (bot := fun _ _ => none) (b := f_X8_goOn_2 N (nI b) ru) (fun m r => ∀ j e B, j ≤ nCr T → nCr T < m + j → ∃ e' B', r (nI j) (M8 h b (crM T S j) e B) = some (M8 h b (passM T S) e' B')) (fun j _ _ _ _ => by omega) (fun m r ih j e B hj hm => by
    unfold f_X8_goOn_2
    by_cases z : nCr T = j
    · subst z
      have Sm := crM_same T S (nCr T)
      have V' := V.same Sm.1
      have fin : ∀ (S' : Str) e B, (∀ (g : Hp), grd (inb (nI b) 2) (grd (inb (nI b) 2) (some (sA g 8 0 33 (nI b).toNatClampNeg (gA g 8 0 33 (nI b).toNatClampNeg + 1)))) = some (sA g 8 0 33 b (gA g 8 0 33 b + 1))) ∧ sA (M8 h b S' e B) 8 0 33 b (gA (M8 h b S' e B) 8 0 33 b + 1) = M8 h b (upI S' 11 (S'.2 11 + 1)) e B := fun S' e B => ⟨fun g => by simp only [grd_p (inb_n hb (show 2 < 2 ^ 31 by omega)), clN hb31], by rw [M8_A, arr8_33, wr_b, M8_shour]⟩
      have pe : passM T S = upI (tdM T (crM T S (nCr T))) 11 ((tdM T (crM T S (nCr T))).2 11 + 1) := rfl
      have m16 := V'.2.2.2.2.2.2
      rw [M8_I h b _ e B 13 (by decide), hc', if_pos (leN (Nat.le_refl _) (by omega))]
      simp only [jn_e, lt_e, (fin (crM T S (nCr T)) e B).1, nb2i0, M8_Z h b _ e B 63 (by decide), M8_I h b _ e B 15 (by decide), M8_A, arr8_33, clN hb31, wr_b, grd_p (inb_n hb (show 2 < 2 ^ 31 by omega))]
      cases h63 : gZ h 8 0 63 with
      | true =>
        rw [if_pos rfl]
        refine ⟨e, B, ?_⟩
        rw [pe]
        unfold tdM
        rw [if_neg (fun q => q.1 (m16.mpr h63))]
        have := (fin (crM T S (nCr T)) e B).2
        rw [M8_A, arr8_33, wr_b] at this
        rw [this]
      | false =>
        rw [if_neg (fun q => Bool.noConfusion q)]
        obtain ⟨v, q1, q2⟩ := m_tide (S := crM T S (nCr T)) (e := e) (B := B) hN hT X (hrM (crM T S (nCr T)))
        have q1' : f_X8_find N (M8 h b (crM T S (nCr T)) e B) 8 0 12 0 (gI h 8 0 15) ((crM T S (nCr T)).2 11 - (crM T S (nCr T)).2 11 / 24 * 24) = some v := q1
        rw [q1', bind_s]
        by_cases y : v < 0
        · rw [if_pos y]
          refine ⟨e, B, ?_⟩
          rw [pe]
          unfold tdM
          rw [if_neg (fun q => by rw [q2.mp y] at q; exact Bool.noConfusion q.2)]
          have := (fin (crM T S (nCr T)) e B).2
          rw [M8_A, arr8_33, wr_b] at this
          rw [this]
        · rw [if_neg y]
          have yt : tideM T (hrM (crM T S (nCr T))) = true := by
            cases u : tideM T (hrM (crM T S (nCr T))) with
            | true => rfl
            | false => exact absurd (q2.mpr u) y
          refine m_ebb (S := crM T S (nCr T)) (e := e) (B := B) hN hb hT X V' _ (passM T S) (fun e B => ?_)
          rw [pe]
          unfold tdM
          rw [if_pos ⟨fun q => (by rw [m16.mp q] at h63; exact Bool.noConfusion h63), yt⟩]
          have := (fin (ebM T (crM T S (nCr T)) (nSt T)) e B).2
          rw [this]
    · have h8 : 4 * b + j < 8 := mul_lt hb (by omega)
      have jc : j < nCr T := by omega
      have Sm := crM_same T S j
      have V' := V.same Sm.1
      have Kj := (K.crofts hT j (by omega))
      have m4 := V'.2.2.2.1 j (by omega)
      obtain ⟨e1, B1, q1⟩ := m_acts (e := e) (B := B) hN hb hT X V' R Kj jc
      have nx := fun e B => ih (j + 1) e B (by omega) (by omega)
      rw [crM_s] at nx
      have h0 : 0 ≤ (crM T S j).2 11 := Int32.le_iff_toInt_le.mpr Kj.2.2.2.1
      have h1 : (crM T S j).2 11 < 2147483647 := Int32.lt_iff_toInt_lt.mpr (by have := Kj.2.2.2.2.1; have e : (2147483647 : Int32).toInt = 2147483647 := rfl; omega)
      rw [M8_I h b _ e B 13 (by decide), hc', if_neg (nleN (show j < nCr T by omega) (show nCr T < 2 ^ 31 by omega))]
      simp only [jn_e, lt_e, nI_1, nb2i0, M8_Z h b _ e B 65 (by decide), M8_I h b _ e B 66 (by decide), M8_A, arr8_33, clN hb31, wr_b, grd_p (inb_n hb (show 2 < 2 ^ 31 by omega)), ix4 hb (show j < 4 by omega), grd_p (inb_n h8 (show 8 < 2 ^ 31 by omega)), clN (show 4 * b + j < 2 ^ 31 by omega), arr8_n b _ (gA h 8 0) (show 26 < 23 ∨ 33 < 26 ∨ (23 < 26 ∧ 26 < 28) by omega)]
      by_cases w : nI j = gI h 8 0 66
      · rw [if_pos w] at m4
        rw [m4, if_pos h1] at nx
        rw [if_pos w, ite_self]
        by_cases u : gZ h 8 0 65 = true
        · rw [if_pos u]; exact nx e B
        · rw [if_neg u]; exact nx e B
      · rw [if_neg w] at m4
        rw [if_neg w, q1, bind_s]
        by_cases u : gZ h 8 0 65 = true
        · rw [if_pos u] at m4
          rw [m4, if_neg (Int32.not_lt.mpr h0)] at nx
          rw [if_pos u]
          exact nx e1 B1
        · rw [if_neg u] at m4
          rw [m4] at nx
          rw [if_neg u]
          by_cases y : (crM T S j).2 11 < gA h 8 0 26 (4 * b + j)
          · rw [if_pos y] at nx
            rw [if_pos y]
            exact nx e B
          · rw [if_neg y] at nx
            rw [if_neg y]
            exact nx e1 B1) N 0 e B (by omega) (by omega)
end Model

