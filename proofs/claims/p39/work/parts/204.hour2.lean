-- PURE: an hour by the class
section Class
variable {N : Nat} {h : Hp} {o t : Nat} {S : Str} {B : Scr}
theorem cl_fork (hN : 1000 ≤ N) (C : CK h o t) {c : Nat} (hc : c < 4) : ∃ B', f_X3_fork N (M3 h o S B) o (nI c) = some (M3 h o (forkM (txt h t) S c) B') := by
  have hs8 := C.2.1.1.2
  unfold f_X3_fork forkM
  simp only [cl_sourceOf hN C, bind_s]
  rcases srcM_rng (txt h t) S (nI c) true with e | ⟨e, -⟩ | ⟨j, hj, e⟩
  · rw [e]
    exact ⟨B, rfl⟩
  · cases e
  · rw [e]
    have hj31 : j < 2 ^ 31 := by omega
    obtain ⟨B1, e1, n1⟩ := cl_namePlace (S := S) (B := B) C (S.1 0 j) (nI c) (Or.inr ⟨c, hc, rfl⟩)
    obtain ⟨B2, e2⟩ := cl_law (S := S) hN C (k := 1) (by decide) n1
    have e2' : f_X0_value N (M3 h o S B1) t 1 = some ((txt h t).2.2 1 (nmP S (S.1 0 j) (nI c)), M3 h o S B2) := e2
    refine ⟨B2, ?_⟩
    simp only [if_pos (nI_pos' hj31), jn_e, lt_e, M3_A3, clN hj31, clN (show c < 2 ^ 31 by omega), grd_p (inb_n (show j < 8 by omega) (show 8 < 2 ^ 31 by omega)), grd_p (inb_n hc (show 4 < 2 ^ 31 by omega)), e1, bind_s, M3_O, C.1, onO_s, e2', bd2_s, cl_putWithin, lg_cmp_eq, M3_sA, M3_sI, M3_I3]
    unfold forkS tonsM
    by_cases z : (txt h t).2.2 1 (nmP S (S.1 0 j) (nI c)) = erM
    · have z' : ¬ ¬ (txt h t).2.2 1 (nmP S (S.1 0 j) (nI c)) = -9223372036854775808 := fun q => q z
      rw [if_neg z', if_pos z]
      rfl
    · have z' : ¬ (txt h t).2.2 1 (nmP S (S.1 0 j) (nI c)) = -9223372036854775808 := z
      rw [if_pos z', if_neg z]
      rfl
/-- what a croft does behind its best field is known -/
def cartF (N : Nat) (o : Nat) (c v1 v2 v3 : Int32) (g : Hp) : Option Hp :=
  if ¬ v2 = -1 then
    jn (fun (v7 : Int32) =>
      bd2 (f_X3_loadOf N g o c v7) fun v9 h8 =>
      jn (fun (h10 : Hp) =>
        grd (inb v2 6) <|
        grd (inb v2 6) <| lt_ (sA h10 3 o 9 v2.toNatClampNeg ((gA h10 3 o 9 v2.toNatClampNeg) + v9)) fun h11 =>
        grd (inb c 4) <|
        grd (inb c 4) <| lt_ (sA h11 3 o 6 c.toNatClampNeg ((gA h11 3 o 6 c.toNatClampNeg) + (v3 * v9))) fun h12 =>
        some h12) fun (j143 : Hp → Option Hp) =>
      if ¬ v1 = (-3) then
        grd (inb v1 8) <|
        grd (inb v1 8) <| lt_ (sA h8 3 o 0 v1.toNatClampNeg ((gA h8 3 o 0 v1.toNatClampNeg) - v9)) fun h13 =>
        j143 h13
      else
      lt_ (sI h8 3 o 12 ((gI h8 3 o 12) - v9)) fun h14 =>
      j143 h14) fun (j101 : Int32 → Option Hp) =>
    if ¬ v1 = (-3) then
      grd (inb v1 8) <|
      j101 (gA g 3 o 0 v1.toNatClampNeg)
    else
    j101 (gI g 3 o 12)
  else some g
theorem cl_cartF (hN : 1000 ≤ N) (C : CK h o t) {c : Nat} (hc : c < 4) (hne : ¬ srcM (txt h t) S (nI c) false = -2) : ∃ B', cartF N o (nI c) (srcM (txt h t) S (nI c) false) (bfM (txt h t) S (nI c) (nFi (txt h t))).1 (bfM (txt h t) S (nI c) (nFi (txt h t))).2 (M3 h o S B) = some (M3 h o (cartM (txt h t) S c) B') := by
  have hs8 := C.2.1.1.2
  have hf6 := C.2.1.2.2.1.2
  unfold cartF cartM
  rw [if_neg hne]
  rcases bfM_rng (txt h t) S (nI c) (nFi (txt h t)) with e | ⟨f, hf, e⟩
  · rw [if_neg (fun q => q e), if_pos e]
    exact ⟨B, rfl⟩
  · have hf31 : f < 2 ^ 31 := by omega
    have e1 : ¬ (bfM (txt h t) S (nI c) (nFi (txt h t))).1 = -1 := by rw [e]; exact nI_ne_neg hf31 (by decide)
    rw [if_pos e1, if_neg e1, e]
    simp only [clN hf31]
    obtain ⟨B1, e2⟩ := cl_loadOf (S := S) (B := B) hN C hc (thereM S (srcM (txt h t) S (nI c) false))
    refine ⟨B1, ?_⟩
    rcases srcM_rng (txt h t) S (nI c) false with e3 | ⟨-, e3⟩ | ⟨j, hj, e3⟩
    · exact absurd e3 hne
    · rw [e3] at e2 ⊢
      rw [show thereM S (-3) = S.2 12 from if_pos rfl] at e2 ⊢
      rw [show lessM S (-3) (loadM (txt h t) S c (S.2 12)) = upI S 12 (S.2 12 - loadM (txt h t) S c (S.2 12)) from if_pos rfl]
      simp only [if_neg (fun q => q rfl : ¬ ¬ (-3 : Int32) = -3), jn_e, lt_e, M3_I3, e2, bd2_s, M3_sI, M3_sA, M3_A3, clN hf31, clN (show c < 2 ^ 31 by omega), grd_p (inb_n (show f < 6 by omega) (show 6 < 2 ^ 31 by omega)), grd_p (inb_n hc (show 4 < 2 ^ 31 by omega))]
      rfl
    · have hj31 : j < 2 ^ 31 := by omega
      have h3 : ¬ nI j = -3 := nI_ne_neg hj31 (by decide)
      rw [e3] at e2 ⊢
      rw [show thereM S (nI j) = S.1 0 j from by unfold thereM; rw [if_neg h3, clN hj31]] at e2 ⊢
      rw [show lessM S (nI j) (loadM (txt h t) S c (S.1 0 j)) = upA S 0 j (S.1 0 j - loadM (txt h t) S c (S.1 0 j)) from by unfold lessM; rw [if_neg h3, clN hj31]]
      simp only [if_pos h3, jn_e, lt_e, M3_I3, M3_A3, e2, bd2_s, M3_sI, M3_sA, clN hj31, clN hf31, clN (show c < 2 ^ 31 by omega), grd_p (inb_n (show j < 8 by omega) (show 8 < 2 ^ 31 by omega)), grd_p (inb_n (show f < 6 by omega) (show 6 < 2 ^ 31 by omega)), grd_p (inb_n hc (show 4 < 2 ^ 31 by omega))]
      rfl
theorem cl_cart (hN : 1000 ≤ N) (C : CK h o t) {c : Nat} (hc : c < 4) : ∃ B', f_X3_cart N (M3 h o S B) o (nI c) = some (M3 h o (cartM (txt h t) S c) B') := by
  have hf6 := C.2.1.2.2.1.2
  have hfe : gI h 5 t 13 = nI (nFi (txt h t)) := C.2.1.2.2.1.1
  unfold f_X3_cart
  simp only [cl_sourceOf hN C, bind_s]
  by_cases hne : srcM (txt h t) S (nI c) false = -2
  · rw [if_neg (fun q => q hne)]
    exact ⟨B, by unfold cartM; rw [if_pos hne]⟩
  rw [if_pos hne]
  refine iter_inv (bot := fun _ _ _ _ => none) (b := f_X3_cart_22 N o (nI c) (srcM (txt h t) S (nI c) false)) (fun m r => ∀ j (B : Scr), j ≤ nFi (txt h t) → nFi (txt h t) < m + j → ∃ B', r (bfM (txt h t) S (nI c) j).1 (bfM (txt h t) S (nI c) j).2 (nI j) (M3 h o S B) = some (M3 h o (cartM (txt h t) S c) B')) (fun j B _ _ => by omega) (fun m r ih j B hj hm => ?_) N 0 B (by omega) (by omega)
  unfold f_X3_cart_22
  simp only [M3_O, C.1, onO_s, M3_I5, hfe]
  by_cases z : nFi (txt h t) = j
  · subst z
    rw [if_pos (leN (Nat.le_refl _) (by omega))]
    exact cl_cartF hN C hc hne
  · simp only [if_neg (nleN (show j < nFi (txt h t) by omega) (show nFi (txt h t) < 2 ^ 31 by omega)), grd_p (inb_n (show j < 6 by omega) (show 6 < 2 ^ 31 by omega)), clN (show j < 2 ^ 31 by omega), jn_e, lt_e, nI_1, M3_A5]
    by_cases w : gA h 5 t 5 j = nI c
    · rw [if_neg (fun q => q w)]
      obtain ⟨B1, e1⟩ := cl_worthOf (S := S) (B := B) hN C (f := j) (by omega)
      rw [e1, bd2_s]
      have nx := ih (j + 1) B1 (by omega) (by omega)
      rw [bfM_s] at nx
      by_cases u : worM (txt h t) S j ≤ (bfM (txt h t) S (nI c) j).2
      · rw [if_pos u]
        rw [if_neg (fun q => absurd q.2 (Int32.not_lt.mpr u))] at nx
        exact nx
      · rw [if_neg u]
        rw [if_pos ⟨w, Int32.not_le.mp u⟩] at nx
        exact nx
    · rw [if_pos w]
      have nx := ih (j + 1) B (by omega) (by omega)
      rw [bfM_s, if_neg (fun q => w q.1)] at nx
      exact nx
theorem cl_ebb (hN : 1000 ≤ N) (C : CK h o t) : ∃ B', f_X3_ebb N (M3 h o S B) o = some (M3 h o (ebM (txt h t) S (nSt (txt h t))) B') := by
  have hs8 := C.2.1.1.2
  have hse : gI h 5 t 11 = nI (nSt (txt h t)) := C.2.1.1.1
  unfold f_X3_ebb
  refine iter_inv (bot := fun _ _ => none) (b := f_X3_ebb_2 N o) (fun m r => ∀ j (B : Scr), j ≤ nSt (txt h t) → nSt (txt h t) < m + j → ∃ B', r (nI j) (M3 h o (ebM (txt h t) S j) B) = some (M3 h o (ebM (txt h t) S (nSt (txt h t))) B')) (fun j B _ _ => by omega) (fun m r ih j B hj hm => ?_) N 0 B (by omega) (by omega)
  unfold f_X3_ebb_2
  simp only [M3_O, C.1, onO_s, M3_I5, hse]
  by_cases z : nSt (txt h t) = j
  · subst z
    rw [if_pos (leN (Nat.le_refl _) (by omega))]
    exact ⟨B, rfl⟩
  · have hj31 : j < 2 ^ 31 := by omega
    obtain ⟨B1, e1, n1⟩ := cl_namePlace (S := ebM (txt h t) S j) (B := B) C ((ebM (txt h t) S j).1 0 j) (-1) (Or.inl rfl)
    obtain ⟨B2, e2⟩ := cl_law (S := ebM (txt h t) S j) hN C (k := 2) (by decide) n1
    have e2' : f_X0_value N (M3 h o (ebM (txt h t) S j) B1) t 2 = some ((txt h t).2.2 2 (nmP (ebM (txt h t) S j) ((ebM (txt h t) S j).1 0 j) (-1)), M3 h o (ebM (txt h t) S j) B2) := e2
    simp only [if_neg (nleN (show j < nSt (txt h t) by omega) (show nSt (txt h t) < 2 ^ 31 by omega)), grd_p (inb_n (show j < 8 by omega) (show 8 < 2 ^ 31 by omega)), clN hj31, jn_e, lt_e, nI_1, M3_A3, e1, bind_s, M3_O, C.1, onO_s, e2', bd2_s, cl_putWithin, lg_cmp_eq, M3_sA, M3_sI, M3_I3]
    have nx := ih (j + 1) B2 (by omega) (by omega)
    rw [ebM_s] at nx
    by_cases w : (txt h t).2.2 2 (nmP (ebM (txt h t) S j) ((ebM (txt h t) S j).1 0 j) (-1)) = erM
    · have w' : ¬ ¬ (txt h t).2.2 2 (nmP (ebM (txt h t) S j) ((ebM (txt h t) S j).1 0 j) (-1)) = -9223372036854775808 := fun q => q w
      rw [if_neg w']
      have eg : goneM (txt h t) (ebM (txt h t) S j) ((ebM (txt h t) S j).1 0 j) = (ebM (txt h t) S j).1 0 j / 2 := if_pos w
      rw [eg] at nx
      exact nx
    · have w' : ¬ (txt h t).2.2 2 (nmP (ebM (txt h t) S j) ((ebM (txt h t) S j).1 0 j) (-1)) = -9223372036854775808 := w
      rw [if_pos w']
      have eg : goneM (txt h t) (ebM (txt h t) S j) ((ebM (txt h t) S j).1 0 j) = pwM ((txt h t).2.2 2 (nmP (ebM (txt h t) S j) ((ebM (txt h t) S j).1 0 j) (-1))) ((ebM (txt h t) S j).1 0 j) := if_neg w
      rw [eg] at nx
      exact nx
theorem cl_allLying (hN : 1000 ≤ N) (C : CK h o t) : f_X3_allLying N (M3 h o S B) o = some (sumM (S.1 0) (nSt (txt h t))) := by
  have hse : gI h 5 t 11 = nI (nSt (txt h t)) := C.2.1.1.1
  unfold f_X3_allLying
  simp only [M3_O, C.1, onO_s, M3_I5, hse, cl_sum hN (M3 h o S B) 3 o 0 (nSt (txt h t)) C.2.1.1.2 (by decide), bind_s, M3_A3]
theorem cl_allGot (hN : 1000 ≤ N) (C : CK h o t) : f_X3_allGot N (M3 h o S B) o = some (sumM (S.1 9) (nFi (txt h t))) := by
  have hse : gI h 5 t 13 = nI (nFi (txt h t)) := C.2.1.2.2.1.1
  unfold f_X3_allGot
  simp only [M3_O, C.1, onO_s, M3_I5, hse, cl_sum hN (M3 h o S B) 3 o 9 (nFi (txt h t)) C.2.1.2.2.1.2 (by decide), bind_s, M3_A3]
theorem cl_allGains (hN : 1000 ≤ N) (C : CK h o t) : f_X3_allGains N (M3 h o S B) o = some (sumM (S.1 6) (nCr (txt h t))) := by
  have hse : gI h 5 t 12 = nI (nCr (txt h t)) := C.2.1.2.1.1
  unfold f_X3_allGains
  simp only [M3_O, C.1, onO_s, M3_I5, hse, cl_sum hN (M3 h o S B) 3 o 6 (nCr (txt h t)) C.2.1.2.1.2 (by decide), bind_s, M3_A3]
theorem cl_ruledAct (hN : 1000 ≤ N) (C : CK h o t) : f_X3_ruledAct N (M3 h o S B) o = some (if S.2 14 = 2 ∧ 0 < sumM (S.1 0) (nSt (txt h t)) then 2 else 1) := by
  unfold f_X3_ruledAct
  simp only [jn_e, M3_I3, cl_allLying hN C, bind_s]
  by_cases z : S.2 14 = 2
  · rw [if_neg (fun q => q z)]
    by_cases w : sumM (S.1 0) (nSt (txt h t)) ≤ 0
    · rw [if_pos w, if_neg (fun q => absurd q.2 (Int32.not_lt.mpr w))]
    · rw [if_neg w, if_pos ⟨z, Int32.not_le.mp w⟩]
  · rw [if_pos z, if_neg (fun q => z q.1)]
end Class

