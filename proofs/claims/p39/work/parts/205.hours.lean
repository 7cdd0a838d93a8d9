theorem crM_s (T : Txt) (S : Str) (c : Nat) : crM T S (c + 1) = if (crM T S c).2 11 < (crM T S c).1 4 c then crM T S c else actM T (crM T S c) c := rfl
theorem blM_s (T : Txt) (S : Str) (j : Nat) : blM T S (j + 1) = upA (blM T S j) 0 j (if 9999 < (blM T S j).1 0 j + T.2.1 18 then 9999 else (blM T S j).1 0 j + T.2.1 18) := rfl
section Class
variable {N : Nat} {h : Hp} {o t : Nat} {S : Str} {B : Scr}
theorem txt_M3 : txt (M3 h o S B) t = txt h t := by
  unfold txt
  rw [show gA (M3 h o S B) 5 t = gA h 5 t from funext fun k => M3_A5 _ _ _ _ t k, show gI (M3 h o S B) 5 t = gI h 5 t from funext fun k => M3_I5 _ _ _ _ t k, show gA (M3 h o S B) 0 t = gA h 0 t from funext fun k => M3_A0 _ _ _ _ t k]
theorem cl_tide (hN : 1000 ≤ N) (C : CK h o t) (x : Int32) : f_X5_hasTide N (M3 h o S B) t x = some (tideM (txt h t) x) := by
  have e := cl_hasTide hN (M3 h o S B) t (by rw [txt_M3]; exact C.2.1) x
  rw [txt_M3] at e
  exact e
theorem cl_passHour (hN : 1000 ≤ N) (C : CK h o t) : ∃ B', f_X3_passHour N (M3 h o S B) o = some (M3 h o (passM (txt h t) S) B') := by
  have hc4 := C.2.1.2.1.2
  have hce : gI h 5 t 12 = nI (nCr (txt h t)) := C.2.1.2.1.1
  unfold f_X3_passHour
  refine iter_inv (bot := fun _ _ => none) (b := f_X3_passHour_2 N o) (fun m r => ∀ j (B : Scr), j ≤ nCr (txt h t) → nCr (txt h t) < m + j → ∃ B', r (nI j) (M3 h o (crM (txt h t) S j) B) = some (M3 h o (passM (txt h t) S) B')) (fun j B _ _ => by omega) (fun m r ih j B hj hm => ?_) N 0 B (by omega) (by omega)
  unfold f_X3_passHour_2
  simp only [M3_O, C.1, onO_s, M3_I5, hce]
  by_cases z : nCr (txt h t) = j
  · rw [if_pos (leN (show nCr (txt h t) ≤ j by omega) (by omega))]
    simp only [jn_e, lt_e, M3_I3, M3_Z3, b2i0, M3_sI, cl_tide hN C, bind_s]
    unfold passM tdM
    rw [z]
    by_cases w : (crM (txt h t) S j).2 16 = 0
    · rw [if_pos (decide_eq_false (fun q => q w)), if_neg (fun q => q.1 w)]
      exact ⟨B, rfl⟩
    · rw [if_neg (by rw [decide_eq_true w]; exact Bool.noConfusion)]
      by_cases u : tideM (txt h t) (hrM (crM (txt h t) S j)) = true
      · have u' : tideM (txt h t) ((crM (txt h t) S j).2 11 - (crM (txt h t) S j).2 11 / 24 * 24) = true := u
        have p1 : ¬ (crM (txt h t) S j).2 16 = 0 ∧ tideM (txt h t) (hrM (crM (txt h t) S j)) = true := ⟨w, u⟩
        have p2 : ¬ tideM (txt h t) ((crM (txt h t) S j).2 11 - (crM (txt h t) S j).2 11 / 24 * 24) = false := by rw [u']; exact Bool.noConfusion
        simp only [if_pos p1, if_neg p2]
        obtain ⟨B1, e1⟩ := cl_ebb (S := crM (txt h t) S j) (B := B) hN C
        rw [e1, bind_s, M3_I3, M3_sI]
        exact ⟨B1, rfl⟩
      · have u' : tideM (txt h t) ((crM (txt h t) S j).2 11 - (crM (txt h t) S j).2 11 / 24 * 24) = false := by
          cases hz : tideM (txt h t) ((crM (txt h t) S j).2 11 - (crM (txt h t) S j).2 11 / 24 * 24) with
          | false => rfl
          | true => exact absurd hz u
        have p1 : ¬ (¬ (crM (txt h t) S j).2 16 = 0 ∧ tideM (txt h t) (hrM (crM (txt h t) S j)) = true) := fun q => u q.2
        simp only [if_neg p1, if_pos u']
        exact ⟨B, rfl⟩
  · have hj4 : j < 4 := by omega
    have hj31 : j < 2 ^ 31 := by omega
    simp only [if_neg (nleN (show j < nCr (txt h t) by omega) (show nCr (txt h t) < 2 ^ 31 by omega)), grd_p (inb_n hj4 (show 4 < 2 ^ 31 by omega)), clN hj31, jn_e, lt_e, nI_1, M3_A3, M3_I3, cl_ruledAct hN C, bind_s]
    by_cases w : (crM (txt h t) S j).2 11 < (crM (txt h t) S j).1 4 j
    · rw [if_pos w]
      have nx := ih (j + 1) B (by omega) (by omega)
      rw [crM_s, if_pos w] at nx
      exact nx
    · rw [if_neg w]
      have go : ∀ v : Int32, v = doesM (txt h t) (crM (txt h t) S j) j → ∃ B', (if ¬ v = 1 then (if ¬ v = 2 then r (nI (j + 1)) (M3 h o (crM (txt h t) S j) B) else (f_X3_fork N (M3 h o (crM (txt h t) S j) B) o (nI j)).bind fun h12 => r (nI (j + 1)) h12) else (f_X3_cart N (M3 h o (crM (txt h t) S j) B) o (nI j)).bind fun h13 => r (nI (j + 1)) h13) = some (M3 h o (passM (txt h t) S) B') := by
        intro v hv
        by_cases v1 : v = 1
        · rw [if_neg (fun q => q v1)]
          obtain ⟨B1, e1⟩ := cl_cart (S := crM (txt h t) S j) (B := B) hN C hj4
          rw [e1, bind_s]
          have nx := ih (j + 1) B1 (by omega) (by omega)
          rw [crM_s, if_neg w] at nx
          unfold actM at nx
          rw [← hv, if_pos v1] at nx
          exact nx
        · rw [if_pos v1]
          by_cases v2 : v = 2
          · rw [if_neg (fun q => q v2)]
            obtain ⟨B1, e1⟩ := cl_fork (S := crM (txt h t) S j) (B := B) hN C hj4
            rw [e1, bind_s]
            have nx := ih (j + 1) B1 (by omega) (by omega)
            rw [crM_s, if_neg w] at nx
            unfold actM at nx
            rw [← hv, if_neg v1, if_pos v2] at nx
            exact nx
          · rw [if_pos v2]
            have nx := ih (j + 1) B (by omega) (by omega)
            rw [crM_s, if_neg w] at nx
            unfold actM at nx
            rw [← hv, if_neg v1, if_neg v2] at nx
            exact nx
      by_cases u : (crM (txt h t) S j).1 5 j = 0
      · rw [if_neg (fun q => q u)]
        exact go _ (by unfold doesM; rw [if_pos u])
      · rw [if_pos u]
        exact go _ (by unfold doesM; rw [if_neg u])
theorem cl_passHours (hN : 1000 ≤ N) (C : CK h o t) {n : Nat} (hn : n < 900) : ∃ B', f_X3_passHours N (M3 h o S B) o (nI n) = some (M3 h o (passN (txt h t) S n) B') := by
  unfold f_X3_passHours
  refine iter_inv (bot := fun _ _ => none) (b := f_X3_passHours_2 N o (nI n)) (fun m r => ∀ j (B : Scr), j ≤ n → n < m + j → ∃ B', r (nI j) (M3 h o (passN (txt h t) S j) B) = some (M3 h o (passN (txt h t) S n) B')) (fun j B _ _ => by omega) (fun m r ih j B hj hm => ?_) N 0 B (by omega) (by omega)
  unfold f_X3_passHours_2
  by_cases z : n = j
  · subst z
    rw [if_pos (leN (Nat.le_refl _) (by omega))]
    exact ⟨B, rfl⟩
  · rw [if_neg (nleN (show j < n by omega) (show n < 2 ^ 31 by omega))]
    obtain ⟨B1, e1⟩ := cl_passHour (S := passN (txt h t) S j) (B := B) hN C
    rw [e1, bind_s, lt_e, nI_1]
    exact ih (j + 1) B1 (by omega) (by omega)
theorem cl_draw : f_X3_drawNumber (M3 h o S B) o = some ((drwM S).2 15 / 65536, M3 h o (drwM S) B) := by
  unfold f_X3_drawNumber
  simp only [lt_e, M3_I3, M3_sI]
  rfl
theorem cl_blow (hN : 1000 ≤ N) (C : CK h o t) : ∃ B', f_X3_blow N (M3 h o S B) o = some (M3 h o (blM (txt h t) S (nSt (txt h t))) B') := by
  have hs8 := C.2.1.1.2
  have hse : gI h 5 t 11 = nI (nSt (txt h t)) := C.2.1.1.1
  unfold f_X3_blow
  refine iter_inv (bot := fun _ _ => none) (b := f_X3_blow_2 o) (fun m r => ∀ j (B : Scr), j ≤ nSt (txt h t) → nSt (txt h t) < m + j → ∃ B', r (nI j) (M3 h o (blM (txt h t) S j) B) = some (M3 h o (blM (txt h t) S (nSt (txt h t))) B')) (fun j B _ _ => by omega) (fun m r ih j B hj hm => ?_) N 0 B (by omega) (by omega)
  unfold f_X3_blow_2
  simp only [M3_O, C.1, onO_s, M3_I5, hse]
  by_cases z : nSt (txt h t) = j
  · subst z
    rw [if_pos (leN (Nat.le_refl _) (by omega))]
    exact ⟨B, rfl⟩
  · simp only [if_neg (nleN (show j < nSt (txt h t) by omega) (show nSt (txt h t) < 2 ^ 31 by omega)), grd_p (inb_n (show j < 8 by omega) (show 8 < 2 ^ 31 by omega)), clN (show j < 2 ^ 31 by omega), lt_e, nI_1, M3_A3, M3_sA]
    exact ih (j + 1) B (by omega) (by omega)
theorem cl_passG (hN : 1000 ≤ N) (C : CK h o t) {n : Nat} (hn : n < 900) : ∃ B', f_X3_passHoursWithGales N (M3 h o S B) o (nI n) = some (M3 h o (passG (txt h t) S n) B') := by
  unfold f_X3_passHoursWithGales
  refine iter_inv (bot := fun _ _ => none) (b := f_X3_passHoursWithGales_2 N o (nI n)) (fun m r => ∀ j (B : Scr), j ≤ n → n < m + j → ∃ B', r (nI j) (M3 h o (passG (txt h t) S j) B) = some (M3 h o (passG (txt h t) S n) B')) (fun j B _ _ => by omega) (fun m r ih j B hj hm => ?_) N 0 B (by omega) (by omega)
  unfold f_X3_passHoursWithGales_2
  by_cases z : n = j
  · subst z
    rw [if_pos (leN (Nat.le_refl _) (by omega))]
    exact ⟨B, rfl⟩
  · rw [if_neg (nleN (show j < n by omega) (show n < 2 ^ 31 by omega))]
    have go : ∀ (S1 : Str) (B : Scr), S1 = galeM (txt h t) (passG (txt h t) S j) → ∃ B', ((f_X3_passHour N (M3 h o S1 B) o).bind fun h5 => r (nI (j + 1)) h5) = some (M3 h o (passG (txt h t) S n) B') := by
      intro S1 B e
      subst e
      obtain ⟨B1, e1⟩ := cl_passHour (S := galeM (txt h t) (passG (txt h t) S j)) (B := B) hN C
      rw [e1, bind_s]
      exact ih (j + 1) B1 (by omega) (by omega)
    simp only [M3_O, C.1, onO_s, jn_e, lt_e, nI_1, M3_I5, cl_draw, bd2_s]
    by_cases w : gI h 5 t 17 ≤ 0
    · rw [if_pos w]
      exact go _ B (by unfold galeM; rw [if_pos (show (txt h t).2.1 17 ≤ 0 from w)])
    · rw [if_neg w]
      by_cases u : gI h 5 t 17 ≤ (drwM (passG (txt h t) S j)).2 15 / 65536 - (drwM (passG (txt h t) S j)).2 15 / 65536 / 100 * 100
      · rw [if_pos u]
        exact go _ B (by unfold galeM; rw [if_neg (show ¬ (txt h t).2.1 17 ≤ 0 from w), if_pos (show (txt h t).2.1 17 ≤ _ from u)])
      · rw [if_neg u]
        obtain ⟨B1, e1⟩ := cl_blow (S := drwM (passG (txt h t) S j)) (B := B) hN C
        rw [e1, bind_s]
        exact go _ B1 (by unfold galeM; rw [if_neg (show ¬ (txt h t).2.1 17 ≤ 0 from w), if_neg (show ¬ (txt h t).2.1 17 ≤ _ from u)])
end Class

