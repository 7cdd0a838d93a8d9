-- PURE: turns, turn by the reference
section MTurns
variable {N : Nat} {g : Hp} {ru : Int32} {T : Txt} {S : Str}
theorem Sm.allCame (s : Sm g 1 ru T S) (p : Plain g) : F8 g (sZ g 8 0 65 true) ∧ Sm (sZ g 8 0 65 true) 1 ru T (czL S (nCr T)) := by
  have f : F8 g (sZ g 8 0 65 true) := F8.i g (k := 65) (b2i true) (by decide)
  obtain ⟨hT, R, X, q, h49⟩ := s
  obtain ⟨p1, p2, p3, p4⟩ := p
  have hc4 := hT.2.1.2
  have z65 : gZ (sZ g 8 0 65 true) 8 0 65 = true := by unfold gZ sZ; rw [I_at, if_pos rfl]; rfl
  have z66 : gI (sZ g 8 0 65 true) 8 0 66 = -1 := by unfold sZ; rw [I_at, if_neg (by decide)]; exact p4
  have z63 : gZ (sZ g 8 0 65 true) 8 0 63 = gZ g 8 0 63 := by unfold gZ sZ; rw [I_at, if_neg (by decide)]
  have z64 : gZ (sZ g 8 0 65 true) 8 0 64 = gZ g 8 0 64 := by unfold gZ sZ; rw [I_at, if_neg (by decide)]
  have cz : ∀ j a i, (czL S j).1 a i = if a = 4 ∧ i < j then 0 else S.1 a i := by
    intro j
    induction j with
    | zero => intro a i; rw [if_neg (fun q => absurd q.2 (Nat.not_lt_zero _))]; rfl
    | succ j ih =>
      intro a i
      rw [czL_s, upA_k, ih]
      by_cases x : a = 4 ∧ i = j
      · rw [if_pos x, if_pos ⟨x.1, by omega⟩]
      · rw [if_neg x]
        by_cases y : a = 4 ∧ i < j
        · rw [if_pos y, if_pos ⟨y.1, by omega⟩]
        · rw [if_neg y, if_neg (fun w => by omega)]
  refine ⟨f, hT, R, f.mt X, ⟨fun s hs => ?_, fun c hc => ?_, fun i hi => ?_, fun k h1 h2 => ?_⟩, f.2.2.1.2.2 h49⟩
  · rw [cz, cz, if_neg (fun q => by omega), if_neg (fun q => by omega)]; exact q.1 s hs
  · rw [cz, cz, cz, cz, cz, cz, if_neg (fun q => by omega), if_neg (fun q => by omega), if_pos ⟨rfl, hc⟩, if_neg (fun q => by omega), if_neg (fun q => by omega), if_neg (fun q => by omega)]
    obtain ⟨c1, c2, c3, c4, c5, c6⟩ := q.2.1 c hc
    refine ⟨c1, ?_, ?_, c4, c5, c6⟩
    · have c2' : (if gZ g 8 0 64 = true then 0 else gA g 8 0 7 c) = S.1 3 c := c2
      show (if gZ (sZ g 8 0 65 true) 8 0 64 = true then 0 else gA g 8 0 7 c) = S.1 3 c
      rw [z64]; exact c2'
    · show (if nI c = gI (sZ g 8 0 65 true) 8 0 66 then (2147483647 : Int32) else if gZ (sZ g 8 0 65 true) 8 0 65 = true then 0 else gA g 8 0 26 (4 * 1 + c)) = 0
      rw [z66, z65, if_neg (nI_ne_neg (by omega) (by decide)), if_pos rfl]
  · rw [cz, if_neg (fun q => by omega)]; exact q.2.2.1 i hi
  · rw [czL_i]
    have := q.2.2.2 k h1 h2
    rw [← this]
    by_cases z : k = 16
    · subst z
      show (if gZ (sZ g 8 0 65 true) 8 0 63 = true then (0 : Int32) else 1) = (if gZ g 8 0 63 = true then 0 else 1)
      rw [z63]
    · rcases (show k = 11 ∨ k = 12 ∨ k = 13 ∨ k = 14 ∨ k = 15 by omega) with rfl | rfl | rfl | rfl | rfl <;> rfl
/-- what the reference has found among the first i ways -/
def RowT (T : Txt) (S : Str) (n i : Nat) (g : Hp) : Prop := gI g 8 0 71 = (tuB T S n i).1 ∧ (0 < i → ∀ k, k < n → gA g 8 0 34 k = nI (dg (nCr T) n (tuB T S n i).2.2 k))
theorem m_unlikeForked (hN : 1000 ≤ N) (s : Sm g 1 ru T S) (hc0 : 0 < nCr T) (rng : ∀ c, c < nCr T → 0 ≤ (S.1 7 c).toInt ∧ (S.1 7 c).toInt ≤ 999999) : f_X8_unlikeForked N g = some (spM (S.1 7) (nCr T)) := by
  have hc4 := s.1.2.1.2
  have e13 : gI g 8 0 13 = nI (nCr T) := s.2.2.1.2.1.symm.trans s.1.2.1.1
  have rng' : ∀ i, i < nCr T → 0 ≤ S.1 7 i ∧ S.1 7 i ≤ 999999 := fun i hi => by
    obtain ⟨a, b⟩ := rng i hi
    have z0 : (0 : Int32).toInt = 0 := rfl
    have z9 : (999999 : Int32).toInt = 999999 := rfl
    exact ⟨Int32.le_iff_toInt_le.mpr (by omega), Int32.le_iff_toInt_le.mpr (by omega)⟩
  rw [sp_eq rng', if_neg (by omega)]
  unfold f_X8_unlikeForked
  refine iter_inv (bot := fun _ _ _ => none) (b := f_X8_unlikeForked_8 g) (fun m q => ∀ j, j ≤ nCr T → nCr T < m + j → q (msM (S.1 7) j) (lsM 999999 (S.1 7) j) (nI j) = some (msM (S.1 7) (nCr T) - lsM 999999 (S.1 7) (nCr T))) (fun j _ _ => by omega) (fun m q ih j hj hm => ?_) N 0 (by omega) (by omega)
  unfold f_X8_unlikeForked_8
  rw [e13]
  by_cases z : nCr T = j
  · rw [← z, if_pos (leN (Nat.le_refl _) (by omega))]
  · have nx := ih (j + 1) (by omega) (by omega)
    rw [msM_s, lsM_s] at nx
    have h4 : (4 : Int32) + nI j = nI (4 + j) := nI_add 4 j
    have a7 : gA g 8 0 29 (4 + j) = S.1 7 j := (s.2.2.2.1.2.1 j (by omega)).2.2.2.2.2
    rw [if_neg (nleN (show j < nCr T by omega) (show nCr T < 2 ^ 31 by omega))]
    simp only [jn_e, lt_e, h4, grd_p (inb_n (show 4 + j < 8 by omega) (show 8 < 2 ^ 31 by omega)), clN (show 4 + j < 2 ^ 31 by omega), a7, nI_1]
    by_cases w : S.1 7 j ≤ msM (S.1 7) j <;> by_cases v : lsM 999999 (S.1 7) j ≤ S.1 7 j <;> simp only [w, v, if_true, if_false] at nx ⊢ <;> exact nx
theorem m_rowLoopT (hN : 1000 ≤ N) (hT : TOK T) (hc0 : 0 < nCr T) {n i : Nat} (hn : n ≤ 4) (hi : i < 729) (u : Int32) (j196 : Int32 → Hp → Option Hp) (g : Hp) (e13 : gI g 8 0 13 = nI (nCr T)) (R : Hp → Prop) (out : ∀ g', F8 g g' → (∀ k, gI g' 8 0 k = gI g 8 0 k) → (∀ k, k < n → gA g' 8 0 34 k = nI (dg (nCr T) n i k)) → ∃ x, j196 u g' = some x ∧ R x) : ∃ x, iter (fun _ _ => none) (f_X8_layTurns_166 N (nI n) (nI i) u j196) N 0 g = some x ∧ R x := by
  have hc4 := hT.2.1.2
  refine iter_inv (bot := fun _ _ => none) (b := f_X8_layTurns_166 N (nI n) (nI i) u j196) (fun m r => ∀ k g', k ≤ n → n < m + k → F8 g g' → (∀ j, gI g' 8 0 j = gI g 8 0 j) → (∀ j, j < k → gA g' 8 0 34 j = nI (dg (nCr T) n i j)) → ∃ x, r (nI k) g' = some x ∧ R x) (fun k _ _ _ => by omega) (fun m r ih k g' hk hm f' q a => ?_) N 0 g (by omega) (by omega) (F8.rf g) (fun _ => rfl) (fun k hk => absurd hk (Nat.not_lt_zero _))
  unfold f_X8_layTurns_166
  by_cases z : n = k
  · subst z
    rw [if_pos (leN (Nat.le_refl _) (by omega))]
    exact out g' f' q a
  · have hp : nCr T ^ (n - 1 - k) ≤ 256 := pw_le hc4 (by omega)
    have ed : f_X8_digitOf N (nI i) (nI (nCr T)) (nI n) (nI k) = some (nI (dg (nCr T) n i k)) := m_digit hN (by omega) hc0 (by omega) (show k < n by omega) (by omega) (by omega)
    rw [if_neg (nleN (show k < n by omega) (show n < 2 ^ 31 by omega)), q, e13, ed, bind_s, grd_p (inb_n (show k < 6 by omega) (show 6 < 2 ^ 31 by omega)), lt_e, lt_e, clN (show k < 2 ^ 31 by omega), nI_1]
    refine ih (k + 1) _ (by omega) (by omega) (f'.tr (F8.a g' _ (by decide) (fun _ q => absurd q (by decide)))) q (fun j hj => ?_)
    rw [A_at]
    by_cases y : j = k
    · rw [if_pos ⟨rfl, y⟩, y]
    · rw [if_neg (fun q => y q.2)]; exact a j (by omega)
/-- one hour of a way -/
theorem m_turnHour (hN : 1000 ≤ N) (hc0 : 0 < nCr T) {n i k : Nat} (hn : n ≤ 4) (hi : i < 729) (hk : k < n) {Q : Str} (s : Sm g 1 (S.2 14) T Q) (e61 : gI g 8 0 61 = S.2 14) (K : SOK T 0 (faL Q (dg (nCr T) n i k) (nCr T))) (r33 : Int32 → Hp → Option Hp) (R : Hp → Prop) (out : ∀ g', F8 g g' → (∀ k, k ≠ 49 → gI g' 8 0 k = gI g 8 0 k) → (∀ k, 33 < k → gA g' 8 0 k = gA g 8 0 k) → Sm g' 1 (S.2 14) T (passM T (faL Q (dg (nCr T) n i k) (nCr T))) → ∃ x, r33 (nI (k + 1)) g' = some x ∧ R x) : ∃ x, iter (fun _ _ => none) (f_X8_layTurns_42 N (nI n) (nI i) r33 (nI k)) N 0 g = some x ∧ R x := by
  have hT := s.1
  have hc4 := hT.2.1.2
  refine iter_inv (bot := fun _ _ => none) (b := f_X8_layTurns_42 N (nI n) (nI i) r33 (nI k)) (fun m r => ∀ j g', j ≤ nCr T → nCr T < m + j → F8 g g' → (∀ q, gI g' 8 0 q = gI g 8 0 q) → (∀ q, 33 < q → gA g' 8 0 q = gA g 8 0 q) → Sm g' 1 (S.2 14) T (faL Q (dg (nCr T) n i k) j) → ∃ x, r (nI j) g' = some x ∧ R x) (fun k _ _ _ => by omega) (fun m r ih j g' hj hm f' q a s' => ?_) N 0 g (by omega) (by omega) (F8.rf g) (fun _ => rfl) (fun _ _ => rfl) s
  have e13 : gI g' 8 0 13 = nI (nCr T) := s'.2.2.1.2.1.symm.trans hT.2.1.1
  unfold f_X8_layTurns_42
  rw [e13]
  by_cases z : nCr T = j
  · rw [← z, if_pos (leN (Nat.le_refl _) (by omega))]
    rw [← z] at s'
    obtain ⟨g2, e2, f2, s2⟩ := s'.hour hN (by decide) K
    have e2' : f_X8_goOn N g' 1 (S.2 14) = some g2 := e2
    obtain ⟨f3, i3, a3⟩ := s'.drop f2 s2
    rw [q, e61, e2', bind_s, lt_e, nI_1]
    exact out g2 (f'.tr f3) (fun k hk => (i3 k hk).trans (q k)) (fun k hk => (a3 k hk).trans (a k hk)) s2
  · have hp : nCr T ^ (n - 1 - k) ≤ 256 := pw_le hc4 (by omega)
    have ed : f_X8_digitOf N (nI i) (nI (nCr T)) (nI n) (nI k) = some (nI (dg (nCr T) n i k)) := m_digit hN (by omega) hc0 (by omega) hk (by omega) (by omega)
    have hd := dg_lt (b := nCr T) hc0 n i k
    have h4 : (4 : Int32) + nI j = nI (4 + j) := nI_add 4 j
    rw [if_neg (nleN (show j < nCr T by omega) (show nCr T < 2 ^ 31 by omega)), ed, bind_s]
    simp only [jn_e, lt_e, h4, grd_p (inb_n (show 4 + j < 8 by omega) (show 8 < 2 ^ 31 by omega)), clN (show 4 + j < 2 ^ 31 by omega), nI_1]
    obtain ⟨f3, s3⟩ := s'.act1 (j := j) (if j = dg (nCr T) n i k then 2 else 3) (by omega)
    have nx := ih (j + 1) _ (by omega) (by omega) (f'.tr f3) q (fun q hq => by rw [← a q hq]; funext u; rw [A_at, if_neg (fun w => by omega)]) s3
    by_cases y : j = dg (nCr T) n i k
    · rw [if_pos y] at nx
      rw [if_neg (show ¬ ¬ nI j = nI (dg (nCr T) n i k) from fun q => q (by rw [← y]))]; exact nx
    · rw [if_neg y] at nx
      rw [if_pos (show ¬ nI j = nI (dg (nCr T) n i k) from fun q => y (nI_inj (by omega) (by omega) q))]; exact nx
end MTurns
