-- PURE: turns, turn by the class
def trsM (T : Txt) (S : Str) (n : Int32) : Int32 := if (1 ≤ n ∧ n ≤ 4) ∧ 0 < nCr T then (tuB T S n.toNatClampNeg (nCr T ^ n.toNatClampNeg)).1 else -1
def trnM (T : Txt) (S : Str) (n k : Int32) : Int32 := if ((1 ≤ n ∧ n ≤ 4) ∧ 0 < nCr T) ∧ 0 ≤ k then (if k < n then nI (dg (nCr T) n.toNatClampNeg (tuB T S n.toNatClampNeg (nCr T ^ n.toNatClampNeg)).2.2 k.toNatClampNeg) else -2) else -1
theorem pw_le {b n : Nat} (hb : b ≤ 4) (hn : n ≤ 4) : b ^ n ≤ 256 := by
  have h1 : b ^ n ≤ 4 ^ n := Nat.pow_le_pow_left hb n
  have h2 : 4 ^ n ≤ 4 ^ 4 := Nat.pow_le_pow_right (by omega) hn
  omega
section Turns
variable {N : Nat} {h g : Hp} {t o : Nat} {T : Txt} {S I : Str} {X : Xs}
theorem cl_findTurns (hN : 1000 ≤ N) (h13 : gO h 7 0 13 = some t) (s : Sd h 1 t T S) (hz : S.2 16 = 1) (K : SOK T 0 S) (h9 : (S.2 11).toInt ≤ 9999) {n : Nat} (hc0 : 0 < nCr T) (hn : n ≤ 4) : ∃ g, f_X7_findTurns N h (nI n) = some ((tuB T S n (nCr T ^ n)).1, g) ∧ Fr h g ∧ ∀ k, k < n → gA g 7 0 1 k = nI (dg (nCr T) n (tuB T S n (nCr T ^ n)).2.2 k) := by
  have hT := s.2.2.2.1
  have hc4 := hT.2.1.2
  have h36 : nCr T ^ n ≤ 256 := pw_le hc4 hn
  have h30 : 0 < nCr T ^ n := Nat.pow_pos hc0
  have t13 : ∀ {g : Hp}, Fr h g → gO g 7 0 13 = some t := fun f => (f.1 7 0 13 (Or.inl (by decide))).2.2.trans h13
  have e12 : ∀ {g' : Hp} {o : Nat} {Q : Str}, Sd g' o t T Q → gI g' 5 t 12 = nI (nCr T) := fun d => by rw [← d.2.2.2.1.2.1.1, ← d.2.1]; rfl
  obtain ⟨g1, e1, f1, d1, s1, w1⟩ := cl_startWays (l := 0) hN s hz (n := n) (by omega)
  have e1' : f_X7_startWays N h (nI n) 0 = some g1 := e1
  -- all ways
  have ways : ∀ g1, Fr h g1 → Sd g1 3 t T (czL S (nCr T)) → (∀ k, k < n → gA g1 7 0 0 k = nI 0) → ∃ x, iter (fun _ _ _ _ _ => none) (f_X7_findTurns_60 N (nI n) (nI (nCr T ^ n))) N (-1) 0 0 0 g1 = some x ∧ (x.1 = (tuB T S n (nCr T ^ n)).1 ∧ Fr h x.2 ∧ ∀ k, k < n → gA x.2 7 0 1 k = nI (dg (nCr T) n (tuB T S n (nCr T ^ n)).2.2 k)) := by
    intro g1 f1 d1 w1
    refine iter_inv (bot := fun _ _ _ _ _ => none) (b := f_X7_findTurns_60 N (nI n) (nI (nCr T ^ n))) (fun m r => ∀ i q g, i ≤ nCr T ^ n → nCr T ^ n < m + i → q ≤ n → Fr h g → (∀ k, k ≤ q → Sd g (3 + k) t T (tuS T S n i k)) → TurP T S n i g → ∃ x, r (tuB T S n i).1 (tuB T S n i).2.1 (nI q) (nI i) g = some x ∧ (x.1 = (tuB T S n (nCr T ^ n)).1 ∧ Fr h x.2 ∧ ∀ k, k < n → gA x.2 7 0 1 k = nI (dg (nCr T) n (tuB T S n (nCr T ^ n)).2.2 k))) (fun i _ _ _ _ => by omega) (fun m r ih i q g hi hm hq f sk w => ?_) N 0 0 g1 (Nat.zero_le _) (by omega) (Nat.zero_le _) f1 (fun k hk => by rw [show k = 0 by omega]; exact d1) ⟨fun k hk => by rw [dg_zero]; exact w1 k hk, fun q => absurd q (by omega)⟩
    unfold f_X7_findTurns_60
    by_cases z : nCr T ^ n = i
    · rw [if_pos (leN (by omega) (by omega))]
      rw [z]
      exact ⟨_, rfl, rfl, f, w.2 (by omega)⟩
    · rw [if_neg (nleN (show i < nCr T ^ n by omega) (by omega))]
      exact iter_inv (bot := fun _ _ => none) (b := f_X7_findTurns_70 N (nI n) r (tuB T S n i).1 (tuB T S n i).2.1 (nI i)) (fun m r => ∀ k g, k ≤ n → n < m + k → Fr h g → (∀ k', k' ≤ k → Sd g (3 + k') t T (tuS T S n i k')) → TurP T S n i g → ∃ x, r (nI k) g = some x ∧ _) (fun k _ _ _ => by omega) (turn_in hN h13 hT hz K h9 hc0 hn r _ (fun q' g' hq' f' sk' w' => ih (i + 1) q' g' (by omega) (by omega) hq' f' sk' w')) N q g hq (by omega) f sk w
  unfold f_X7_findTurns
  rw [e1', bind_s]
  refine (iter_inv (bot := fun _ _ => none) (b := f_X7_findTurns_8 N (nI n)) (fun m r => ∀ j g, j ≤ nCr T → nCr T < m + j → Fr h g → Sd g 3 t T (czL S j) → (∀ k, k < n → gA g 7 0 0 k = nI 0) → ∃ x, r (nI j) g = some x ∧ (x.1 = (tuB T S n (nCr T ^ n)).1 ∧ Fr h x.2 ∧ ∀ k, k < n → gA x.2 7 0 1 k = nI (dg (nCr T) n (tuB T S n (nCr T ^ n)).2.2 k))) (fun j _ _ _ => by omega) (fun m r ih j g hj hm f d w => ?_) N 0 g1 (Nat.zero_le _) (by omega) f1 d1 w1).elim (fun x hx => ⟨x.2, by rw [← hx.2.1]; exact hx.1, hx.2.2.1, hx.2.2.2⟩)
  unfold f_X7_findTurns_8
  rw [t13 f, onO_s, e12 d]
  by_cases z : nCr T = j
  · rw [← z, if_pos (leN (Nat.le_refl _) (by omega)), onO_s, e12 d, cl_power hN (nCr T) n (by omega), bind_s]
    rw [← z] at d
    exact ways g f d w
  · rw [if_neg (nleN (show j < nCr T by omega) (show nCr T < 2 ^ 31 by omega)), grd_p (show inb 0 7 by decide), lt_e, grd_p (inb_n (show j < 4 by omega) (show 4 < 2 ^ 31 by omega)), lt_e, lt_e, nI_1, clN (show j < 2 ^ 31 by omega)]
    obtain ⟨f3, d3⟩ := d.row 4 j 0
    exact ih (j + 1) _ (by omega) (by omega) (f.tr (f3.fr (by decide))) d3 (fun k hk => (congrFun (f3.1 7 0 0 (by omega)).2 k).trans (w k hk))
theorem cr_pos (hT : TOK T) : (T.2.1 12 ≤ 0 ↔ ¬ 0 < nCr T) ∧ (T.2.1 12 = 0 ↔ ¬ 0 < nCr T) := by
  obtain ⟨e, h4⟩ := hT.2.1
  rw [e]
  refine ⟨⟨fun q w => ?_, fun q => ?_⟩, ⟨fun q w => ?_, fun q => ?_⟩⟩
  · exact nleN (b := 0) w (by omega) q
  · rw [show nCr T = 0 by omega]; decide
  · have := nI_inj (i := nCr T) (j := 0) (by omega) (by omega) q
    omega
  · rw [show nCr T = 0 by omega]; rfl
theorem cl_turns (hN : 1000 ≤ N) (r : RC h t T S I X) (hz : S.2 16 = 1) (K : SOK T 0 S) (h9 : (S.2 11).toInt ≤ 9999) (n : Int32) : ∃ g, f_X7_turns N h n = some (trsM T S n, g) ∧ Fr h g := by
  have hT := r.1.2.2.2.2.1
  have e12 : gI h 5 t 12 = T.2.1 12 := by rw [← r.1.2.2.2.1]; rfl
  unfold f_X7_turns trsM
  simp only [jn_e, cl_isIn, bind_s, b2i0, decide_eq_false_iff_not, r.1.2.1, onO_s, e12]
  by_cases w : 1 ≤ n ∧ n ≤ 4
  rotate_left
  · rw [if_pos w, if_neg (fun q => w q.1)]; exact ⟨h, rfl, Fr.rf h⟩
  rw [if_neg (fun q => q w)]
  by_cases y : 0 < nCr T
  rotate_left
  · rw [if_pos ((cr_pos hT).1.mpr y), if_neg (fun q => y q.2)]; exact ⟨h, rfl, Fr.rf h⟩
  rw [if_neg (fun q => (cr_pos hT).1.mp q y), if_pos ⟨w, y⟩]
  obtain ⟨k, hk, rfl⟩ := rngN (a := n) (m := 4) (by omega) (Int32.le_trans (by decide) w.1) w.2
  obtain ⟨g', e, f, -⟩ := cl_findTurns hN r.1.2.1 r.sd hz K h9 y hk
  rw [e, bd2_s, clN (show k < 2 ^ 31 by omega)]
  exact ⟨g', rfl, f⟩
theorem cl_turn (hN : 1000 ≤ N) (r : RC h t T S I X) (hz : S.2 16 = 1) (K : SOK T 0 S) (h9 : (S.2 11).toInt ≤ 9999) (n p : Int32) : ∃ g, f_X7_turn N h n p = some (trnM T S n p, g) ∧ Fr h g := by
  have hT := r.1.2.2.2.2.1
  have e12 : gI h 5 t 12 = T.2.1 12 := by rw [← r.1.2.2.2.1]; rfl
  unfold f_X7_turn trnM
  simp only [jn_e, cl_isIn, bind_s, b2i0, decide_eq_false_iff_not, r.1.2.1, onO_s, e12]
  by_cases w : 1 ≤ n ∧ n ≤ 4
  rotate_left
  · rw [if_pos w, if_neg (fun q => w q.1.1)]; exact ⟨h, rfl, Fr.rf h⟩
  rw [if_neg (fun q => q w)]
  by_cases y : 0 < nCr T
  rotate_left
  · rw [if_pos ((cr_pos hT).2.mpr y), if_neg (fun q => y q.1.2)]; exact ⟨h, rfl, Fr.rf h⟩
  rw [if_neg (fun q => (cr_pos hT).2.mp q y)]
  by_cases x : 0 ≤ p
  rotate_left
  · rw [if_neg x, if_neg (fun q => x q.2)]; exact ⟨h, rfl, Fr.rf h⟩
  rw [if_pos x, if_pos (show ((1 ≤ n ∧ n ≤ 4) ∧ 0 < nCr T) ∧ 0 ≤ p from ⟨⟨w, y⟩, x⟩)]
  by_cases z : p < n
  rotate_left
  · rw [if_neg z, if_neg z]; exact ⟨h, rfl, Fr.rf h⟩
  rw [if_pos z, if_pos z]
  obtain ⟨k, hk, rfl⟩ := rngN (a := n) (m := 4) (by omega) (Int32.le_trans (by decide) w.1) w.2
  obtain ⟨j, hj, rfl⟩ := ltN (a := p) (m := k) (by omega) x z
  obtain ⟨g', e, f, b⟩ := cl_findTurns hN r.1.2.1 r.sd hz K h9 y hk
  rw [e, bd2_s, clN (show k < 2 ^ 31 by omega), grd_p (inb_n (show j < 6 by omega) (show 6 < 2 ^ 31 by omega))]
  simp only [clN (show j < 2 ^ 31 by omega), b j hj]
  exact ⟨g', rfl, f⟩
end Turns

