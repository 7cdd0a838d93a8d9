-- PURE: rests, rest by the reference: the answers
section MRests
variable {N : Nat} {g : Hp} {ru : Int32} {T : Txt} {S : Str}
theorem cmS_SOK (K : SOK T 0 S) (a b x : Nat) : SOK T 0 (cmS S a b x) := (K.come).come
theorem gnM_more (K : SOK T 0 S) (hT : TOK T) (h9 : (S.2 11).toInt ≤ 9999) (a b q x : Nat) {n : Nat} (hn : n ≤ 99) : ∃ d : Nat, d ≤ 970299 ∧ gnM T S a b n q x = S.1 6 q + nI d := by
  obtain ⟨d, d1, d2⟩ := passN_gain (cmS_SOK K a b x) hT (show (S.2 11).toInt ≤ 4000000 by omega) q n (by omega)
  exact ⟨d, by omega, d2⟩
theorem gnM_lt (K : SOK T 0 S) (G : GOK T S) (hT : TOK T) (h9 : (S.2 11).toInt ≤ 9999) (a b : Nat) {q : Nat} (hq : q < nCr T) {n : Nat} (hn : n ≤ 99) (x y : Nat) : (gnM T S a b n q x - S.1 6 q < gnM T S a b n q y - S.1 6 q) ↔ (gnM T S a b n q x < gnM T S a b n q y) := by
  obtain ⟨d, d1, d2⟩ := gnM_more K hT h9 a b q x hn
  obtain ⟨e, e1, e2⟩ := gnM_more K hT h9 a b q y hn
  obtain ⟨g0, g1⟩ := G q hq
  have h0 := K.2.2.2.1
  have hd : (nI d).toInt = d := nI_toInt (by omega)
  have he : (nI e).toInt = e := nI_toInt (by omega)
  rw [d2, e2, Int32.add_comm, Int32.add_sub_cancel, Int32.add_comm (S.1 6 q) (nI e), Int32.add_sub_cancel, Int32.lt_iff_toInt_lt, Int32.lt_iff_toInt_lt, add_toInt (by omega), add_toInt (by omega)]
  omega
theorem m_restAt (hN : 1000 ≤ N) (r : R8a g T S) (K : SOK T 0 S) (G : GOK T S) (h9 : (S.2 11).toInt ≤ 9999) (p64 : gZ g 8 0 64 = false) {a b n : Nat} (ha : a < nCr T) (hb : b < nCr T) (hn : n ≤ 99) (p : Int32) (hp : p = -1 ∨ 0 ≤ p) : ∃ g', f_X8_restAt N g (nI a) (nI b) (nI n) p = some (if 0 ≤ p then rkM (gnM T S a b n a) (gnM T S a b n b) p 16 0 else nI (rcM (gnM T S a b n a) (gnM T S a b n b) 16), g') ∧ F8 g g' ∧ gZ g' 8 0 64 = false := by
  have hT := r.1
  have hc4 := hT.2.1.2
  unfold f_X8_restAt
  refine iter_inv (bot := fun _ _ => none) (b := f_X8_restAt_3 N (nI a) (nI b) (nI n) p) (fun m q => ∀ x g1, x ≤ 16 → 16 < m + x → F8 g g1 → R8a g1 T S → gZ g1 8 0 64 = false → (∀ y, y < x → gA g1 8 0 35 y = gnM T S a b n a y - S.1 6 a ∧ gA g1 8 0 36 y = gnM T S a b n b y - S.1 6 b) → ∃ g', q (nI x) g1 = some (if 0 ≤ p then rkM (gnM T S a b n a) (gnM T S a b n b) p 16 0 else nI (rcM (gnM T S a b n a) (gnM T S a b n b) 16), g') ∧ F8 g g' ∧ gZ g' 8 0 64 = false) (fun x _ _ _ => by omega) (fun m q ih x g1 hx hm f ra z64 w => ?_) N 0 g (by omega) (by omega) (F8.rf g) r p64 (fun y hy => absurd hy (Nat.not_lt_zero _))
  unfold f_X8_restAt_3
  by_cases z : x = 16
  · subst z
    rw [if_pos (show (16 : Int32) ≤ nI 16 by decide), m_restSeek hN g1 p hp]
    have hA : ∀ i j, i < 16 → j < 16 → (gA g1 8 0 35 i < gA g1 8 0 35 j ↔ gnM T S a b n a i < gnM T S a b n a j) := fun i j h1 h2 => by rw [(w i h1).1, (w j h2).1]; exact gnM_lt K G hT h9 a b ha hn i j
    have hB : ∀ i j, i < 16 → j < 16 → (gA g1 8 0 36 i < gA g1 8 0 36 j ↔ gnM T S a b n b i < gnM T S a b n b j) := fun i j h1 h2 => by rw [(w i h1).2, (w j h2).2]; exact gnM_lt K G hT h9 a b hb hn i j
    rw [rkM_cg hA hB p 16 0 (by omega), rcM_cg hA hB 16 (by omega)]
    exact ⟨g1, rfl, f, z64⟩
  · rw [if_neg (show ¬ (16 : Int32) ≤ nI x from nleN (a := 16) (show x < 16 by omega) (by omega))]
    obtain ⟨g2, e2, f2, p2, s2, u2, r2⟩ := m_lay hN ra
    have l2 := lay_lf e2
    have q4 : nI x / 4 = nI (x / 4) := nI_div (b := 4) (by omega) (by omega)
    have m4 : nI x - nI x / 4 * 4 = nI (x % 4) := nI_mod (b := 4) (by omega) (by omega)
    rw [q4] at m4
    have ha4 : (4 : Int32) + nI a = nI (4 + a) := nI_add 4 a
    have hb4 : (4 : Int32) + nI b = nI (4 + b) := nI_add 4 b
    obtain ⟨f3, s3⟩ := s2.come1 ⟨p2.2.2.1, p2.2.2.2⟩ (j := a) (S.2 11 + nI (x / 4)) (by omega)
    obtain ⟨f4, s4⟩ := s3.come1 ⟨p2.2.2.1, p2.2.2.2⟩ (j := b) (S.2 11 + nI (x % 4)) (by omega)
    have h33 : gA (sA g2 8 0 26 (4 + a) (S.2 11 + nI (x / 4))) 8 0 33 0 = S.2 11 := r2.hour
    have u4 : gI (sA (sA g2 8 0 26 (4 + a) (S.2 11 + nI (x / 4))) 8 0 26 (4 + b) (S.2 11 + nI (x % 4))) 8 0 61 = S.2 14 := u2
    obtain ⟨g5, e5, f5, s5⟩ := s4.pass hN (cmS_SOK K a b x) (show (S.2 11).toInt ≤ 4000000 by omega) (n := n) (by omega)
    obtain ⟨-, i5, a5⟩ := s4.drop f5 s5
    have r5 := r2.f8 ((f3.tr f4).tr f5.f8)
    have b28 : ∀ c, c < nCr T → gA g5 8 0 28 (4 + c) = gnM T S a b n c x := fun c hc => (s5.2.2.2.1.2.1 c hc).2.2.2.2.1
    simp only [e2, bind_s, lt_e, z7.1, grd_p (show inb 0 2 by decide), q4, m4, ha4, hb4, clN (show 4 + a < 2 ^ 31 by omega), clN (show 4 + b < 2 ^ 31 by omega), clN (show a < 2 ^ 31 by omega), clN (show b < 2 ^ 31 by omega), clN (show x < 2 ^ 31 by omega), grd_p (inb_n (show 4 + a < 8 by omega) (show 8 < 2 ^ 31 by omega)), grd_p (inb_n (show 4 + b < 8 by omega) (show 8 < 2 ^ 31 by omega)), grd_p (inb_n (show a < 8 by omega) (show 8 < 2 ^ 31 by omega)), grd_p (inb_n (show b < 8 by omega) (show 8 < 2 ^ 31 by omega)), grd_p (inb_n (show x < 16 by omega) (show 16 < 2 ^ 31 by omega)), r2.hour, h33, u4, e5, b28 a ha, r5.gain ha, nI_1]
    have k28 : ∀ c, gA (sA g5 8 0 35 x (gnM T S a b n a x - S.1 6 a)) 8 0 28 c = gA g5 8 0 28 c := fun c => by rw [A_at, if_neg (fun q => absurd q.1 (by decide))]
    rw [k28, k28, b28 b hb, r5.gain hb]
    have f6 : F8 g5 (sA g5 8 0 35 x (gnM T S a b n a x - S.1 6 a)) := F8.a g5 _ (by decide) (fun _ q => absurd q (by decide))
    have f7 : F8 (sA g5 8 0 35 x (gnM T S a b n a x - S.1 6 a)) (sA (sA g5 8 0 35 x (gnM T S a b n a x - S.1 6 a)) 8 0 36 x (gnM T S a b n b x - S.1 6 b)) := F8.a _ _ (by decide) (fun _ q => absurd q (by decide))
    refine ih (x + 1) _ (by omega) (by omega) (f.tr (f2.tr (((f3.tr f4).tr f5.f8).tr (f6.tr f7)))) (r5.f8 (f6.tr f7)) ?_ (fun y hy => ?_)
    · show gZ g5 8 0 64 = false
      unfold gZ
      rw [i5 64 (by decide)]
      exact p2.2.1
    · have keep : ∀ k, k = 35 ∨ k = 36 → gA g5 8 0 k y = gA g1 8 0 k y := fun k hk => by
        rw [a5 k (by omega), A_at, if_neg (by omega), A_at, if_neg (by omega), l2.2 k (by omega)]
      refine ⟨?_, ?_⟩
      · rw [A_at, if_neg (fun q => absurd q.1 (by decide)), A_at]
        by_cases v : y = x
        · rw [if_pos ⟨rfl, v⟩, v]
        · rw [if_neg (fun q => v q.2), keep 35 (Or.inl rfl)]; exact (w y (by omega)).1
      · rw [A_at]
        by_cases v : y = x
        · rw [if_pos ⟨rfl, v⟩, v]
        · rw [if_neg (fun q => v q.2), A_at, if_neg (fun q => absurd q.1 (show ¬ 36 = 35 by decide)), keep 36 (Or.inr rfl)]; exact (w y (by omega)).2
theorem m_rests (hN : 1000 ≤ N) (r : R8a g T S) (K : SOK T 0 S) (G : GOK T S) (h9 : (S.2 11).toInt ≤ 9999) (p64 : gZ g 8 0 64 = false) (a b n : Int32) : ∃ g', f_X8_rests N g a b n = some (rssM T S a b n, g') ∧ F8 g g' ∧ gZ g' 8 0 64 = false := by
  have f0 : F8 g (sI g 8 0 2 0) := F8.i g 0 (by decide)
  have r0 := r.f8 f0
  have hT := r.1
  have hc4 := hT.2.1.2
  unfold f_X8_rests rssM
  rw [lt_e, m_areComing r0, bind_s]
  simp only [jn_e]
  cases hl : coM T S a b n with
  | false => rw [if_pos (show b2i false = 0 from rfl), if_neg (fun q => Bool.noConfusion q)]; exact ⟨_, rfl, f0, p64⟩
  | true =>
    rw [if_neg (show ¬ b2i true = 0 by decide), if_pos (show true = true from rfl)]
    obtain ⟨i, j, k, hi, hj, hij, hk, rfl, rfl, rfl⟩ := coM_of hT hl
    obtain ⟨g', e, f, z⟩ := m_restAt hN r0 K G h9 p64 hi hj hk (-1) (Or.inl rfl)
    rw [e, bd2_s, clN (show i < 2 ^ 31 by omega), clN (show j < 2 ^ 31 by omega), clN (show k < 2 ^ 31 by omega), if_neg (show ¬ (0 : Int32) ≤ -1 by decide)]
    exact ⟨g', rfl, f0.tr f, z⟩
theorem m_rest (hN : 1000 ≤ N) (r : R8a g T S) (K : SOK T 0 S) (G : GOK T S) (h9 : (S.2 11).toInt ≤ 9999) (p64 : gZ g 8 0 64 = false) (a b n p : Int32) : ∃ g', f_X8_rest N g a b n p = some (rstM T S a b n p, g') ∧ F8 g g' ∧ gZ g' 8 0 64 = false := by
  have f0 : F8 g (sI g 8 0 2 0) := F8.i g 0 (by decide)
  have r0 := r.f8 f0
  have hT := r.1
  have hc4 := hT.2.1.2
  unfold f_X8_rest rstM
  rw [lt_e, m_areComing r0, bind_s]
  simp only [jn_e]
  cases hl : coM T S a b n with
  | false => rw [if_pos (show b2i false = 0 from rfl), if_neg (fun q => Bool.noConfusion q.1)]; exact ⟨_, rfl, f0, p64⟩
  | true =>
    rw [if_neg (show ¬ b2i true = 0 by decide)]
    by_cases y : p < 0
    · rw [if_pos y, if_neg (fun q => absurd q.2 (Int32.not_le.mpr y))]; exact ⟨_, rfl, f0, p64⟩
    have y' := Int32.not_lt.mp y
    rw [if_neg y, if_pos (show true = true ∧ 0 ≤ p from ⟨rfl, y'⟩)]
    obtain ⟨i, j, k, hi, hj, hij, hk, rfl, rfl, rfl⟩ := coM_of hT hl
    obtain ⟨g', e, f, z⟩ := m_restAt hN r0 K G h9 p64 hi hj hk p (Or.inr y')
    rw [e, bd2_s, clN (show i < 2 ^ 31 by omega), clN (show j < 2 ^ 31 by omega), clN (show k < 2 ^ 31 by omega), if_pos y']
    exact ⟨g', rfl, f0.tr f, z⟩
end MRests
