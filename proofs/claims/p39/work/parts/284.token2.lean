-- PURE: a token read, by both: the whole
section Token2
variable {N : Nat} {h g : Hp} {n : Nat}
theorem m_digits (hN : 1000 ≤ N) (e6 : gI g 8 0 6 = nI n) (hn : n ≤ 700) {a : Nat} (e7 : gI g 8 0 7 = nI a) (ha : a ≤ n) (e9 : gI g 8 0 9 = 0) : ∃ g', iter (fun _ => none) (f_X8_token_213 (fun h3 => some h3)) N g = some g' ∧ U8 g g' ∧ gI g' 8 0 10 = gI g 8 0 10 ∧ gI g' 8 0 8 = gI g 8 0 8 ∧ gI g' 8 0 7 = nI (rnE isD (gA g 8 0 0) (n - a) a) ∧ gI g' 8 0 9 = mnV (gA g 8 0 0) (n - a) a 0 := by
  refine iter_inv (bot := fun _ => none) (b := f_X8_token_213 (fun h3 => some h3)) (fun m r => ∀ k q g1, q + k = n → k < m → U8 g g1 → gI g1 8 0 10 = gI g 8 0 10 → gI g1 8 0 8 = gI g 8 0 8 → gI g1 8 0 7 = nI q → rnE isD (gA g 8 0 0) k q = rnE isD (gA g 8 0 0) (n - a) a → mnV (gA g 8 0 0) k q (gI g1 8 0 9) = mnV (gA g 8 0 0) (n - a) a 0 → ∃ g', r g1 = some g' ∧ U8 g g' ∧ gI g' 8 0 10 = gI g 8 0 10 ∧ gI g' 8 0 8 = gI g 8 0 8 ∧ gI g' 8 0 7 = nI (rnE isD (gA g 8 0 0) (n - a) a) ∧ gI g' 8 0 9 = mnV (gA g 8 0 0) (n - a) a 0) (fun k _ _ _ hk => absurd hk (Nat.not_lt_zero _)) (fun m r ih k q g1 hq hk u c10 c8 c7 er ec => ?_) N (n - a) a g (by omega) (by omega) (U8.rf g) rfl rfl e7 rfl (by rw [e9])
  have u6 : gI g1 8 0 6 = nI n := (u.2.1 6 (by omega)).trans e6
  have ua : gA g1 8 0 0 = gA g 8 0 0 := u.2.2.2 0
  unfold f_X8_token_213
  rw [c7, m_isDigit u6 hn (show q ≤ 700 by omega), bind_s, ua]
  cases k with
  | zero =>
    rw [show decide (q < n) = false from decide_eq_false (by omega), Bool.false_and, if_pos (show b2i false = 0 from rfl)]
    exact ⟨g1, rfl, u, c10, c8, by rw [c7, ← er]; rfl, ec⟩
  | succ k =>
    rw [rnE_s] at er
    rw [mnV_s] at ec
    rw [show decide (q < n) = true from decide_eq_true (by omega), Bool.true_and]
    cases hd : isD (gA g 8 0 0 q) with
    | false =>
      rw [hd, if_neg (fun q => Bool.noConfusion q)] at er ec
      rw [if_pos (show b2i false = 0 from rfl)]
      exact ⟨g1, rfl, u, c10, c8, by rw [c7, ← er], ec⟩
    | true =>
      rw [hd, if_pos rfl] at er ec
      simp only [jn_e, lt_e]
      rw [if_neg (show ¬ b2i true = 0 by decide)]
      have go : ∀ v, v = (if gI g1 8 0 9 ≤ 99999 then (10 * gI g1 8 0 9 + gA g 8 0 0 q) - 48 else gI g1 8 0 9) → ∃ g', r (sI (sI g1 8 0 9 v) 8 0 7 (gI (sI g1 8 0 9 v) 8 0 7 + 1)) = some g' ∧ U8 g g' ∧ gI g' 8 0 10 = gI g 8 0 10 ∧ gI g' 8 0 8 = gI g 8 0 8 ∧ gI g' 8 0 7 = nI (rnE isD (gA g 8 0 0) (n - a) a) ∧ gI g' 8 0 9 = mnV (gA g 8 0 0) (n - a) a 0 := fun v hv => by
        refine ih k (q + 1) _ (by omega) (by omega) (u.tr ((U8.i g1 9 _ (by omega)).tr (U8.i _ 7 _ (by omega)))) ?_ ?_ ?_ er ?_
        · rw [I_at, if_neg (by decide), I_at, if_neg (by decide), c10]
        · rw [I_at, if_neg (by decide), I_at, if_neg (by decide), c8]
        · rw [I_at, if_pos rfl, I_at, if_neg (by decide), c7, nI_1]
        · rw [I_at, if_neg (by decide), I_at, if_pos rfl, hv]; exact ec
      by_cases z : gI g1 8 0 9 ≤ 99999
      · rw [if_pos z, grd_p (inb_n (show q < 700 by omega) (by omega)), clN (show q < 2 ^ 31 by omega)]
        exact go _ (by rw [if_pos z])
      · rw [if_neg z]
        exact go _ (by rw [if_neg z])
theorem m_letters (hN : 1000 ≤ N) (e6 : gI g 8 0 6 = nI n) (hn : n ≤ 700) (wd : WRD (gA g 8 0 1)) {a : Nat} (e7 : gI g 8 0 7 = nI a) (ha : a ≤ n) (e10 : gI g 8 0 10 = nI a) : ∃ g' p', iter (fun _ => none) (f_X8_token_90 N (fun h3 => some h3)) N g = some g' ∧ U8 g g' ∧ gI g' 8 0 10 = nI a ∧ p' = rnE isL (gA g 8 0 0) (n - a) a ∧ gI g' 8 0 7 = nI p' ∧ ((∃ k, IsW (lst (gA g 8 0 0) (p' - a) a) k ∧ gI g' 8 0 8 = 1 ∧ gI g' 8 0 9 = nI k) ∨ ((∀ k, ¬ IsW (lst (gA g 8 0 0) (p' - a) a) k) ∧ ((p' - a ≤ 6 ∧ gI g' 8 0 8 = 2 ∧ gI g' 8 0 9 = nI (pckL (lst (gA g 8 0 0) (p' - a) a) 6)) ∨ (6 < p' - a ∧ gI g' 8 0 8 = 6)))) := by
  obtain ⟨f, hf⟩ : ∃ f, f = gA g 8 0 0 := ⟨_, rfl⟩
  obtain ⟨p', hp'⟩ : ∃ p', p' = rnE isL f (n - a) a := ⟨_, rfl⟩
  have pl : p' ≤ n := by have := (rnE_le isL f (n - a) a).2; omega
  have pg : a ≤ p' := by rw [hp']; exact (rnE_le isL f (n - a) a).1
  have pin : ∀ i, a ≤ i → i < p' → isL (f i) = true := fun i h1 h2 => rnE_in isL f (n - a) a i h1 (by omega)
  rw [← hf, ← hp']
  suffices w : ∃ g', iter (fun _ => none) (f_X8_token_90 N (fun h3 => some h3)) N g = some g' ∧ U8 g g' ∧ gI g' 8 0 10 = nI a ∧ gI g' 8 0 7 = nI p' ∧ ((∃ k, IsW (lst f (p' - a) a) k ∧ gI g' 8 0 8 = 1 ∧ gI g' 8 0 9 = nI k) ∨ ((∀ k, ¬ IsW (lst f (p' - a) a) k) ∧ ((p' - a ≤ 6 ∧ gI g' 8 0 8 = 2 ∧ gI g' 8 0 9 = nI (pckL (lst f (p' - a) a) 6)) ∨ (6 < p' - a ∧ gI g' 8 0 8 = 6)))) by
    obtain ⟨g', w1, w2, w3, w4, w5⟩ := w
    exact ⟨g', p', w1, w2, w3, rfl, w4, w5⟩
  refine iter_inv (bot := fun _ => none) (b := f_X8_token_90 N (fun h3 => some h3)) (fun m r => ∀ k q g1, q + k = n → k < m → U8 g g1 → gI g1 8 0 10 = nI a → gI g1 8 0 7 = nI q → rnE isL f k q = p' → ∃ g', r g1 = some g' ∧ U8 g g' ∧ gI g' 8 0 10 = nI a ∧ gI g' 8 0 7 = nI p' ∧ ((∃ k, IsW (lst f (p' - a) a) k ∧ gI g' 8 0 8 = 1 ∧ gI g' 8 0 9 = nI k) ∨ ((∀ k, ¬ IsW (lst f (p' - a) a) k) ∧ ((p' - a ≤ 6 ∧ gI g' 8 0 8 = 2 ∧ gI g' 8 0 9 = nI (pckL (lst f (p' - a) a) 6)) ∨ (6 < p' - a ∧ gI g' 8 0 8 = 6))))) (fun k _ _ _ hk => absurd hk (Nat.not_lt_zero _)) (fun m r ih k q g1 hq hk u c10 c7 er => ?_) N (n - a) a g (by omega) (by omega) (U8.rf g) e10 e7 hp'.symm
  have u6 : gI g1 8 0 6 = nI n := (u.2.1 6 (by omega)).trans e6
  have ua : gA g1 8 0 0 = f := (u.2.2.2 0).trans hf.symm
  have ub : gA g1 8 0 1 = gA g 8 0 1 := u.2.2.2 1
  have fin : q = p' → ∃ g', ((f_X8_wordAt N g1 (gI g1 8 0 10) (nI q)).bind fun v16 => if gI (sI g1 8 0 9 v16) 8 0 9 < 0 then (if (gI (sI g1 8 0 9 v16) 8 0 7 - gI (sI g1 8 0 9 v16) 8 0 10) ≤ 6 then (if ¬ gI (sI (sI g1 8 0 9 v16) 8 0 8 2) 8 0 8 = 2 then some (sI (sI g1 8 0 9 v16) 8 0 8 2) else (f_X8_packed N (sI (sI g1 8 0 9 v16) 8 0 8 2) (gI (sI (sI g1 8 0 9 v16) 8 0 8 2) 8 0 10) (gI (sI (sI g1 8 0 9 v16) 8 0 8 2) 8 0 7)).bind fun v20 => some (sI (sI (sI g1 8 0 9 v16) 8 0 8 2) 8 0 9 v20)) else (if ¬ gI (sI (sI g1 8 0 9 v16) 8 0 8 6) 8 0 8 = 2 then some (sI (sI g1 8 0 9 v16) 8 0 8 6) else (f_X8_packed N (sI (sI g1 8 0 9 v16) 8 0 8 6) (gI (sI (sI g1 8 0 9 v16) 8 0 8 6) 8 0 10) (gI (sI (sI g1 8 0 9 v16) 8 0 8 6) 8 0 7)).bind fun v20 => some (sI (sI (sI g1 8 0 9 v16) 8 0 8 6) 8 0 9 v20))) else (if ¬ gI (sI (sI g1 8 0 9 v16) 8 0 8 1) 8 0 8 = 2 then some (sI (sI g1 8 0 9 v16) 8 0 8 1) else (f_X8_packed N (sI (sI g1 8 0 9 v16) 8 0 8 1) (gI (sI (sI g1 8 0 9 v16) 8 0 8 1) 8 0 10) (gI (sI (sI g1 8 0 9 v16) 8 0 8 1) 8 0 7)).bind fun v20 => some (sI (sI (sI g1 8 0 9 v16) 8 0 8 1) 8 0 9 v20))) = some g' ∧ U8 g g' ∧ gI g' 8 0 10 = nI a ∧ gI g' 8 0 7 = nI p' ∧ ((∃ k, IsW (lst f (p' - a) a) k ∧ gI g' 8 0 8 = 1 ∧ gI g' 8 0 9 = nI k) ∨ ((∀ k, ¬ IsW (lst f (p' - a) a) k) ∧ ((p' - a ≤ 6 ∧ gI g' 8 0 8 = 2 ∧ gI g' 8 0 9 = nI (pckL (lst f (p' - a) a) 6)) ∨ (6 < p' - a ∧ gI g' 8 0 8 = 6)))) := fun qe => by
    rw [c10, qe]
    obtain ⟨v, w1, w2⟩ := m_wordAt (g := g1) hN (by rw [ub]; exact wd) pg (show p' ≤ 700 by omega) (by rw [ua]; exact pin)
    rw [w1, bind_s]
    rw [ua] at w2
    have x10 : ∀ w v, gI (sI (sI g1 8 0 9 v) 8 0 8 w) 8 0 10 = nI a := fun w v => by rw [I_at, if_neg (by decide), I_at, if_neg (by decide), c10]
    have x7 : ∀ w v, gI (sI (sI g1 8 0 9 v) 8 0 8 w) 8 0 7 = nI p' := fun w v => by rw [I_at, if_neg (by decide), I_at, if_neg (by decide), c7, qe]
    have x8 : ∀ w v, gI (sI (sI g1 8 0 9 v) 8 0 8 w) 8 0 8 = w := fun w v => by rw [I_at, if_pos rfl]
    have x9 : ∀ w v, gI (sI (sI g1 8 0 9 v) 8 0 8 w) 8 0 9 = v := fun w v => by rw [I_at, if_neg (by decide), I_at, if_pos rfl]
    have y9 : ∀ v, gI (sI g1 8 0 9 v) 8 0 9 = v := fun v => by rw [I_at, if_pos rfl]
    have y7 : ∀ v, gI (sI g1 8 0 9 v) 8 0 7 = nI p' := fun v => by rw [I_at, if_neg (by decide), c7, qe]
    have y10 : ∀ v, gI (sI g1 8 0 9 v) 8 0 10 = nI a := fun v => by rw [I_at, if_neg (by decide), c10]
    have ut : ∀ w v, U8 g (sI (sI g1 8 0 9 v) 8 0 8 w) := fun w v => u.tr ((U8.i g1 9 _ (by omega)).tr (U8.i _ 8 _ (by omega)))
    rw [y9, y7, y10]
    rcases w2 with ⟨k, k1, rfl⟩ | ⟨k1, rfl⟩
    · have hk := k1.1
      rw [if_neg (show ¬ nI k < 0 from Int32.not_lt.mpr (leN (a := 0) (Nat.zero_le _) (by omega))), x8, if_pos (show ¬ (1 : Int32) = 2 by decide)]
      exact ⟨_, rfl, ut _ _, x10 _ _, x7 _ _, Or.inl ⟨k, k1, x8 _ _, x9 _ _⟩⟩
    · rw [if_pos (show (-1 : Int32) < 0 by decide), nI_sub pg]
      by_cases z : p' - a ≤ 6
      · rw [if_pos (show nI (p' - a) ≤ (6 : Int32) from leN (b := 6) z (by omega)), x8, if_neg (fun q => q rfl), x10, x7, m_packed hN pg (by omega) z (by
          rw [show gA (sI (sI g1 8 0 9 (-1)) 8 0 8 2) 8 0 0 = gA g1 8 0 0 from rfl, ua]
          exact pin), bind_s]
        refine ⟨_, rfl, (ut _ _).tr (U8.i _ 9 _ (by omega)), ?_, ?_, Or.inr ⟨k1, Or.inl ⟨z, ?_, ?_⟩⟩⟩
        · rw [I_at, if_neg (by decide), x10]
        · rw [I_at, if_neg (by decide), x7]
        · rw [I_at, if_neg (by decide), x8]
        · rw [I_at, if_pos rfl, show gA (sI (sI g1 8 0 9 (-1)) 8 0 8 2) 8 0 0 = gA g1 8 0 0 from rfl, ua]
      · rw [if_neg (show ¬ nI (p' - a) ≤ (6 : Int32) from nleN (b := 6) (show 6 < p' - a by omega) (by omega)), x8, if_pos (show ¬ (6 : Int32) = 2 by decide)]
        exact ⟨_, rfl, ut _ _, x10 _ _, x7 _ _, Or.inr ⟨k1, Or.inr ⟨by omega, x8 _ _⟩⟩⟩
  unfold f_X8_token_90
  simp only [jn_e, lt_e]
  rw [c7, m_isSmall u6 hn (show q ≤ 700 by omega), bind_s, ua]
  cases k with
  | zero =>
    rw [show decide (q < n) = false from decide_eq_false (by omega), Bool.false_and, if_pos (show b2i false = 0 from rfl)]
    exact fin er
  | succ k =>
    rw [rnE_s] at er
    rw [show decide (q < n) = true from decide_eq_true (by omega), Bool.true_and]
    cases hd : isL (f q) with
    | false =>
      rw [hd, if_neg (fun q => Bool.noConfusion q)] at er
      rw [if_pos (show b2i false = 0 from rfl)]
      exact fin er
    | true =>
      rw [hd, if_pos rfl] at er
      rw [if_neg (show ¬ b2i true = 0 by decide)]
      refine ih k (q + 1) _ (by omega) (by omega) (u.tr (U8.i _ 7 _ (by omega))) ?_ ?_ er
      · rw [I_at, if_neg (by decide), c10]
      · rw [I_at, if_pos rfl, nI_1]
theorem m_token (hN : 1000 ≤ N) (e6 : gI g 8 0 6 = nI n) (hn : n ≤ 700) (wd : WRD (gA g 8 0 1)) {p : Nat} (e7 : gI g 8 0 7 = nI p) (hp : p ≤ n) : ∃ g' p', f_X8_token N g = some g' ∧ U8 g g' ∧ gI g' 8 0 10 = nI (rnE isSp (gA g 8 0 0) (n - p) p) ∧ gI g' 8 0 7 = nI p' ∧ OM (gA g 8 0 0) n (rnE isSp (gA g 8 0 0) (n - p) p) p' (gI g' 8 0 8) (gI g' 8 0 9) := by
  obtain ⟨f, hf⟩ : ∃ f, f = gA g 8 0 0 := ⟨_, rfl⟩
  obtain ⟨a, ha⟩ : ∃ a, a = rnE isSp f (n - p) p := ⟨_, rfl⟩
  have al : a ≤ n := by have := (rnE_le isSp f (n - p) p).2; omega
  rw [← hf, ← ha]
  unfold f_X8_token
  refine iter_inv (bot := fun _ => none) (b := f_X8_token_0 N) (fun m r => ∀ k q g1, q + k = n → k < m → U8 g g1 → gI g1 8 0 7 = nI q → rnE isSp f k q = a → ∃ g' p', r g1 = some g' ∧ U8 g g' ∧ gI g' 8 0 10 = nI a ∧ gI g' 8 0 7 = nI p' ∧ OM f n a p' (gI g' 8 0 8) (gI g' 8 0 9)) (fun k _ _ _ hk => absurd hk (Nat.not_lt_zero _)) (fun m r ih k q g1 hq hk u c7 er => ?_) N (n - p) p g (by omega) (by omega) (U8.rf g) e7 ha.symm
  have u6 : gI g1 8 0 6 = nI n := (u.2.1 6 (by omega)).trans e6
  have ua : gA g1 8 0 0 = f := (u.2.2.2 0).trans hf.symm
  have ub : gA g1 8 0 1 = gA g 8 0 1 := u.2.2.2 1
  obtain ⟨h2, hh2⟩ : ∃ h2, h2 = sI g1 8 0 10 (nI q) := ⟨_, rfl⟩
  have v2 : U8 g h2 := by rw [hh2]; exact u.tr (U8.i g1 10 _ (by omega))
  have v7 : gI h2 8 0 7 = nI q := by rw [hh2, I_at, if_neg (by decide), c7]
  have v10 : gI h2 8 0 10 = nI q := by rw [hh2, I_at, if_pos rfl]
  have v6 : gI h2 8 0 6 = nI n := by rw [hh2, I_at, if_neg (by decide), u6]
  have va : gA h2 8 0 0 = f := by rw [hh2]; exact ua
  have vb : gA h2 8 0 1 = gA g 8 0 1 := by rw [hh2]; exact ub
  have fin : q = a → ∃ g' p', (if ¬ (gI h2 8 0 7) = (gI h2 8 0 6) then (f_X8_isSmall h2 (gI h2 8 0 7)).bind fun v4 => if (b2i v4) = 0 then (f_X8_isDigit h2 (gI h2 8 0 7)).bind fun v5 => if (b2i v5) = 0 then (f_X8_signToken h2).bind fun h6 => some h6 else iter (fun _ => none) (f_X8_token_213 (fun h3 => some h3)) N (sI (sI h2 8 0 8 3) 8 0 9 0) else iter (fun _ => none) (f_X8_token_90 N (fun h3 => some h3)) N h2 else some (sI h2 8 0 8 0)) = some g' ∧ U8 g g' ∧ gI g' 8 0 10 = nI a ∧ gI g' 8 0 7 = nI p' ∧ OM f n a p' (gI g' 8 0 8) (gI g' 8 0 9) := fun qe => by
    rw [v6, v7]
    by_cases z : q = n
    · rw [if_neg (fun w => w (by rw [z]))]
      refine ⟨_, n, rfl, v2.tr (U8.i h2 8 0 (by omega)), ?_, ?_, Or.inl ⟨by omega, rfl, ?_⟩⟩
      · rw [I_at, if_neg (by decide), v10, qe]
      · rw [I_at, if_neg (by decide), v7, z]
      · rw [I_at, if_pos rfl]
    rw [if_pos (fun w => z (nI_inj (by omega) (by omega) w)), m_isSmall v6 hn (show q ≤ 700 by omega), bind_s, va, show decide (q < n) = true from decide_eq_true (by omega), Bool.true_and, qe]
    cases hl : isL (f a) with
    | true =>
      rw [if_neg (show ¬ b2i true = 0 by decide)]
      obtain ⟨g', p', w1, w2, w3, w4, w5, w6⟩ := m_letters (g := h2) (a := a) hN v6 hn (by rw [vb]; exact wd) (by rw [v7, qe]) (by omega) (by rw [v10, qe])
      rw [va] at w4 w6
      exact ⟨g', p', w1, v2.tr w2, w3, w5, Or.inr (Or.inl ⟨by omega, hl, w4, w6⟩)⟩
    | false =>
      rw [if_pos (show b2i false = 0 from rfl), m_isDigit v6 hn (show a ≤ 700 by omega), bind_s, va, show decide (a < n) = true from decide_eq_true (by omega), Bool.true_and]
      cases hd : isD (f a) with
      | true =>
        rw [if_neg (show ¬ b2i true = 0 by decide)]
        obtain ⟨g', w1, w2, w3, w4, w5, w6⟩ := m_digits (g := sI (sI h2 8 0 8 3) 8 0 9 0) (a := a) (n := n) hN (by rw [I_at, if_neg (by decide), I_at, if_neg (by decide), v6]) hn (by rw [I_at, if_neg (by decide), I_at, if_neg (by decide), v7, qe]) (by omega) (by rw [I_at, if_pos rfl])
        rw [show gA (sI (sI h2 8 0 8 3) 8 0 9 0) 8 0 0 = gA h2 8 0 0 from rfl, va] at w5 w6
        refine ⟨g', _, w1, v2.tr (((U8.i h2 8 3 (by omega)).tr (U8.i _ 9 0 (by omega))).tr w2), ?_, w5, Or.inr (Or.inr (Or.inl ⟨by omega, hl, hd, rfl, ?_, w6⟩))⟩
        · rw [w3, I_at, if_neg (by decide), I_at, if_neg (by decide), v10, qe]
        · rw [w4, I_at, if_neg (by decide), I_at, if_pos rfl]
      | false =>
        rw [if_pos (show b2i false = 0 from rfl)]
        obtain ⟨g', w1, w2, w3, w4, w5, w6⟩ := m_signToken (g := h2) (p := q) v6 hn v7 (by omega)
        rw [w1, bind_s]
        rw [va, qe] at w4 w5 w6
        exact ⟨g', _, rfl, v2.tr w2, by rw [w3, v10, qe], w4, Or.inr (Or.inr (Or.inr ⟨by omega, hl, hd, rfl, w5, w6⟩))⟩
  unfold f_X8_token_0
  simp only [jn_e, lt_e]
  rw [c7, ← hh2, u6]
  cases k with
  | zero =>
    rw [if_pos (leN (show n ≤ q by omega) (by omega))]
    exact fin er
  | succ k =>
    rw [rnE_s] at er
    rw [if_neg (nleN (show q < n by omega) (by omega)), grd_p (inb_n (show q < 700 by omega) (by omega)), grd_p (inb_n (show q < 700 by omega) (by omega)), clN (show q < 2 ^ 31 by omega), ua]
    have next : isSp (f q) = true → ∃ g' p', r (sI g1 8 0 7 (nI q + 1)) = some g' ∧ U8 g g' ∧ gI g' 8 0 10 = nI a ∧ gI g' 8 0 7 = nI p' ∧ OM f n a p' (gI g' 8 0 8) (gI g' 8 0 9) := fun hs => by
      rw [if_pos hs] at er
      refine ih k (q + 1) _ (by omega) (by omega) (u.tr (U8.i _ 7 _ (by omega))) ?_ er
      rw [I_at, if_pos rfl, nI_1]
    by_cases y1 : f q = 10
    · rw [if_pos y1]
      exact next (decide_eq_true (Or.inr y1))
    rw [if_neg y1]
    by_cases y2 : f q = 32
    · rw [if_neg (fun w => w y2)]
      exact next (decide_eq_true (Or.inl y2))
    · rw [if_pos y2]
      rw [if_neg (fun w => (of_decide_eq_true w).elim y2 y1)] at er
      exact fin er
theorem cl_advance (hN : 1000 ≤ N) (e3 : gI h 4 0 3 = nI n) (hn : n ≤ 700) (sp : SPL (gA h 4 0 1)) {p : Nat} (e4 : gI h 4 0 4 = nI p) (hp : p ≤ n) : ∃ g p', f_X4_advance N h = some g ∧ T4 h g ∧ gI g 4 0 5 = nI (rnE isSp (gA h 4 0 0) (n - p) p) ∧ gI g 4 0 4 = nI p' ∧ OC (gA h 4 0 0) n (rnE isSp (gA h 4 0 0) (n - p) p) p' (gI g 4 0 6) (gI g 4 0 7) (gI g 4 0 8) := by
  obtain ⟨f, hf⟩ : ∃ f, f = gA h 4 0 0 := ⟨_, rfl⟩
  obtain ⟨a, ha⟩ : ∃ a, a = rnE isSp f (n - p) p := ⟨_, rfl⟩
  have al : a ≤ n := by have := (rnE_le isSp f (n - p) p).2; omega
  rw [← hf, ← ha]
  unfold f_X4_advance
  refine iter_inv (bot := fun _ => none) (b := f_X4_advance_0 N) (fun m r => ∀ k q g1, q + k = n → k < m → T4 h g1 → gI g1 4 0 4 = nI q → rnE isSp f k q = a → ∃ g' p', r g1 = some g' ∧ T4 h g' ∧ gI g' 4 0 5 = nI a ∧ gI g' 4 0 4 = nI p' ∧ OC f n a p' (gI g' 4 0 6) (gI g' 4 0 7) (gI g' 4 0 8)) (fun k _ _ _ hk => absurd hk (Nat.not_lt_zero _)) (fun m r ih k q g1 hq hk u c4 er => ?_) N (n - p) p h (by omega) (by omega) (T4.rf h) e4 ha.symm
  have u3 : gI g1 4 0 3 = nI n := (u.2.2.1 4 0 3 (by omega)).trans e3
  have ua : gA g1 4 0 0 = f := (u.2.2.2 4 0 0).trans hf.symm
  have ub : gA g1 4 0 1 = gA h 4 0 1 := u.2.2.2 4 0 1
  obtain ⟨h2, hh2⟩ : ∃ h2, h2 = sI g1 4 0 5 (nI q) := ⟨_, rfl⟩
  have v2 : T4 h h2 := by rw [hh2]; exact u.tr (T4.i g1 5 _ (by omega))
  have v4 : gI h2 4 0 4 = nI q := by rw [hh2, I4_at, if_neg (by decide), c4]
  have v5 : gI h2 4 0 5 = nI q := by rw [hh2, I4_at, if_pos rfl]
  have v3 : gI h2 4 0 3 = nI n := by rw [hh2, I4_at, if_neg (by decide), u3]
  have va : gA h2 4 0 0 = f := by rw [hh2]; exact ua
  have vb : gA h2 4 0 1 = gA h 4 0 1 := by rw [hh2]; exact ub
  have fin : q = a → ∃ g' p', (if (gI h2 4 0 4) < (gI h2 4 0 3) then grd (inb (gI h2 4 0 4) 700) <| (f_X4_isLetter (gA h2 4 0 0 (gI h2 4 0 4).toNatClampNeg)).bind fun v4 => if (b2i v4) = 0 then grd (inb (gI h2 4 0 4) 700) <| (f_X4_isDigit (gA h2 4 0 0 (gI h2 4 0 4).toNatClampNeg)).bind fun v5 => if (b2i v5) = 0 then grd (inb (gI h2 4 0 4) 700) <| (f_X4_readSign h2 (gA h2 4 0 0 (gI h2 4 0 4).toNatClampNeg)).bind fun h6 => some h6 else (f_X4_readNumber N h2).bind fun h7 => some h7 else (f_X4_readWord N h2).bind fun h8 => some h8 else some (sI h2 4 0 6 0)) = some g' ∧ T4 h g' ∧ gI g' 4 0 5 = nI a ∧ gI g' 4 0 4 = nI p' ∧ OC f n a p' (gI g' 4 0 6) (gI g' 4 0 7) (gI g' 4 0 8) := fun qe => by
    rw [v3, v4]
    by_cases z : q = n
    · rw [if_neg (Int32.not_lt.mpr (leN (by omega) (by omega)))]
      refine ⟨_, n, rfl, v2.tr (T4.i h2 6 0 (by omega)), ?_, ?_, Or.inl ⟨by omega, rfl, ?_⟩⟩
      · rw [I4_at, if_neg (by decide), v5, qe]
      · rw [I4_at, if_neg (by decide), v4, z]
      · rw [I4_at, if_pos rfl]
    rw [if_pos (Int32.not_le.mp (nleN (show q < n by omega) (by omega))), grd_p (inb_n (show q < 700 by omega) (by omega))]
    simp only [clN (show q < 2 ^ 31 by omega)]
    rw [cl_isLetter, bind_s, va, qe]
    cases hl : isL (f a) with
    | true =>
      rw [if_neg (show ¬ b2i true = 0 by decide)]
      obtain ⟨g', w1, w2, w3, w4, w5⟩ := cl_readWord (h := h2) (p := a) hN v3 hn (by rw [vb]; exact sp) (by rw [v4, qe]) (by rw [v5, qe]) (by omega)
      rw [va] at w3 w5
      rw [w1, bind_s]
      exact ⟨g', _, rfl, v2.tr w2, w4, w3, Or.inr (Or.inl ⟨by omega, hl, rfl, w5⟩)⟩
    | false =>
      rw [if_pos (show b2i false = 0 from rfl), grd_p (inb_n (show a < 700 by omega) (by omega)), cl_isDigit, bind_s]
      cases hd : isD (f a) with
      | true =>
        rw [if_neg (show ¬ b2i true = 0 by decide)]
        obtain ⟨g', w1, w2, w3, w4, w5, w6⟩ := cl_readNumber (h := h2) (p := a) hN v3 hn (by rw [v4, qe]) (by omega)
        rw [va] at w3 w6
        rw [w1, bind_s]
        exact ⟨g', _, rfl, v2.tr w2, by rw [w4, v5, qe], w3, Or.inr (Or.inr (Or.inl ⟨by omega, hl, hd, rfl, w5, w6⟩))⟩
      | false =>
        rw [if_pos (show b2i false = 0 from rfl), grd_p (inb_n (show a < 700 by omega) (by omega))]
        obtain ⟨g', w1, w2, w3, w4, w5⟩ := cl_readSign (h := h2) (p := a) v3 hn (by rw [v4, qe]) (by omega) (f a)
        rw [w1, bind_s]
        rw [va] at w3 w5
        exact ⟨g', _, rfl, v2.tr w2, by rw [w4, v5, qe], w3, Or.inr (Or.inr (Or.inr ⟨by omega, hl, hd, rfl, w5⟩))⟩
  unfold f_X4_advance_0
  simp only [jn_e, lt_e]
  rw [c4, ← hh2, u3]
  cases k with
  | zero =>
    rw [if_pos (leN (show n ≤ q by omega) (by omega))]
    exact fin er
  | succ k =>
    rw [rnE_s] at er
    rw [if_neg (nleN (show q < n by omega) (by omega)), grd_p (inb_n (show q < 700 by omega) (by omega)), grd_p (inb_n (show q < 700 by omega) (by omega)), clN (show q < 2 ^ 31 by omega), ua]
    have next : isSp (f q) = true → ∃ g' p', r (sI g1 4 0 4 (nI q + 1)) = some g' ∧ T4 h g' ∧ gI g' 4 0 5 = nI a ∧ gI g' 4 0 4 = nI p' ∧ OC f n a p' (gI g' 4 0 6) (gI g' 4 0 7) (gI g' 4 0 8) := fun hs => by
      rw [if_pos hs] at er
      refine ih k (q + 1) _ (by omega) (by omega) (u.tr (T4.i _ 4 _ (by omega))) ?_ er
      rw [I4_at, if_pos rfl, nI_1]
    by_cases y1 : f q = 32
    · rw [if_pos y1]
      exact next (decide_eq_true (Or.inl y1))
    rw [if_neg y1]
    by_cases y2 : f q = 10
    · rw [if_neg (fun w => w y2)]
      exact next (decide_eq_true (Or.inr y2))
    · rw [if_pos y2]
      rw [if_neg (fun w => (of_decide_eq_true w).elim y1 y2)] at er
      exact fin er
end Token2

