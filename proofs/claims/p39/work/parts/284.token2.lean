-- PURE: a token read, by both: the whole
section Token2
variable {N : Nat} {h g : Hp} {n : Nat}
theorem cl_advance (hN : 1000 ≤ N) (e3 : gI h 4 0 3 = nI n) (hn : n ≤ 700) (sp : SPL (gA h 4 0 1)) {p : Nat} (e4 : gI h 4 0 4 = nI p) (hp : p ≤ n) : ∃ g p', f_X4_advance N h = some g ∧ T4 h g ∧ gI g 4 0 5 = nI (rnE isSp (gA h 4 0 0) (n - p) p) ∧ gI g 4 0 4 = nI p' ∧ OC (gA h 4 0 0) n (rnE isSp (gA h 4 0 0) (n - p) p) p' (gI g 4 0 6) (gI g 4 0 7) (gI g 4 0 8) := by
  obtain ⟨f, hf⟩ : ∃ f, f = gA h 4 0 0 := ⟨_, rfl⟩
  obtain ⟨a, ha⟩ : ∃ a, a = rnE isSp f (n - p) p := ⟨_, rfl⟩
  have al : a ≤ n := by have := (rnE_le isSp f (n - p) p).2; omega
  rw [← hf, ← ha]
  unfold f_X4_advance
  refine iter_inv (bot := fun _ => none) (b := f_X4_advance_0 N) (fun m r => ∀ k q g1, q + k = n → k < m → T4 h g1 → gI g1 4 0 4 = nI q → rnE isSp f k q = a → ∃ g' p', r g1 = some g' ∧ T4 h g' ∧ gI g' 4 0 5 = nI a ∧ gI g' 4 0 4 = nI p' ∧ OC f n a p' (gI g' 4 0 6) (gI g' 4 0 7) (gI g' 4 0 8)) (fun k _ _ _ hk => absurd hk (Nat.not_lt_zero _)) (fun m r ih k q g1 hq hk u c4 er => ?_) N (n - p) p h (by omega) (by omega) (T4.rf h) e4 ha.symm
  have u3 : gI g1 4 0 3 = nI n := (u.2.2.1 4 0 3 (by omega)).trans e3
  have ua : gA g1 4 0 0 = f := (u.2.2.2 4 0 0).trans hf.symm
  have ub : gA g1 4 0 1 = gA h 4 0 1 := u.2.2.2 4 0 1
  obtain ⟨h2, hh2⟩ : ∃ h2, h2 = sI g1 4 0 5 (nI q) := ⟨_, rfl⟩
  have v2 : T4 h h2 := by rw [hh2]; exact u.tr (T4.i g1 5 _ (by omega))
  have v4 : gI h2 4 0 4 = nI q := by rw [hh2, I4_at, if_neg (by decide), c4]
  have v5 : gI h2 4 0 5 = nI q := by rw [hh2, I4_at, if_pos rfl]
  have v3 : gI h2 4 0 3 = nI n := by rw [hh2, I4_at, if_neg (by decide), u3]
  have va : gA h2 4 0 0 = f := by rw [hh2]; exact ua
  have vb : gA h2 4 0 1 = gA h 4 0 1 := by rw [hh2]; exact ub
  have fin : q = a → ∃ g' p', (if (gI h2 4 0 4) < (gI h2 4 0 3) then grd (inb (gI h2 4 0 4) 700) <| (f_X4_isLetter (gA h2 4 0 0 (gI h2 4 0 4).toNatClampNeg)).bind fun v4 => if (b2i v4) = 0 then grd (inb (gI h2 4 0 4) 700) <| (f_X4_isDigit (gA h2 4 0 0 (gI h2 4 0 4).toNatClampNeg)).bind fun v5 => if (b2i v5) = 0 then grd (inb (gI h2 4 0 4) 700) <| (f_X4_readSign h2 (gA h2 4 0 0 (gI h2 4 0 4).toNatClampNeg)).bind fun h6 => some h6 else (f_X4_readNumber N h2).bind fun h7 => some h7 else (f_X4_readWord N h2).bind fun h8 => some h8 else some (sI h2 4 0 6 0)) = some g' ∧ T4 h g' ∧ gI g' 4 0 5 = nI a ∧ gI g' 4 0 4 = nI p' ∧ OC f n a p' (gI g' 4 0 6) (gI g' 4 0 7) (gI g' 4 0 8) := fun qe => by
    rw [v3, v4]
    by_cases z : q = n
    · rw [if_neg (Int32.not_lt.mpr (leN (by omega) (by omega)))]
      refine ⟨_, n, rfl, v2.tr (T4.i h2 6 0 (by omega)), ?_, ?_, Or.inl ⟨by omega, rfl, ?_⟩⟩
      · rw [I4_at, if_neg (by decide), v5, qe]
      · rw [I4_at, if_neg (by decide), v4, z]
      · rw [I4_at, if_pos rfl]
    rw [if_pos (Int32.not_le.mp (nleN (show q < n by omega) (by omega))), grd_p (inb_n (show q < 700 by omega) (by omega))]
    simp only [clN (show q < 2 ^ 31 by omega)]
    rw [cl_isLetter, bind_s, va, qe]
    cases hl : isL (f a) with
    | true =>
      rw [if_neg (show ¬ b2i true = 0 by decide)]
      obtain ⟨g', w1, w2, w3, w4, w5⟩ := cl_readWord (h := h2) (p := a) hN v3 hn (by rw [vb]; exact sp) (by rw [v4, qe]) (by rw [v5, qe]) (by omega)
      rw [va] at w3 w5
      rw [w1, bind_s]
      exact ⟨g', _, rfl, v2.tr w2, w4, w3, Or.inr (Or.inl ⟨by omega, hl, rfl, w5⟩)⟩
    | false =>
      rw [if_pos (show b2i false = 0 from rfl), grd_p (inb_n (show a < 700 by omega) (by omega)), cl_isDigit, bind_s]
      cases hd : isD (f a) with
      | true =>
        rw [if_neg (show ¬ b2i true = 0 by decide)]
        obtain ⟨g', w1, w2, w3, w4, w5, w6⟩ := cl_readNumber (h := h2) (p := a) hN v3 hn (by rw [v4, qe]) (by omega)
        rw [va] at w3 w6
        rw [w1, bind_s]
        exact ⟨g', _, rfl, v2.tr w2, by rw [w4, v5, qe], w3, Or.inr (Or.inr (Or.inl ⟨by omega, hl, hd, rfl, w5, w6⟩))⟩
      | false =>
        rw [if_pos (show b2i false = 0 from rfl), grd_p (inb_n (show a < 700 by omega) (by omega))]
        obtain ⟨g', w1, w2, w3, w4, w5⟩ := cl_readSign (h := h2) (p := a) v3 hn (by rw [v4, qe]) (by omega) (f a)
        rw [w1, bind_s]
        rw [va] at w3 w5
        exact ⟨g', _, rfl, v2.tr w2, by rw [w4, v5, qe], w3, Or.inr (Or.inr (Or.inr ⟨by omega, hl, hd, rfl, w5⟩))⟩
  unfold f_X4_advance_0
  simp only [jn_e, lt_e]
  rw [c4, ← hh2, u3]
  cases k with
  | zero =>
    rw [if_pos (leN (show n ≤ q by omega) (by omega))]
    exact fin er
  | succ k =>
    rw [rnE_s] at er
    rw [if_neg (nleN (show q < n by omega) (by omega)), grd_p (inb_n (show q < 700 by omega) (by omega)), grd_p (inb_n (show q < 700 by omega) (by omega)), clN (show q < 2 ^ 31 by omega), ua]
    have next : isSp (f q) = true → ∃ g' p', r (sI g1 4 0 4 (nI q + 1)) = some g' ∧ T4 h g' ∧ gI g' 4 0 5 = nI a ∧ gI g' 4 0 4 = nI p' ∧ OC f n a p' (gI g' 4 0 6) (gI g' 4 0 7) (gI g' 4 0 8) := fun hs => by
      rw [if_pos hs] at er
      refine ih k (q + 1) _ (by omega) (by omega) (u.tr (T4.i _ 4 _ (by omega))) ?_ er
      rw [I4_at, if_pos rfl, nI_1]
    by_cases y1 : f q = 32
    · rw [if_pos y1]
      exact next (decide_eq_true (Or.inl y1))
    rw [if_neg y1]
    by_cases y2 : f q = 10
    · rw [if_neg (fun w => w y2)]
      exact next (decide_eq_true (Or.inr y2))
    · rw [if_pos y2]
      rw [if_neg (fun w => (of_decide_eq_true w).elim y1 y2)] at er
      exact fin er
end Token2

