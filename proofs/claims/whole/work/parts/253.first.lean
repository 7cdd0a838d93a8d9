-- PURE: the reference laid as at first
def TX (g : Hp) (T : Txt) : Prop := (∀ s, s < nSt T → gA g 8 0 4 s = T.1 0 s) ∧ (∀ c, c < nCr T → gA g 8 0 5 c = T.1 1 c ∧ gA g 8 0 6 c = T.1 2 c ∧ gA g 8 0 7 c = T.1 3 c ∧ gA g 8 0 8 c = T.1 4 c) ∧ gA g 8 0 3 0 = T.2.1 15 ∧ gA g 8 0 3 1 = T.2.1 16 ∧ gA g 8 0 3 4 = T.2.1 19 ∧ WRD (gA g 8 0 1) ∧ LPA (gA g 8 0 13) (gA g 8 0 14) (gA g 8 0 15) (gA g 8 0 16) (gA g 8 0 17) (gA g 8 0 18) T.2.2
/-- nothing changed but half b -/
def AF (b : Nat) (g g' : Hp) : Prop := K7 g g' ∧ (∀ k, gI g' 8 0 k = gI g 8 0 k) ∧ (∀ k, gL g' 8 0 k = gL g 8 0 k) ∧ (∀ k, (k < 23 ∨ 33 < k) → gA g' 8 0 k = gA g 8 0 k) ∧ ∀ k i, ¬ (hn k * b ≤ i ∧ i < hn k * b + hn k) → gA g' 8 0 k i = gA g 8 0 k i
theorem AF.rf (b : Nat) (g : Hp) : AF b g g := ⟨K7.rf g, fun _ => rfl, fun _ => rfl, fun _ _ => rfl, fun _ _ _ => rfl⟩
theorem AF.tr {b : Nat} {g g' g'' : Hp} (a : AF b g g') (c : AF b g' g'') : AF b g g'' := ⟨a.1.tr c.1, fun k => (c.2.1 k).trans (a.2.1 k), fun k => (c.2.2.1 k).trans (a.2.2.1 k), fun k q => (c.2.2.2.1 k q).trans (a.2.2.2.1 k q), fun k i q => (c.2.2.2.2 k i q).trans (a.2.2.2.2 k i q)⟩
theorem AF.a (b : Nat) (g : Hp) {k i : Nat} (v : Int32) (hk : 23 ≤ k ∧ k ≤ 33) (hi : hn k * b ≤ i ∧ i < hn k * b + hn k) : AF b g (sA g 8 0 k i v) := ⟨K7.a g k i v, fun _ => rfl, fun _ => rfl, fun j hj => funext fun u => by rw [A_at, if_neg (fun q => by omega)], fun j u hu => by
  rw [A_at, if_neg]
  rintro ⟨rfl, rfl⟩
  exact hu hi⟩
theorem AF.w (b : Nat) (g : Hp) {k i w : Nat} (v : Int32) (hw : hn k = w) (hk : 23 ≤ k ∧ k ≤ 33) (hi : w * b ≤ i ∧ i < w * b + w) : AF b g (sA g 8 0 k i v) := by
  subst hw
  exact AF.a b g v hk hi
theorem AF.f8 {g g' : Hp} (a : AF 1 g g') : F8 g g' := by
  obtain ⟨a1, a2, a3, a4, a5⟩ := a
  refine ⟨a1, fun k _ => a2 k, ⟨a3 62, a3 87, fun q => ?_⟩, fun k hk => ?_, fun k i h1 h2 h3 => a5 k i (fun q => by omega)⟩
  · unfold N49 gZ at q ⊢
    rw [a2]
    exact q
  · by_cases z : 23 ≤ k ∧ k ≤ 33
    · exfalso
      have : ∀ k, 23 ≤ k → k ≤ 33 → kpA k = false := by
        intro k h1 h2
        rcases (show k = 23 ∨ k = 24 ∨ k = 25 ∨ k = 26 ∨ k = 27 ∨ k = 28 ∨ k = 29 ∨ k = 30 ∨ k = 31 ∨ k = 32 ∨ k = 33 by omega) with rfl | rfl | rfl | rfl | rfl | rfl | rfl | rfl | rfl | rfl | rfl <;> decide
      rw [this k z.1 z.2] at hk
      exact Bool.noConfusion hk
    · exact a4 k (by omega)
theorem hn_v : hn 23 = 8 ∧ hn 24 = 8 ∧ hn 25 = 4 ∧ hn 26 = 4 ∧ hn 27 = 4 ∧ hn 28 = 4 ∧ hn 29 = 4 ∧ hn 30 = 6 ∧ hn 31 = 1 ∧ hn 32 = 1 ∧ hn 33 = 1 := by decide
def lotV (g : Hp) (i : Nat) : Int32 := if gI g 8 0 13 = 0 then -1 else nI i - nI i / gI g 8 0 13 * gI g 8 0 13
/-- so much of half b as at first -/
def Fst (b : Nat) (g g' : Hp) (x y z : Nat) : Prop := (∀ i, i < x → gA g' 8 0 23 (8 * b + i) = gA g 8 0 4 i ∧ gA g' 8 0 24 (8 * b + i) = lotV g i) ∧ (∀ i, i < y → gA g' 8 0 25 (4 * b + i) = gA g 8 0 6 i ∧ gA g' 8 0 26 (4 * b + i) = gA g 8 0 8 i ∧ gA g' 8 0 27 (4 * b + i) = 0 ∧ gA g' 8 0 28 (4 * b + i) = 0 ∧ gA g' 8 0 29 (4 * b + i) = 0) ∧ ∀ i, i < z → gA g' 8 0 30 (6 * b + i) = 0
def FinA (b : Nat) (g g' : Hp) : Prop := AF b g g' ∧ Fst b g g' 8 4 6 ∧ gA g' 8 0 31 b = gA g 8 0 3 0 ∧ gA g' 8 0 32 b = 0 ∧ gA g' 8 0 33 b = 0
section First
variable {N : Nat} {g : Hp} {b : Nat}
theorem first3 (hN : 1000 ≤ N) (hb : b < 2) {g1 : Hp} (f1 : AF b g g1) (l1 : Fst b g g1 8 4 0) : ∃ g', iter (fun _ _ => none) (f_X8_atFirst_139 (nI b)) N 0 g1 = some g' ∧ FinA b g g' := by
  obtain ⟨n23, n24, n25, n26, n27, n28, n29, n30, n31, n32, n33⟩ := hn_v
  refine iter_inv (bot := fun _ _ => none) (b := f_X8_atFirst_139 (nI b)) (fun m r => ∀ j g1, j ≤ 6 → 6 < m + j → AF b g g1 → Fst b g g1 8 4 j → ∃ g', r (nI j) g1 = some g' ∧ FinA b g g') (fun j _ _ _ => by omega) (fun m r ih j g1 hj hm f l => ?_) N 0 g1 (by omega) (by omega) f1 l1
  unfold f_X8_atFirst_139
  by_cases z : j = 6
  · subst z
    rw [if_pos (show (6 : Int32) ≤ nI 6 by decide)]
    have e3 : gA g1 8 0 3 0 = gA g 8 0 3 0 := by rw [f.2.2.2.1 3 (by omega)]
    simp only [lt_e, z7.1, clN (show b < 2 ^ 31 by omega), grd_p (show inb 0 10 by decide), grd_p (inb_n hb (show 2 < 2 ^ 31 by omega)), e3]
    have hk : ∀ k i, ¬ k = 31 → ¬ k = 32 → ¬ k = 33 → gA (sA (sA (sA g1 8 0 31 b (gA g 8 0 3 0)) 8 0 32 b 0) 8 0 33 b 0) 8 0 k i = gA g1 8 0 k i := fun k i h1 h2 h3 => by
      rw [A_at, if_neg (fun q => h3 q.1), A_at, if_neg (fun q => h2 q.1), A_at, if_neg (fun q => h1 q.1)]
    refine ⟨_, rfl, ((f.tr (AF.w b g1 _ n31 (by omega) (by omega))).tr (AF.w b _ _ n32 (by omega) (by omega))).tr (AF.w b _ _ n33 (by omega) (by omega)), ?_, ?_, ?_, ?_⟩
    · refine ⟨fun i hi => ?_, fun i hi => ?_, fun i hi => ?_⟩
      · rw [hk 23 _ (by decide) (by decide) (by decide), hk 24 _ (by decide) (by decide) (by decide)]; exact l.1 i hi
      · rw [hk 25 _ (by decide) (by decide) (by decide), hk 26 _ (by decide) (by decide) (by decide), hk 27 _ (by decide) (by decide) (by decide), hk 28 _ (by decide) (by decide) (by decide), hk 29 _ (by decide) (by decide) (by decide)]; exact l.2.1 i hi
      · rw [hk 30 _ (by decide) (by decide) (by decide)]; exact l.2.2 i hi
    · rw [A_at, if_neg (fun q => absurd q.1 (by decide)), A_at, if_neg (fun q => absurd q.1 (by decide)), A_at, if_pos ⟨rfl, rfl⟩]
    · rw [A_at, if_neg (fun q => absurd q.1 (by decide)), A_at, if_pos ⟨rfl, rfl⟩]
    · rw [A_at, if_pos ⟨rfl, rfl⟩]
  · have h12 : 6 * b + j < 12 := mul_lt hb (by omega)
    rw [if_neg (show ¬ (6 : Int32) ≤ nI j from nleN (a := 6) (show j < 6 by omega) (by omega))]
    simp only [lt_e, ix6 hb (show j < 6 by omega), grd_p (inb_n h12 (show 12 < 2 ^ 31 by omega)), clN (show 6 * b + j < 2 ^ 31 by omega), nI_1]
    refine ih (j + 1) _ (by omega) (by omega) (f.tr (AF.w b g1 _ n30 (by omega) (by omega))) ⟨fun i hi => ?_, fun i hi => ?_, fun i hi => ?_⟩
    · rw [A_at, if_neg (by omega), A_at, if_neg (by omega)]; exact l.1 i hi
    · rw [A_at, if_neg (by omega), A_at, if_neg (by omega), A_at, if_neg (by omega), A_at, if_neg (by omega), A_at, if_neg (by omega)]; exact l.2.1 i hi
    · rw [A_at]
      by_cases w : i = j
      · rw [if_pos ⟨rfl, by omega⟩]
      · rw [if_neg (by omega)]; exact l.2.2 i (by omega)
theorem first2 (hN : 1000 ≤ N) (hb : b < 2) {g1 : Hp} (f1 : AF b g g1) (l1 : Fst b g g1 8 0 0) : ∃ g', iter (fun _ _ => none) (f_X8_atFirst_61 N (nI b)) N 0 g1 = some g' ∧ FinA b g g' := by
  obtain ⟨n23, n24, n25, n26, n27, n28, n29, n30, n31, n32, n33⟩ := hn_v
  refine iter_inv (bot := fun _ _ => none) (b := f_X8_atFirst_61 N (nI b)) (fun m r => ∀ j g1, j ≤ 4 → 4 < m + j → AF b g g1 → Fst b g g1 8 j 0 → ∃ g', r (nI j) g1 = some g' ∧ FinA b g g') (fun j _ _ _ => by omega) (fun m r ih j g1 hj hm f l => ?_) N 0 g1 (by omega) (by omega) f1 l1
  unfold f_X8_atFirst_61
  by_cases z : j = 4
  · subst z
    rw [if_pos (show (4 : Int32) ≤ nI 4 by decide)]
    exact first3 hN hb f l
  · have h8 : 4 * b + j < 8 := mul_lt hb (by omega)
    rw [if_neg (show ¬ (4 : Int32) ≤ nI j from nleN (a := 4) (show j < 4 by omega) (by omega))]
    simp only [lt_e, ix4 hb (show j < 4 by omega), grd_p (inb_n h8 (show 8 < 2 ^ 31 by omega)), grd_p (inb_n (show j < 8 by omega) (show 8 < 2 ^ 31 by omega)), clN (show 4 * b + j < 2 ^ 31 by omega), clN (show j < 2 ^ 31 by omega), nI_1]
    have e6 : gA g1 8 0 6 j = gA g 8 0 6 j := by rw [f.2.2.2.1 6 (by omega)]
    have e8 : ∀ v, gA (sA g1 8 0 25 (4 * b + j) v) 8 0 8 j = gA g 8 0 8 j := fun v => by rw [A_at, if_neg (by omega), f.2.2.2.1 8 (by omega)]
    rw [e6, e8]
    refine ih (j + 1) _ (by omega) (by omega) (f.tr (((((AF.w b g1 _ n25 (by omega) (by omega)).tr (AF.w b _ _ n26 (by omega) (by omega))).tr (AF.w b _ _ n27 (by omega) (by omega))).tr (AF.w b _ _ n28 (by omega) (by omega))).tr (AF.w b _ _ n29 (by omega) (by omega)))) ⟨fun i hi => ?_, fun i hi => ?_, fun i hi => absurd hi (Nat.not_lt_zero _)⟩
    · simp only [A_at]
      rw [if_neg (by omega), if_neg (by omega), if_neg (by omega), if_neg (by omega), if_neg (by omega), if_neg (by omega), if_neg (by omega), if_neg (by omega), if_neg (by omega), if_neg (by omega)]; exact l.1 i hi
    · simp only [A_at]
      by_cases w : i = j
      · subst w; simp
      · have hne : ¬ 4 * b + i = 4 * b + j := by omega
        simp [hne, w]
        exact l.2.1 i (by omega)
theorem m_atFirst (hN : 1000 ≤ N) (hb : b < 2) (g : Hp) : ∃ g', f_X8_atFirst N g (nI b) = some g' ∧ FinA b g g' := by
  obtain ⟨n23, n24, n25, n26, n27, n28, n29, n30, n31, n32, n33⟩ := hn_v
  unfold f_X8_atFirst
  refine iter_inv (bot := fun _ _ => none) (b := f_X8_atFirst_2 N (nI b)) (fun m r => ∀ j g1, j ≤ 8 → 8 < m + j → AF b g g1 → Fst b g g1 j 0 0 → ∃ g', r (nI j) g1 = some g' ∧ FinA b g g') (fun j _ _ _ => by omega) (fun m r ih j g1 hj hm f l => ?_) N 0 g (by omega) (by omega) (AF.rf b g) ⟨fun i hi => absurd hi (Nat.not_lt_zero _), fun i hi => absurd hi (Nat.not_lt_zero _), fun i hi => absurd hi (Nat.not_lt_zero _)⟩
  unfold f_X8_atFirst_2
  by_cases z : j = 8
  · subst z
    rw [if_pos (show (8 : Int32) ≤ nI 8 by decide)]
    exact first2 hN hb f l
  · have h16 : 8 * b + j < 16 := mul_lt hb (by omega)
    rw [if_neg (show ¬ (8 : Int32) ≤ nI j from nleN (a := 8) (show j < 8 by omega) (by omega))]
    have e4 : gA g1 8 0 4 j = gA g 8 0 4 j := by rw [f.2.2.2.1 4 (by omega)]
    have e13 : ∀ v, gI (sA g1 8 0 23 (8 * b + j) v) 8 0 13 = gI g 8 0 13 := fun v => f.2.1 13
    simp only [jn_e, lt_e, ix8 hb (show j < 8 by omega), grd_p (inb_n h16 (show 16 < 2 ^ 31 by omega)), grd_p (inb_n (show j < 16 by omega) (show 16 < 2 ^ 31 by omega)), clN (show 8 * b + j < 2 ^ 31 by omega), clN (show j < 2 ^ 31 by omega), nI_1, e4, e13]
    have nx : ∀ v, v = lotV g j → ∃ g', r (nI (j + 1)) (sA (sA g1 8 0 23 (8 * b + j) (gA g 8 0 4 j)) 8 0 24 (8 * b + j) v) = some g' ∧ FinA b g g' := fun v hv => by
      refine ih (j + 1) _ (by omega) (by omega) (f.tr ((AF.w b g1 _ n23 (by omega) (by omega)).tr (AF.w b _ _ n24 (by omega) (by omega)))) ⟨fun i hi => ?_, fun i hi => absurd hi (Nat.not_lt_zero _), fun i hi => absurd hi (Nat.not_lt_zero _)⟩
      simp only [A_at]
      by_cases w : i = j
      · subst w; simp [hv]
      · have hne : ¬ 8 * b + i = 8 * b + j := by omega
        simp [hne, w]
        exact l.1 i (by omega)
    by_cases y : gI g 8 0 13 = 0
    · rw [if_neg (fun q => q y)]
      exact nx (-1) (by unfold lotV; rw [if_pos y])
    · rw [if_pos y, grd_p y]
      exact nx _ (by unfold lotV; rw [if_neg y])
end First
