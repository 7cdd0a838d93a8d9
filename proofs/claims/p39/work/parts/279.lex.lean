-- PURE: numbers and signs read, by both
def isL (b : Int32) : Bool := decide (97 ≤ b ∧ b ≤ 122)
def isD (b : Int32) : Bool := decide (48 ≤ b ∧ b ≤ 57)
/-- where a run ends -/
def rnE (P : Int32 → Bool) (f : Nat → Int32) : Nat → Nat → Nat
  | 0, p => p
  | k + 1, p => if P (f p) = true then rnE P f k (p + 1) else p
theorem rnE_s (P : Int32 → Bool) (f : Nat → Int32) (k p : Nat) : rnE P f (k + 1) p = if P (f p) = true then rnE P f k (p + 1) else p := rfl
theorem rnE_le (P : Int32 → Bool) (f : Nat → Int32) : ∀ k p, p ≤ rnE P f k p ∧ rnE P f k p ≤ p + k
  | 0, p => ⟨Nat.le_refl p, Nat.le_refl p⟩
  | k + 1, p => by
    rw [rnE_s]
    by_cases z : P (f p) = true
    · rw [if_pos z]
      have := rnE_le P f k (p + 1)
      omega
    · rw [if_neg z]; omega
theorem rnE_cg (P : Int32 → Bool) {f f' : Nat → Int32} : ∀ k p, (∀ i, p ≤ i → i < p + k → f i = f' i) → rnE P f k p = rnE P f' k p
  | 0, _, _ => rfl
  | k + 1, p, h => by rw [rnE_s, rnE_s, h p (by omega) (by omega), rnE_cg P k (p + 1) (fun i h1 h2 => h i (by omega) (by omega))]
/-- the numbers that a run of digits makes: by the class, by the reference -/
def cnV (f : Nat → Int32) : Nat → Nat → Int32 → Int32
  | 0, _, v => v
  | k + 1, p, v => if isD (f p) = true then cnV f k (p + 1) (if 1000000 < (v * 10 + f p) - 48 then 1000000 else (v * 10 + f p) - 48) else v
def mnV (f : Nat → Int32) : Nat → Nat → Int32 → Int32
  | 0, _, v => v
  | k + 1, p, v => if isD (f p) = true then mnV f k (p + 1) (if v ≤ 99999 then (10 * v + f p) - 48 else v) else v
theorem cnV_s (f : Nat → Int32) (k p : Nat) (v : Int32) : cnV f (k + 1) p v = if isD (f p) = true then cnV f k (p + 1) (if 1000000 < (v * 10 + f p) - 48 then 1000000 else (v * 10 + f p) - 48) else v := rfl
theorem mnV_s (f : Nat → Int32) (k p : Nat) (v : Int32) : mnV f (k + 1) p v = if isD (f p) = true then mnV f k (p + 1) (if v ≤ 99999 then (10 * v + f p) - 48 else v) else v := rfl
/-- the same number, or both too large for any text -/
def NR (c m : Int32) : Prop := (∃ v : Nat, v ≤ 99999 ∧ c = nI v ∧ m = nI v) ∨ ∃ v w : Nat, 99999 < v ∧ v ≤ 1000000 ∧ 99999 < w ∧ w ≤ 999999 ∧ c = nI v ∧ m = nI w
theorem isD_of {b : Int32} (h : isD b = true) : ∃ d : Nat, d ≤ 9 ∧ b = nI (48 + d) := by
  obtain ⟨h1, h2⟩ := of_decide_eq_true h
  obtain ⟨k, hk, rfl⟩ := rngN (a := b) (m := 57) (by omega) (Int32.le_trans (by decide) h1) h2
  have : 48 ≤ k := by
    refine Decidable.byContradiction fun w => ?_
    exact nleN (a := 48) (show k < 48 by omega) (by omega) h1
  exact ⟨k - 48, by omega, by congr 1; omega⟩
theorem dig_c {v d : Nat} : (nI v * 10 + nI (48 + d)) - 48 = nI (v * 10 + d) := by
  rw [show (10 : Int32) = nI 10 from rfl, show (48 : Int32) = nI 48 from rfl, nI_mulN, nI_add, nI_sub (by omega)]
  congr 1
  omega
theorem dig_m {v d : Nat} : (10 * nI v + nI (48 + d)) - 48 = nI (v * 10 + d) := by
  rw [show (10 : Int32) = nI 10 from rfl, show (48 : Int32) = nI 48 from rfl, nI_mulN, nI_add, nI_sub (by omega)]
  congr 1
  omega
theorem num_same (f : Nat → Int32) : ∀ k p c m, NR c m → NR (cnV f k p c) (mnV f k p m)
  | 0, _, _, _, h => h
  | k + 1, p, c, m, h => by
    rw [cnV_s, mnV_s]
    by_cases z : isD (f p) = true
    · rw [if_pos z, if_pos z]
      obtain ⟨d, hd, e⟩ := isD_of z
      refine num_same f k (p + 1) _ _ ?_
      rw [e]
      rcases h with ⟨v, hv, rfl, rfl⟩ | ⟨v, w, h1, h2, h3, h4, rfl, rfl⟩
      · rw [dig_c, dig_m, if_pos (show nI v ≤ 99999 from leN (b := 99999) hv (by omega)), if_neg (show ¬ 1000000 < nI (v * 10 + d) from Int32.not_lt.mpr (leN (b := 1000000) (by omega) (by omega)))]
        by_cases y : v * 10 + d ≤ 99999
        · exact Or.inl ⟨_, y, rfl, rfl⟩
        · exact Or.inr ⟨_, _, by omega, by omega, by omega, by omega, rfl, rfl⟩
      · rw [dig_c, if_neg (show ¬ nI w ≤ 99999 from nleN (b := 99999) h3 (by omega))]
        refine Or.inr ⟨if 1000000 < v * 10 + d then 1000000 else v * 10 + d, w, ?_, ?_, h3, h4, ?_, rfl⟩
        · by_cases y : 1000000 < v * 10 + d
          · rw [if_pos y]; omega
          · rw [if_neg y]; omega
        · by_cases y : 1000000 < v * 10 + d
          · rw [if_pos y]; omega
          · rw [if_neg y]; omega
        · by_cases y : 1000000 < v * 10 + d
          · rw [if_pos y, if_pos (show 1000000 < nI (v * 10 + d) from Int32.not_le.mp (nleN (b := 1000000) y (by omega)))]; rfl
          · rw [if_neg y, if_neg (show ¬ 1000000 < nI (v * 10 + d) from Int32.not_lt.mpr (leN (b := 1000000) (by omega) (by omega)))]
    · rw [if_neg z, if_neg z]; exact h
/-- nothing changed but the tokens' numbers -/
def T4 (h g : Hp) : Prop := Nx h g ∧ K8 h g ∧ (∀ c o k, ¬ (c = 4 ∧ o = 0 ∧ 4 ≤ k ∧ k ≤ 8) → gI g c o k = gI h c o k) ∧ ∀ c o k, gA g c o k = gA h c o k
theorem T4.rf (h : Hp) : T4 h h := ⟨⟨fun _ _ => ⟨rfl, rfl⟩, fun _ _ => ⟨rfl, rfl⟩, fun _ _ => rfl, fun _ _ _ _ => rfl⟩, K8.rf h, fun _ _ _ _ => rfl, fun _ _ _ => rfl⟩
theorem T4.tr {h g k : Hp} (a : T4 h g) (b : T4 g k) : T4 h k := ⟨a.1.tr b.1, a.2.1.tr b.2.1, fun c o i q => (b.2.2.1 c o i q).trans (a.2.2.1 c o i q), fun c o i => (b.2.2.2 c o i).trans (a.2.2.2 c o i)⟩
theorem T4.i (h : Hp) (k : Nat) (v : Int32) (hk : 4 ≤ k ∧ k ≤ 8) : T4 h (sI h 4 0 k v) := ⟨Nx.i h 4 0 k v (by decide), K8.i h 4 0 k v (by decide), fun c o j q => if_neg (fun z => q ⟨z.1, z.2.1, by omega, by omega⟩), fun _ _ _ => rfl⟩
/-- nothing changed but the reference's token -/
def U8 (g g' : Hp) : Prop := K7 g g' ∧ (∀ k, (k < 7 ∨ 10 < k) → gI g' 8 0 k = gI g 8 0 k) ∧ (∀ k, gL g' 8 0 k = gL g 8 0 k) ∧ ∀ k, gA g' 8 0 k = gA g 8 0 k
theorem U8.rf (g : Hp) : U8 g g := ⟨K7.rf g, fun _ _ => rfl, fun _ => rfl, fun _ => rfl⟩
theorem U8.tr {g g' g'' : Hp} (x : U8 g g') (y : U8 g' g'') : U8 g g'' := ⟨x.1.tr y.1, fun k q => (y.2.1 k q).trans (x.2.1 k q), fun k => (y.2.2.1 k).trans (x.2.2.1 k), fun k => (y.2.2.2 k).trans (x.2.2.2 k)⟩
theorem U8.i (g : Hp) (k : Nat) (v : Int32) (hk : 7 ≤ k ∧ k ≤ 10) : U8 g (sI g 8 0 k v) := ⟨K7.i g k v, fun j hj => by rw [I_at, if_neg (by omega)], fun _ => rfl, fun _ => rfl⟩
theorem cl_isLetter (b : Int32) : f_X4_isLetter b = some (isL b) := by
  unfold f_X4_isLetter isL
  simp only [jn_e]
  by_cases z : b < 97
  · rw [if_pos z, decide_eq_false (fun q => absurd q.1 (Int32.not_le.mpr z))]
  rw [if_neg z]
  by_cases w : 122 < b
  · rw [if_pos w, decide_eq_false (fun q => absurd q.2 (Int32.not_le.mpr w))]
  · rw [if_neg w, decide_eq_true ⟨Int32.not_lt.mp z, Int32.not_lt.mp w⟩]
theorem cl_isDigit (b : Int32) : f_X4_isDigit b = some (isD b) := by
  unfold f_X4_isDigit isD
  simp only [jn_e]
  by_cases z : b < 48
  · rw [if_pos z, decide_eq_false (fun q => absurd q.1 (Int32.not_le.mpr z))]
  rw [if_neg z]
  by_cases w : 57 < b
  · rw [if_pos w, decide_eq_false (fun q => absurd q.2 (Int32.not_le.mpr w))]
  · rw [if_neg w, decide_eq_true ⟨Int32.not_lt.mp z, Int32.not_lt.mp w⟩]
section Lex
variable {N : Nat} {h g : Hp} {n : Nat}
theorem m_isSmall (en : gI g 8 0 6 = nI n) (hn : n ≤ 700) {p : Nat} (hp : p ≤ 700) : f_X8_isSmall g (nI p) = some (decide (p < n) && isL (gA g 8 0 0 p)) := by
  unfold f_X8_isSmall isL
  simp only [jn_e, en]
  by_cases z : n ≤ p
  · rw [if_pos (leN z (by omega)), decide_eq_false (by omega)]; rfl
  rw [if_neg (nleN (show p < n by omega) (by omega)), grd_p (inb_n (show p < 700 by omega) (by omega)), grd_p (inb_n (show p < 700 by omega) (by omega)), decide_eq_true (show p < n by omega), Bool.true_and]
  simp only [clN (show p < 2 ^ 31 by omega)]
  by_cases y : gA g 8 0 0 p < 97
  · rw [if_pos y, decide_eq_false (fun q => absurd q.1 (Int32.not_le.mpr y))]
  rw [if_neg y]
  by_cases w : 122 < gA g 8 0 0 p
  · rw [if_pos w, decide_eq_false (fun q => absurd q.2 (Int32.not_le.mpr w))]
  · rw [if_neg w, decide_eq_true ⟨Int32.not_lt.mp y, Int32.not_lt.mp w⟩]
theorem m_isDigit (en : gI g 8 0 6 = nI n) (hn : n ≤ 700) {p : Nat} (hp : p ≤ 700) : f_X8_isDigit g (nI p) = some (decide (p < n) && isD (gA g 8 0 0 p)) := by
  unfold f_X8_isDigit isD
  simp only [jn_e, en]
  by_cases z : n ≤ p
  · rw [if_pos (leN z (by omega)), decide_eq_false (by omega)]; rfl
  rw [if_neg (nleN (show p < n by omega) (by omega)), grd_p (inb_n (show p < 700 by omega) (by omega)), grd_p (inb_n (show p < 700 by omega) (by omega)), decide_eq_true (show p < n by omega), Bool.true_and]
  simp only [clN (show p < 2 ^ 31 by omega)]
  by_cases y : gA g 8 0 0 p < 48
  · rw [if_pos y, decide_eq_false (fun q => absurd q.1 (Int32.not_le.mpr y))]
  rw [if_neg y]
  by_cases w : 57 < gA g 8 0 0 p
  · rw [if_pos w, decide_eq_false (fun q => absurd q.2 (Int32.not_le.mpr w))]
  · rw [if_neg w, decide_eq_true ⟨Int32.not_lt.mp y, Int32.not_lt.mp w⟩]
theorem cl_readNumber (hN : 1000 ≤ N) (e3 : gI h 4 0 3 = nI n) (hn : n ≤ 700) {p : Nat} (e4 : gI h 4 0 4 = nI p) (hp : p ≤ n) : ∃ g, f_X4_readNumber N h = some g ∧ T4 h g ∧ gI g 4 0 4 = nI (rnE isD (gA h 4 0 0) (n - p) p) ∧ gI g 4 0 5 = gI h 4 0 5 ∧ gI g 4 0 6 = 2 ∧ gI g 4 0 7 = cnV (gA h 4 0 0) (n - p) p 0 := by
  unfold f_X4_readNumber
  rw [lt_e]
  refine iter_inv (bot := fun _ => none) (b := f_X4_readNumber_5) (fun m r => ∀ k q g, q + k = n → k < m → T4 h g → gI g 4 0 4 = nI q → gI g 4 0 5 = gI h 4 0 5 → rnE isD (gA h 4 0 0) k q = rnE isD (gA h 4 0 0) (n - p) p → cnV (gA h 4 0 0) k q (gI g 4 0 7) = cnV (gA h 4 0 0) (n - p) p 0 → ∃ g', r g = some g' ∧ T4 h g' ∧ gI g' 4 0 4 = nI (rnE isD (gA h 4 0 0) (n - p) p) ∧ gI g' 4 0 5 = gI h 4 0 5 ∧ gI g' 4 0 6 = 2 ∧ gI g' 4 0 7 = cnV (gA h 4 0 0) (n - p) p 0) (fun k _ _ _ hk => absurd hk (Nat.not_lt_zero _)) (fun m r ih k q g hq hk f e4 e5 er ec => ?_) N (n - p) p _ (by omega) (by omega) (T4.i h 7 0 (by omega)) ?_ ?_ rfl ?_
  · have f3 : gI g 4 0 3 = nI n := (f.2.2.1 4 0 3 (by omega)).trans e3
    have fa : gA g 4 0 0 = gA h 4 0 0 := f.2.2.2 4 0 0
    -- the end
    have fin : rnE isD (gA h 4 0 0) (n - p) p = q → cnV (gA h 4 0 0) (n - p) p 0 = gI g 4 0 7 → ∃ g', some (sI g 4 0 6 2) = some g' ∧ T4 h g' ∧ gI g' 4 0 4 = nI (rnE isD (gA h 4 0 0) (n - p) p) ∧ gI g' 4 0 5 = gI h 4 0 5 ∧ gI g' 4 0 6 = 2 ∧ gI g' 4 0 7 = cnV (gA h 4 0 0) (n - p) p 0 := fun a b => by
      refine ⟨_, rfl, f.tr (T4.i g 6 2 (by omega)), ?_, ?_, ?_, ?_⟩
      · rw [I4_at, if_neg (by decide), e4, a]
      · rw [I4_at, if_neg (by decide), e5]
      · rw [I4_at, if_pos rfl]
      · rw [I4_at, if_neg (by decide), b]
    unfold f_X4_readNumber_5
    rw [jn_e, f3, e4, fa]
    cases k with
    | zero =>
      rw [if_pos (leN (by omega) (by omega))]
      exact fin er.symm ec.symm
    | succ k =>
      rw [rnE_s] at er
      rw [cnV_s] at ec
      rw [if_neg (nleN (show q < n by omega) (by omega)), grd_p (inb_n (show q < 700 by omega) (by omega)), grd_p (inb_n (show q < 700 by omega) (by omega))]
      simp only [clN (show q < 2 ^ 31 by omega), cl_isDigit, bind_s, lt_e]
      cases hd : isD (gA h 4 0 0 q) with
      | false =>
        rw [hd, if_neg (fun q => Bool.noConfusion q)] at er ec
        rw [if_pos (show b2i false = 0 from rfl)]
        exact fin er.symm ec.symm
      | true =>
        rw [hd, if_pos rfl] at er ec
        rw [if_neg (show ¬ b2i true = 0 by decide), I4_at, if_neg (show ¬ 4 = 7 by decide), e4, nI_1]
        refine ih k (q + 1) _ (by omega) (by omega) (f.tr ((T4.i g 7 _ (by omega)).tr (T4.i _ 4 _ (by omega)))) ?_ ?_ er ?_
        · rw [I4_at, if_pos rfl]
        · rw [I4_at, if_neg (by decide), I4_at, if_neg (by decide), e5]
        · rw [I4_at, if_neg (by decide), I4_at, if_pos rfl]
          exact ec
  · rw [I4_at, if_neg (by decide), e4]
  · rw [I4_at, if_neg (by decide)]
  · rw [I4_at, if_pos rfl]
end Lex

