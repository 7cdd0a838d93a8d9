-- PURE: numbers and signs read, by both
def isL (b : Int32) : Bool := decide (97 ≤ b ∧ b ≤ 122)
def isD (b : Int32) : Bool := decide (48 ≤ b ∧ b ≤ 57)
/-- where a run ends -/
def rnE (P : Int32 → Bool) (f : Nat → Int32) : Nat → Nat → Nat
  | 0, p => p
  | k + 1, p => if P (f p) = true then rnE P f k (p + 1) else p
theorem rnE_s (P : Int32 → Bool) (f : Nat → Int32) (k p : Nat) : rnE P f (k + 1) p = if P (f p) = true then rnE P f k (p + 1) else p := rfl
theorem rnE_le (P : Int32 → Bool) (f : Nat → Int32) : ∀ k p, p ≤ rnE P f k p ∧ rnE P f k p ≤ p + k
  | 0, p => ⟨Nat.le_refl p, Nat.le_refl p⟩
  | k + 1, p => by
    rw [rnE_s]
    by_cases z : P (f p) = true
    · rw [if_pos z]
      have := rnE_le P f k (p + 1)
      omega
    · rw [if_neg z]; omega
/-- the numbers that a run of digits makes: by the class, by the reference -/
def cnV (f : Nat → Int32) : Nat → Nat → Int32 → Int32
  | 0, _, v => v
  | k + 1, p, v => if isD (f p) = true then cnV f k (p + 1) (if 1000000 < (v * 10 + f p) - 48 then 1000000 else (v * 10 + f p) - 48) else v
theorem cnV_s (f : Nat → Int32) (k p : Nat) (v : Int32) : cnV f (k + 1) p v = if isD (f p) = true then cnV f k (p + 1) (if 1000000 < (v * 10 + f p) - 48 then 1000000 else (v * 10 + f p) - 48) else v := rfl
/-- nothing changed but the tokens' numbers -/
def T4 (h g : Hp) : Prop := Nx h g ∧ K8 h g ∧ (∀ c o k, ¬ (c = 4 ∧ o = 0 ∧ 4 ≤ k ∧ k ≤ 8) → gI g c o k = gI h c o k) ∧ ∀ c o k, gA g c o k = gA h c o k
theorem T4.rf (h : Hp) : T4 h h := ⟨⟨fun _ _ => ⟨rfl, rfl⟩, fun _ _ => ⟨rfl, rfl⟩, fun _ _ => rfl, fun _ _ _ _ => rfl⟩, K8.rf h, fun _ _ _ _ => rfl, fun _ _ _ => rfl⟩
theorem T4.tr {h g k : Hp} (a : T4 h g) (b : T4 g k) : T4 h k := ⟨a.1.tr b.1, a.2.1.tr b.2.1, fun c o i q => (b.2.2.1 c o i q).trans (a.2.2.1 c o i q), fun c o i => (b.2.2.2 c o i).trans (a.2.2.2 c o i)⟩
theorem T4.i (h : Hp) (k : Nat) (v : Int32) (hk : 4 ≤ k ∧ k ≤ 8) : T4 h (sI h 4 0 k v) := ⟨Nx.i h 4 0 k v (by decide), K8.i h 4 0 k v (by decide), fun c o j q => if_neg (fun z => q ⟨z.1, z.2.1, by omega, by omega⟩), fun _ _ _ => rfl⟩
theorem cl_isLetter (b : Int32) : f_X4_isLetter b = some (isL b) := by
  unfold f_X4_isLetter isL
  simp only [jn_e]
  by_cases z : b < 97
  · rw [if_pos z, decide_eq_false (fun q => absurd q.1 (Int32.not_le.mpr z))]
  rw [if_neg z]
  by_cases w : 122 < b
  · rw [if_pos w, decide_eq_false (fun q => absurd q.2 (Int32.not_le.mpr w))]
  · rw [if_neg w, decide_eq_true ⟨Int32.not_lt.mp z, Int32.not_lt.mp w⟩]
theorem cl_isDigit (b : Int32) : f_X4_isDigit b = some (isD b) := by
  unfold f_X4_isDigit isD
  simp only [jn_e]
  by_cases z : b < 48
  · rw [if_pos z, decide_eq_false (fun q => absurd q.1 (Int32.not_le.mpr z))]
  rw [if_neg z]
  by_cases w : 57 < b
  · rw [if_pos w, decide_eq_false (fun q => absurd q.2 (Int32.not_le.mpr w))]
  · rw [if_neg w, decide_eq_true ⟨Int32.not_lt.mp z, Int32.not_lt.mp w⟩]
section Lex
variable {N : Nat} {h g : Hp} {n : Nat}
theorem cl_readNumber (hN : 1000 ≤ N) (e3 : gI h 4 0 3 = nI n) (hn : n ≤ 700) {p : Nat} (e4 : gI h 4 0 4 = nI p) (hp : p ≤ n) : ∃ g, f_X4_readNumber N h = some g ∧ T4 h g ∧ gI g 4 0 4 = nI (rnE isD (gA h 4 0 0) (n - p) p) ∧ gI g 4 0 5 = gI h 4 0 5 ∧ gI g 4 0 6 = 2 ∧ gI g 4 0 7 = cnV (gA h 4 0 0) (n - p) p 0 := by
  unfold f_X4_readNumber
  rw [lt_e]
  refine iter_inv (bot := fun _ => none) (b := f_X4_readNumber_5) (fun m r => ∀ k q g, q + k = n → k < m → T4 h g → gI g 4 0 4 = nI q → gI g 4 0 5 = gI h 4 0 5 → rnE isD (gA h 4 0 0) k q = rnE isD (gA h 4 0 0) (n - p) p → cnV (gA h 4 0 0) k q (gI g 4 0 7) = cnV (gA h 4 0 0) (n - p) p 0 → ∃ g', r g = some g' ∧ T4 h g' ∧ gI g' 4 0 4 = nI (rnE isD (gA h 4 0 0) (n - p) p) ∧ gI g' 4 0 5 = gI h 4 0 5 ∧ gI g' 4 0 6 = 2 ∧ gI g' 4 0 7 = cnV (gA h 4 0 0) (n - p) p 0) (fun k _ _ _ hk => absurd hk (Nat.not_lt_zero _)) (fun m r ih k q g hq hk f e4 e5 er ec => ?_) N (n - p) p _ (by omega) (by omega) (T4.i h 7 0 (by omega)) ?_ ?_ rfl ?_
  · have f3 : gI g 4 0 3 = nI n := (f.2.2.1 4 0 3 (by omega)).trans e3
    have fa : gA g 4 0 0 = gA h 4 0 0 := f.2.2.2 4 0 0
    -- the end
    have fin : rnE isD (gA h 4 0 0) (n - p) p = q → cnV (gA h 4 0 0) (n - p) p 0 = gI g 4 0 7 → ∃ g', some (sI g 4 0 6 2) = some g' ∧ T4 h g' ∧ gI g' 4 0 4 = nI (rnE isD (gA h 4 0 0) (n - p) p) ∧ gI g' 4 0 5 = gI h 4 0 5 ∧ gI g' 4 0 6 = 2 ∧ gI g' 4 0 7 = cnV (gA h 4 0 0) (n - p) p 0 := fun a b => by
      refine ⟨_, rfl, f.tr (T4.i g 6 2 (by omega)), ?_, ?_, ?_, ?_⟩
      · rw [I4_at, if_neg (by decide), e4, a]
      · rw [I4_at, if_neg (by decide), e5]
      · rw [I4_at, if_pos rfl]
      · rw [I4_at, if_neg (by decide), b]
    unfold f_X4_readNumber_5
    rw [jn_e, f3, e4, fa]
    cases k with
    | zero =>
      rw [if_pos (leN (by omega) (by omega))]
      exact fin er.symm ec.symm
    | succ k =>
      rw [rnE_s] at er
      rw [cnV_s] at ec
      rw [if_neg (nleN (show q < n by omega) (by omega)), grd_p (inb_n (show q < 700 by omega) (by omega)), grd_p (inb_n (show q < 700 by omega) (by omega))]
      simp only [clN (show q < 2 ^ 31 by omega), cl_isDigit, bind_s, lt_e]
      cases hd : isD (gA h 4 0 0 q) with
      | false =>
        rw [hd, if_neg (fun q => Bool.noConfusion q)] at er ec
        rw [if_pos (show b2i false = 0 from rfl)]
        exact fin er.symm ec.symm
      | true =>
        rw [hd, if_pos rfl] at er ec
        rw [if_neg (show ¬ b2i true = 0 by decide), I4_at, if_neg (show ¬ 4 = 7 by decide), e4, nI_1]
        refine ih k (q + 1) _ (by omega) (by omega) (f.tr ((T4.i g 7 _ (by omega)).tr (T4.i _ 4 _ (by omega)))) ?_ ?_ er ?_
        · rw [I4_at, if_pos rfl]
        · rw [I4_at, if_neg (by decide), I4_at, if_neg (by decide), e5]
        · rw [I4_at, if_neg (by decide), I4_at, if_pos rfl]
          exact ec
  · rw [I4_at, if_neg (by decide), e4]
  · rw [I4_at, if_neg (by decide)]
  · rw [I4_at, if_pos rfl]
end Lex

