-- PURE: ways tried by the class
/-- strand o alone changed -/
def Ch (o t : Nat) (T : Txt) (h g : Hp) : Prop := Fr h g ∧ (∀ q S', ¬ q = o → Sd h q t T S' → Sd g q t T S') ∧ ∀ k, gA g 7 0 k = gA h 7 0 k
theorem Ch.tr {o t : Nat} {T : Txt} {h g k : Hp} (a : Ch o t T h g) (b : Ch o t T g k) : Ch o t T h k := ⟨a.1.tr b.1, fun q S' z s => b.2.1 q S' z (a.2.1 q S' z s), fun i => (b.2.2 i).trans (a.2.2 i)⟩
theorem Fo.ch {o t : Nat} {T : Txt} {h g : Hp} (a : Fo o h g) (ho : 3 ≤ o) : Ch o t T h g := ⟨a.fr ho, fun _ _ z s => a.sd z s, fun k => (a.1 7 0 k (by omega)).2⟩
theorem Sd.copyC {h : Hp} {o p t : Nat} {T : Txt} {S : Str} (s : Sd h p t T S) (hp : ¬ p = o) (hz : S.2 16 = 1) (ho : 3 ≤ o) : ∃ g, f_X3_copy h o p = some g ∧ Ch o t T h g ∧ Sd g o t T S := by
  obtain ⟨g, e, f, d, k⟩ := s.copy hp (Or.inr hz) ho
  refine ⟨g, e, ⟨f, fun q S' z => k q z S', fun j => ?_⟩, d⟩
  have hz' : gI h 3 p 16 = 0 ∨ gI h 3 p 16 = 1 := by
    have : gI h 3 p 16 = S.2 16 := s.2.2.2.2.2.2.2 16 (by omega) (by omega)
    rw [this]; exact Or.inr hz
  obtain ⟨S', e', -⟩ := cl_copy h hp s.1 hz'
  rw [e'] at e
  cases e
  exact M3_A _ _ _ _ 7 0 j (by decide)
section Ways
variable {N : Nat} {h : Hp} {t : Nat} {T : Txt} {S I : Str} {X : Xs}
theorem cl_startWays (hN : 1000 ≤ N) (s : Sd h 1 t T S) (hz : S.2 16 = 1) {n l : Nat} (hn : n ≤ 6) : ∃ g, f_X7_startWays N h (nI n) (nI l) = some g ∧ Fr h g ∧ Sd g 3 t T S ∧ Sd g 1 t T S ∧ ∀ k, k < n → gA g 7 0 0 k = nI l := by
  obtain ⟨g1, e1, c1, d1⟩ := s.copyC (o := 3) (by decide) hz (by decide)
  have e1' : f_X3_copy h (3 + (0 : Int32).toNatClampNeg) 1 = some g1 := e1
  unfold f_X7_startWays
  rw [grd_p (show inb 0 7 by decide), lt_e, e1', bind_s]
  refine iter_inv (bot := fun _ _ => none) (b := f_X7_startWays_15 (nI n) (nI l)) (fun m r => ∀ j g, j ≤ n → n < m + j → W7 g1 g → (∀ k, k < j → gA g 7 0 0 k = nI l) → ∃ g', r (nI j) g = some g' ∧ Fr h g' ∧ Sd g' 3 t T S ∧ Sd g' 1 t T S ∧ ∀ k, k < n → gA g' 7 0 0 k = nI l) (fun j _ _ _ => by omega) (fun m r ih j g hj hm w a => ?_) N 0 g1 (by omega) (by omega) (W7.rf g1) (fun k hk => absurd hk (Nat.not_lt_zero _))
  unfold f_X7_startWays_15
  rw [jn_e]
  by_cases z : n = j
  · subst z
    rw [if_pos (leN (Nat.le_refl _) (by omega))]
    exact ⟨g, rfl, c1.1.tr w.fr, w.sd d1, w.sd (c1.2.1 1 S (by decide) s), a⟩
  · rw [if_neg (nleN (show j < n by omega) (show n < 2 ^ 31 by omega)), if_neg (show ¬ (6 : Int32) ≤ nI j from nleN (a := 6) (show j < 6 by omega) (by omega)), grd_p (inb_n (show j < 6 by omega) (show 6 < 2 ^ 31 by omega)), lt_e, lt_e, nI_1, clN (show j < 2 ^ 31 by omega)]
    refine ih (j + 1) _ (by omega) (by omega) (w.tr (W7.a g 0 j _)) (fun k hk => ?_)
    rw [A7_at]
    by_cases y : k = j
    · rw [if_pos ⟨rfl, y⟩]
    · rw [if_neg (fun q => y q.2)]; exact a k (by omega)
/-- what k acts of the way i make -/
def plS (T : Txt) (S : Str) (c n i : Nat) : Nat → Str
  | 0 => S
  | k + 1 => passM T (upA (plS T S c n i k) 5 c (nI (1 + dg 3 n i k)))
theorem plS_s (T : Txt) (S : Str) (c n i k : Nat) : plS T S c n i (k + 1) = passM T (upA (plS T S c n i k) 5 c (nI (1 + dg 3 n i k))) := rfl
theorem plS_cg (T : Txt) (S : Str) (c n : Nat) {i i' : Nat} : ∀ k, (∀ j, j < k → dg 3 n i' j = dg 3 n i j) → plS T S c n i' k = plS T S c n i k
  | 0, _ => rfl
  | k + 1, h => by rw [plS_s, plS_s, plS_cg T S c n k (fun j hj => h j (by omega)), h k (by omega)]
theorem plS_16 (T : Txt) (S : Str) (c n i : Nat) : ∀ k, (plS T S c n i k).2 16 = S.2 16
  | 0 => rfl
  | k + 1 => by rw [plS_s, (passM_same T _).1.2.2.2.2.2.2]; exact plS_16 T S c n i k
theorem act_v (n i k : Nat) : nI (1 + dg 3 n i k) = 0 ∨ nI (1 + dg 3 n i k) = 1 ∨ nI (1 + dg 3 n i k) = 2 ∨ nI (1 + dg 3 n i k) = 3 := by
  have := dg_lt (b := 3) (by omega) n i k
  rcases (show dg 3 n i k = 0 ∨ dg 3 n i k = 1 ∨ dg 3 n i k = 2 by omega) with q | q | q <;> rw [q]
  · exact Or.inr (Or.inl rfl)
  · exact Or.inr (Or.inr (Or.inl rfl))
  · exact Or.inr (Or.inr (Or.inr rfl))
theorem plS_ok (hT : TOK T) (K : SOK T 0 S) (hh : (S.2 11).toInt ≤ 4000000) (c n i : Nat) : ∀ k : Nat, k ≤ 6 → SOK T 0 (plS T S c n i k) ∧ ((plS T S c n i k).2 11).toInt = (S.2 11).toInt + k ∧ ∃ d : Nat, d ≤ 9801 * k ∧ (plS T S c n i k).1 6 c = S.1 6 c + nI d
  | 0, _ => ⟨K, by show (S.2 11).toInt = _; omega, 0, by omega, (nI0_add _).symm⟩
  | k + 1, hk => by
    obtain ⟨a, b, d, d1, d2⟩ := plS_ok hT K hh c n i k (by omega)
    have a' := a.act0 (j := c) (act_v n i k)
    have h0 := K.2.2.2.1
    have z1 : (1 : Int32).toInt = 1 := rfl
    obtain ⟨e, e1, e2⟩ := passM_gain a' hT c
    rw [plS_s]
    refine ⟨a'.pass hT (by rw [upA_i]; omega), ?_, d + e, by omega, ?_⟩
    · rw [(passM_same T _).2.1, upA_i, add_toInt (by omega), b]
      omega
    · rw [e2, upA_n _ _ _ (show (6 : Nat) ≠ 5 by decide), d2, Int32.add_assoc, nI_add]
/-- the best so far: how much more, which way -/
def plB (T : Txt) (S : Str) (c n : Nat) : Nat → Int32 × Nat
  | 0 => (-1, 0)
  | i + 1 => if (plB T S c n i).1 < (plS T S c n i n).1 6 c - S.1 6 c then ((plS T S c n i n).1 6 c - S.1 6 c, i) else plB T S c n i
theorem plB_s (T : Txt) (S : Str) (c n i : Nat) : plB T S c n (i + 1) = if (plB T S c n i).1 < (plS T S c n i n).1 6 c - S.1 6 c then ((plS T S c n i n).1 6 c - S.1 6 c, i) else plB T S c n i := rfl
theorem pl_more (hT : TOK T) (K : SOK T 0 S) (hh : (S.2 11).toInt ≤ 4000000) (c n i : Nat) (hn : n ≤ 6) : 0 ≤ (plS T S c n i n).1 6 c - S.1 6 c := by
  obtain ⟨-, -, d, d1, d2⟩ := plS_ok hT K hh c n i n hn
  rw [d2, Int32.add_comm, Int32.add_sub_cancel]
  exact leN (a := 0) (by omega) (by omega)
end Ways

