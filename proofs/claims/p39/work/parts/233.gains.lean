-- PURE: what an hour adds to gains
theorem nI0_add (x : Int32) : x + nI 0 = x := Int32.add_zero x
theorem nI_mulN (a b : Nat) : nI a * nI b = nI (a * b) := (Int32.ofNat_mul a b).symm
section Gains
variable {T : Txt} {n : Nat} {S : Str}
theorem lessM_6 (S : Str) (w v : Int32) : (lessM S w v).1 6 = S.1 6 := by
  unfold lessM
  by_cases z : w = -3
  · rw [if_pos z]; rfl
  · rw [if_neg z, upA_n _ _ _ (show (6 : Nat) ≠ 0 by decide)]
theorem cartM_gain (K : SOK T n S) (hT : TOK T) (c : Nat) : ∃ d : Nat, d ≤ 9801 ∧ ∀ q, (cartM T S c).1 6 q = if q = c then S.1 6 q + nI d else S.1 6 q := by
  have no : ∃ d : Nat, d ≤ 9801 ∧ ∀ q, S.1 6 q = if q = c then S.1 6 q + nI d else S.1 6 q := ⟨0, by omega, fun q => by
    by_cases z : q = c
    · rw [if_pos z, nI0_add]
    · rw [if_neg z]⟩
  unfold cartM
  by_cases z : srcM T S (nI c) false = -2
  · rw [if_pos z]; exact no
  rw [if_neg z]
  by_cases w : (bfM T S (nI c) (nFi T)).1 = -1
  · rw [if_pos w]; exact no
  rw [if_neg w]
  have hw : (srcM T S (nI c) false = -3 ∧ 0 ≤ (S.2 12).toInt) ∨ ∃ j, j < nSt T ∧ srcM T S (nI c) false = nI j := by
    rcases srcM_rng T S (nI c) false with q | ⟨-, q⟩ | q
    · exact absurd q z
    · exact Or.inl ⟨q, K.2.2.2.2.2.2.1.1⟩
    · exact Or.inr q
  obtain ⟨l0, l1, -, -⟩ := K.load (c := c) hw hT.1.2
  rcases bfM_val T S (nI c) (nFi T) with q | ⟨j, -, -, q2⟩
  · exact absurd q.1 w
  obtain ⟨k, hk, ek⟩ := worM_nn T S j
  obtain ⟨l, el, hl⟩ := eq_nI l0
  refine ⟨k * l, ?_, fun q => ?_⟩
  · have hl99 : l ≤ 99 := by omega
    have := Nat.mul_le_mul hk hl99
    omega
  · unfold gotM
    rw [upA_at, upA_n _ _ _ (show (6 : Nat) ≠ 9 by decide), lessM_6, q2, ek, el, nI_mulN]
    by_cases y : q = c
    · rw [if_pos y, if_pos y, y]
    · rw [if_neg y, if_neg y]
theorem forkM_6 (T : Txt) (S : Str) (c : Nat) : (forkM T S c).1 6 = S.1 6 := by
  unfold forkM
  by_cases z : 0 ≤ srcM T S (nI c) true
  · rw [if_pos z]
    unfold forkS
    rw [upA_n _ _ _ (show (6 : Nat) ≠ 7 by decide), upI_a, upA_n _ _ _ (show (6 : Nat) ≠ 0 by decide)]
  · rw [if_neg z]
theorem actM_gain (K : SOK T n S) (hT : TOK T) (c : Nat) : ∃ d : Nat, d ≤ 9801 ∧ ∀ q, (actM T S c).1 6 q = if q = c then S.1 6 q + nI d else S.1 6 q := by
  have no : ∃ d : Nat, d ≤ 9801 ∧ ∀ q, S.1 6 q = if q = c then S.1 6 q + nI d else S.1 6 q := ⟨0, by omega, fun q => by
    by_cases z : q = c
    · rw [if_pos z, nI0_add]
    · rw [if_neg z]⟩
  unfold actM
  by_cases z : doesM T S c = 1
  · rw [if_pos z]; exact cartM_gain K hT c
  rw [if_neg z]
  by_cases w : doesM T S c = 2
  · rw [if_pos w, forkM_6]; exact no
  · rw [if_neg w]; exact no
theorem crM_gain (K : SOK T 0 S) (hT : TOK T) : ∀ c, c ≤ 4 → ∀ q, ∃ d : Nat, d ≤ 9801 ∧ (c ≤ q → d = 0) ∧ (crM T S c).1 6 q = S.1 6 q + nI d
  | 0, _, q => ⟨0, by omega, fun _ => rfl, (nI0_add _).symm⟩
  | c + 1, hc, q => by
    obtain ⟨d, h1, h2, h3⟩ := crM_gain K hT c (by omega) q
    rw [crM_s]
    by_cases z : (crM T S c).2 11 < (crM T S c).1 4 c
    · rw [if_pos z]; exact ⟨d, h1, fun y => h2 (by omega), h3⟩
    · rw [if_neg z]
      obtain ⟨e, e1, e2⟩ := actM_gain (K.crofts hT c (by omega)) hT c
      rw [e2 q, h3]
      by_cases y : q = c
      · rw [if_pos y]
        have : d = 0 := h2 (by omega)
        rw [this, nI0_add]
        exact ⟨e, e1, fun y => by omega, rfl⟩
      · rw [if_neg y]
        exact ⟨d, h1, fun y => h2 (by omega), rfl⟩
theorem ebM_6 (T : Txt) (S : Str) : ∀ j, (ebM T S j).1 6 = S.1 6
  | 0 => rfl
  | j + 1 => by rw [ebM_s, upI_a, upA_n _ _ _ (show (6 : Nat) ≠ 0 by decide), ebM_6 T S j]
theorem tdM_6 (T : Txt) (S : Str) : (tdM T S).1 6 = S.1 6 := by
  unfold tdM
  by_cases z : ¬ S.2 16 = 0 ∧ tideM T (hrM S) = true
  · rw [if_pos z, ebM_6]
  · rw [if_neg z]
theorem passM_gain (K : SOK T 0 S) (hT : TOK T) (q : Nat) : ∃ d : Nat, d ≤ 9801 ∧ (passM T S).1 6 q = S.1 6 q + nI d := by
  obtain ⟨d, h1, -, h3⟩ := crM_gain K hT (nCr T) hT.2.1.2 q
  refine ⟨d, h1, ?_⟩
  unfold passM
  rw [upI_a, tdM_6, h3]
/-- gains are bounded by the hours -/
def GOK (T : Txt) (S : Str) : Prop := ∀ c, c < nCr T → 0 ≤ (S.1 6 c).toInt ∧ (S.1 6 c).toInt ≤ 9801 * (S.2 11).toInt
theorem GOK.pass (G : GOK T S) (K : SOK T 0 S) (hT : TOK T) (hh : (S.2 11).toInt ≤ 200000) : GOK T (passM T S) := by
  intro c hc
  obtain ⟨d, d1, d2⟩ := passM_gain K hT c
  have h0 := K.2.2.2.1
  have z1 : (1 : Int32).toInt = 1 := rfl
  obtain ⟨g0, g1⟩ := G c hc
  have hd : (nI d).toInt = d := nI_toInt (by omega)
  rw [(passM_same T S).2.1, d2, add_toInt (by omega), add_toInt (by omega), hd]
  omega
end Gains

