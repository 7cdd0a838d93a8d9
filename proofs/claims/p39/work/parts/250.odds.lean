-- PURE: odds
theorem nI_z {b : Nat} (hb : b < 2 ^ 31) : (nI b = 0) ↔ b = 0 := ⟨fun q => nI_inj (j := 0) hb (by omega) q, fun q => by rw [q]; rfl⟩
theorem eu_half {b r : Nat} (hr : 0 < r) (h : r < b) : 2 * (b % r) < b := by
  have a := Nat.div_add_mod b r
  have c := Nat.mod_lt b hr
  have d : 1 ≤ b / r := (Nat.le_div_iff_mul_le hr).mpr (by omega)
  have e : r * 1 ≤ r * (b / r) := Nat.mul_le_mul (Nat.le_refl r) d
  omega
theorem gcd_st (a b : Nat) : Nat.gcd b (a % b) = Nat.gcd a b := by
  rw [Nat.gcd_comm a b, Nat.gcd_rec b a, Nat.gcd_comm]
theorem cg_s (r : Int32 → Int32 → Int32 → Option Int32) (v1 v2 v3 : Int32) : f_X7_commonDivisor_7 r v1 v2 v3 = (if 64 ≤ v3 then some v1 else if v2 = 0 then some v1 else grd (¬ v2 = 0) (r v2 (v1 - v1 / v2 * v2) (v3 + 1))) := by
  unfold f_X7_commonDivisor_7
  simp only [jn_e, lt_e]
theorem cl_gcd : ∀ (j m a b i : Nat), a < 2 ^ 31 → b < 2 ^ 31 → b < 2 ^ j → i + 2 * j < 64 → 2 * j < m → iter (fun _ _ _ => none) f_X7_commonDivisor_7 m (nI a) (nI b) (nI i) = some (nI (Nat.gcd a b)) := by
  intro j
  induction j with
  | zero =>
    intro m a b i ha hb hj hi hm
    obtain ⟨m, rfl⟩ : ∃ m', m = m' + 1 := ⟨m - 1, by omega⟩
    have hb0 : b = 0 := by omega
    subst hb0
    rw [iter_s, cg_s, if_neg (show ¬ (64 : Int32) ≤ nI i from nleN (a := 64) (by omega) (by omega)), if_pos (show nI 0 = 0 from rfl), Nat.gcd_zero_right]
  | succ j ih =>
    intro m a b i ha hb hj hi hm
    obtain ⟨m, rfl⟩ : ∃ m', m = m' + 1 + 1 := ⟨m - 2, by omega⟩
    rw [iter_s, cg_s, if_neg (show ¬ (64 : Int32) ≤ nI i from nleN (a := 64) (by omega) (by omega))]
    by_cases z : b = 0
    · rw [if_pos ((nI_z hb).mpr z), z, Nat.gcd_zero_right]
    have hr := Nat.mod_lt a (show 0 < b by omega)
    rw [if_neg (fun q => z ((nI_z hb).mp q)), grd_p (show ¬ nI b = 0 from fun q => z ((nI_z hb).mp q)), nI_mod ha hb, nI_1, iter_s, cg_s, if_neg (show ¬ (64 : Int32) ≤ nI (i + 1) from nleN (a := 64) (by omega) (by omega))]
    rw [← gcd_st a b]
    by_cases y : a % b = 0
    · rw [if_pos ((nI_z (by omega)).mpr y), y, Nat.gcd_zero_right]
    have hh := eu_half (b := b) (r := a % b) (by omega) hr
    rw [if_neg (fun q => y ((nI_z (by omega)).mp q)), grd_p (show ¬ nI (a % b) = 0 from fun q => y ((nI_z (by omega)).mp q)), nI_mod hb (by omega), nI_1, ← gcd_st b (a % b)]
    exact ih m (a % b) (b % (a % b)) (i + 1 + 1) (by omega) (by omega) (by rw [Nat.pow_succ] at hj; omega) (by omega) (by omega)
def odU (T : Txt) (k : Nat) : Nat := 100 ^ k - (100 - (T.2.1 17).toNatClampNeg) ^ k
def oddM (T : Txt) (k what : Int32) : Int32 := if (1 ≤ k ∧ k ≤ 4) ∧ 0 ≤ what ∧ what ≤ 1 then (if what = 0 then nI (odU T k.toNatClampNeg) / nI (Nat.gcd (100 ^ k.toNatClampNeg) (odU T k.toNatClampNeg)) else nI (100 ^ k.toNatClampNeg) / nI (Nat.gcd (100 ^ k.toNatClampNeg) (odU T k.toNatClampNeg))) else -1
section Odds
variable {N : Nat} {h g : Hp} {t : Nat} {T : Txt} {S I : Str} {X : Xs}
theorem p100 {k : Nat} (hk : k ≤ 4) : 100 ^ k ≤ 100000000 ∧ 0 < 100 ^ k := by
  rcases (show k = 0 ∨ k = 1 ∨ k = 2 ∨ k = 3 ∨ k = 4 by omega) with rfl | rfl | rfl | rfl | rfl <;> decide
theorem odd_x (R : TR T) : ∃ o : Nat, o ≤ 100 ∧ T.2.1 17 = nI o := by
  obtain ⟨-, a, b, -⟩ := R
  obtain ⟨o, e, ho⟩ := eq_nI a
  exact ⟨o, by omega, e⟩
theorem cl_odds (hN : 1000 ≤ N) (r : RC h t T S I X) (R : TR T) (k what : Int32) : f_X7_odds N h k what = some (oddM T k what) := by
  have e17 : gI h 5 t 17 = T.2.1 17 := by rw [← r.1.2.2.2.1]; rfl
  unfold f_X7_odds oddM
  simp only [jn_e, cl_isIn, bind_s, b2i0, decide_eq_false_iff_not, Classical.not_not]
  by_cases w : 1 ≤ k ∧ k ≤ 4
  rotate_left
  · rw [if_pos w, if_neg (fun q => w q.1)]
  rw [if_neg (fun q => q w)]
  by_cases y : 0 ≤ what ∧ what ≤ 1
  rotate_left
  · rw [if_neg y, if_neg (fun q => y q.2)]
  rw [if_pos y, if_pos (show (1 ≤ k ∧ k ≤ 4) ∧ 0 ≤ what ∧ what ≤ 1 from ⟨w, y⟩)]
  obtain ⟨n, hn, rfl⟩ := rngN (a := k) (m := 4) (by omega) (Int32.le_trans (by decide) w.1) w.2
  obtain ⟨o, ho, eo⟩ := odd_x R
  obtain ⟨p1, p2⟩ := p100 hn
  have hx : (100 - o) ^ n ≤ 100 ^ n := Nat.pow_le_pow_left (by omega) n
  have ep : f_X7_power N 100 (nI n) = some (nI (100 ^ n)) := cl_power hN 100 n (by omega)
  have eo' : (100 : Int32) - nI o = nI (100 - o) := nI_sub (a := 100) ho
  have eu : nI (100 ^ n) - nI ((100 - o) ^ n) = nI (odU T n) := by
    rw [nI_sub hx]
    unfold odU
    rw [eo, clN (show o < 2 ^ 31 by omega)]
  have hu : odU T n ≤ 100 ^ n := Nat.sub_le _ _
  have eg : f_X7_commonDivisor N (nI (100 ^ n)) (nI (odU T n)) = some (nI (Nat.gcd (100 ^ n) (odU T n))) := cl_gcd 27 N (100 ^ n) (odU T n) 0 (by omega) (by omega) (by omega) (by omega) (by omega)
  have g0 : 0 < Nat.gcd (100 ^ n) (odU T n) := Nat.gcd_pos_of_pos_left _ p2
  have g1 : Nat.gcd (100 ^ n) (odU T n) ≤ 100 ^ n := Nat.gcd_le_left _ p2
  have gz : ¬ nI (Nat.gcd (100 ^ n) (odU T n)) = 0 := fun q => by have := (nI_z (by omega)).mp q; omega
  rw [ep, bind_s, r.1.2.1, onO_s, e17, eo, eo', cl_power hN (100 - o) n (by omega), bind_s, lt_e, eu, eg, bind_s, if_pos gz, grd_p gz, grd_p gz, clN (show n < 2 ^ 31 by omega)]
  by_cases q : what = 0
  · rw [if_neg (fun v => v q), if_pos q]
  · rw [if_pos q, if_neg q]
end Odds

