-- PURE: gales by the reference
def LI (n : Nat) : Int64 := Int64.ofNat n
theorem LI_toInt {n : Nat} (h : n < 2 ^ 63) : (LI n).toInt = n := Int64.toInt_ofNat_of_lt h
theorem LI_div {a b : Nat} (ha : a < 2 ^ 63) (hb : b < 2 ^ 63) : LI a / LI b = LI (a / b) := by
  refine Int64.toInt_inj.mp ?_
  have h1 : a / b ≤ a := Nat.div_le_self a b
  have e : (a : Int) / (b : Int) = ((a / b : Nat) : Int) := rfl
  generalize a / b = q at h1 e ⊢
  rw [Int64.toInt_div, LI_toInt ha, LI_toInt hb, LI_toInt (by omega), Int.tdiv_eq_ediv_of_nonneg (by omega), e, Int.bmod_eq_of_le (by omega) (by omega)]
theorem LI_mulN (a b : Nat) : LI a * LI b = LI (a * b) := (Int64.ofNat_mul a b).symm
theorem LI_add (a b : Nat) : LI a + LI b = LI (a + b) := (Int64.ofNat_add a b).symm
theorem LI_sub {a b : Nat} (h : b ≤ a) : LI a - LI b = LI (a - b) := by
  have e : LI a = LI (a - b) + LI b := by rw [LI_add]; congr 1; omega
  rw [e, Int64.add_sub_cancel]
theorem LI_mod {a b : Nat} (ha : a < 2 ^ 63) (hb : b < 2 ^ 63) : LI a - LI a / LI b * LI b = LI (a % b) := by
  rw [LI_div ha hb, LI_mulN, LI_sub (Nat.div_mul_le_self a b)]
  congr 1
  have := Nat.div_add_mod a b
  rw [Nat.mul_comm] at this
  omega
theorem nI_64 {x : Nat} (h : x < 2 ^ 31) : (nI x).toInt64 = LI x := by
  refine Int64.toInt_inj.mp ?_
  rw [Int32.toInt_toInt64, nI_toInt h, LI_toInt (by omega)]
theorem LI_32 {x : Nat} (h : x < 2 ^ 31) : (LI x).toInt32 = nI x := by
  refine Int32.toInt_inj.mp ?_
  rw [Int64.toInt_toInt32, LI_toInt (by omega), nI_toInt h, Int.bmod_eq_of_le (by omega) (by omega)]
theorem and31 (w : Int64) : ∃ x : Nat, x < 2 ^ 31 ∧ (w &&& 2147483647) = LI x := by
  refine ⟨w.toBitVec.toNat % 2 ^ 31, Nat.mod_lt _ (by decide), ?_⟩
  refine Int64.toBitVec_inj.mp ?_
  rw [Int64.toBitVec_and]
  refine BitVec.eq_of_toNat_eq ?_
  rw [BitVec.toNat_and]
  have e1 : (2147483647 : Int64).toBitVec.toNat = 2 ^ 31 - 1 := by decide
  rw [e1, Nat.and_two_pow_sub_one_eq_mod]
  show _ = (BitVec.ofNat 64 (w.toBitVec.toNat % 2 ^ 31)).toNat
  rw [BitVec.toNat_ofNat, Nat.mod_eq_of_lt (a := w.toBitVec.toNat % 2 ^ 31)]
  exact Nat.lt_trans (Nat.mod_lt _ (by decide)) (by decide)
/-- what is drawn next -/
theorem draw_x (S : Str) : ∃ x : Nat, x < 2 ^ 31 ∧ (drwM S).2 15 = nI x ∧ (((S.2 15).toInt64 * (1103515245 : Int64)) + (12345 : Int64)) &&& (2147483647 : Int64) = LI x := by
  obtain ⟨x, hx, e⟩ := and31 (((S.2 15).toInt64 * (1103515245 : Int64)) + (12345 : Int64))
  refine ⟨x, hx, ?_, e⟩
  unfold drwM
  rw [upI_i, e, LI_32 hx]
/-- nothing changed but what is drawn and what lies on half b -/
def Gf (b : Nat) (g g' : Hp) : Prop := K7 g g' ∧ (∀ k, gI g' 8 0 k = gI g 8 0 k) ∧ (∀ k, k ≠ 62 → gL g' 8 0 k = gL g 8 0 k) ∧ ∀ k i, ¬ (k = 23 ∧ 8 * b ≤ i ∧ i < 8 * b + 8) → gA g' 8 0 k i = gA g 8 0 k i
theorem Gf.rf (b : Nat) (g : Hp) : Gf b g g := ⟨K7.rf g, fun _ => rfl, fun _ _ => rfl, fun _ _ _ => rfl⟩
theorem Gf.tr {b : Nat} {g g' g'' : Hp} (a : Gf b g g') (c : Gf b g' g'') : Gf b g g'' := ⟨a.1.tr c.1, fun k => (c.2.1 k).trans (a.2.1 k), fun k q => (c.2.2.1 k q).trans (a.2.2.1 k q), fun k i q => (c.2.2.2 k i q).trans (a.2.2.2 k i q)⟩
theorem L_at (g : Hp) (k : Nat) (v : Int64) (j : Nat) : gL (sL g 8 0 k v) 8 0 j = if j = k then v else gL g 8 0 j := by
  show at3 g.2.1 8 0 k v 8 0 j = _
  unfold at3
  by_cases z : j = k
  · rw [if_pos z, if_pos ⟨rfl, rfl, z⟩]
  · rw [if_neg z, if_neg (fun q => z q.2.2)]
    rfl
theorem Gf.l (b : Nat) (g : Hp) (v : Int64) : Gf b g (sL g 8 0 62 v) := ⟨fun c o k hc => ⟨rfl, if_neg (fun q => hc q.1), rfl, rfl⟩, fun _ => rfl, fun k hk => by rw [L_at, if_neg hk], fun _ _ _ => rfl⟩
theorem Gf.a (b : Nat) (g : Hp) {i : Nat} (v : Int32) (hi : i < 8) : Gf b g (sA g 8 0 23 (8 * b + i) v) := ⟨K7.a g 23 _ v, fun _ => rfl, fun _ _ => rfl, fun k u hu => by rw [A_at, if_neg (fun q => hu ⟨q.1, by omega, by omega⟩)]⟩
section Gale
variable {N : Nat} {g : Hp} {b : Nat} {ru : Int32} {T : Txt} {S : Str}
/-- half b counts as S, the number drawn too -/
def Sg (g : Hp) (b : Nat) (ru : Int32) (T : Txt) (S : Str) : Prop := Sm g b ru T S ∧ gL g 8 0 62 = (S.2 15).toInt64
theorem Sg.lie (s : Sg g b ru T S) {i : Nat} (v : Int32) (hi : i < 8) : Sg (sA g 8 0 23 (8 * b + i) v) b ru T (upA S 0 i v) := by
  obtain ⟨⟨hT, R, X, q, h49⟩, l⟩ := s
  refine ⟨⟨hT, R, X.arr (fun _ _ _ => rfl) (fun k hk => funext fun u => by rw [A_at, if_neg (fun q => by omega)]), Sq.tr ?_ (q.upA 0 i v), h49⟩, l⟩
  refine ⟨fun s hs => ⟨?_, rfl⟩, fun c _ => ⟨rfl, rfl, rfl, rfl, rfl, rfl⟩, fun f _ => rfl, fun k _ _ => rfl⟩
  rw [upA_at]
  show gA (sA g 8 0 23 (8 * b + i) v) 8 0 23 (8 * b + s) = if s = i then v else gA g 8 0 23 (8 * b + s)
  rw [A_at]
  by_cases z : s = i
  · rw [if_pos z, if_pos ⟨rfl, by omega⟩]
  · rw [if_neg z, if_neg (by omega)]
theorem Sg.draw (s : Sg g b ru T S) {x : Nat} (hx : x < 2 ^ 31) (ex : (drwM S).2 15 = nI x) : Sg (sL g 8 0 62 (LI x)) b ru T (drwM S) := by
  obtain ⟨⟨hT, R, X, q, h49⟩, -⟩ := s
  have eL : gL (sL g 8 0 62 (LI x)) 8 0 62 = LI x := by rw [L_at, if_pos rfl]
  refine ⟨⟨hT, R, X.arr (fun _ _ _ => rfl) (fun _ _ => rfl), ?_, h49⟩, by rw [eL, ex, nI_64 hx]⟩
  have y : Sq T (upI (v8 g b ru) 15 (nI x)) (upI S 15 (nI x)) := q.upI 15 _
  have e : drwM S = upI S 15 (nI x) := by rw [← ex]; unfold drwM; rw [upI_i]
  rw [e]
  have y1 : Sq T (v8 (sL g 8 0 62 (LI x)) b ru) (upI (v8 g b ru) 15 (nI x)) := by
    refine ⟨fun s hs => ⟨rfl, rfl⟩, fun c _ => ⟨rfl, rfl, rfl, rfl, rfl, rfl⟩, fun f _ => rfl, fun k k1 k2 => ?_⟩
    rcases (show k = 11 ∨ k = 12 ∨ k = 13 ∨ k = 14 ∨ k = 15 ∨ k = 16 by omega) with rfl | rfl | rfl | rfl | rfl | rfl
    · rfl
    · rfl
    · rfl
    · rfl
    · rw [upI_i]
      show (gL (sL g 8 0 62 (LI x)) 8 0 62).toInt32 = nI x
      rw [eL, LI_32 hx]
    · rfl
  exact y1.tr y
theorem blM_i (T : Txt) (S : Str) : ∀ j, (blM T S j).2 = S.2 ∧ ∀ k, k ≠ 0 → (blM T S j).1 k = S.1 k
  | 0 => ⟨rfl, fun _ _ => rfl⟩
  | j + 1 => ⟨(blM_i T S j).1, fun k hk => by rw [blM_s, upA_n _ _ _ hk]; exact (blM_i T S j).2 k hk⟩
theorem galeM_i (T : Txt) (S : Str) : (∀ k, k ≠ 15 → (galeM T S).2 k = S.2 k) ∧ ∀ k, k ≠ 0 → (galeM T S).1 k = S.1 k := by
  have d : (∀ k, k ≠ 15 → (drwM S).2 k = S.2 k) ∧ (drwM S).1 = S.1 := ⟨fun k hk => upI_n S _ hk, rfl⟩
  unfold galeM
  by_cases z : T.2.1 17 ≤ 0
  · rw [if_pos z]; exact ⟨fun _ _ => rfl, fun _ _ => rfl⟩
  rw [if_neg z]
  by_cases y : T.2.1 17 ≤ (drwM S).2 15 / 65536 - (drwM S).2 15 / 65536 / 100 * 100
  · rw [if_pos y]; exact ⟨d.1, fun k _ => by rw [d.2]⟩
  · rw [if_neg y]
    refine ⟨fun k hk => by rw [(blM_i T _ _).1]; exact d.1 k hk, fun k hk => by rw [(blM_i T _ _).2 k hk, d.2]⟩
theorem SOK.blow {n : Nat} (K : SOK T n S) (R : TR T) : ∀ j, j ≤ nSt T → SOK T n (blM T S j)
  | 0, _ => K
  | j + 1, h => by
    have K' := SOK.blow K R j (by omega)
    obtain ⟨a, c⟩ := K'.1 j (by omega)
    obtain ⟨-, -, -, t0, t1⟩ := R
    have z9 : (9999 : Int32).toInt = 9999 := rfl
    have e := add_toInt (x := (blM T S j).1 0 j) (y := T.2.1 18) (by omega)
    rw [blM_s]
    by_cases z : 9999 < (blM T S j).1 0 j + T.2.1 18
    · rw [if_pos z]
      exact K'.lie (by omega) (by omega)
    · rw [if_neg z]
      have := Int32.le_iff_toInt_le.mp (Int32.not_lt.mp z)
      exact K'.lie (by omega) (by omega)
theorem SOK.draw {n : Nat} (K : SOK T n S) : SOK T n (drwM S) := K.num _ (by omega)
theorem SOK.gale {n : Nat} (K : SOK T n S) (R : TR T) : SOK T n (galeM T S) := by
  unfold galeM
  by_cases z : T.2.1 17 ≤ 0
  · rw [if_pos z]; exact K
  rw [if_neg z]
  by_cases y : T.2.1 17 ≤ (drwM S).2 15 / 65536 - (drwM S).2 15 / 65536 / 100 * 100
  · rw [if_pos y]; exact K.draw
  · rw [if_neg y]; exact K.draw.blow R _ (Nat.le_refl _)
theorem m_gale (hN : 1000 ≤ N) (hb : b < 2) (s : Sg g b ru T S) : ∃ g', f_X8_gale N g (nI b) = some g' ∧ Gf b g g' ∧ Sg g' b ru T (galeM T S) := by
  have hT := s.1.1
  have h8 := hT.1.2
  obtain ⟨o, ho, eo⟩ := odd_x s.1.2.1
  have e17 : gA g 8 0 3 2 = T.2.1 17 := s.1.2.2.1.2.2.2.2.2.2.1.symm
  have e18 : ∀ {g' : Hp} {Q : Str}, Sg g' b ru T Q → gA g' 8 0 3 3 = T.2.1 18 := fun d => d.1.2.2.1.2.2.2.2.2.2.2.1.symm
  have e11 : ∀ {g' : Hp} {Q : Str}, Sg g' b ru T Q → gI g' 8 0 12 = nI (nSt T) := fun d => d.1.2.2.1.1.symm.trans hT.1.1
  unfold f_X8_gale galeM
  rw [grd_p (show inb 2 10 by decide)]
  simp only [jn_e, z7, e17]
  by_cases z : T.2.1 17 = 0
  · rw [if_pos z, if_pos (by rw [z]; decide)]
    exact ⟨g, rfl, Gf.rf b g, s⟩
  have z' : ¬ T.2.1 17 ≤ 0 := fun q => z (by
    rw [eo] at q ⊢
    have : o = 0 := by
      refine Decidable.byContradiction fun w => ?_
      exact nleN (b := 0) (show 0 < o by omega) (by omega) q
    rw [this]; rfl)
  rw [if_neg z, if_neg z']
  obtain ⟨x, hx, ex, eL⟩ := draw_x S
  have sd := s.draw hx ex
  unfold f_X8_number1
  have q1 : (65536 : Int64) = LI 65536 := rfl
  have q2 : (100 : Int32).toInt64 = LI 100 := rfl
  have hd : x / 65536 ≤ x := Nat.div_le_self _ _
  have vL : gL (sL g 8 0 62 (LI x)) 8 0 62 = LI x := by rw [L_at, if_pos rfl]
  have n1 : nI x / 65536 - nI x / 65536 / 100 * 100 = nI (x / 65536 % 100) := by
    rw [show (65536 : Int32) = nI 65536 from rfl, show (100 : Int32) = nI 100 from rfl, nI_div hx (by omega), nI_mod (by omega) (by omega)]
  have nz : ¬ LI 100 = 0 := by decide
  rw [s.2, eL, lt_e, vL, q2, grd_p (show ¬ (65536 : Int64) = 0 by decide), grd_p nz, q1, LI_div (by omega) (by omega), LI_mod (by omega) (by omega), LI_32 (by omega), bd2_s, grd_p (show inb 2 10 by decide), ex, n1]
  have e17' : gA (sL g 8 0 62 (LI x)) 8 0 3 2 = T.2.1 17 := e17
  simp only [e17']
  by_cases y : T.2.1 17 ≤ nI (x / 65536 % 100)
  · rw [if_pos y, if_neg (Int32.not_lt.mpr y)]
    exact ⟨_, rfl, Gf.l b g _, sd⟩
  · rw [if_neg y, if_pos (Int32.not_le.mp y)]
    refine iter_inv (bot := fun _ _ => none) (b := f_X8_gale_27 (nI b)) (fun m r => ∀ j g1, j ≤ nSt T → nSt T < m + j → Gf b g g1 → Sg g1 b ru T (blM T (drwM S) j) → ∃ g', r (nI j) g1 = some g' ∧ Gf b g g' ∧ Sg g' b ru T (blM T (drwM S) (nSt T))) (fun j _ _ _ => by omega) (fun m r ih j g1 hj hm f d => ?_) N 0 _ (by omega) (by omega) (Gf.l b g _) sd
    unfold f_X8_gale_27
    rw [e11 d]
    by_cases v : nSt T = j
    · rw [← v, if_pos (leN (Nat.le_refl _) (by omega))]
      rw [← v] at d
      exact ⟨g1, rfl, f, d⟩
    · have h16 : 8 * b + j < 16 := mul_lt hb (by omega)
      have a0 : gA g1 8 0 23 (8 * b + j) = (blM T (drwM S) j).1 0 j := (d.1.2.2.2.1.1 j (by omega)).1
      rw [if_neg (nleN (show j < nSt T by omega) (show nSt T < 2 ^ 31 by omega))]
      simp only [jn_e, lt_e, ix8 hb (show j < 8 by omega), grd_p (inb_n h16 (show 16 < 2 ^ 31 by omega)), grd_p (show inb 3 10 by decide), show (3 : Int32).toNatClampNeg = 3 from rfl, clN (show 8 * b + j < 2 ^ 31 by omega), nI_1, a0, e18 d]
      have nx := fun w => ih (j + 1) (sA g1 8 0 23 (8 * b + j) w) (by omega) (by omega) (f.tr (Gf.a b g1 w (by omega)))
      by_cases u : 9999 < (blM T (drwM S) j).1 0 j + T.2.1 18
      · rw [if_neg (Int32.not_le.mpr u)]
        exact nx _ (by rw [blM_s, if_pos u]; exact d.lie _ (by omega))
      · rw [if_pos (Int32.not_lt.mp u)]
        exact nx _ (by rw [blM_s, if_neg u]; exact d.lie _ (by omega))
end Gale
