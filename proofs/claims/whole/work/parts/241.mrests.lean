-- PURE: rests, rest by the reference
section MRests
variable {N : Nat} {g : Hp} {ru : Int32} {T : Txt} {S : Str}
theorem SOK.come {n : Nat} (K : SOK T n S) {j : Nat} {v : Int32} : SOK T n (upA S 4 j v) := by
  obtain ⟨a, c, d, e1, e2, e3, e4, e5⟩ := K
  refine ⟨fun s hs => ?_, fun q hq => ?_, fun f hf => ?_, e1, e2, e3, e4, fun q hq => ?_⟩
  · rw [upA_n S j v (show (0 : Nat) ≠ 4 by decide)]; exact a s hs
  · rw [upA_n S j v (show (5 : Nat) ≠ 4 by decide), upA_n S j v (show (3 : Nat) ≠ 4 by decide), upA_n S j v (show (2 : Nat) ≠ 4 by decide)]; exact c q hq
  · rw [upA_n S j v (show (9 : Nat) ≠ 4 by decide)]; exact d f hf
  · rw [upA_n S j v (show (7 : Nat) ≠ 4 by decide)]; exact e5 q hq
theorem Sm.come1 (s : Sm g 1 ru T S) (p : gZ g 8 0 65 = false ∧ gI g 8 0 66 = -1) {j : Nat} (v : Int32) (hj : j < 4) : F8 g (sA g 8 0 26 (4 + j) v) ∧ Sm (sA g 8 0 26 (4 + j) v) 1 ru T (upA S 4 j v) := by
  have f : F8 g (sA g 8 0 26 (4 + j) v) := F8.a g v (by decide) (fun _ _ => by rw [h4x 26 (by omega) (by omega)]; omega)
  obtain ⟨hT, R, X, q, h49⟩ := s
  have hc4 := hT.2.1.2
  refine ⟨f, hT, R, f.mt X, Sq.tr ?_ (q.upA 4 j v), h49⟩
  refine ⟨fun s _ => ⟨rfl, rfl⟩, fun c hc => ⟨rfl, rfl, ?_, rfl, rfl, rfl⟩, fun i _ => rfl, fun k _ _ => rfl⟩
  rw [upA_at]
  have ne : ¬ nI c = gI g 8 0 66 := by rw [p.2]; exact nI_ne_neg (by omega) (by decide)
  have nz : ¬ gZ g 8 0 65 = true := by rw [p.1]; exact fun q => Bool.noConfusion q
  show (if nI c = gI g 8 0 66 then (2147483647 : Int32) else if gZ g 8 0 65 = true then 0 else gA (sA g 8 0 26 (4 + j) v) 8 0 26 (4 * 1 + c)) = if c = j then v else (if nI c = gI g 8 0 66 then (2147483647 : Int32) else if gZ g 8 0 65 = true then 0 else gA g 8 0 26 (4 * 1 + c))
  rw [if_neg ne, if_neg nz, if_neg ne, if_neg nz, A_at]
  by_cases z : c = j
  · rw [if_pos z, if_pos ⟨rfl, by omega⟩]
  · rw [if_neg z, if_neg (by omega)]
theorem R8a.come (r : R8a g T S) {c : Nat} (hc : c < nCr T) : gA g 8 0 26 c = S.1 4 c := by
  have := (r.2.2.2.1.2.1 c hc).2.2.1
  rw [← this]
  show _ = gA g 8 0 26 (4 * 0 + c)
  rw [show 4 * 0 + c = c by omega]
theorem R8a.hour (r : R8a g T S) : gA g 8 0 33 0 = S.2 11 := r.2.2.2.1.2.2.2 11 (by omega) (by omega)
theorem m_areComing (r : R8a g T S) (a b n : Int32) : f_X8_areComing g a b n = some (coM T S a b n) := by
  have hT := r.1
  have hc4 := hT.2.1.2
  unfold f_X8_areComing coM
  rw [m_isCroft r.2.2.1.2.1 a, bind_s, m_isCroft r.2.2.1.2.1 b]
  simp only [jn_e, b2i0, bind_s, m_isIn, decide_eq_false_iff_not]
  cases ha : inC T a with
  | false => rw [if_pos rfl]; rfl
  | true =>
    rw [if_neg (fun q => Bool.noConfusion q)]
    cases hb : inC T b with
    | false => rw [if_pos rfl]; rfl
    | true =>
      rw [if_neg (fun q => Bool.noConfusion q)]
      obtain ⟨i, hi, rfl⟩ := inC_of hT ha
      obtain ⟨j, hj, rfl⟩ := inC_of hT hb
      simp only [clN (show i < 2 ^ 31 by omega), clN (show j < 2 ^ 31 by omega), z7.1, grd_p (show inb 0 2 by decide), grd_p (inb_n (show i < 8 by omega) (show 8 < 2 ^ 31 by omega)), grd_p (inb_n (show j < 8 by omega) (show 8 < 2 ^ 31 by omega)), r.come hi, r.come hj, r.hour]
      by_cases z : nI i = nI j
      · simp [z]
      by_cases y : S.1 4 i ≤ S.2 11
      · simp [z, y, Int32.not_lt.mpr y]
      have y' := Int32.not_le.mp y
      by_cases w : S.1 4 j ≤ S.2 11
      · simp [z, y, y', w, Int32.not_lt.mpr w]
      have w' := Int32.not_le.mp w
      by_cases u : 1 ≤ n ∧ n ≤ 99
      · simp [z, u, y, y', w, w']
      · simp [z, u, y, w]
/-- the looking through, behind the trials -/
theorem m_restSeek (hN : 1000 ≤ N) (h2 : Hp) (p : Int32) (hp : p = -1 ∨ 0 ≤ p) : iter (fun _ _ => none) (f_X8_restAt_117 N p h2) N 0 0 = some (if 0 ≤ p then rkM (gA h2 8 0 35) (gA h2 8 0 36) p 16 0 else nI (rcM (gA h2 8 0 35) (gA h2 8 0 36) 16), h2) := by
  refine iter_inv (bot := fun _ _ => none) (b := f_X8_restAt_117 N p h2) (fun m r => ∀ x q, x + q = 16 → 16 < m + x → r (nI (rcM (gA h2 8 0 35) (gA h2 8 0 36) x)) (nI x) = some (if 0 ≤ p then rkM (gA h2 8 0 35) (gA h2 8 0 36) p q x else nI (rcM (gA h2 8 0 35) (gA h2 8 0 36) 16), h2)) (fun x _ _ _ => by omega) (fun m r ih x q hx hm => ?_) N 0 16 (by omega) (by omega)
  unfold f_X8_restAt_117
  cases q with
  | zero =>
    have : x = 16 := by omega
    subst this
    rw [if_pos (show (16 : Int32) ≤ nI 16 by decide)]
    simp only [jn_e]
    by_cases y : 0 ≤ p
    · rw [if_pos y, if_pos y]; rfl
    · rw [if_neg y, if_neg y]
  | succ q =>
    have hx16 : x < 16 := by omega
    have q4 : nI x / 4 = nI (x / 4) := nI_div (b := 4) (by omega) (by omega)
    have m4 : nI x - nI x / 4 * 4 = nI (x % 4) := nI_mod (b := 4) (by omega) (by omega)
    rw [q4] at m4
    have e10 : (10 : Int32) * nI (x / 4) + nI (x % 4) = nI (10 * (x / 4) + x % 4) := by rw [show (10 : Int32) = nI 10 from rfl, nI_mulN, nI_add]
    have nx := ih (x + 1) q (by omega) (by omega)
    rw [rcM_s] at nx
    rw [if_neg (show ¬ (16 : Int32) ≤ nI x from nleN (a := 16) hx16 (by omega))]
    refine iter_inv (bot := fun _ _ => none) (b := f_X8_restAt_130 p h2 r (nI (rcM (gA h2 8 0 35) (gA h2 8 0 36) x)) (nI x)) (fun m r' => ∀ i, i ≤ 4 → 4 < m + i → r' (rsM (gA h2 8 0 35) (gA h2 8 0 36) x i) (nI i) = some (if 0 ≤ p then rkM (gA h2 8 0 35) (gA h2 8 0 36) p (q + 1) x else nI (rcM (gA h2 8 0 35) (gA h2 8 0 36) 16), h2)) (fun i _ _ => by omega) (fun m' r' ih' i hi hm' => ?_) N 0 (by omega) (by omega)
    unfold f_X8_restAt_130
    by_cases z : i = 4
    · subst z
      rw [if_pos (show (4 : Int32) ≤ nI 4 by decide), rkM_s]
      simp only [jn_e, lt_e, nI_1, q4, m4, e10]
      cases hr : rsM (gA h2 8 0 35) (gA h2 8 0 36) x 4 with
      | false =>
        rw [hr, if_neg (fun q => Bool.noConfusion q)] at nx
        rw [if_neg (show ¬ ¬ b2i false = 0 by decide), if_neg (show ¬ (false = true ∧ nI (rcM (gA h2 8 0 35) (gA h2 8 0 36) x) = p) from fun q => Bool.noConfusion q.1)]; exact nx
      | true =>
        rw [hr, if_pos rfl] at nx
        rw [if_pos (show ¬ b2i true = 0 by decide)]
        by_cases w : nI (rcM (gA h2 8 0 35) (gA h2 8 0 36) x) = p
        · have y : 0 ≤ p := by
            rcases hp with y | y
            · have := rcM_le (gA h2 8 0 35) (gA h2 8 0 36) x
              rw [y] at w
              exact absurd w (nI_ne_neg (by omega) (by decide))
            · exact y
          rw [if_neg (fun q => q w), if_pos y, if_pos (show true = true ∧ nI (rcM (gA h2 8 0 35) (gA h2 8 0 36) x) = p from ⟨rfl, w⟩)]
        · rw [if_pos w, if_neg (show ¬ (true = true ∧ nI (rcM (gA h2 8 0 35) (gA h2 8 0 36) x) = p) from fun q => w q.2)]; exact nx
    · rw [if_neg (show ¬ (4 : Int32) ≤ nI i from nleN (a := 4) (show i < 4 by omega) (by omega))]
      have nx' := ih' (i + 1) (by omega) (by omega)
      rw [rsM_s] at nx'
      have e1 : (4 : Int32) * nI i + nI (x % 4) = nI (i * 4 + x % 4) := by rw [show (4 : Int32) = nI 4 from rfl, nI_mulN, nI_add, Nat.mul_comm]
      have e2 : nI (x / 4) * 4 + nI i = nI (x / 4 * 4 + i) := by rw [show (4 : Int32) = nI 4 from rfl, nI_mulN, nI_add]
      simp only [jn_e, lt_e, q4, m4, e1, e2, grd_p (inb_n (show i * 4 + x % 4 < 16 by omega) (show 16 < 2 ^ 31 by omega)), grd_p (inb_n (show x / 4 * 4 + i < 16 by omega) (show 16 < 2 ^ 31 by omega)), grd_p (inb_n hx16 (show 16 < 2 ^ 31 by omega)), clN (show x < 2 ^ 31 by omega), clN (show i * 4 + x % 4 < 2 ^ 31 by omega), clN (show x / 4 * 4 + i < 2 ^ 31 by omega), nI_1]
      cases hr : rsM (gA h2 8 0 35) (gA h2 8 0 36) x i with
      | false =>
        rw [hr, Bool.false_and, Bool.false_and] at nx'
        rw [if_pos (show b2i false = 0 from rfl)]; exact nx'
      | true =>
        rw [hr, Bool.true_and] at nx'
        rw [if_neg (show ¬ b2i true = 0 by decide)]
        by_cases y : gA h2 8 0 35 x < gA h2 8 0 35 (i * 4 + x % 4)
        · rw [decide_eq_false (fun q => q y), Bool.false_and] at nx'
          rw [if_pos y]; exact nx'
        · rw [decide_eq_true y, Bool.true_and] at nx'
          rw [if_neg y]
          by_cases v : gA h2 8 0 36 x < gA h2 8 0 36 (x / 4 * 4 + i)
          · rw [decide_eq_false (fun q => q v)] at nx'
            rw [if_pos v]; exact nx'
          · rw [decide_eq_true v] at nx'
            rw [if_neg v]; exact nx'
end MRests
