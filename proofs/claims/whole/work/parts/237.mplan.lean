-- PURE: plan and planned by both
def plnM (T : Txt) (S : Str) (c n : Int32) : Int32 := if inC T c = true ∧ 1 ≤ n ∧ n ≤ 6 then (plB T S c.toNatClampNeg n.toNatClampNeg (3 ^ n.toNatClampNeg)).1 else -1
def pldM (T : Txt) (S : Str) (c n k : Int32) : Int32 := if (inC T c = true ∧ 1 ≤ n ∧ n ≤ 6) ∧ 0 ≤ k then (if k < n then nI (1 + dg 3 n.toNatClampNeg (plB T S c.toNatClampNeg n.toNatClampNeg (3 ^ n.toNatClampNeg)).2 k.toNatClampNeg) else -2) else -1
/-- a number below another -/
theorem ltN {a : Int32} {m : Nat} (hm : m < 2 ^ 31) (h0 : 0 ≤ a) (h1 : a < nI m) : ∃ k, k < m ∧ a = nI k := by
  obtain ⟨k, rfl, hk⟩ := eq_nI (Int32.le_iff_toInt_le.mp h0)
  refine ⟨k, ?_, rfl⟩
  have := Int32.lt_iff_toInt_lt.mp h1
  rw [nI_toInt hm] at this
  omega
section Plan
variable {N : Nat} {h g : Hp} {t : Nat} {T : Txt} {S I : Str} {X : Xs}
theorem cl_plan (hN : 1000 ≤ N) (r : RC h t T S I X) (hz : S.2 16 = 1) (K : SOK T 0 S) (hh : (S.2 11).toInt ≤ 4000000) (c n : Int32) : ∃ g, f_X7_plan N h c n = some (plnM T S c n, g) ∧ Fr h g := by
  have hT := r.1.2.2.2.2.1
  have hc4 := hT.2.1.2
  unfold f_X7_plan plnM
  simp only [jn_e, cl_isCroft r.1.2.1 r.1.2.2.2.1, cl_isIn, bind_s, b2i0, decide_eq_false_iff_not]
  cases hc : inC T c with
  | false => rw [if_pos rfl, if_neg (fun q => Bool.noConfusion q.1)]; exact ⟨h, rfl, Fr.rf h⟩
  | true =>
    rw [if_neg (fun q => Bool.noConfusion q)]
    by_cases w : 1 ≤ n ∧ n ≤ 6
    rotate_left
    · rw [if_pos w, if_neg (fun q => w q.2)]; exact ⟨h, rfl, Fr.rf h⟩
    rw [if_neg (fun q => q w), if_pos (show true = true ∧ 1 ≤ n ∧ n ≤ 6 from ⟨rfl, w⟩)]
    obtain ⟨i, hi, rfl⟩ := inC_of hT hc
    obtain ⟨k, hk, rfl⟩ := rngN (a := n) (m := 6) (by omega) (Int32.le_trans (by decide) w.1) w.2
    obtain ⟨g', e, f, -⟩ := cl_planFor hN r.sd hz K hh hi hk
    rw [e, bd2_s, clN (show i < 2 ^ 31 by omega), clN (show k < 2 ^ 31 by omega)]
    exact ⟨g', rfl, f⟩
theorem cl_planned (hN : 1000 ≤ N) (r : RC h t T S I X) (hz : S.2 16 = 1) (K : SOK T 0 S) (hh : (S.2 11).toInt ≤ 4000000) (c n p : Int32) : ∃ g, f_X7_planned N h c n p = some (pldM T S c n p, g) ∧ Fr h g := by
  have hT := r.1.2.2.2.2.1
  have hc4 := hT.2.1.2
  unfold f_X7_planned pldM
  simp only [jn_e, cl_isCroft r.1.2.1 r.1.2.2.2.1, cl_isIn, bind_s, b2i0, decide_eq_false_iff_not]
  cases hc : inC T c with
  | false => rw [if_pos rfl, if_neg (fun q => Bool.noConfusion q.1.1)]; exact ⟨h, rfl, Fr.rf h⟩
  | true =>
    rw [if_neg (fun q => Bool.noConfusion q)]
    by_cases w : 1 ≤ n ∧ n ≤ 6
    rotate_left
    · rw [if_pos w, if_neg (fun q => w q.1.2)]; exact ⟨h, rfl, Fr.rf h⟩
    rw [if_neg (fun q => q w)]
    by_cases y : 0 ≤ p
    rotate_left
    · rw [if_neg y, if_neg (fun q => y q.2)]; exact ⟨h, rfl, Fr.rf h⟩
    rw [if_pos y, if_pos (show (true = true ∧ 1 ≤ n ∧ n ≤ 6) ∧ 0 ≤ p from ⟨⟨rfl, w⟩, y⟩)]
    by_cases z : p < n
    rotate_left
    · rw [if_neg z, if_neg z]; exact ⟨h, rfl, Fr.rf h⟩
    rw [if_pos z, if_pos z]
    obtain ⟨i, hi, rfl⟩ := inC_of hT hc
    obtain ⟨k, hk, rfl⟩ := rngN (a := n) (m := 6) (by omega) (Int32.le_trans (by decide) w.1) w.2
    obtain ⟨j, hj, rfl⟩ := ltN (a := p) (m := k) (by omega) y z
    obtain ⟨g', e, f, b⟩ := cl_planFor hN r.sd hz K hh hi hk
    rw [e, bd2_s, clN (show i < 2 ^ 31 by omega), clN (show k < 2 ^ 31 by omega), grd_p (inb_n (show j < 6 by omega) (show 6 < 2 ^ 31 by omega))]
    simp only [clN (show j < 2 ^ 31 by omega), b j hj]
    exact ⟨g', rfl, f⟩
end Plan
-- what laying a trial leaves alone
def Lf (g g' : Hp) : Prop := (∀ k, (k < 63 ∨ 66 < k) → gI g' 8 0 k = gI g 8 0 k) ∧ ∀ k, (k < 23 ∨ 33 < k) → gA g' 8 0 k = gA g 8 0 k
theorem Lf.tr {g g' g'' : Hp} (a : Lf g g') (b : Lf g' g'') : Lf g g'' := ⟨fun k q => (b.1 k q).trans (a.1 k q), fun k q => (b.2 k q).trans (a.2 k q)⟩
theorem Lf.a (g : Hp) (k i : Nat) (v : Int32) (hk : 23 ≤ k ∧ k ≤ 33) : Lf g (sA g 8 0 k i v) := ⟨fun _ _ => rfl, fun j hj => funext fun u => by rw [A_at, if_neg (fun q => by omega)]⟩
theorem Lf.i (g : Hp) (k : Nat) (v : Int32) (hk : 63 ≤ k ∧ k ≤ 66) : Lf g (sI g 8 0 k v) := ⟨fun j hj => by rw [I_at, if_neg (fun q => by omega)], fun _ _ => rfl⟩
theorem grd_i {α : Type} {c : Prop} [Decidable c] {k : Option α} {x : α} (h : grd c k = some x) : k = some x := by
  by_cases z : c
  · rw [grd_p z] at h; exact h
  · unfold grd at h
    rw [if_neg z] at h
    cases h
theorem lay_lf3 : ∀ n v g g', iter (fun _ _ => none) f_X8_layTried_129 n v g = some g' → Lf g g' := by
  intro n
  refine iter_inv (bot := fun _ _ => none) (b := f_X8_layTried_129) (fun _ r => ∀ v g g', r v g = some g' → Lf g g') (fun _ _ _ h => nomatch h) (fun m r ih v g g' h => ?_) n
  unfold f_X8_layTried_129 at h
  by_cases z : 6 ≤ v
  · rw [if_pos z] at h
    have h := grd_i (grd_i h)
    rw [lt_e] at h
    have h := grd_i (grd_i h)
    rw [lt_e] at h
    have h := grd_i (grd_i h)
    rw [lt_e] at h
    unfold f_X8_plainTried at h
    simp only [lt_e, bind_s] at h
    cases h
    exact (((Lf.a g 31 _ _ (by omega)).tr (Lf.a _ 32 _ _ (by omega))).tr (Lf.a _ 33 _ _ (by omega))).tr ((((Lf.i _ 63 _ (by omega)).tr (Lf.i _ 64 _ (by omega))).tr (Lf.i _ 65 _ (by omega))).tr (Lf.i _ 66 _ (by omega)))
  · rw [if_neg z] at h
    have h := grd_i (grd_i h)
    rw [lt_e, lt_e] at h
    exact (Lf.a g 30 _ _ (by omega)).tr (ih _ _ _ h)
theorem lay_lf2 (N : Nat) : ∀ n v g g', iter (fun _ _ => none) (f_X8_layTried_46 N) n v g = some g' → Lf g g' := by
  intro n
  refine iter_inv (bot := fun _ _ => none) (b := f_X8_layTried_46 N) (fun _ r => ∀ v g g', r v g = some g' → Lf g g') (fun _ _ _ h => nomatch h) (fun m r ih v g g' h => ?_) n
  unfold f_X8_layTried_46 at h
  by_cases z : 4 ≤ v
  · rw [if_pos z] at h
    exact lay_lf3 N 0 g g' h
  · rw [if_neg z] at h
    have h := grd_i (grd_i h)
    rw [lt_e] at h
    have h := grd_i (grd_i h)
    rw [lt_e] at h
    have h := grd_i (grd_i h)
    rw [lt_e] at h
    have h := grd_i (grd_i h)
    rw [lt_e] at h
    have h := grd_i (grd_i h)
    rw [lt_e, lt_e] at h
    exact (((((Lf.a g 25 _ _ (by omega)).tr (Lf.a _ 26 _ _ (by omega))).tr (Lf.a _ 27 _ _ (by omega))).tr (Lf.a _ 28 _ _ (by omega))).tr (Lf.a _ 29 _ _ (by omega))).tr (ih _ _ _ h)
theorem lay_lf {N : Nat} {g g' : Hp} (h : f_X8_layTried N g = some g') : Lf g g' := by
  unfold f_X8_layTried at h
  have key : ∀ n (v : Int32) (g g' : Hp), iter (fun _ _ => none) (f_X8_layTried_2 N) n v g = some g' → Lf g g' := by
    intro n
    refine iter_inv (bot := fun _ _ => none) (b := f_X8_layTried_2 N) (fun _ r => ∀ v g g', r v g = some g' → Lf g g') (fun _ _ _ h => nomatch h) (fun m r ih v g g' h => ?_) n
    unfold f_X8_layTried_2 at h
    by_cases z : 8 ≤ v
    · rw [if_pos z] at h
      exact lay_lf2 N N 0 g g' h
    · rw [if_neg z] at h
      have h := grd_i (grd_i h)
      rw [lt_e] at h
      have h := grd_i (grd_i h)
      rw [lt_e, lt_e] at h
      exact ((Lf.a g 23 _ _ (by omega)).tr (Lf.a _ 24 _ _ (by omega))).tr (ih _ _ _ h)
  exact key N 0 _ _ h
section MPlan
variable {N : Nat} {g : Hp} {T : Txt} {S : Str}
theorem Sm.drop {ru : Int32} {g' : Hp} {S' : Str} (_s : Sm g 1 ru T S) (f : G8 1 g g') (s' : Sm g' 1 ru T S') : F8 g g' ∧ (∀ k, k ≠ 49 → gI g' 8 0 k = gI g 8 0 k) ∧ (∀ k, 33 < k → gA g' 8 0 k = gA g 8 0 k) := by
  refine ⟨f.f8, ?_⟩
  obtain ⟨S1, e, B, rfl⟩ := f
  exact ⟨fun k hk => M8_I g 1 S1 e B k hk, fun k hk => by rw [M8_A, arr8_n 1 S1 _ (by omega)]⟩
theorem R8a.gain (r : R8a g T S) {c : Nat} (hc : c < nCr T) : gA g 8 0 28 c = S.1 6 c := by
  have := (r.2.2.2.1.2.1 c hc).2.2.2.2.1
  rw [← this]
  show _ = gA g 8 0 28 (4 * 0 + c)
  rw [show 4 * 0 + c = c by omega]
theorem R8a.rule (r : R8a g T S) : gI g 8 0 61 = S.2 14 := r.2.2.2.1.2.2.2 14 (by omega) (by omega)
/-- what the reference has found among the first i ways -/
def RowP (T : Txt) (S : Str) (c n i : Nat) (g : Hp) : Prop := gI g 8 0 68 = (plB T S c n i).1 ∧ (0 < i → ∀ k, k < n → gA g 8 0 34 k = nI (1 + dg 3 n (plB T S c n i).2 k))
theorem m_rowLoop (hN : 1000 ≤ N) {n i : Nat} (hn : n ≤ 6) (hi : i < 729) (j129 : Hp → Option Hp) (g : Hp) (R : Hp → Prop) (out : ∀ g', F8 g g' → (∀ k, gI g' 8 0 k = gI g 8 0 k) → (∀ k, k < n → gA g' 8 0 34 k = nI (1 + dg 3 n i k)) → ∃ x, j129 g' = some x ∧ R x) : ∃ x, iter (fun _ _ => none) (f_X8_layPlan_100 N (nI n) (nI i) j129) N 0 g = some x ∧ R x := by
  refine iter_inv (bot := fun _ _ => none) (b := f_X8_layPlan_100 N (nI n) (nI i) j129) (fun m r => ∀ k g', k ≤ n → n < m + k → F8 g g' → (∀ j, gI g' 8 0 j = gI g 8 0 j) → (∀ j, j < k → gA g' 8 0 34 j = nI (1 + dg 3 n i j)) → ∃ x, r (nI k) g' = some x ∧ R x) (fun k _ _ _ => by omega) (fun m r ih k g' hk hm f' q a => ?_) N 0 g (by omega) (by omega) (F8.rf g) (fun _ => rfl) (fun k hk => absurd hk (Nat.not_lt_zero _))
  unfold f_X8_layPlan_100
  by_cases z : n = k
  · subst z
    rw [if_pos (leN (Nat.le_refl _) (by omega))]
    exact out g' f' q a
  · have hp : 3 ^ (n - 1 - k) ≤ 3 ^ 6 := Nat.pow_le_pow_right (by omega) (by omega)
    have ed : f_X8_digitOf N (nI i) 3 (nI n) (nI k) = some (nI (dg 3 n i k)) := m_digit hN (b := 3) (by omega) (by omega) (by omega) (show k < n by omega) hn (by omega)
    have e1 : (1 : Int32) + nI (dg 3 n i k) = nI (1 + dg 3 n i k) := nI_add 1 _
    rw [if_neg (nleN (show k < n by omega) (show n < 2 ^ 31 by omega)), ed, bind_s, grd_p (inb_n (show k < 6 by omega) (show 6 < 2 ^ 31 by omega)), lt_e, lt_e, clN (show k < 2 ^ 31 by omega), nI_1, e1]
    refine ih (k + 1) _ (by omega) (by omega) (f'.tr (F8.a g' _ (by decide) (fun _ q => absurd q (by decide)))) q (fun j hj => ?_)
    rw [A_at]
    by_cases y : j = k
    · rw [if_pos ⟨rfl, y⟩, y]
    · rw [if_neg (fun q => y q.2)]; exact a j (by omega)
theorem m_planIn (hN : 1000 ≤ N) (hT : TOK T) (K : SOK T 0 S) (hh : (S.2 11).toInt ≤ 4000000) {c n i : Nat} (hc : c < nCr T) (hn : n ≤ 6) (hi : i < 729) {g0 : Hp} (r7 : Int32 → Hp → Option Hp) (R : Hp → Prop)
    (out : ∀ g, F8 g0 g → R8a g T S → gZ g 8 0 64 = false → RowP T S c n (i + 1) g → ∃ x, r7 (nI (i + 1)) g = some x ∧ R x) {g : Hp} (f : F8 g0 g) (ra : R8a g T S) (p64 : gZ g 8 0 64 = false) (s : Sm g 1 (S.2 14) T S) (w : RowP T S c n i g) : ∃ x, iter (fun _ _ => none) (f_X8_layPlan_23 N (nI c) (nI n) r7 (nI i)) N 0 g = some x ∧ R x := by
  have hc4 := hT.2.1.2
  refine iter_inv (bot := fun _ _ => none) (b := f_X8_layPlan_23 N (nI c) (nI n) r7 (nI i)) (fun m r => ∀ k g, k ≤ n → n < m + k → F8 g0 g → R8a g T S → gZ g 8 0 64 = false → Sm g 1 (S.2 14) T (plS T S c n i k) → RowP T S c n i g → ∃ x, r (nI k) g = some x ∧ R x) (fun k _ _ _ => by omega) (fun m r ih k g hk hm f ra p64 s w => ?_) N 0 g (by omega) (by omega) f ra p64 s w
  have h4 : (4 : Int32) + nI c = nI (4 + c) := nI_add 4 c
  unfold f_X8_layPlan_23
  by_cases z : n = k
  · subst z
    rw [if_pos (leN (Nat.le_refl _) (by omega))]
    have a4 : gA g 8 0 28 (4 + c) = (plS T S c n i n).1 6 c := (s.2.2.2.1.2.1 c hc).2.2.2.2.1
    simp only [jn_e, lt_e, h4, clN (show 4 + c < 2 ^ 31 by omega), clN (show c < 2 ^ 31 by omega), grd_p (inb_n (show 4 + c < 8 by omega) (show 8 < 2 ^ 31 by omega)), grd_p (inb_n (show c < 8 by omega) (show 8 < 2 ^ 31 by omega)), a4, ra.gain hc, nI_1, w.1]
    by_cases y : (plB T S c n i).1 < (plS T S c n i n).1 6 c - S.1 6 c
    · have ep : plB T S c n (i + 1) = ((plS T S c n i n).1 6 c - S.1 6 c, i) := by rw [plB_s, if_pos y]
      rw [if_pos y]
      have f1 : F8 g (sI g 8 0 68 ((plS T S c n i n).1 6 c - S.1 6 c)) := F8.i g _ (by decide)
      refine m_rowLoop hN hn hi _ _ R (fun g' f' q a => ?_)
      refine out g' (f.tr (f1.tr f')) (ra.f8 (f1.tr f')) ?_ ⟨?_, fun _ k hk => by rw [ep]; exact a k hk⟩
      · unfold gZ
        rw [q, I_at, if_neg (by decide)]
        exact p64
      · rw [q, I_at, if_pos rfl, ep]
    · have ep : plB T S c n (i + 1) = plB T S c n i := by rw [plB_s, if_neg y]
      rw [if_neg y]
      refine out g f ra p64 ⟨by rw [ep]; exact w.1, fun _ k hk => ?_⟩
      rw [ep]
      cases i with
      | zero =>
        refine absurd ?_ y
        have := pl_more hT K hh c n 0 hn
        show (-1 : Int32) < _
        have h1 := Int32.le_iff_toInt_le.mp this
        have z0 : (0 : Int32).toInt = 0 := rfl
        have z1 : (-1 : Int32).toInt = -1 := rfl
        exact Int32.lt_iff_toInt_lt.mpr (by omega)
      | succ i => exact w.2 (by omega) k hk
  · have hp : 3 ^ (n - 1 - k) ≤ 3 ^ 6 := Nat.pow_le_pow_right (by omega) (by omega)
    have ed : f_X8_digitOf N (nI i) 3 (nI n) (nI k) = some (nI (dg 3 n i k)) := m_digit hN (b := 3) (by omega) (by omega) (by omega) (show k < n by omega) hn (by omega)
    have e1 : (1 : Int32) + nI (dg 3 n i k) = nI (1 + dg 3 n i k) := nI_add 1 _
    rw [if_neg (nleN (show k < n by omega) (show n < 2 ^ 31 by omega)), ed, bind_s, h4, grd_p (inb_n (show 4 + c < 8 by omega) (show 8 < 2 ^ 31 by omega)), lt_e, clN (show 4 + c < 2 ^ 31 by omega), e1]
    obtain ⟨f1, s1⟩ := s.act1 (j := c) (nI (1 + dg 3 n i k)) (by omega)
    have e61 : gI (sA g 8 0 27 (4 + c) (nI (1 + dg 3 n i k))) 8 0 61 = S.2 14 := ra.rule
    obtain ⟨g2, e2, f2, s2⟩ := s1.hour hN (by decide) ((plS_ok hT K hh c n i k (by omega)).1.act0 (act_v n i k))
    have e2' : f_X8_goOn N (sA g 8 0 27 (4 + c) (nI (1 + dg 3 n i k))) 1 (S.2 14) = some g2 := e2
    rw [e61, e2', bind_s, lt_e, nI_1]
    obtain ⟨f3, i3, a3⟩ := s1.drop f2 s2
    refine ih (k + 1) g2 (by omega) (by omega) (f.tr (f1.tr f3)) (ra.f8 (f1.tr f3)) ?_ s2 ⟨by rw [i3 68 (by decide)]; exact w.1, fun hi k hk => ?_⟩
    · unfold gZ
      rw [i3 64 (by decide)]
      exact p64
    · rw [a3 34 (by decide), A_at, if_neg (fun q => absurd q.1 (by decide))]
      exact w.2 hi k hk
theorem m_layPlan (hN : 1000 ≤ N) (r : R8a g T S) (K : SOK T 0 S) (hh : (S.2 11).toInt ≤ 4000000) (p64 : gZ g 8 0 64 = false) {c n : Nat} (hc : c < nCr T) (hn : n ≤ 6) : ∃ g', f_X8_layPlan N g (nI c) (nI n) = some g' ∧ F8 g g' ∧ gZ g' 8 0 64 = false ∧ RowP T S c n (3 ^ n) g' := by
  have hT := r.1
  have h36 : 3 ^ n ≤ 729 := Nat.pow_le_pow_right (n := 3) (by omega) hn
  have f0 : F8 g (sI g 8 0 68 (-1)) := F8.i g _ (by decide)
  unfold f_X8_layPlan
  rw [lt_e]
  refine iter_inv (bot := fun _ _ => none) (b := f_X8_layPlan_7 N (nI c) (nI n)) (fun m q => ∀ i g1, i ≤ 3 ^ n → 3 ^ n < m + i → F8 g g1 → R8a g1 T S → gZ g1 8 0 64 = false → RowP T S c n i g1 → ∃ g', q (nI i) g1 = some g' ∧ F8 g g' ∧ gZ g' 8 0 64 = false ∧ RowP T S c n (3 ^ n) g') (fun i _ _ _ => by omega) (fun m q ih i g1 hi hm f ra z64 w => ?_) N 0 _ (Nat.zero_le _) (by omega) f0 (r.f8 f0) p64 ⟨by rw [I_at, if_pos rfl]; rfl, fun q => absurd q (by omega)⟩
  have ep : f_X8_powerOf N 3 (nI n) = some (nI (3 ^ n)) := m_power hN 3 n (by omega)
  unfold f_X8_layPlan_7
  rw [ep, bind_s]
  by_cases z : 3 ^ n = i
  · rw [if_pos (leN (by omega) (by omega)), z]
    exact ⟨g1, rfl, f, z64, w⟩
  · rw [if_neg (nleN (show i < 3 ^ n by omega) (by omega))]
    obtain ⟨g2, e2, f2, p2, s2, u2, r2⟩ := m_lay hN ra
    rw [e2, bind_s]
    have k68 : gI g2 8 0 68 = gI g1 8 0 68 ∧ gA g2 8 0 34 = gA g1 8 0 34 := ⟨(lay_lf e2).1 68 (by omega), (lay_lf e2).2 34 (by omega)⟩
    exact m_planIn hN hT K hh hc hn (by omega) q _ (fun g' f' r' z' w' => ih (i + 1) g' (by omega) (by omega) f' r' z' w') (f.tr f2) r2 p2.2.1 s2 ⟨by rw [k68.1]; exact w.1, by rw [k68.2]; exact w.2⟩
end MPlan
