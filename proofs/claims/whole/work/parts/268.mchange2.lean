-- PURE: act, rule, lot, lend by the reference
theorem adX_0 (X : Xs) (k w o : Int32) : (adX X k w o).2 0 = nI (if (X.2 0).toNatClampNeg < 20 then (X.2 0).toNatClampNeg + 1 else 20) := by
  rfl
theorem adX_2 (X : Xs) (k w o : Int32) (j : Nat) (h : j ≠ 0) : (adX X k w o).2 j = X.2 j := if_neg h
theorem adX_1 (X : Xs) (k w o : Int32) (j : Nat) (h : 3 ≤ j) : (adX X k w o).1 j = X.1 j := by
  show (if j = 0 then _ else if j = 1 then _ else if j = 2 then _ else X.1 j) = X.1 j
  rw [if_neg (by omega), if_neg (by omega), if_neg (by omega)]
theorem adX_SX {X : Xs} (k w o : Int32) (s : SX X) : SX (adX X k w o) := by
  unfold SX
  rw [adX_2 X k w o 1 (by decide), adX_2 X k w o 2 (by decide), adX_1 X k w o 3 (by omega), adX_1 X k w o 4 (by omega), adX_1 X k w o 5 (by omega)]
  exact s
theorem PI.chg {T : Txt} {S S' I : Str} {X : Xs} (p : PI T S I X) (s : SI T S') (k w o : Int32) : PI T S' I (adX X k w o) := by
  obtain ⟨p1, p2, p3, p4, p5, p6, p7, p8, p9⟩ := p
  refine ⟨p1, p2, p3, s, ?_, adX_SX k w o p6, ?_, ?_, ?_⟩
  · rw [adX_2 X k w o 7 (by decide)]; exact p5
  · rw [adX_2 X k w o 7 (by decide)]; exact p7
  · rw [adX_0]
    refine ⟨_, ?_, rfl⟩
    by_cases y : (X.2 0).toNatClampNeg < 20
    · rw [if_pos y]; omega
    · rw [if_neg y]; omega
  · rw [adX_2 X k w o 3 (by decide), adX_1 X k w o 7 (by omega)]; exact p9
section MChange
variable {N : Nat} {g : Hp} {T : Txt} {S S' I : Str} {X : Xs}
theorem m_chg (hN : 1000 ≤ N) (r : R8 g T S I X) (u : UX X) (K : SOK T 0 S) (c : C5 T S) {k w o : Int32} (v : VE T k w o) (q : Sq T (unM S' k w o) S) (h15 : S'.2 15 = S.2 15) : ∃ g1, f_X8_remember N g = some g1 ∧ K7 g g1 ∧ R8a g1 T S ∧ ∀ g2, R8a g2 T S' → K7 g1 g2 → (∀ k, k ≠ 61 → gI g2 8 0 k = gI g1 8 0 k) → (∀ k, gL g2 8 0 k = gL g1 8 0 k) → (∀ k, (k < 23 ∨ 33 < k) → gA g2 8 0 k = gA g1 8 0 k) → R8 g2 T S' I (adX X k w o) ∧ K7 g g2 := by
  have u' := u
  obtain ⟨z, hz, e0⟩ := u
  have ez : (X.2 0).toNatClampNeg = z := by rw [e0, clN (by omega)]
  have e76 : gI g 8 0 76 = nI z := r.2.2.2.2.2.1.1.trans e0
  obtain ⟨g1, e1, f1, i1, a1, a2⟩ := m_remember hN r.1 hz e76
  refine ⟨g1, e1, f1.1, f1.ra r.1, fun g2 ra k2 i2 l2 h2 => ⟨r.mk ra (fun j _ _ h3 h4 => (i2 j h3).trans (f1.2.1 j h4)) (fun j => (l2 j).trans (f1.2.2.1 j)) (fun j h3 h4 => (h2 j h3).trans (f1.2.2.2 j h4)) h15 (fun j hj => adX_1 X k w o j hj) (fun j hj => adX_2 X k w o j hj) ?_ ?_, f1.1.tr k2⟩⟩
  · rw [i2 76 (by decide), i1, adX_0, ez]
  · rw [h2 39 (by omega)]
    refine UR_add r.1.1 u' r.2.2.2.2.2.1.2 v q K c (fun y => ?_) (fun y => ?_)
    · rw [ez] at y ⊢; exact a1 y
    · rw [ez] at y; exact a2 y
theorem m_act (hN : 1000 ≤ N) (r : R8 g T S I X) (p : PI T S I X) (c a : Int32) : ∃ g', f_X8_act N g c a = some (actQ T S c a, g') ∧ R8 g' T (if actQ T S c a = true then upA S 5 c.toNatClampNeg a else S) I (if actQ T S c a = true then adX X 0 c (S.1 5 c.toNatClampNeg) else X) ∧ K7 g g' := by
  obtain ⟨r0, k0⟩ := r.z0
  have hT := p.1
  have hc4 := hT.2.1.2
  have no : actQ T S c a = false → ∃ g', some (false, sI g 8 0 2 0) = some (actQ T S c a, g') ∧ R8 g' T (if actQ T S c a = true then upA S 5 c.toNatClampNeg a else S) I (if actQ T S c a = true then adX X 0 c (S.1 5 c.toNatClampNeg) else X) ∧ K7 g g' := fun q => by
    rw [q, if_neg (fun w => Bool.noConfusion w), if_neg (fun w => Bool.noConfusion w)]
    exact ⟨_, rfl, r0, k0⟩
  unfold f_X8_act
  simp only [jn_e, lt_e, m_isCroft r0.1.2.2.1.2.1, m_isIn, bind_s, b2i0, decide_eq_false_iff_not]
  cases hc : inC T c with
  | false => rw [if_pos rfl]; exact no (by unfold actQ; rw [hc]; rfl)
  | true =>
    obtain ⟨i, hi, rfl⟩ := inC_of hT hc
    obtain ⟨b2, b3, b4, b5, b6, b7⟩ := r0.1.row hi
    rw [if_neg (fun q => Bool.noConfusion q)]
    by_cases z0 : 0 ≤ a ∧ a ≤ 3
    rotate_left
    · rw [if_pos z0]; exact no (by unfold actQ; rw [decide_eq_false z0, Bool.and_false]; rfl)
    rw [if_neg (fun q => q z0), grd_p (inb_n (show i < 8 by omega) (by omega))]
    simp only [clN (show i < 2 ^ 31 by omega), b5]
    simp only [clN (show i < 2 ^ 31 by omega)] at no
    by_cases z2 : S.1 5 i = a
    · rw [if_neg (fun q => q z2)]
      exact no (by unfold actQ; rw [clN (show i < 2 ^ 31 by omega), decide_eq_false (show ¬ ¬ S.1 5 i = a from fun q => q z2), Bool.and_false])
    have yes : actQ T S (nI i) a = true := by
      unfold actQ
      rw [hc, clN (show i < 2 ^ 31 by omega), decide_eq_true z2, decide_eq_true z0]; rfl
    have sq : Sq T (unM (upA S 5 i a) 0 (nI i) (S.1 5 i)) S := by
      unfold unM
      rw [if_pos rfl, clN (show i < 2 ^ 31 by omega)]
      refine sq_of (fun x j => ?_) rfl
      rw [upA_k, upA_k]
      by_cases y : x = 5 ∧ j = i
      · rw [if_pos y, y.1, y.2]
      · rw [if_neg y, if_neg y]
    obtain ⟨g1, e1, k1, ra1, fin⟩ := m_chg (S' := upA S 5 i a) (k := 0) (w := nI i) (o := S.1 5 i) hN r0 p.2.2.2.2.2.2.2.1 p.2.2.2.1.1 p.2.2.2.1.2.1 (Or.inl ⟨rfl, i, hi, rfl⟩) sq rfl
    obtain ⟨x1, x2⟩ := fin (sA g1 8 0 27 i a) (ra1.act a (by omega)) (K7.a g1 27 i a) (fun _ _ => rfl) (fun _ => rfl) (fun k hk => funext fun u => by rw [A_at, if_neg (fun q => by omega)])
    rw [if_pos z2, e1, bind_s, grd_p (inb_n (show i < 8 by omega) (by omega)), yes, if_pos rfl, if_pos rfl]
    exact ⟨_, rfl, x1, k0.tr x2⟩
theorem PI_act (p : PI T S I X) (c a : Int32) : PI T (if actQ T S c a = true then upA S 5 c.toNatClampNeg a else S) I (if actQ T S c a = true then adX X 0 c (S.1 5 c.toNatClampNeg) else X) := by
  by_cases z : actQ T S c a = true
  · rw [if_pos z, if_pos z]
    obtain ⟨K, c5, G, h9, hz, hc⟩ := p.2.2.2.1
    refine p.chg ⟨K.act0 ?_, c5, G, h9, hz, hc⟩ _ _ _
    unfold actQ at z
    simp only [Bool.and_eq_true, decide_eq_true_eq] at z
    obtain ⟨q, hq, rfl⟩ := rngN (a := a) (m := 3) (by omega) z.1.2.1 z.1.2.2
    rcases (show q = 0 ∨ q = 1 ∨ q = 2 ∨ q = 3 by omega) with rfl | rfl | rfl | rfl
    · exact Or.inl rfl
    · exact Or.inr (Or.inl rfl)
    · exact Or.inr (Or.inr (Or.inl rfl))
    · exact Or.inr (Or.inr (Or.inr rfl))
  · rw [if_neg z, if_neg z]; exact p
theorem m_rule (hN : 1000 ≤ N) (r : R8 g T S I X) (p : PI T S I X) (a : Int32) : ∃ g', f_X8_rule N g a = some (rulQ S a, g') ∧ R8 g' T (if rulQ S a = true then upI S 14 a else S) I (if rulQ S a = true then adX X 1 0 (S.2 14) else X) ∧ K7 g g' := by
  obtain ⟨r0, k0⟩ := r.z0
  have no : rulQ S a = false → ∃ g', some (false, sI g 8 0 2 0) = some (rulQ S a, g') ∧ R8 g' T (if rulQ S a = true then upI S 14 a else S) I (if rulQ S a = true then adX X 1 0 (S.2 14) else X) ∧ K7 g g' := fun q => by
    rw [q, if_neg (fun w => Bool.noConfusion w), if_neg (fun w => Bool.noConfusion w)]
    exact ⟨_, rfl, r0, k0⟩
  unfold f_X8_rule
  simp only [jn_e, lt_e, m_isIn, bind_s, b2i0, decide_eq_false_iff_not, r0.1.rule]
  by_cases z : 0 ≤ a ∧ a ≤ 2
  rotate_left
  · rw [if_pos z]; exact no (by unfold rulQ; rw [decide_eq_false z]; rfl)
  rw [if_neg (fun q => q z)]
  by_cases z2 : S.2 14 = a
  · rw [if_neg (fun q => q z2.symm)]; exact no (by unfold rulQ; rw [decide_eq_false (show ¬ ¬ S.2 14 = a from fun q => q z2), Bool.and_false])
  have yes : rulQ S a = true := by
    unfold rulQ
    rw [decide_eq_true z, decide_eq_true z2]; rfl
  have sq : Sq T (unM (upI S 14 a) 1 0 (S.2 14)) S := by
    unfold unM
    rw [if_neg (show ¬ (1 : Int32) = 0 by decide), if_pos rfl, upI_upI, upI_self]
    exact Sq.rf T S
  obtain ⟨g1, e1, k1, ra1, fin⟩ := m_chg (S' := upI S 14 a) (k := 1) (w := 0) (o := S.2 14) hN r0 p.2.2.2.2.2.2.2.1 p.2.2.2.1.1 p.2.2.2.1.2.1 (Or.inr (Or.inl rfl)) sq (upI_n _ _ (by decide))
  obtain ⟨x1, x2⟩ := fin (sI g1 8 0 61 a) (ra1.setrule a) (K7.i g1 61 a) (fun k hk => by rw [I_at, if_neg hk]) (fun _ => rfl) (fun _ _ => rfl)
  rw [if_pos (fun q => z2 q.symm), e1, bind_s, yes, if_pos rfl, if_pos rfl]
  exact ⟨_, rfl, x1, k0.tr x2⟩
theorem PI_rule (p : PI T S I X) (a : Int32) : PI T (if rulQ S a = true then upI S 14 a else S) I (if rulQ S a = true then adX X 1 0 (S.2 14) else X) := by
  by_cases z : rulQ S a = true
  · rw [if_pos z, if_pos z]
    obtain ⟨K, c5, G, h9, hz, hc⟩ := p.2.2.2.1
    exact p.chg ⟨K.setr a, c5, G, h9, hz, hc⟩ _ _ _
  · rw [if_neg z, if_neg z]; exact p
theorem m_lot (hN : 1000 ≤ N) (r : R8 g T S I X) (p : PI T S I X) (s c : Int32) : ∃ g', f_X8_lot N g s c = some (lotQ T S s c, g') ∧ R8 g' T (if lotQ T S s c = true then upA S 1 s.toNatClampNeg c else S) I (if lotQ T S s c = true then adX X 2 s (S.1 1 s.toNatClampNeg) else X) ∧ K7 g g' := by
  obtain ⟨r0, k0⟩ := r.z0
  have hT := p.1
  have h8 := hT.1.2
  have no : lotQ T S s c = false → ∃ g', some (false, sI g 8 0 2 0) = some (lotQ T S s c, g') ∧ R8 g' T (if lotQ T S s c = true then upA S 1 s.toNatClampNeg c else S) I (if lotQ T S s c = true then adX X 2 s (S.1 1 s.toNatClampNeg) else X) ∧ K7 g g' := fun q => by
    rw [q, if_neg (fun w => Bool.noConfusion w), if_neg (fun w => Bool.noConfusion w)]
    exact ⟨_, rfl, r0, k0⟩
  unfold f_X8_lot
  simp only [jn_e, lt_e, m_isStripe r0.1.2.2.1.1, m_isCroft r0.1.2.2.1.2.1, bind_s, b2i0]
  cases hs : inS T s with
  | false => rw [if_pos rfl]; exact no (by unfold lotQ; rw [hs]; rfl)
  | true =>
    rw [if_neg (fun q => Bool.noConfusion q)]
    cases hc : inC T c with
    | false => rw [if_pos rfl]; exact no (by unfold lotQ; rw [hs, hc]; rfl)
    | true =>
      obtain ⟨i, hi, rfl⟩ := inS_of hT hs
      rw [if_neg (fun q => Bool.noConfusion q), grd_p (inb_n (show i < 16 by omega) (by omega))]
      simp only [clN (show i < 2 ^ 31 by omega), (r0.1.lies hi).2]
      simp only [clN (show i < 2 ^ 31 by omega)] at no
      by_cases z2 : S.1 1 i = c
      · rw [if_neg (fun q => q z2)]
        exact no (by unfold lotQ; rw [clN (show i < 2 ^ 31 by omega), decide_eq_false (show ¬ ¬ S.1 1 i = c from fun q => q z2), Bool.and_false])
      have yes : lotQ T S (nI i) c = true := by
        unfold lotQ
        rw [hs, hc, clN (show i < 2 ^ 31 by omega), decide_eq_true z2]; rfl
      have sq : Sq T (unM (upA S 1 i c) 2 (nI i) (S.1 1 i)) S := by
        unfold unM
        rw [if_neg (show ¬ (2 : Int32) = 0 by decide), if_neg (show ¬ (2 : Int32) = 1 by decide), if_pos rfl, clN (show i < 2 ^ 31 by omega)]
        refine sq_of (fun x j => ?_) rfl
        rw [upA_k, upA_k]
        by_cases y : x = 1 ∧ j = i
        · rw [if_pos y, y.1, y.2]
        · rw [if_neg y, if_neg y]
      obtain ⟨g1, e1, k1, ra1, fin⟩ := m_chg (S' := upA S 1 i c) (k := 2) (w := nI i) (o := S.1 1 i) hN r0 p.2.2.2.2.2.2.2.1 p.2.2.2.1.1 p.2.2.2.1.2.1 (Or.inr (Or.inr (Or.inl ⟨rfl, i, hi, rfl⟩))) sq rfl
      obtain ⟨x1, x2⟩ := fin (sA g1 8 0 24 i c) (ra1.lot c (by omega)) (K7.a g1 24 i c) (fun _ _ => rfl) (fun _ => rfl) (fun k hk => funext fun u => by rw [A_at, if_neg (fun q => by omega)])
      rw [if_pos z2, e1, bind_s, grd_p (inb_n (show i < 16 by omega) (by omega)), yes, if_pos rfl, if_pos rfl]
      exact ⟨_, rfl, x1, k0.tr x2⟩
theorem PI_lot (p : PI T S I X) (s c : Int32) : PI T (if lotQ T S s c = true then upA S 1 s.toNatClampNeg c else S) I (if lotQ T S s c = true then adX X 2 s (S.1 1 s.toNatClampNeg) else X) := by
  by_cases z : lotQ T S s c = true
  · rw [if_pos z, if_pos z]
    obtain ⟨K, c5, G, h9, hz, hc⟩ := p.2.2.2.1
    exact p.chg ⟨K.lot, c5, G, h9, hz, hc⟩ _ _ _
  · rw [if_neg z, if_neg z]; exact p
theorem mv_back {i j : Nat} (S : Str) (hij : i ≠ j) : ∀ x y, (mvM (mvM S i j) j i).1 x y = S.1 x y := by
  intro x y
  have e1 : ∀ v : Int32, v + 1 - 1 = v := fun v => Int32.add_sub_cancel v 1
  have e2 : ∀ v : Int32, v - 1 + 1 = v := fun v => Int32.sub_add_cancel v 1
  unfold mvM
  simp only [upA_k]
  by_cases h1 : x = 2 ∧ y = i
  · obtain ⟨rfl, rfl⟩ := h1
    simp [hij, e2]
  · by_cases h2 : x = 2 ∧ y = j
    · obtain ⟨rfl, rfl⟩ := h2
      have hji : ¬ y = i := fun h => hij h.symm
      simp [hji, e1]
    · rw [if_neg h1, if_neg h2, if_neg h2, if_neg h1]
theorem m_lend (hN : 1000 ≤ N) (r : R8 g T S I X) (p : PI T S I X) (a b : Int32) : ∃ g', f_X8_lend N g a b = some (lenM T S a b, g') ∧ R8 g' T (if lenM T S a b = true then mvM S a.toNatClampNeg b.toNatClampNeg else S) I (if lenM T S a b = true then adX X 3 a b else X) ∧ K7 g g' := by
  obtain ⟨r0, k0⟩ := r.z0
  have hT := p.1
  have hc4 := hT.2.1.2
  unfold f_X8_lend
  rw [lt_e, m_canLend r0.1, bind_s]
  cases hl : lenM T S a b with
  | false =>
    rw [if_neg (show ¬ ¬ b2i false = 0 by decide), if_neg (fun w => Bool.noConfusion w), if_neg (fun w => Bool.noConfusion w)]
    exact ⟨_, rfl, r0, k0⟩
  | true =>
    obtain ⟨i, j, hi, hj, hij, rfl, rfl, h4, h5⟩ := lenM_of hT hl
    have sq : Sq T (unM (mvM S i j) 3 (nI i) (nI j)) S := by
      unfold unM
      rw [if_neg (show ¬ (3 : Int32) = 0 by decide), if_neg (show ¬ (3 : Int32) = 1 by decide), if_neg (show ¬ (3 : Int32) = 2 by decide), clN (show i < 2 ^ 31 by omega), clN (show j < 2 ^ 31 by omega)]
      exact sq_of (mv_back S hij) rfl
    obtain ⟨g1, e1, k1, ra1, fin⟩ := m_chg (S' := mvM S i j) (k := 3) (w := nI i) (o := nI j) hN r0 p.2.2.2.2.2.2.2.1 p.2.2.2.1.1 p.2.2.2.1.2.1 (Or.inr (Or.inr (Or.inr ⟨rfl, i, j, hi, hj, rfl, rfl⟩))) sq rfl
    have ra2 := ra1.cart (i := i) (S.1 2 i - 1) (by omega)
    have ra3 := ra2.cart (i := j) ((upA S 2 i (S.1 2 i - 1)).1 2 j + 1) (by omega)
    obtain ⟨x1, x2⟩ := fin _ ra3 ((K7.a g1 25 i _).tr (K7.a _ 25 j _)) (fun _ _ => rfl) (fun _ => rfl) (fun k hk => funext fun u => by rw [A_at, if_neg (fun q => by omega), A_at, if_neg (fun q => by omega)])
    rw [if_pos (show ¬ b2i true = 0 by decide), e1, bind_s, grd_p (inb_n (show i < 8 by omega) (by omega)), grd_p (inb_n (show i < 8 by omega) (by omega)), lt_e, grd_p (inb_n (show j < 8 by omega) (by omega)), grd_p (inb_n (show j < 8 by omega) (by omega)), lt_e, clN (show i < 2 ^ 31 by omega), clN (show j < 2 ^ 31 by omega), (ra1.row hi).1, (ra2.row hj).1, if_pos rfl, if_pos rfl]
    exact ⟨_, rfl, x1, k0.tr x2⟩
theorem PI_lend (p : PI T S I X) (a b : Int32) : PI T (if lenM T S a b = true then mvM S a.toNatClampNeg b.toNatClampNeg else S) I (if lenM T S a b = true then adX X 3 a b else X) := by
  by_cases z : lenM T S a b = true
  · rw [if_pos z, if_pos z]
    obtain ⟨i, j, hi, hj, hij, rfl, rfl, h4, h5⟩ := lenM_of p.1 z
    have hc4 := p.1.2.1.2
    obtain ⟨K, c5, G, h9, hz, hc⟩ := p.2.2.2.1
    rw [clN (show i < 2 ^ 31 by omega), clN (show j < 2 ^ 31 by omega)]
    have other : ∀ k c, k ≠ 2 → (mvM S i j).1 k c = S.1 k c := fun k c hk => by
      unfold mvM
      rw [upA_n _ _ _ hk, upA_n _ _ _ hk]
    refine p.chg ⟨mvM_SOK K hi hj hij h4 h5, fun c h => ?_, fun c h => by rw [other 6 c (by decide)]; exact G c h, h9, hz, fun c h => by rw [other 3 c (by decide), other 4 c (by decide)]; exact hc c h⟩ _ _ _
    have z1 : (1 : Int32).toInt = 1 := rfl
    have h4' := Int32.lt_iff_toInt_lt.mp h4
    have h5' := Int32.lt_iff_toInt_lt.mp h5
    have z0 : (0 : Int32).toInt = 0 := rfl
    have z5 : (5 : Int32).toInt = 5 := rfl
    have k1 := (K.2.1 i hi).1
    have k2 := (K.2.1 j hj).1
    have eW : (upA S 2 i (S.1 2 i - 1)).1 2 j = S.1 2 j := by rw [upA_at, if_neg (fun q => hij q.symm)]
    unfold mvM
    rw [eW, upA_at _ 2 j, upA_at S 2 i]
    by_cases y : c = j
    · rw [if_pos y, add_toInt (by omega)]; omega
    · rw [if_neg y]
      by_cases y' : c = i
      · rw [if_pos y', sub_toInt (by have := c5 i hi; omega)]; have := c5 i hi; omega
      · rw [if_neg y']; exact c5 c h
  · rw [if_neg z, if_neg z]; exact p
end MChange
