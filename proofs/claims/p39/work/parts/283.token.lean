-- PURE: a token read, by both
def isSp (b : Int32) : Bool := decide (b = 32 ∨ b = 10)
/-- a token: what the reference makes of it, what the class -/
def OM (f : Nat → Int32) (n a p' : Nat) (mk mw : Int32) : Prop := (a = n ∧ p' = n ∧ mk = 0) ∨ (a < n ∧ isL (f a) = true ∧ p' = rnE isL f (n - a) a ∧ ((∃ k, IsW (lst f (p' - a) a) k ∧ mk = 1 ∧ mw = nI k) ∨ ((∀ k, ¬ IsW (lst f (p' - a) a) k) ∧ ((p' - a ≤ 6 ∧ mk = 2 ∧ mw = nI (pckL (lst f (p' - a) a) 6)) ∨ (6 < p' - a ∧ mk = 6))))) ∨ (a < n ∧ isL (f a) = false ∧ isD (f a) = true ∧ p' = rnE isD f (n - a) a ∧ mk = 3 ∧ mw = mnV f (n - a) a 0) ∨ (a < n ∧ isL (f a) = false ∧ isD (f a) = false ∧ p' = a + sgL (f a) (nxB f n a) ∧ mk = (sgM (f a) (nxB f n a)).1 ∧ mw = (sgM (f a) (nxB f n a)).2)
def OC (f : Nat → Int32) (n a p' : Nat) (ck cn cl : Int32) : Prop := (a = n ∧ p' = n ∧ ck = 0) ∨ (a < n ∧ isL (f a) = true ∧ p' = rnE isL f (n - a) a ∧ ((6 < p' - a ∧ ck = 1) ∨ (p' - a ≤ 6 ∧ cl = nI (pckL (lst f (p' - a) a) 6) ∧ ((∃ k, IsW (lst f (p' - a) a) k ∧ ck = nI (256 + cwd k)) ∨ ((∀ k, ¬ IsW (lst f (p' - a) a) k) ∧ ck = 3))))) ∨ (a < n ∧ isL (f a) = false ∧ isD (f a) = true ∧ p' = rnE isD f (n - a) a ∧ ck = 2 ∧ cn = cnV f (n - a) a 0) ∨ (a < n ∧ isL (f a) = false ∧ isD (f a) = false ∧ p' = a + sgL (f a) (nxB f n a) ∧ ck = sgC (f a) (nxB f n a))
theorem mnV_cg {f f' : Nat → Int32} : ∀ k p v, (∀ i, p ≤ i → i < p + k → f i = f' i) → mnV f k p v = mnV f' k p v
  | 0, _, _, _ => rfl
  | k + 1, p, v, h => by
    rw [mnV_s, mnV_s, h p (by omega) (by omega)]
    by_cases z : isD (f' p) = true
    · rw [if_pos z, if_pos z, mnV_cg k (p + 1) _ (fun i h1 h2 => h i (by omega) (by omega))]
    · rw [if_neg z, if_neg z]
theorem nxB_cg {f f' : Nat → Int32} {n a : Nat} (h : ∀ i, i < n → f i = f' i) : nxB f n a = nxB f' n a := by
  unfold nxB
  by_cases z : a + 1 < n
  · rw [if_pos z, if_pos z, h _ z]
  · rw [if_neg z, if_neg z]
theorem sgL_nx (f : Nat → Int32) {n a : Nat} (ha : a < n) : 1 ≤ sgL (f a) (nxB f n a) ∧ a + sgL (f a) (nxB f n a) ≤ n := by
  unfold sgL
  by_cases z : twoS (f a) (nxB f n a) = true
  · rw [if_pos z]
    refine ⟨by omega, ?_⟩
    by_cases y : a + 1 < n
    · omega
    · exfalso
      have e : nxB f n a = 0 := if_neg y
      rw [e] at z
      have z := of_decide_eq_true z
      rcases z with q | q | q
      · exact absurd q.2 (by decide)
      · exact absurd q.2 (by decide)
      · exact absurd q.2 (by decide)
  · rw [if_neg z]; omega
theorem OM_cg {f f' : Nat → Int32} {n a p' : Nat} {mk mw : Int32} (h : ∀ i, i < n → f i = f' i) (o : OM f' n a p' mk mw) : OM f n a p' mk mw := by
  have r : ∀ P, a < n → rnE P f (n - a) a = rnE P f' (n - a) a := fun P ha => rnE_cg P _ _ (fun i _ h2 => h i (by omega))
  unfold OM at o ⊢
  rcases o with o | ⟨o1, o2, o3, o4⟩ | ⟨o1, o2, o3, o4, o5, o6⟩ | ⟨o1, o2, o3, o4, o5, o6⟩
  · exact Or.inl o
  · have : p' ≤ n := by have := (rnE_le isL f' (n - a) a).2; omega
    have el : lst f (p' - a) a = lst f' (p' - a) a := lst_cg _ _ (fun i h1 h2 => h i (by omega))
    rw [el, r _ o1, h a o1]
    exact Or.inr (Or.inl ⟨o1, o2, o3, o4⟩)
  · rw [r isD o1, h a o1, mnV_cg (n - a) a 0 (fun i h1 h2 => h i (by omega))]
    exact Or.inr (Or.inr (Or.inl ⟨o1, o2, o3, o4, o5, o6⟩))
  · rw [h a o1, nxB_cg h]
    exact Or.inr (Or.inr (Or.inr ⟨o1, o2, o3, o4, o5, o6⟩))
theorem tok_same {f : Nat → Int32} {n a p' p'' : Nat} {ck cn cl mk mw : Int32} (c : OC f n a p' ck cn cl) (o : OM f n a p'' mk mw) : p' = p'' ∧ TKR ck cn cl mk mw ∧ a ≤ p' ∧ p' ≤ n ∧ (¬ ck = 0 → a < p') := by
  unfold OC at c
  unfold OM at o
  have run : ∀ P, a < n → P (f a) = true → a < rnE P f (n - a) a ∧ rnE P f (n - a) a ≤ n := fun P ha hp => by
    have e : n - a = (n - a - 1) + 1 := by omega
    rw [e, rnE_s, if_pos hp]
    have := rnE_le P f (n - a - 1) (a + 1)
    omega
  rcases c with ⟨c1, c2, c3⟩ | ⟨c1, c2, c3, c4⟩ | ⟨c1, c2, c3, c4, c5, c6⟩ | ⟨c1, c2, c3, c4, c5⟩
  · rcases o with ⟨o1, o2, o3⟩ | o | o | o
    · exact ⟨by omega, Or.inl ⟨c3, o3⟩, by omega, by omega, fun q => absurd c3 q⟩
    · have := o.1; omega
    · have := o.1; omega
    · have := o.1; omega
  · rcases o with ⟨o1, o2, o3⟩ | ⟨o1, o2, o3, o4⟩ | ⟨o1, o2, o3, o4, o5, o6⟩ | ⟨o1, o2, o3, o4, o5, o6⟩
    · omega
    · have pe : p' = p'' := by rw [c3, o3]
      rw [← pe] at o4
      have rr := run isL c1 c2
      rw [← c3] at rr
      refine ⟨pe, ?_, by omega, rr.2, fun _ => rr.1⟩
      rcases c4 with ⟨d1, d2⟩ | ⟨d1, d2, d3⟩
      · rcases o4 with ⟨k, ⟨k1, k2⟩, o5, o6⟩ | ⟨o5, ⟨o6, -, -⟩ | ⟨-, o7⟩⟩
        · exfalso
          have := (wrd_ok k k1).1
          rw [k2, lst_len] at this
          omega
        · omega
        · exact Or.inr (Or.inl ⟨d2, Or.inl o7⟩)
      · rcases o4 with ⟨k, k1, o5, o6⟩ | ⟨o5, ⟨o6, o7, o8⟩ | ⟨o6, -⟩⟩
        · rcases d3 with ⟨j, j1, j2⟩ | ⟨j1, -⟩
          · have : j = k := wrd_inj j j1.1 k k1.1 (j1.2.trans k1.2.symm)
            subst this
            exact Or.inr (Or.inr (Or.inr (Or.inr (Or.inr (Or.inr ⟨o5, j, k1.1, o6, j2⟩)))))
          · exact absurd k1 (j1 k)
        · rcases d3 with ⟨j, j1, j2⟩ | ⟨j1, j2⟩
          · exact absurd j1 (o5 j)
          · exact Or.inr (Or.inr (Or.inr (Or.inl ⟨j2, o7, by rw [d2, o8]⟩)))
        · omega
    · rw [c2] at o2; exact Bool.noConfusion o2
    · rw [c2] at o2; exact Bool.noConfusion o2
  · rcases o with ⟨o1, o2, o3⟩ | ⟨o1, o2, o3, o4⟩ | ⟨o1, o2, o3, o4, o5, o6⟩ | ⟨o1, o2, o3, o4, o5, o6⟩
    · omega
    · rw [c2] at o2; exact Bool.noConfusion o2
    · have rr := run isD c1 c3
      rw [← c4] at rr
      refine ⟨by rw [c4, o4], Or.inr (Or.inr (Or.inl ⟨c5, o5, ?_⟩)), by omega, rr.2, fun _ => rr.1⟩
      rw [c6, o6]
      exact num_same f _ _ _ _ (Or.inl ⟨0, by omega, rfl, rfl⟩)
    · rw [c3] at o3; exact Bool.noConfusion o3
  · rcases o with ⟨o1, o2, o3⟩ | ⟨o1, o2, o3, o4⟩ | ⟨o1, o2, o3, o4, o5, o6⟩ | ⟨o1, o2, o3, o4, o5, o6⟩
    · omega
    · rw [c2] at o2; exact Bool.noConfusion o2
    · rw [c3] at o3; exact Bool.noConfusion o3
    · have sl := sgL_nx f c1
      rw [← c4] at sl
      refine ⟨by rw [c4, o4], ?_, by omega, sl.2, fun _ => by omega⟩
      rw [c5, o5, o6]
      exact sg_same _ _ _ _
section Token
variable {N : Nat} {h g : Hp} {n : Nat}
theorem nx8 {α : Type} {h2 : Hp} {p : Nat} (e6 : gI h2 8 0 6 = nI n) (hn : n ≤ 700) (hp : p < n) (e7 : gI h2 8 0 7 = nI (p + 1)) (F : Int32 → Option α) : jn F (fun j => if (gI h2 8 0 6) ≤ (gI h2 8 0 7) then j 0 else grd (inb (gI h2 8 0 7) 700) <| j (gA h2 8 0 0 (gI h2 8 0 7).toNatClampNeg)) = F (nxB (gA h2 8 0 0) n p) := by
  rw [jn_e, e6, e7]
  unfold nxB
  by_cases z : p + 1 < n
  · rw [if_neg (nleN z (by omega)), if_pos z, grd_p (inb_n (by omega) (by omega)), clN (by omega)]
  · rw [if_pos (leN (by omega) (by omega)), if_neg z]
theorem m_signToken (e6 : gI g 8 0 6 = nI n) (hn : n ≤ 700) {p : Nat} (e7 : gI g 8 0 7 = nI p) (hp : p < n) : ∃ g', f_X8_signToken g = some g' ∧ U8 g g' ∧ gI g' 8 0 10 = gI g 8 0 10 ∧ gI g' 8 0 7 = nI (p + sgL (gA g 8 0 0 p) (nxB (gA g 8 0 0) n p)) ∧ gI g' 8 0 8 = (sgM (gA g 8 0 0 p) (nxB (gA g 8 0 0) n p)).1 ∧ gI g' 8 0 9 = (sgM (gA g 8 0 0 p) (nxB (gA g 8 0 0) n p)).2 := by
  unfold f_X8_signToken
  rw [grd_p (by rw [e7]; exact inb_n (by omega) (by omega)), lt_e, lt_e]
  obtain ⟨h2, hh⟩ : ∃ h2, h2 = sI (sI g 8 0 9 (gA g 8 0 0 (gI g 8 0 7).toNatClampNeg)) 8 0 7 (gI (sI g 8 0 9 (gA g 8 0 0 (gI g 8 0 7).toNatClampNeg)) 8 0 7 + 1) := ⟨_, rfl⟩
  have u2 : U8 g h2 := by rw [hh]; exact (U8.i g 9 _ (by omega)).tr (U8.i _ 7 _ (by omega))
  have f9 : gI h2 8 0 9 = gA g 8 0 0 p := by rw [hh, I_at, if_neg (by decide), I_at, if_pos rfl, e7, clN (by omega)]
  have f7 : gI h2 8 0 7 = nI (p + 1) := by rw [hh, I_at, if_pos rfl, I_at, if_neg (by decide), e7, nI_1]
  have f6 : gI h2 8 0 6 = nI n := by rw [hh, I_at, if_neg (by decide), I_at, if_neg (by decide), e6]
  have f10 : gI h2 8 0 10 = gI g 8 0 10 := by rw [hh, I_at, if_neg (by decide), I_at, if_neg (by decide)]
  have fA : gA h2 8 0 0 = gA g 8 0 0 := u2.2.2.2 0
  rw [← hh, jn_e, nx8 f6 hn hp f7, fA]
  obtain ⟨b, hb⟩ : ∃ b, b = gA g 8 0 0 p := ⟨_, rfl⟩
  obtain ⟨t, ht⟩ : ∃ t, t = nxB (gA g 8 0 0) n p := ⟨_, rfl⟩
  rw [← hb] at f9 ⊢
  rw [← ht]
  clear ht hh
  have cmp : ∀ (h7 : Hp) (l : Nat) (v : Int32), U8 g h7 → gI h7 8 0 10 = gI g 8 0 10 → gI h7 8 0 7 = nI (p + l) → ∃ g', some (sI (sI h7 8 0 8 5) 8 0 9 v) = some g' ∧ U8 g g' ∧ gI g' 8 0 10 = gI g 8 0 10 ∧ gI g' 8 0 7 = nI (p + l) ∧ gI g' 8 0 8 = 5 ∧ gI g' 8 0 9 = v := fun h7 l v u a c => by
    refine ⟨_, rfl, u.tr ((U8.i h7 8 _ (by omega)).tr (U8.i _ 9 _ (by omega))), ?_, ?_, ?_, ?_⟩
    · rw [I_at, if_neg (by decide), I_at, if_neg (by decide), a]
    · rw [I_at, if_neg (by decide), I_at, if_neg (by decide), c]
    · rw [I_at, if_neg (by decide), I_at, if_pos rfl]
    · rw [I_at, if_pos rfl]
  have pl : ∀ v : Int32, ∃ g', some (sI h2 8 0 8 v) = some g' ∧ U8 g g' ∧ gI g' 8 0 10 = gI g 8 0 10 ∧ gI g' 8 0 7 = nI (p + 1) ∧ gI g' 8 0 8 = v ∧ gI g' 8 0 9 = b := fun v => by
    refine ⟨_, rfl, u2.tr (U8.i h2 8 _ (by omega)), ?_, ?_, ?_, ?_⟩
    · rw [I_at, if_neg (by decide), f10]
    · rw [I_at, if_neg (by decide), f7]
    · rw [I_at, if_pos rfl]
    · rw [I_at, if_neg (by decide), f9]
  have a9 : gI (sI h2 8 0 8 5) 8 0 9 = b := by rw [I_at, if_neg (by decide), f9]
  have a9' : ∀ v, gI (sI (sI h2 8 0 7 v) 8 0 8 5) 8 0 9 = b := fun v => by rw [I_at, if_neg (by decide), I_at, if_neg (by decide), f9]
  have u2' : U8 g (sI h2 8 0 7 (nI (p + 2))) := u2.tr (U8.i h2 7 _ (by omega))
  have c10 : gI (sI h2 8 0 7 (nI (p + 2))) 8 0 10 = gI g 8 0 10 := by rw [I_at, if_neg (by decide), f10]
  have c7 : gI (sI h2 8 0 7 (nI (p + 2))) 8 0 7 = nI (p + 2) := by rw [I_at, if_pos rfl]
  have bt : ¬ b2i true = 0 := by decide
  have bf : b2i false = 0 := rfl
  simp only [jn_e, lt_e, f9, f7, nI_1, a9, a9']
  by_cases h60 : b = 60
  · subst h60
    rw [if_pos rfl, if_neg (show ¬ (60 : Int32) = 61 by decide)]
    by_cases t1 : t = 61
    · have el : sgL 60 t = 2 := by unfold sgL; rw [show twoS 60 t = true from decide_eq_true (Or.inl ⟨rfl, t1⟩)]; rfl
      have em : sgM 60 t = (5, 1) := by rw [t1]; rfl
      rw [if_neg (fun q => q t1), if_neg (fun q => q rfl), el, em, if_pos (show ¬ t = 62 from fun q => absurd (t1.symm.trans q) (by decide)), if_pos bt, if_pos (show ¬ (60 : Int32) = 61 by decide), if_neg (fun q => q rfl), if_neg bt]
      exact cmp _ 2 1 u2' c10 c7
    · rw [if_pos t1, if_neg (fun q => q rfl)]
      by_cases t2 : t = 62
      · have el : sgL 60 t = 2 := by unfold sgL; rw [show twoS 60 t = true from decide_eq_true (Or.inr (Or.inl ⟨rfl, t2⟩))]; rfl
        have em : sgM 60 t = (5, 3) := by rw [t2]; rfl
        rw [if_neg (fun q => q t2), el, em, if_neg (fun q => q bf), if_neg bt, if_pos (show ¬ (60 : Int32) = 61 by decide), if_neg (fun q => q rfl), if_pos bf, if_neg bt]
        exact cmp _ 2 3 u2' c10 c7
      · have el : sgL 60 t = 1 := by unfold sgL; rw [show twoS 60 t = false from decide_eq_false (fun q => q.elim (fun q => t1 q.2) (fun q => q.elim (fun q => t2 q.2) (fun q => absurd q.1 (by decide))))]; rfl
        have em : sgM 60 t = (5, 0) := by
          show ((5 : Int32), (if t = 61 then (1 : Int32) else if t = 62 then 3 else 0)) = _
          rw [if_neg t1, if_neg t2]
        rw [if_pos t2, el, em, if_neg (fun q => q bf), if_pos bf, if_pos (show ¬ (60 : Int32) = 61 by decide), if_neg (fun q => q rfl), if_pos bf, if_pos bf]
        exact cmp h2 1 0 u2 f10 f7
  rw [if_neg h60]
  by_cases h62 : b = 62
  · subst h62
    rw [if_pos rfl, if_neg (show ¬ (62 : Int32) = 61 by decide), if_pos (show ¬ (62 : Int32) = 60 by decide), if_pos (show ¬ (62 : Int32) = 60 by decide)]
    by_cases t1 : t = 61
    · have el : sgL 62 t = 2 := by unfold sgL; rw [show twoS 62 t = true from decide_eq_true (Or.inr (Or.inr ⟨rfl, t1⟩))]; rfl
      have em : sgM 62 t = (5, 4) := by rw [t1]; rfl
      rw [if_neg (fun q => q t1), el, em]
      simp only [if_pos bt, if_pos (show ¬ (62 : Int32) = 61 by decide), if_pos (show ¬ (62 : Int32) = 60 by decide), if_neg bt]
      exact cmp _ 2 4 u2' c10 c7
    · have el : sgL 62 t = 1 := by unfold sgL; rw [show twoS 62 t = false from decide_eq_false (fun q => q.elim (fun q => absurd q.1 (by decide)) (fun q => q.elim (fun q => absurd q.1 (by decide)) (fun q => t1 q.2)))]; rfl
      have em : sgM 62 t = (5, 5) := by
        show ((5 : Int32), (if t = 61 then (4 : Int32) else 5)) = _
        rw [if_neg t1]
      rw [if_pos t1, el, em]
      simp only [if_neg (fun q : ¬ b2i false = 0 => q bf), if_pos (show ¬ (62 : Int32) = 61 by decide), if_pos (show ¬ (62 : Int32) = 60 by decide), if_pos bf]
      exact cmp h2 1 5 u2 f10 f7
  rw [if_neg h62]
  by_cases h61 : b = 61
  · subst h61
    have el : sgL 61 t = 1 := by unfold sgL; rw [show twoS 61 t = false from decide_eq_false (fun q => q.elim (fun q => absurd q.1 (by decide)) (fun q => q.elim (fun q => absurd q.1 (by decide)) (fun q => absurd q.1 (by decide))))]; rfl
    have em : sgM 61 t = (5, 2) := rfl
    rw [if_neg (fun q => q rfl), if_pos rfl, if_pos (show ¬ (61 : Int32) = 60 by decide), el, em]
    simp only [if_neg (fun q : ¬ b2i false = 0 => q bf), if_pos bf, if_neg (fun q : ¬ (61 : Int32) = 61 => q rfl)]
    exact cmp h2 1 2 u2 f10 f7
  rw [if_pos h61]
  have el : sgL b t = 1 := by unfold sgL; rw [show twoS b t = false from decide_eq_false (fun q => q.elim (fun q => h60 q.1) (fun q => q.elim (fun q => h60 q.1) (fun q => h62 q.1)))]; rfl
  have em : sgM b t = (if isT b = true then 4 else 6, b) := by unfold sgM; rw [if_neg h61, if_neg h60, if_neg h62]
  rw [el, em]
  have ee : (if b = 59 then (if b2i true = 0 then some (sI h2 8 0 8 6) else some (sI h2 8 0 8 4)) else if b = 40 then (if b2i true = 0 then some (sI h2 8 0 8 6) else some (sI h2 8 0 8 4)) else if b = 41 then (if b2i true = 0 then some (sI h2 8 0 8 6) else some (sI h2 8 0 8 4)) else if b = 43 then (if b2i true = 0 then some (sI h2 8 0 8 6) else some (sI h2 8 0 8 4)) else if b = 45 then (if b2i true = 0 then some (sI h2 8 0 8 6) else some (sI h2 8 0 8 4)) else if b = 42 then (if b2i true = 0 then some (sI h2 8 0 8 6) else some (sI h2 8 0 8 4)) else if b = 47 then (if b2i true = 0 then some (sI h2 8 0 8 6) else some (sI h2 8 0 8 4)) else if ¬ b = 37 then (if b2i false = 0 then some (sI h2 8 0 8 6) else some (sI h2 8 0 8 4)) else (if b2i true = 0 then some (sI h2 8 0 8 6) else some (sI h2 8 0 8 4))) = some (sI h2 8 0 8 (if isT b = true then 4 else 6)) := by
    simp only [if_neg bt, if_pos bf]
    unfold isT
    by_cases q1 : b = 59
    · simp [q1]
    by_cases q2 : b = 40
    · simp [q2]
    by_cases q3 : b = 41
    · simp [q3]
    by_cases q4 : b = 43
    · simp [q4]
    by_cases q5 : b = 45
    · simp [q5]
    by_cases q6 : b = 42
    · simp [q6]
    by_cases q7 : b = 47
    · simp [q7]
    by_cases q8 : b = 37
    · simp [q8]
    simp [q1, q2, q3, q4, q5, q6, q7, q8]
  rw [ee]
  exact pl _
end Token

