-- PURE: a law's answer, by the class
section Law
variable {N : Nat} {h g : Hp} {t : Nat} {T : Txt} {S I : Str} {X : Xs}
theorem cl_lawP (hN : 1000 ≤ N) (r : RC h t T S I X) {k : Nat} (hk : k < 4) (l c : Int32) (hc : c = -1 ∨ ∃ i, i < nCr T ∧ i < 4 ∧ c = nI i) : ∃ g, ((f_X3_namePlace h 1 l c).bind fun h4 => onO (gO h4 7 0 13) fun o5 => bd2 (f_X0_value N h4 o5 (nI k)) fun v7 h6 => some (v7, h6)) = some (T.2.2 k (nmP S l c), g) ∧ RC g t T S I X ∧ K8 h g := by
  have s := r.sd
  obtain ⟨B1, e1, n1⟩ := cl_namePlace (S := vw h 1) (B := h.2.2.2.2) s.ck l c (hc.imp id (fun ⟨i, _, h4, e⟩ => ⟨i, h4, e⟩))
  rw [M3_vw] at e1
  rw [nmP_sq s.2.2.2.2 l c hc] at n1
  obtain ⟨B2, e2⟩ := cl_law (S := vw h 1) hN s.ck hk n1
  rw [s.2.1] at e2
  have t13 : gO (M3 h 1 (vw h 1) B1) 7 0 13 = some t := r.1.2.1
  rw [e1, bind_s, t13, onO_s, e2, bd2_s]
  exact ⟨_, rfl, r.set1 (Fo.m3 h 1 _ _) (s.m3 s.2.2.2.2 _), (Fo.m3 h 1 _ _).k8⟩
theorem cl_lawF (hN : 1000 ≤ N) (r : RC h t T S I X) {f : Nat} (hf : f < nFi T) : ∃ g, ((f_X3_nameField h 1 (nI f)).bind fun h4 => onO (gO h4 7 0 13) fun o5 => bd2 (f_X0_value N h4 o5 3) fun v7 h6 => some (v7, h6)) = some (T.2.2 3 (nmF T S f), g) ∧ RC g t T S I X ∧ K8 h g := by
  have s := r.sd
  obtain ⟨B1, e1, n1⟩ := cl_nameField (S := vw h 1) (B := h.2.2.2.2) s.ck (f := f) (by rw [s.2.1]; exact hf)
  rw [M3_vw] at e1
  rw [s.2.1, nmF_sq s.2.2.2.2 s.2.2.2.1 hf] at n1
  obtain ⟨B2, e2⟩ := cl_law (S := vw h 1) hN s.ck (k := 3) (by decide) n1
  rw [s.2.1] at e2
  have e2' : f_X0_value N (M3 h 1 (vw h 1) B1) t 3 = _ := e2
  have t13 : gO (M3 h 1 (vw h 1) B1) 7 0 13 = some t := r.1.2.1
  rw [e1, bind_s, t13, onO_s, e2', bd2_s]
  exact ⟨_, rfl, r.set1 (Fo.m3 h 1 _ _) (s.m3 s.2.2.2.2 _), (Fo.m3 h 1 _ _).k8⟩
/-- a croft's law -/
theorem cl_croftLaw (hN : 1000 ≤ N) (r : RC h t T S I X) {k : Nat} (hk : k < 2) (c p : Int32) : ∃ g, f_X7_croftLaw N h (nI k) c p = some (if (inC T c && (inS T p || (decide (k = 0) && decide (p = -3)))) = true then T.2.2 k (nmP S (if k = 0 then thereM S p else S.1 0 p.toNatClampNeg) c) else -9223372036854775808, g) ∧ RC g t T S I X ∧ K8 h g := by
  have hT := r.1.2.2.2.2.1
  have hc4 := hT.2.1.2
  have h8 := hT.1.2
  have e12 : gI h 3 1 12 = S.2 12 := r.sd.2.2.2.2.2.2.2 12 (by omega) (by omega)
  have a0 : ∀ s, s < nSt T → gA h 3 1 0 s = S.1 0 s := fun s hs => (r.sd.2.2.2.2.1 s hs).1
  unfold f_X7_croftLaw
  simp only [jn_e, cl_isCroft r.1.2.1 r.1.2.2.2.1, cl_isStripe r.1.2.1 r.1.2.2.2.1, bind_s]
  have kz : (nI k = 0) ↔ k = 0 := nI_z (by omega)
  cases hc : inC T c with
  | false =>
    rw [Bool.false_and, if_neg (fun q => Bool.noConfusion q)]
    by_cases q0 : nI k = 0
    · rw [if_neg (fun q => q q0)]
      by_cases q1 : p = -3
      · rw [if_neg (fun q => q q1), if_pos (show b2i false = 0 from rfl)]; exact ⟨h, rfl, r, K8.rf h⟩
      · rw [if_pos q1, if_pos (show b2i false = 0 from rfl)]; exact ⟨h, rfl, r, K8.rf h⟩
    · rw [if_pos q0, if_pos (show b2i false = 0 from rfl)]; exact ⟨h, rfl, r, K8.rf h⟩
  | true =>
    obtain ⟨i, hi, rfl⟩ := inC_of hT hc
    have hcv : nI i = -1 ∨ ∃ j, j < nCr T ∧ j < 4 ∧ nI i = nI j := Or.inr ⟨i, hi, by omega, rfl⟩
    rw [Bool.true_and]
    -- not at the heap
    have plain : ¬ (k = 0 ∧ p = -3) → ∃ g, (if (b2i true) = 0 then some ((-9223372036854775808 : Int64), h) else if ¬ (b2i false) = 0 then (if (b2i false) = 0 then grd (inb p 8) ((f_X3_namePlace h 1 (gA h 3 1 0 p.toNatClampNeg) (nI i)).bind fun h4 => onO (gO h4 7 0 13) fun o5 => bd2 (f_X0_value N h4 o5 (nI k)) fun v7 h6 => some (v7, h6)) else (f_X3_namePlace h 1 (gI h 3 1 12) (nI i)).bind fun h4 => onO (gO h4 7 0 13) fun o5 => bd2 (f_X0_value N h4 o5 (nI k)) fun v7 h6 => some (v7, h6)) else if ¬ (b2i (inS T p)) = 0 then (if (b2i false) = 0 then grd (inb p 8) ((f_X3_namePlace h 1 (gA h 3 1 0 p.toNatClampNeg) (nI i)).bind fun h4 => onO (gO h4 7 0 13) fun o5 => bd2 (f_X0_value N h4 o5 (nI k)) fun v7 h6 => some (v7, h6)) else (f_X3_namePlace h 1 (gI h 3 1 12) (nI i)).bind fun h4 => onO (gO h4 7 0 13) fun o5 => bd2 (f_X0_value N h4 o5 (nI k)) fun v7 h6 => some (v7, h6)) else some ((-9223372036854775808 : Int64), h)) = some (if (inS T p || (decide (k = 0) && decide (p = -3))) = true then T.2.2 k (nmP S (if k = 0 then thereM S p else S.1 0 p.toNatClampNeg) (nI i)) else -9223372036854775808, g) ∧ RC g t T S I X ∧ K8 h g := by
      intro nh
      have e0 : (decide (k = 0) && decide (p = -3)) = false := by
        by_cases q0 : k = 0
        · rw [decide_eq_true q0, decide_eq_false (fun q => nh ⟨q0, q⟩)]; rfl
        · rw [decide_eq_false q0]; rfl
      rw [e0, Bool.or_false, if_neg (show ¬ b2i true = 0 by decide), if_neg (show ¬ ¬ b2i false = 0 by decide)]
      cases hs : inS T p with
      | false => rw [if_neg (show ¬ ¬ b2i false = 0 by decide), if_neg (fun q => Bool.noConfusion q)]; exact ⟨h, rfl, r, K8.rf h⟩
      | true =>
        obtain ⟨s, hs', rfl⟩ := inS_of hT hs
        rw [if_pos (show ¬ b2i true = 0 by decide), if_pos (show b2i false = 0 from rfl), grd_p (inb_n (show s < 8 by omega) (by omega)), clN (show s < 2 ^ 31 by omega), a0 s hs', if_pos (show true = true from rfl)]
        have et : (if k = 0 then thereM S (nI s) else S.1 0 s) = S.1 0 s := by
          by_cases q0 : k = 0
          · rw [if_pos q0]
            unfold thereM
            rw [if_neg (nI_ne_neg (by omega) (by decide)), clN (by omega)]
          · rw [if_neg q0]
        rw [et]
        exact cl_lawP hN r (by omega) _ _ hcv
    by_cases q0 : nI k = 0
    · rw [if_neg (fun q => q q0)]
      have k0 := kz.mp q0
      by_cases q1 : p = -3
      · rw [if_neg (fun q => q q1), if_neg (show ¬ b2i true = 0 by decide), if_pos (show ¬ b2i true = 0 by decide), if_neg (show ¬ b2i true = 0 by decide), e12, decide_eq_true k0, decide_eq_true q1, show (inS T p || (true && true)) = true from Bool.or_true _, if_pos rfl, if_pos k0]
        have et : thereM S p = S.2 12 := if_pos q1
        rw [et]
        exact cl_lawP hN r (by omega) _ _ hcv
      · rw [if_pos q1]
        exact plain (fun q => q1 q.2)
    · rw [if_pos q0]
      exact plain (fun q => q0 (kz.mpr q.1))
theorem cl_lawOp (hN : 1000 ≤ N) (r : RC h t T S I X) (w k p : Int32) : ∃ g, f_X7_law N h w k p = some (lawA T S w k p, g) ∧ RC g t T S I X ∧ K8 h g := by
  have hT := r.1.2.2.2.2.1
  have hc4 := hT.2.1.2
  have h8 := hT.1.2
  have hf6 := hT.2.2.1.2
  have a0 : ∀ s, s < nSt T → gA h 3 1 0 s = S.1 0 s := fun s hs => (r.sd.2.2.2.2.1 s hs).1
  unfold f_X7_law lawA lawOK
  by_cases q0 : w = 0
  · obtain ⟨g, e, r', k8⟩ := cl_croftLaw hN r (k := 0) (by decide) k p
    have e' := e
    rw [show nI 0 = w from q0.symm] at e'
    rw [if_pos q0, if_pos q0, if_pos q0, e', bd2_s]
    refine ⟨g, ?_, r', k8⟩
    rw [show decide (0 = 0) = true from rfl, Bool.true_and, if_pos rfl]
  rw [if_neg q0, if_neg q0, if_neg q0]
  by_cases q1 : w = 1
  · obtain ⟨g, e, r', k8⟩ := cl_croftLaw hN r (k := 1) (by decide) k p
    have e' := e
    rw [show nI 1 = w from q1.symm] at e'
    rw [if_pos q1, if_pos q1, if_pos q1, e', bd2_s]
    refine ⟨g, ?_, r', k8⟩
    rw [show decide (1 = 0) = false from rfl, Bool.false_and, Bool.or_false, if_neg (show ¬ 1 = 0 by decide)]
  rw [if_neg q1, if_neg q1, if_neg q1]
  by_cases q2 : w = 2
  · rw [if_pos q2, if_pos q2, if_pos q2, cl_isStripe r.1.2.1 r.1.2.2.2.1, bind_s]
    cases hs : inS T k with
    | false => rw [if_neg (show ¬ ¬ b2i false = 0 by decide), if_neg (fun q => Bool.noConfusion q)]; exact ⟨h, rfl, r, K8.rf h⟩
    | true =>
      obtain ⟨s, hs', rfl⟩ := inS_of hT hs
      rw [if_pos (show ¬ b2i true = 0 by decide), grd_p (inb_n (show s < 8 by omega) (by omega)), clN (show s < 2 ^ 31 by omega), a0 s hs', if_pos (show true = true from rfl)]
      exact cl_lawP hN r (k := 2) (by decide) _ _ (Or.inl rfl)
  rw [if_neg q2, if_neg q2, if_neg q2]
  by_cases q3 : w = 3
  · rw [if_pos q3, if_pos q3, cl_isField r.1.2.1 r.1.2.2.2.1, bind_s]
    cases hs : inF T k with
    | false => rw [if_neg (show ¬ ¬ b2i false = 0 by decide), if_neg (fun q => Bool.noConfusion q)]; exact ⟨h, rfl, r, K8.rf h⟩
    | true =>
      obtain ⟨s, hs', rfl⟩ := inF_of hT hs
      rw [if_pos (show ¬ b2i true = 0 by decide), if_pos (show true = true from rfl), clN (show s < 2 ^ 31 by omega)]
      exact cl_lawF hN r hs'
  · rw [if_neg q3, if_neg q3, if_neg (fun q => Bool.noConfusion q)]
    exact ⟨h, rfl, r, K8.rf h⟩
end Law
