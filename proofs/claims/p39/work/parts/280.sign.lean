def twoS (b t : Int32) : Bool := decide ((b = 60 ∧ t = 61) ∨ (b = 60 ∧ t = 62) ∨ (b = 62 ∧ t = 61))
def sgL (b t : Int32) : Nat := if twoS b t = true then 2 else 1
def isS (b : Int32) : Bool := decide (b = 40 ∨ b = 41 ∨ b = 42 ∨ b = 43 ∨ b = 45 ∨ b = 47 ∨ b = 59 ∨ b = 60 ∨ b = 61 ∨ b = 62)
def sgC (b t : Int32) : Int32 := if b = 60 ∧ t = 61 then 4 else if b = 60 ∧ t = 62 then 5 else if b = 62 ∧ t = 61 then 6 else if isS b = true then b else 1
section Sign
variable {N : Nat} {h g : Hp} {n : Nat}
theorem cl_isSign (b : Int32) : f_X4_isSign b = some (isS b) := by
  unfold f_X4_isSign isS
  simp only [ite_so]
  congr 1
  by_cases h0 : b = 40
  · simp [h0]
  by_cases h1 : b = 41
  · simp [h1]
  by_cases h2 : b = 42
  · simp [h2]
  by_cases h3 : b = 43
  · simp [h3]
  by_cases h4 : b = 45
  · simp [h4]
  by_cases h5 : b = 47
  · simp [h5]
  by_cases h6 : b = 59
  · simp [h6]
  by_cases h7 : b = 60
  · simp [h7]
  by_cases h8 : b = 61
  · simp [h8]
  simp [h0, h1, h2, h3, h4, h5, h6, h7, h8]
/-- the byte behind, or 0 -/
def nxB (f : Nat → Int32) (n p : Nat) : Int32 := if p + 1 < n then f (p + 1) else 0
theorem cl_readSign (e3 : gI h 4 0 3 = nI n) (hn : n ≤ 700) {p : Nat} (e4 : gI h 4 0 4 = nI p) (hp : p < n) (b : Int32) : ∃ g, f_X4_readSign h b = some g ∧ T4 h g ∧ gI g 4 0 4 = nI (p + sgL b (nxB (gA h 4 0 0) n p)) ∧ gI g 4 0 5 = gI h 4 0 5 ∧ gI g 4 0 6 = sgC b (nxB (gA h 4 0 0) n p) := by
  have e3' : gI (sI h 4 0 4 (nI (p + 1))) 4 0 3 = nI n := by rw [I4_at, if_neg (by decide)]; exact e3
  have e4' : gI (sI h 4 0 4 (nI (p + 1))) 4 0 4 = nI (p + 1) := by rw [I4_at, if_pos rfl]
  have f1 := T4.i h 4 (nI (p + 1)) (by omega)
  have main : ∀ t : Int32, ∃ g, (if ¬ b = 60 then (if ¬ b = 60 then (if ¬ b = 62 then (f_X4_isSign b).bind fun v4 => if (b2i v4) = 0 then some (sI (sI h 4 0 4 (nI (p + 1))) 4 0 6 1) else some (sI (sI h 4 0 4 (nI (p + 1))) 4 0 6 b) else if ¬ t = 61 then (f_X4_isSign b).bind fun v4 => if (b2i v4) = 0 then some (sI (sI h 4 0 4 (nI (p + 1))) 4 0 6 1) else some (sI (sI h 4 0 4 (nI (p + 1))) 4 0 6 b) else some (sI (sI (sI h 4 0 4 (nI (p + 1))) 4 0 6 6) 4 0 4 (gI (sI (sI h 4 0 4 (nI (p + 1))) 4 0 6 6) 4 0 4 + 1))) else if ¬ t = 62 then (if ¬ b = 62 then (f_X4_isSign b).bind fun v4 => if (b2i v4) = 0 then some (sI (sI h 4 0 4 (nI (p + 1))) 4 0 6 1) else some (sI (sI h 4 0 4 (nI (p + 1))) 4 0 6 b) else if ¬ t = 61 then (f_X4_isSign b).bind fun v4 => if (b2i v4) = 0 then some (sI (sI h 4 0 4 (nI (p + 1))) 4 0 6 1) else some (sI (sI h 4 0 4 (nI (p + 1))) 4 0 6 b) else some (sI (sI (sI h 4 0 4 (nI (p + 1))) 4 0 6 6) 4 0 4 (gI (sI (sI h 4 0 4 (nI (p + 1))) 4 0 6 6) 4 0 4 + 1))) else some (sI (sI (sI h 4 0 4 (nI (p + 1))) 4 0 6 5) 4 0 4 (gI (sI (sI h 4 0 4 (nI (p + 1))) 4 0 6 5) 4 0 4 + 1))) else if ¬ t = 61 then (if ¬ b = 60 then (if ¬ b = 62 then (f_X4_isSign b).bind fun v4 => if (b2i v4) = 0 then some (sI (sI h 4 0 4 (nI (p + 1))) 4 0 6 1) else some (sI (sI h 4 0 4 (nI (p + 1))) 4 0 6 b) else if ¬ t = 61 then (f_X4_isSign b).bind fun v4 => if (b2i v4) = 0 then some (sI (sI h 4 0 4 (nI (p + 1))) 4 0 6 1) else some (sI (sI h 4 0 4 (nI (p + 1))) 4 0 6 b) else some (sI (sI (sI h 4 0 4 (nI (p + 1))) 4 0 6 6) 4 0 4 (gI (sI (sI h 4 0 4 (nI (p + 1))) 4 0 6 6) 4 0 4 + 1))) else if ¬ t = 62 then (if ¬ b = 62 then (f_X4_isSign b).bind fun v4 => if (b2i v4) = 0 then some (sI (sI h 4 0 4 (nI (p + 1))) 4 0 6 1) else some (sI (sI h 4 0 4 (nI (p + 1))) 4 0 6 b) else if ¬ t = 61 then (f_X4_isSign b).bind fun v4 => if (b2i v4) = 0 then some (sI (sI h 4 0 4 (nI (p + 1))) 4 0 6 1) else some (sI (sI h 4 0 4 (nI (p + 1))) 4 0 6 b) else some (sI (sI (sI h 4 0 4 (nI (p + 1))) 4 0 6 6) 4 0 4 (gI (sI (sI h 4 0 4 (nI (p + 1))) 4 0 6 6) 4 0 4 + 1))) else some (sI (sI (sI h 4 0 4 (nI (p + 1))) 4 0 6 5) 4 0 4 (gI (sI (sI h 4 0 4 (nI (p + 1))) 4 0 6 5) 4 0 4 + 1))) else some (sI (sI (sI h 4 0 4 (nI (p + 1))) 4 0 6 4) 4 0 4 (gI (sI (sI h 4 0 4 (nI (p + 1))) 4 0 6 4) 4 0 4 + 1))) = some g ∧ T4 h g ∧ gI g 4 0 4 = nI (p + sgL b t) ∧ gI g 4 0 5 = gI h 4 0 5 ∧ gI g 4 0 6 = sgC b t := by
    intro t
    -- two signs
    have two : ∀ k : Int32, ∃ g, some (sI (sI (sI h 4 0 4 (nI (p + 1))) 4 0 6 k) 4 0 4 (gI (sI (sI h 4 0 4 (nI (p + 1))) 4 0 6 k) 4 0 4 + 1)) = some g ∧ T4 h g ∧ gI g 4 0 4 = nI (p + 2) ∧ gI g 4 0 5 = gI h 4 0 5 ∧ gI g 4 0 6 = k := fun k => by
      have x : gI (sI (sI h 4 0 4 (nI (p + 1))) 4 0 6 k) 4 0 4 = nI (p + 1) := by rw [I4_at, if_neg (by decide)]; exact e4'
      rw [x, nI_1]
      refine ⟨_, rfl, f1.tr ((T4.i _ 6 k (by omega)).tr (T4.i _ 4 _ (by omega))), ?_, ?_, ?_⟩
      · rw [I4_at, if_pos rfl]
      · rw [I4_at, if_neg (by decide), I4_at, if_neg (by decide), I4_at, if_neg (by decide)]
      · rw [I4_at, if_neg (by decide), I4_at, if_pos rfl]
    have one : ∀ k : Int32, ∃ g, some (sI (sI h 4 0 4 (nI (p + 1))) 4 0 6 k) = some g ∧ T4 h g ∧ gI g 4 0 4 = nI (p + 1) ∧ gI g 4 0 5 = gI h 4 0 5 ∧ gI g 4 0 6 = k := fun k => by
      refine ⟨_, rfl, f1.tr (T4.i _ 6 k (by omega)), ?_, ?_, ?_⟩
      · rw [I4_at, if_neg (by decide)]; exact e4'
      · rw [I4_at, if_neg (by decide), I4_at, if_neg (by decide)]
      · rw [I4_at, if_pos rfl]
    have plain : twoS b t = false → sgC b t = (if isS b = true then b else 1) → ∃ g, ((f_X4_isSign b).bind fun v4 => if (b2i v4) = 0 then some (sI (sI h 4 0 4 (nI (p + 1))) 4 0 6 1) else some (sI (sI h 4 0 4 (nI (p + 1))) 4 0 6 b)) = some g ∧ T4 h g ∧ gI g 4 0 4 = nI (p + sgL b t) ∧ gI g 4 0 5 = gI h 4 0 5 ∧ gI g 4 0 6 = sgC b t := fun q r => by
      have el : sgL b t = 1 := by unfold sgL; rw [q]; rfl
      rw [cl_isSign, bind_s, el, r]
      cases isS b with
      | true => rw [if_neg (show ¬ b2i true = 0 by decide), if_pos rfl]; exact one b
      | false => rw [if_pos (show b2i false = 0 from rfl), if_neg (fun q => Bool.noConfusion q)]; exact one 1
    by_cases h60 : b = 60
    · simp only [h60, not_true_eq_false, if_false, show ¬ (60 : Int32) = 62 by decide, not_false_eq_true, if_true] at plain ⊢
      by_cases t1 : t = 61
      · have el : sgL 60 t = 2 := by unfold sgL; rw [show twoS 60 t = true from decide_eq_true (Or.inl ⟨rfl, t1⟩)]; rfl
        have ec : sgC 60 t = 4 := if_pos ⟨rfl, t1⟩
        rw [if_neg (fun q => q t1), el, ec]; exact two 4
      rw [if_pos t1]
      by_cases t2 : t = 62
      · have el : sgL 60 t = 2 := by unfold sgL; rw [show twoS 60 t = true from decide_eq_true (Or.inr (Or.inl ⟨rfl, t2⟩))]; rfl
        have ec : sgC 60 t = 5 := (if_neg (fun q => t1 q.2)).trans (if_pos ⟨rfl, t2⟩)
        rw [if_neg (fun q => q t2), el, ec]; exact two 5
      · rw [if_pos t2]
        exact plain (decide_eq_false (fun q => q.elim (fun q => t1 q.2) (fun q => q.elim (fun q => t2 q.2) (fun q => absurd q.1 (by decide))))) ((if_neg (fun q => t1 q.2)).trans ((if_neg (fun q => t2 q.2)).trans (if_neg (fun q => absurd q.1 (by decide)))))
    · rw [if_pos h60, if_pos h60]
      by_cases h62 : b = 62
      · rw [if_neg (fun q => q h62)]
        by_cases t1 : t = 61
        · have el : sgL b t = 2 := by unfold sgL; rw [show twoS b t = true from decide_eq_true (Or.inr (Or.inr ⟨h62, t1⟩))]; rfl
          have ec : sgC b t = 6 := (if_neg (fun q => h60 q.1)).trans ((if_neg (fun q => h60 q.1)).trans (if_pos ⟨h62, t1⟩))
          rw [if_neg (fun q => q t1), el, ec]; exact two 6
        · rw [if_pos t1]
          exact plain (decide_eq_false (fun q => q.elim (fun q => h60 q.1) (fun q => q.elim (fun q => h60 q.1) (fun q => t1 q.2)))) ((if_neg (fun q => h60 q.1)).trans ((if_neg (fun q => h60 q.1)).trans (if_neg (fun q => t1 q.2))))
      · rw [if_pos h62]
        exact plain (decide_eq_false (fun q => q.elim (fun q => h60 q.1) (fun q => q.elim (fun q => h60 q.1) (fun q => h62 q.1)))) ((if_neg (fun q => h60 q.1)).trans ((if_neg (fun q => h60 q.1)).trans (if_neg (fun q => h62 q.1))))
  unfold f_X4_readSign
  simp only [jn_e, lt_e, e4, nI_1, e3', e4']
  by_cases z : p + 1 < n
  · have et : nxB (gA h 4 0 0) n p = gA h 4 0 0 (p + 1) := if_pos z
    rw [if_neg (nleN z (by omega)), grd_p (inb_n (show p + 1 < 700 by omega) (by omega)), clN (show p + 1 < 2 ^ 31 by omega), et]
    exact main _
  · have et : nxB (gA h 4 0 0) n p = 0 := if_neg z
    rw [if_pos (leN (by omega) (by omega)), et]
    exact main 0
end Sign

