-- PURE: plain questions, by the reference
theorem ite_p2 {α β : Type} (p : Prop) [Decidable p] (x y : α) (g : β) : (if p then (x, g) else (y, g)) = (if p then x else y, g) := by
  by_cases z : p
  · rw [if_pos z, if_pos z]
  · rw [if_neg z, if_neg z]
section MQuery
variable {N : Nat} {g : Hp} {T : Txt} {S I : Str} {X : Xs}
theorem R8.z0 (r : R8 g T S I X) : R8 (sI g 8 0 2 0) T S I X ∧ K7 g (sI g 8 0 2 0) := ⟨r.f8 (F8.i g 0 (by decide)) r.2.2.1, K7.i g 2 0⟩
theorem R8a.row (r : R8a g T S) {c : Nat} (hc : c < nCr T) : gA g 8 0 25 c = S.1 2 c ∧ gA g 8 0 7 c = S.1 3 c ∧ gA g 8 0 26 c = S.1 4 c ∧ gA g 8 0 27 c = S.1 5 c ∧ gA g 8 0 28 c = S.1 6 c ∧ gA g 8 0 29 c = S.1 7 c := by
  obtain ⟨a, b, d, e, f, k⟩ := r.2.2.2.1.2.1 c hc
  have z : 4 * 0 + c = c := by omega
  have a' : gA g 8 0 25 (4 * 0 + c) = S.1 2 c := a
  have d' : gA g 8 0 26 (4 * 0 + c) = S.1 4 c := d
  have e' : gA g 8 0 27 (4 * 0 + c) = S.1 5 c := e
  have f' : gA g 8 0 28 (4 * 0 + c) = S.1 6 c := f
  have k' : gA g 8 0 29 (4 * 0 + c) = S.1 7 c := k
  rw [z] at a' d' e' f' k'
  exact ⟨a', b, d', e', f', k'⟩
theorem R8a.gotf (r : R8a g T S) {f : Nat} (hf : f < nFi T) : gA g 8 0 30 f = S.1 9 f := by
  have a : gA g 8 0 30 (6 * 0 + f) = S.1 9 f := r.2.2.2.1.2.2.1 f hf
  rw [show 6 * 0 + f = f by omega] at a
  exact a
theorem R8a.num (r : R8a g T S) : gA g 8 0 33 0 = S.2 11 ∧ gA g 8 0 31 0 = S.2 12 ∧ gA g 8 0 32 0 = S.2 13 ∧ gI g 8 0 61 = S.2 14 := by
  have q := r.2.2.2.1.2.2.2
  refine ⟨?_, ?_, ?_, ?_⟩
  · rw [← b8_11]; exact q 11 (by omega) (by omega)
  · rw [← b8_12]; exact q 12 (by omega) (by omega)
  · rw [← b8_13]; exact q 13 (by omega) (by omega)
  · rw [← b8_14 g 0]; exact q 14 (by omega) (by omega)
theorem m_croft (hN : 1000 ≤ N) (r : R8 g T S I X) (c w : Int32) : ∃ g', f_X8_croft N g c w = some (crfM T S c w, g') ∧ R8 g' T S I X ∧ K7 g g' := by
  obtain ⟨r0, k0⟩ := r.z0
  have hT := r.1.1
  have hc4 := hT.2.1.2
  refine ⟨_, ?_, r0, k0⟩
  unfold f_X8_croft crfM
  rw [lt_e, m_isCroft r0.1.2.2.1.2.1 c, bind_s]
  cases hc : inC T c with
  | false => rw [if_neg (show ¬ ¬ b2i false = 0 by decide), if_neg (fun q => Bool.noConfusion q)]
  | true =>
    rw [if_pos (show ¬ b2i true = 0 by decide), if_pos (show true = true from rfl)]
    obtain ⟨i, hi, rfl⟩ := inC_of hT hc
    obtain ⟨b2, b3, b4, b5, b6, b7⟩ := r0.1.row hi
    simp only [clN (show i < 2 ^ 31 by omega), grd_p (inb_n (show i < 8 by omega) (show 8 < 2 ^ 31 by omega)), b2, b3, b4, b5, b6, b7, m_lotsOf hN r0.1, bind_s, ite_so, ite_p2]
theorem m_field (hN : 1000 ≤ N) (r : R8 g T S I X) (K : SOK T 0 S) (f w : Int32) : ∃ g', f_X8_field N g f w = some (fldM T S f w, g') ∧ R8 g' T S I X ∧ K7 g g' := by
  obtain ⟨r0, k0⟩ := r.z0
  have hT := r.1.1
  have hf6 := hT.2.2.1.2
  unfold f_X8_field fldM
  rw [lt_e, m_isField r0.1.2.2.1.2.2.1 f, bind_s]
  cases hc : inF T f with
  | false => rw [if_neg (show ¬ ¬ b2i false = 0 by decide), if_neg (fun q => Bool.noConfusion q)]; exact ⟨_, rfl, r0, k0⟩
  | true =>
    rw [if_pos (show ¬ b2i true = 0 by decide), if_pos (show true = true from rfl)]
    obtain ⟨i, hi, rfl⟩ := inF_of hT hc
    obtain ⟨b5, b6, b7⟩ := r0.1.2.2.1.2.2.2.2.1 i hi
    simp only [clN (show i < 2 ^ 31 by omega), grd_p (inb_n (show i < 12 by omega) (show 12 < 2 ^ 31 by omega)), ← b5, ← b6, ← b7, r0.1.gotf hi]
    by_cases q0 : w = 0
    · rw [if_pos q0, if_pos q0]; exact ⟨_, rfl, r0, k0⟩
    rw [if_neg q0, if_neg q0]
    by_cases q1 : w = 1
    · rw [if_pos q1, if_pos q1]; exact ⟨_, rfl, r0, k0⟩
    rw [if_neg q1, if_neg q1]
    by_cases q2 : w = 2
    · rw [if_pos q2, if_pos q2]; exact ⟨_, rfl, r0, k0⟩
    rw [if_neg q2, if_neg q2]
    by_cases q3 : w = 3
    · rw [if_pos q3, if_pos q3]; exact ⟨_, rfl, r0, k0⟩
    rw [if_neg q3, if_neg q3]
    by_cases q4 : w = 4
    · rw [if_pos q4, if_pos q4]
      obtain ⟨e, B, x⟩ := m_worth0 hN r0.1 r0.2.2.1 K hi
      rw [x, bd2_s]
      have f := F8.e (sI g 8 0 2 0) e B
      refine ⟨_, rfl, r0.f8 f ?_, k0.tr f.1⟩
      unfold gZ
      rw [sE_at, if_neg (by decide)]
      exact r0.2.2.1
    · rw [if_neg q4, if_neg q4]; exact ⟨_, rfl, r0, k0⟩
theorem m_source (hN : 1000 ≤ N) (r : R8 g T S I X) (K : SOK T 0 S) (c w : Int32) : ∃ g', f_X8_source N g c w = some (souM T S c w, g') ∧ R8 g' T S I X ∧ K7 g g' := by
  obtain ⟨r0, k0⟩ := r.z0
  refine ⟨_, ?_, r0, k0⟩
  unfold f_X8_source souM
  simp only [jn_e, lt_e, m_isCroft r0.1.2.2.1.2.1, m_isIn, bind_s, b2i0, decide_eq_false_iff_not, r0.1.rule, m_source0 hN r0.1 r0.2.2.1 K]
  cases hc : inC T c with
  | false => rw [if_pos rfl, if_neg (fun q => Bool.noConfusion q.1)]
  | true =>
    rw [if_neg (fun q => Bool.noConfusion q)]
    by_cases z : 0 ≤ w ∧ w ≤ 1
    · rw [if_neg (fun q => q z), if_pos (show true = true ∧ 0 ≤ w ∧ w ≤ 1 from ⟨rfl, z⟩)]
      by_cases z2 : w = 1
      · rw [if_neg (fun q => q z2), decide_eq_true z2]
      · rw [if_pos z2, decide_eq_false z2]
    · rw [if_pos z, if_neg (fun q => z q.2)]
theorem m_fault (r : R8 g T S I X) (w : Int32) : ∃ g', f_X8_fault g w = some (fauM X w, g') ∧ R8 g' T S I X ∧ K7 g g' := by
  obtain ⟨r0, k0⟩ := r.z0
  refine ⟨_, ?_, r0, k0⟩
  have e4 : gI (sI g 8 0 2 0) 8 0 4 = X.2 4 := r0.2.2.2.2.2.2.2.2.1
  have e5 : gI (sI g 8 0 2 0) 8 0 5 = X.2 5 := r0.2.2.2.2.2.2.2.2.2.1
  unfold f_X8_fault fauM
  rw [lt_e, e4, e5]
  simp only [jn_e]
  by_cases q0 : w = 0
  · rw [if_neg (fun q => q q0), if_pos q0]
  rw [if_pos q0, if_neg q0]
  by_cases q1 : w = 1
  · rw [if_neg (fun q => q q1), if_pos q1]
  · rw [if_pos q1, if_neg q1]
theorem fstM_cg {f f' : Nat → Int32} (l : Int32) : ∀ n i, (∀ j, i ≤ j → j < i + n → f j = f' j) → fstM f l n i = fstM f' l n i
  | 0, _, _ => rfl
  | n + 1, i, h => by rw [fstM_s, fstM_s, h i (by omega) (by omega), fstM_cg l n (i + 1) (fun j h1 h2 => h j (by omega) (by omega))]
theorem m_named (hN : 1000 ≤ N) (r : R8 g T S I X) (l : Int32) : ∃ g', f_X8_named N g l = some (namM T l, g') ∧ R8 g' T S I X ∧ K7 g g' := by
  obtain ⟨r0, k0⟩ := r.z0
  have hT := r.1.1
  have hc4 := hT.2.1.2
  refine ⟨_, ?_, r0, k0⟩
  have e13 : gI (sI g 8 0 2 0) 8 0 13 = nI (nCr T) := r0.1.2.2.1.2.1.symm.trans hT.2.1.1
  have e := m_find hN (sI g 8 0 2 0) 5 0 (nCr T) l (show 0 + nCr T ≤ 8 by omega) (by decide) (by omega)
  have e' : f_X8_find N (sI g 8 0 2 0) 8 0 5 0 (nI (nCr T)) l = some (fstM (fun i => gA (sI g 8 0 2 0) 8 0 5 (0 + i)) l (nCr T) 0) := e
  unfold f_X8_named namM
  have ef : fstM (fun i => gA (sI g 8 0 2 0) 8 0 5 (0 + i)) l (nCr T) 0 = fstM (T.1 1) l (nCr T) 0 := fstM_cg l (nCr T) 0 (fun j _ h2 => by
    show gA (sI g 8 0 2 0) 8 0 5 (0 + j) = _
    rw [Nat.zero_add]
    exact (r0.2.1.2.1 j (by omega)).1)
  rw [lt_e, e13, e', bind_s, ef]
theorem m_lies0 (hN : 1000 ≤ N) (r : R8a g T S) : f_X8_allLies N g 0 = some (sumM (S.1 0) (nSt T)) := by
  have x := m_allLies (b := 0) (S := v8 g 0 (S.2 14)) (e := gZ g 8 0 49) (B := g.2.2.2.2) hN (by decide) r.1 r.2.2.1
  rw [M8_v8 g 0 (S.2 14) r.2.2.2.2] at x
  have x' : f_X8_allLies N g 0 = some (sumM ((v8 g 0 (S.2 14)).1 0) (nSt T)) := x
  have y : sumM ((v8 g 0 (S.2 14)).1 0) (nSt T) = sumM (S.1 0) (nSt T) := sumM_sq (nSt T) (fun i hi => (r.2.2.2.1.1 i hi).1)
  rw [x', y]
theorem m_sums0 (hN : 1000 ≤ N) (r : R8a g T S) : f_X8_gotAll N g 0 = some (sumM (S.1 9) (nFi T)) ∧ f_X8_gains N g 0 = some (sumM (S.1 6) (nCr T)) := by
  have s : Sm g 0 (S.2 14) T (v8 g 0 (S.2 14)) := ⟨r.1, r.2.1, r.2.2.1, Sq.rf T _, r.2.2.2.2⟩
  have a : f_X8_gotAll N g 0 = some (sumM ((v8 g 0 (S.2 14)).1 9) (nFi T)) := s.gotAll hN (by decide)
  have b : f_X8_gains N g 0 = some (sumM ((v8 g 0 (S.2 14)).1 6) (nCr T)) := s.gains hN (by decide)
  have y : sumM ((v8 g 0 (S.2 14)).1 9) (nFi T) = sumM (S.1 9) (nFi T) := sumM_sq (nFi T) (fun i hi => r.2.2.2.1.2.2.1 i hi)
  have z : sumM ((v8 g 0 (S.2 14)).1 6) (nCr T) = sumM (S.1 6) (nCr T) := sumM_sq (nCr T) (fun i hi => (r.2.2.2.1.2.1 i hi).2.2.2.2.1)
  rw [a, b, y, z]
  exact ⟨rfl, rfl⟩
theorem m_count (hN : 1000 ≤ N) (r : R8 g T S I X) (x : SX X) (w : Int32) : ∃ g', f_X8_count N g w = some (couM T S X w, g') ∧ R8 g' T S I X ∧ K7 g g' := by
  obtain ⟨r0, k0⟩ := r.z0
  refine ⟨_, ?_, r0, k0⟩
  obtain ⟨m1, m2, m3, m4, -⟩ := r0.1.2.2.1
  obtain ⟨n1, n2, n3, n4'⟩ := r0.1.num
  obtain ⟨s1, s2⟩ := m_sums0 hN r0.1
  have e16 : gI (sI g 8 0 2 0) 8 0 16 = X.2 6 := r0.2.2.2.2.2.2.2.2.2.2
  have e72 : gI (sI g 8 0 2 0) 8 0 72 = X.2 1 := r0.2.2.2.2.1.1
  have e76 : gI (sI g 8 0 2 0) 8 0 76 = X.2 0 := r0.2.2.2.2.2.1.1
  unfold f_X8_count couM
  simp only [lt_e, ← m1, ← m2, ← m3, ← m4, e16, e72, e76, z7.1, grd_p (show inb 0 2 by decide), n1, n2, n3, n4', m_lies0 hN r0.1, s1, s2, m_knownBy r0.2.2.2.2.1 x, bind_s, ite_so, ite_p2]
theorem m_law (hN : 1000 ≤ N) (r : R8 g T S I X) (w k p : Int32) : ∃ g', f_X8_law N g w k p = some (lawA T S w k p, g') ∧ R8 g' T S I X ∧ K7 g g' := by
  obtain ⟨r0, k0⟩ := r.z0
  have hT := r.1.1
  have hc4 := hT.2.1.2
  have h8 := hT.1.2
  have hf6 := hT.2.2.1.2
  have q4 := n4_sq r0.1 r0.2.2.1
  -- names laid, the law worked out
  have names : ∀ (c0 : Nat) (l c : Int32), c0 < 4 → gY (sI g 8 0 2 0) 8 0 13 c0 = true → (c = -1 ∨ ∃ i, i < nCr T ∧ i < 4 ∧ c = nI i) → ∃ g', ((f_X8_layNames (sI g 8 0 2 0) 0 l c).bind fun h10 => bd2 (f_X8_lawOf N h10 (nI c0)) fun v5 h4 => if (b2i (gZ h4 8 0 49)) = 0 then some (v5, h4) else some ((-9223372036854775808 : Int64), h4)) = some (T.2.2 c0 (nmP S l c), g') ∧ R8 g' T S I X ∧ K7 g g' := by
    intro c0 l c hc0 hy hc
    obtain ⟨B, e, hB⟩ := m_layNames (b := 0) (e := gZ (sI g 8 0 2 0) 8 0 49) (B := (sI g 8 0 2 0).2.2.2.2) (by decide) (v8_MV (sI g 8 0 2 0) 0 (S.2 14)) l c (hc.imp id (fun ⟨i, _, h4, e⟩ => ⟨i, h4, e⟩))
    rw [M8_v8 _ 0 (S.2 14) r0.1.2.2.2.2] at e
    have e' : f_X8_layNames (sI g 8 0 2 0) 0 l c = some (M8 (sI g 8 0 2 0) 0 (v8 (sI g 8 0 2 0) 0 (S.2 14)) (gZ (sI g 8 0 2 0) 8 0 49) B) := e
    have en : nmP (v8 (sI g 8 0 2 0) 0 (S.2 14)) l c = nmP S l c := by
      rw [← nmP_n4 (v8 (sI g 8 0 2 0) 0 (S.2 14)) S l c]
      exact nmP_sq q4 l c hc
    obtain ⟨g', eg, f, z⟩ := m_lawV (B := B) hN r0.1 hc0 hy (nmP_ok S l c) (fun i hi => by rw [hB i hi, en])
    rw [e', bind_s, eg]
    exact ⟨g', rfl, r0.f8 f (z.trans r0.2.2.1), k0.tr f.1⟩
  have fields : ∀ f, f < nFi T → gY (sI g 8 0 2 0) 8 0 13 3 = true → ∃ g', ((f_X8_layField (sI g 8 0 2 0) 0 (nI f)).bind fun h10 => bd2 (f_X8_lawOf N h10 3) fun v5 h4 => if (b2i (gZ h4 8 0 49)) = 0 then some (v5, h4) else some ((-9223372036854775808 : Int64), h4)) = some (T.2.2 3 (nmF T S f), g') ∧ R8 g' T S I X ∧ K7 g g' := by
    intro f hf hy
    obtain ⟨B, e, hB⟩ := m_layField (b := 0) (e := gZ (sI g 8 0 2 0) 8 0 49) (B := (sI g 8 0 2 0).2.2.2.2) (by decide) hT r0.1.2.2.1 (v8_MV (sI g 8 0 2 0) 0 (S.2 14)) hf
    rw [M8_v8 _ 0 (S.2 14) r0.1.2.2.2.2] at e
    have e' : f_X8_layField (sI g 8 0 2 0) 0 (nI f) = some (M8 (sI g 8 0 2 0) 0 (v8 (sI g 8 0 2 0) 0 (S.2 14)) (gZ (sI g 8 0 2 0) 8 0 49) B) := e
    have en : nmF T (v8 (sI g 8 0 2 0) 0 (S.2 14)) f = nmF T S f := by
      rw [← nmF_n4 T (v8 (sI g 8 0 2 0) 0 (S.2 14)) S f]
      exact nmF_sq q4 hT hf
    obtain ⟨g', eg, f', z⟩ := m_lawV (B := B) hN r0.1 (k := 3) (by decide) hy (nmF_ok T S f) (fun i hi => by rw [hB i hi, en])
    have eg' : (bd2 (f_X8_lawOf N (M8 (sI g 8 0 2 0) 0 (v8 (sI g 8 0 2 0) 0 (S.2 14)) (gZ (sI g 8 0 2 0) 8 0 49) B) 3) fun v5 h4 => if (b2i (gZ h4 8 0 49)) = 0 then some (v5, h4) else some ((-9223372036854775808 : Int64), h4)) = _ := eg
    rw [e', bind_s, eg']
    exact ⟨g', rfl, r0.f8 f' (z.trans r0.2.2.1), k0.tr f'.1⟩
  have liesAt : ∀ q, (q = -3 ∨ ∃ j, j < nSt T ∧ j < 8 ∧ q = nI j) → f_X8_liesAt (sI g 8 0 2 0) 0 q = some (thereM S q) := by
    intro q hq
    have x := m_liesAt (b := 0) (h := sI g 8 0 2 0) (S := v8 (sI g 8 0 2 0) 0 (S.2 14)) (e := gZ (sI g 8 0 2 0) 8 0 49) (B := (sI g 8 0 2 0).2.2.2.2) (by decide) (w := q) (hq.imp id (fun ⟨i, _, h4, e⟩ => ⟨i, h4, e⟩))
    rw [M8_v8 _ 0 (S.2 14) r0.1.2.2.2.2] at x
    have x' : f_X8_liesAt (sI g 8 0 2 0) 0 q = some (thereM (n4 (v8 (sI g 8 0 2 0) 0 (S.2 14)) S) q) := x
    rw [x', thereM_sq q4 hq]
  have bad : ¬ lawOK T w k p = true → lawA T S w k p = -9223372036854775808 := fun q => if_neg q
  unfold f_X8_law
  simp only [b2i0] at names fields
  simp only [jn_e, lt_e, m_isIn, bind_s, b2i0, decide_eq_false_iff_not]
  by_cases z : 0 ≤ w ∧ w ≤ 3
  rotate_left
  · rw [if_pos z, bad]
    · exact ⟨_, rfl, r0, k0⟩
    · unfold lawOK
      by_cases q0 : w = 0
      · exact absurd (by rw [q0]; decide) z
      rw [if_neg q0]
      by_cases q1 : w = 1
      · exact absurd (by rw [q1]; decide) z
      rw [if_neg q1]
      by_cases q2 : w = 2
      · exact absurd (by rw [q2]; decide) z
      rw [if_neg q2]
      by_cases q3 : w = 3
      · exact absurd (by rw [q3]; decide) z
      · rw [if_neg q3]; exact fun q => Bool.noConfusion q
  rw [if_neg (fun q => q z)]
  obtain ⟨c0, hc0, rfl⟩ := rngN (a := w) (m := 3) (by omega) z.1 z.2
  rw [grd_p (inb_n (show c0 < 8 by omega) (by omega))]
  simp only [clN (show c0 < 2 ^ 31 by omega)]
  cases hy : gY (sI g 8 0 2 0) 8 0 13 c0 with
  | false =>
    rw [if_neg (fun q => q rfl)]
    rcases r0.1.2.2.1.2.2.2.2.2.2.2.2 c0 (by omega) with ⟨-, q⟩ | ⟨q, -⟩
    · have : lawA T S (nI c0) k p = -9223372036854775808 := by
        unfold lawA
        by_cases ok : lawOK T (nI c0) k p = true
        · rw [if_pos ok]
          rcases (show c0 = 0 ∨ c0 = 1 ∨ c0 = 2 ∨ c0 = 3 by omega) with rfl | rfl | rfl | rfl
          · rw [if_pos (show nI 0 = 0 from rfl)]; exact q _
          · rw [if_neg (show ¬ nI 1 = 0 by decide), if_pos (show nI 1 = 1 from rfl)]; exact q _
          · rw [if_neg (show ¬ nI 2 = 0 by decide), if_neg (show ¬ nI 2 = 1 by decide), if_pos (show nI 2 = 2 from rfl)]; exact q _
          · rw [if_neg (show ¬ nI 3 = 0 by decide), if_neg (show ¬ nI 3 = 1 by decide), if_neg (show ¬ nI 3 = 2 by decide)]; exact q _
        · rw [if_neg ok]
      rw [this]
      exact ⟨_, rfl, r0, k0⟩
    · rw [hy] at q; exact Bool.noConfusion q
  | true =>
    rw [if_pos (fun q => Bool.noConfusion q)]
    rcases (show c0 = 0 ∨ c0 = 1 ∨ c0 = 2 ∨ c0 = 3 by omega) with rfl | rfl | rfl | rfl
    · -- loads
      rw [if_neg (show ¬ 2 ≤ nI 0 by decide), if_neg (show ¬ 2 ≤ nI 0 by decide), m_isCroft r0.1.2.2.1.2.1 k, bind_s, m_isStripe r0.1.2.2.1.1 p, bind_s]
      have eA : lawA T S (nI 0) k p = if (inC T k && (inS T p || decide (p = -3))) = true then T.2.2 0 (nmP S (thereM S p) k) else -9223372036854775808 := rfl
      rw [eA]
      cases hc : inC T k with
      | false => rw [if_pos rfl, Bool.false_and, if_neg (fun q => Bool.noConfusion q)]; exact ⟨_, rfl, r0, k0⟩
      | true =>
        obtain ⟨i, hi, rfl⟩ := inC_of hT hc
        have cv : nI i = -1 ∨ ∃ j, j < nCr T ∧ j < 4 ∧ nI i = nI j := Or.inr ⟨i, hi, by omega, rfl⟩
        rw [if_neg (fun q => Bool.noConfusion q), Bool.true_and]
        cases hs : inS T p with
        | true =>
          obtain ⟨s, hs', rfl⟩ := inS_of hT hs
          rw [if_pos (fun q => Bool.noConfusion q), Bool.true_or, if_pos rfl, liesAt (nI s) (Or.inr ⟨s, hs', by omega, rfl⟩), bind_s]
          exact names 0 _ _ (by decide) hy cv
        | false =>
          rw [if_neg (fun q => q rfl), Bool.false_or, if_neg (show ¬ nI 0 = 1 by decide)]
          by_cases q3 : p = -3
          · rw [if_pos q3, if_pos (decide_eq_true q3), liesAt p (Or.inl q3), bind_s]
            exact names 0 _ _ (by decide) hy cv
          · rw [if_neg q3, if_neg (fun q => q3 (of_decide_eq_true q))]; exact ⟨_, rfl, r0, k0⟩
    · -- forks
      rw [if_neg (show ¬ 2 ≤ nI 1 by decide), if_neg (show ¬ 2 ≤ nI 1 by decide), m_isCroft r0.1.2.2.1.2.1 k, bind_s, m_isStripe r0.1.2.2.1.1 p, bind_s]
      have eA : lawA T S (nI 1) k p = if (inC T k && inS T p) = true then T.2.2 1 (nmP S (S.1 0 p.toNatClampNeg) k) else -9223372036854775808 := rfl
      rw [eA]
      cases hc : inC T k with
      | false => rw [if_pos rfl, Bool.false_and, if_neg (fun q => Bool.noConfusion q)]; exact ⟨_, rfl, r0, k0⟩
      | true =>
        obtain ⟨i, hi, rfl⟩ := inC_of hT hc
        have cv : nI i = -1 ∨ ∃ j, j < nCr T ∧ j < 4 ∧ nI i = nI j := Or.inr ⟨i, hi, by omega, rfl⟩
        rw [if_neg (fun q => Bool.noConfusion q), Bool.true_and]
        cases hs : inS T p with
        | true =>
          obtain ⟨s, hs', rfl⟩ := inS_of hT hs
          have et : thereM S (nI s) = S.1 0 s := by
            unfold thereM
            rw [if_neg (nI_ne_neg (by omega) (by decide)), clN (by omega)]
          rw [if_pos (fun q => Bool.noConfusion q), if_pos rfl, liesAt (nI s) (Or.inr ⟨s, hs', by omega, rfl⟩), bind_s, et, clN (show s < 2 ^ 31 by omega)]
          exact names 1 _ _ (by decide) hy cv
        | false =>
          rw [if_neg (fun q => q rfl), if_pos (show nI 1 = 1 from rfl), if_neg (fun q => Bool.noConfusion q)]; exact ⟨_, rfl, r0, k0⟩
    · -- ebbs
      rw [if_pos (show 2 ≤ nI 2 by decide), if_pos (show 2 ≤ nI 2 by decide), if_neg (show ¬ ¬ nI 2 = 2 from fun q => q rfl), if_neg (show ¬ ¬ nI 2 = 2 from fun q => q rfl), m_isStripe r0.1.2.2.1.1 k, bind_s]
      have eA : lawA T S (nI 2) k p = if inS T k = true then T.2.2 2 (nmP S (S.1 0 k.toNatClampNeg) (-1)) else -9223372036854775808 := rfl
      rw [eA]
      cases hs : inS T k with
      | false => rw [if_neg (fun q => q rfl), if_neg (fun q => Bool.noConfusion q)]; exact ⟨_, rfl, r0, k0⟩
      | true =>
        obtain ⟨s, hs', rfl⟩ := inS_of hT hs
        rw [if_pos (fun q => Bool.noConfusion q), if_pos rfl, grd_p (inb_n (show s < 16 by omega) (by omega)), clN (show s < 2 ^ 31 by omega), (r0.1.lies hs').1]
        exact names 2 _ _ (by decide) hy (Or.inl rfl)
    · -- worths
      rw [if_pos (show 2 ≤ nI 3 by decide), if_pos (show 2 ≤ nI 3 by decide), if_pos (show ¬ nI 3 = 2 by decide), if_pos (show ¬ nI 3 = 2 by decide), m_isField r0.1.2.2.1.2.2.1 k, bind_s]
      have eA : lawA T S (nI 3) k p = if inF T k = true then T.2.2 3 (nmF T S k.toNatClampNeg) else -9223372036854775808 := rfl
      rw [eA]
      cases hs : inF T k with
      | false => rw [if_neg (fun q => q rfl), if_neg (fun q => Bool.noConfusion q)]; exact ⟨_, rfl, r0, k0⟩
      | true =>
        obtain ⟨s, hs', rfl⟩ := inF_of hT hs
        rw [if_pos (fun q => Bool.noConfusion q), if_pos rfl, clN (show s < 2 ^ 31 by omega)]
        exact fields s hs' hy
end MQuery
