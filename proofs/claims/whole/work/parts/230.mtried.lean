-- PURE: an hour's run with one thing otherwise, by the reference
def flM (S : Str) (a b : Bool) (v : Int32) : Str := (fun k i => if k = 3 then (if b = true then 0 else S.1 3 i) else if k = 4 then (if nI i = v then 2147483647 else S.1 4 i) else S.1 k i, fun k => if k = 16 then (if a = true then 0 else 1) else S.2 k)
theorem Z_b (b : Bool) : decide (¬ b2i b = 0) = b := by cases b <;> decide
theorem ot0_o (S : Str) (what : Int32) (c : Nat) : (∀ k, k ≠ 4 → (ot0 S what c).1 k = S.1 k) ∧ (∀ k, k ≠ 16 → k ≠ 12 → (ot0 S what c).2 k = S.2 k) ∧ ((ot0 S what c).2 12 = S.2 12 ∨ (ot0 S what c).2 12 = 0) := by
  unfold ot0
  by_cases q0 : what = 0
  · rw [if_pos q0]; exact ⟨fun _ _ => rfl, fun k h _ => upI_n S 0 h, Or.inl (upI_n S 0 (by decide))⟩
  rw [if_neg q0]
  by_cases q1 : what = 1
  · rw [if_pos q1]; exact ⟨fun k h => upA_n S c _ h, fun _ _ _ => rfl, Or.inl rfl⟩
  rw [if_neg q1]
  by_cases q4 : what = 4
  · rw [if_pos q4]; exact ⟨fun _ _ => rfl, fun k _ h => upI_n S 0 h, Or.inr (upI_i S 12 0)⟩
  · rw [if_neg q4]; exact ⟨fun _ _ => rfl, fun _ _ _ => rfl, Or.inl rfl⟩
section MTried
variable {N : Nat} {g : Hp} {ru : Int32} {T : Txt} {S : Str}
theorem otM_SOK (K : SOK T 0 S) (c5 : ∀ c, c < nCr T → (S.1 2 c).toInt ≤ 5) (what : Int32) (c : Nat) : SOK T 0 (otM T S what c) := by
  obtain ⟨o1, o2, o3⟩ := ot0_o S what c
  obtain ⟨l1, l2, l3⟩ := otL_o (ot0 S what c) what (nCr T)
  obtain ⟨a, b, d, e1, e2, e3, e4, e5⟩ := K
  have h11 : (otM T S what c).2 11 = S.2 11 := by
    show (otL (ot0 S what c) what (nCr T)).2 11 = _
    rw [l1, o2 11 (by decide) (by decide)]
  have hA : ∀ k, k ≠ 2 → k ≠ 3 → k ≠ 4 → (otM T S what c).1 k = S.1 k := fun k h2 h3 h4 => (l2 k h2 h3).trans (o1 k h4)
  unfold SOK
  rw [h11, hA 0 (by decide) (by decide) (by decide), hA 9 (by decide) (by decide) (by decide), hA 5 (by decide) (by decide) (by decide), hA 7 (by decide) (by decide) (by decide)]
  refine ⟨a, fun q hq => ?_, d, e1, e2, e3, ?_, e5⟩
  · obtain ⟨b1, b2, b3, b4, b5⟩ := b q hq
    have c2 := c5 q hq
    have x2 : (otM T S what c).1 2 q = S.1 2 q + (if what = 2 then 1 else 0) := by
      have := (l3 q).1
      rw [if_pos hq, o1 2 (by decide)] at this
      exact this
    have x3 : (otM T S what c).1 3 q = if q < nCr T ∧ what = 3 then 0 else S.1 3 q := by
      have := (l3 q).2
      rw [o1 3 (by decide)] at this
      exact this
    have one : (1 : Int32).toInt = 1 := rfl
    have zro : (0 : Int32).toInt = 0 := rfl
    rw [x2, x3]
    have y2 : 0 ≤ (S.1 2 q + (if what = 2 then 1 else 0)).toInt ∧ (S.1 2 q + (if what = 2 then 1 else 0)).toInt ≤ 6 := by
      by_cases z : what = 2
      · rw [if_pos z, add_toInt (by omega)]; omega
      · rw [if_neg z, add_toInt (by omega)]; omega
    refine ⟨y2.1, y2.2, ?_, ?_, b5⟩
    · by_cases z : q < nCr T ∧ what = 3
      · rw [if_pos z]; omega
      · rw [if_neg z]; exact b3
    · by_cases z : q < nCr T ∧ what = 3
      · rw [if_pos z]; omega
      · rw [if_neg z]; exact b4
  · have : (otM T S what c).2 12 = (ot0 S what c).2 12 := by
      show (otL (ot0 S what c) what (nCr T)).2 12 = _
      rw [l1]
    rw [this]
    rcases o3 with q | q
    · rw [q]; exact e4
    · rw [q]
      have zro : (0 : Int32).toInt = 0 := rfl
      omega
theorem Sm.flags (s : Sm g 1 ru T S) (p : Plain g) (a b : Bool) (v : Int32) : F8 g (sZ (sI (sZ g 8 0 63 a) 8 0 66 v) 8 0 64 b) ∧ Sm (sZ (sI (sZ g 8 0 63 a) 8 0 66 v) 8 0 64 b) 1 ru T (flM S a b v) := by
  have f : F8 g (sZ (sI (sZ g 8 0 63 a) 8 0 66 v) 8 0 64 b) := ((F8.i g (k := 63) (b2i a) (by decide)).tr (F8.i _ (k := 66) v (by decide))).tr (F8.i _ (k := 64) (b2i b) (by decide))
  obtain ⟨hT, R, X, q, h49⟩ := s
  obtain ⟨p1, p2, p3, p4⟩ := p
  have hc4 := hT.2.1.2
  have z64 : gZ (sZ (sI (sZ g 8 0 63 a) 8 0 66 v) 8 0 64 b) 8 0 64 = b := by
    unfold gZ sZ; rw [I_at, if_pos rfl]; exact Z_b b
  have z63 : gZ (sZ (sI (sZ g 8 0 63 a) 8 0 66 v) 8 0 64 b) 8 0 63 = a := by
    unfold gZ sZ; rw [I_at, if_neg (by decide), I_at, if_neg (by decide), I_at, if_pos rfl]; exact Z_b a
  have z65 : gZ (sZ (sI (sZ g 8 0 63 a) 8 0 66 v) 8 0 64 b) 8 0 65 = gZ g 8 0 65 := by
    unfold gZ sZ; rw [I_at, if_neg (by decide), I_at, if_neg (by decide), I_at, if_neg (by decide)]
  have z66 : gI (sZ (sI (sZ g 8 0 63 a) 8 0 66 v) 8 0 64 b) 8 0 66 = v := by
    unfold sZ; rw [I_at, if_neg (by decide), I_at, if_pos rfl]
  refine ⟨f, hT, R, f.mt X, ⟨fun s hs => q.1 s hs, fun c hc => ?_, fun i hi => q.2.2.1 i hi, fun k h1 h2 => ?_⟩, f.2.2.1.2.2 h49⟩
  · obtain ⟨c1, c2, c3, c4, c5, c6⟩ := q.2.1 c hc
    have c2' : (if gZ g 8 0 64 = true then 0 else gA g 8 0 7 c) = S.1 3 c := c2
    have c3' : (if nI c = gI g 8 0 66 then 2147483647 else if gZ g 8 0 65 = true then 0 else gA g 8 0 26 (4 * 1 + c)) = S.1 4 c := c3
    rw [p2, if_neg (fun q => Bool.noConfusion q)] at c2'
    rw [p4, if_neg (nI_ne_neg (by omega) (by decide)), p3, if_neg (fun q => Bool.noConfusion q)] at c3'
    refine ⟨c1, ?_, ?_, c4, c5, c6⟩
    · show (if gZ (sZ (sI (sZ g 8 0 63 a) 8 0 66 v) 8 0 64 b) 8 0 64 = true then 0 else gA g 8 0 7 c) = (if b = true then 0 else S.1 3 c)
      rw [z64, c2']
    · show (if nI c = gI (sZ (sI (sZ g 8 0 63 a) 8 0 66 v) 8 0 64 b) 8 0 66 then 2147483647 else if gZ (sZ (sI (sZ g 8 0 63 a) 8 0 66 v) 8 0 64 b) 8 0 65 = true then 0 else gA g 8 0 26 (4 * 1 + c)) = (if nI c = v then 2147483647 else S.1 4 c)
      rw [z66, z65, p3, if_neg (fun q => Bool.noConfusion q), c3']
  · have := q.2.2.2 k h1 h2
    by_cases z : k = 16
    · subst z
      show (if gZ (sZ (sI (sZ g 8 0 63 a) 8 0 66 v) 8 0 64 b) 8 0 63 = true then (0 : Int32) else 1) = (if a = true then 0 else 1)
      rw [z63]
    · have e : (flM S a b v).2 k = S.2 k := if_neg z
      rw [e, ← this]
      rcases (show k = 11 ∨ k = 12 ∨ k = 13 ∨ k = 14 ∨ k = 15 by omega) with rfl | rfl | rfl | rfl | rfl <;> rfl
theorem Sm.heap1 (s : Sm g 1 ru T S) (v : Int32) : F8 g (sA g 8 0 31 1 v) ∧ Sm (sA g 8 0 31 1 v) 1 ru T (upI S 12 v) := by
  have f : F8 g (sA g 8 0 31 1 v) := F8.a g v (by decide) (fun _ _ => by decide)
  obtain ⟨hT, R, X, q, h49⟩ := s
  refine ⟨f, hT, R, f.mt X, Sq.tr ?_ (q.upI 12 v), h49⟩
  refine ⟨fun s _ => ⟨rfl, rfl⟩, fun c _ => ⟨rfl, rfl, rfl, rfl, rfl, rfl⟩, fun i _ => rfl, fun k h1 h2 => ?_⟩
  rcases (show k = 11 ∨ k = 12 ∨ k = 13 ∨ k = 14 ∨ k = 15 ∨ k = 16 by omega) with rfl | rfl | rfl | rfl | rfl | rfl
  · rfl
  · rw [upI_i]
    show gA (sA g 8 0 31 1 v) 8 0 31 1 = v
    rw [A_at, if_pos ⟨rfl, rfl⟩]
  · rfl
  · rfl
  · rfl
  · rfl
end MTried
