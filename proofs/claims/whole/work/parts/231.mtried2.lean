-- PURE: an hour's run with one thing otherwise, by the reference: the answer
def cuM (S : Str) : Nat → Str
  | 0 => S
  | j + 1 => upA (cuM S j) 2 j ((cuM S j).1 2 j + 1)
theorem cuM_s (S : Str) (j : Nat) : cuM S (j + 1) = upA (cuM S j) 2 j ((cuM S j).1 2 j + 1) := rfl
theorem cuM_o (S : Str) : ∀ j, (cuM S j).2 = S.2 ∧ (∀ k, k ≠ 2 → (cuM S j).1 k = S.1 k) ∧ ∀ i, (cuM S j).1 2 i = if i < j then S.1 2 i + 1 else S.1 2 i
  | 0 => ⟨rfl, fun _ _ => rfl, fun i => by rw [if_neg (Nat.not_lt_zero i)]; rfl⟩
  | j + 1 => by
    obtain ⟨a, b, c⟩ := cuM_o S j
    refine ⟨a, fun k h => ?_, fun i => ?_⟩
    · rw [cuM_s, upA_n _ j _ h]; exact b k h
    · rw [cuM_s, upA_at, c j, if_neg (Nat.lt_irrefl j)]
      by_cases z : i = j
      · rw [if_pos z, if_pos (show i < j + 1 by omega), z]
      · rw [if_neg z, c i]
        by_cases w : i < j
        · rw [if_pos w, if_pos (show i < j + 1 by omega)]
        · rw [if_neg w, if_neg (show ¬ i < j + 1 by omega)]
def rfM (V : Str) (what : Int32) (v : Int32) : Str :=
  let W := if what = 2 then cuM (flM V (decide (what = 0)) (decide (what = 3)) v) 4 else flM V (decide (what = 0)) (decide (what = 3)) v
  if what = 4 then upI W 12 0 else W
theorem rfM_sq {T : Txt} {V S : Str} (hT : TOK T) (q : Sq T V S) (hz : S.2 16 = 1) (what : Int32) {c : Nat} (hc : c < 4) {v : Int32} (hv : v = if what = 1 then nI c else -1) : Sq T (rfM V what v) (otM T S what c) := by
  have hc4 := hT.2.1.2
  obtain ⟨l1, l2, l3⟩ := otL_o (ot0 S what c) what (nCr T)
  have hA : ∀ k i, k ≠ 2 → k ≠ 3 → k ≠ 4 → (rfM V what v).1 k i = V.1 k i := by
    intro k i h2 h3 h4
    have e : (flM V (decide (what = 0)) (decide (what = 3)) v).1 k i = V.1 k i := by
      show (if k = 3 then _ else if k = 4 then _ else V.1 k i) = _
      rw [if_neg h3, if_neg h4]
    unfold rfM
    by_cases y2 : what = 2
    · have y4 : ¬ what = 4 := by rw [y2]; decide
      simp only [if_neg y4, if_pos y2]
      rw [(cuM_o _ 4).2.1 k h2]; exact e
    · by_cases y4 : what = 4
      · simp only [if_neg y2, if_pos y4, upI_a]; exact e
      · simp only [if_neg y2, if_neg y4]; exact e
  have hB : ∀ k i, k ≠ 2 → k ≠ 3 → k ≠ 4 → (otM T S what c).1 k i = S.1 k i := fun k i h2 h3 h4 => by
    show (otL (ot0 S what c) what (nCr T)).1 k i = _
    rw [l2 k h2 h3, (ot0_o S what c).1 k h4]
  have h2 : ∀ i, i < 4 → (rfM V what v).1 2 i = V.1 2 i + (if what = 2 then 1 else 0) := by
    intro i hi
    unfold rfM
    by_cases y2 : what = 2
    · have y4 : ¬ what = 4 := by rw [y2]; decide
      simp only [if_neg y4, if_pos y2]
      rw [(cuM_o _ 4).2.2 i, if_pos hi]
      rfl
    · by_cases y4 : what = 4
      · simp only [if_neg y2, if_pos y4, upI_a, Int32.add_zero]; rfl
      · simp only [if_neg y2, if_neg y4, Int32.add_zero]; rfl
  have h34 : ∀ k, k = 3 ∨ k = 4 → (rfM V what v).1 k = (flM V (decide (what = 0)) (decide (what = 3)) v).1 k := by
    intro k hk
    unfold rfM
    by_cases y2 : what = 2
    · have y4 : ¬ what = 4 := by rw [y2]; decide
      simp only [if_neg y4, if_pos y2]
      rw [(cuM_o _ 4).2.1 k (by omega)]
    · by_cases y4 : what = 4
      · simp only [if_neg y2, if_pos y4, upI_a]
      · simp only [if_neg y2, if_neg y4]
  have hI : ∀ k, (rfM V what v).2 k = if k = 12 ∧ what = 4 then 0 else (flM V (decide (what = 0)) (decide (what = 3)) v).2 k := by
    intro k
    unfold rfM
    by_cases y2 : what = 2
    · have y4 : ¬ what = 4 := by rw [y2]; decide
      simp only [if_neg y4, if_pos y2]
      rw [(cuM_o _ 4).1, if_neg (fun q => y4 q.2)]
    · by_cases y4 : what = 4
      · simp only [if_neg y2, if_pos y4]
        by_cases z : k = 12
        · rw [z, upI_i, if_pos ⟨rfl, y4⟩]
        · rw [upI_n _ _ z, if_neg (fun q => z q.1)]
      · simp only [if_neg y2, if_neg y4]
        rw [if_neg (fun q => y4 q.2)]
  refine ⟨fun s hs => ⟨?_, ?_⟩, fun i hi => ⟨?_, ?_, ?_, ?_, ?_, ?_⟩, fun i hi => ?_, fun k k1 k2 => ?_⟩
  · rw [hA 0 s (by decide) (by decide) (by decide), hB 0 s (by decide) (by decide) (by decide)]; exact (q.1 s hs).1
  · rw [hA 1 s (by decide) (by decide) (by decide), hB 1 s (by decide) (by decide) (by decide)]; exact (q.1 s hs).2
  · rw [h2 i (by omega), (q.2.1 i hi).1]
    show _ = (otL (ot0 S what c) what (nCr T)).1 2 i
    rw [(l3 i).1, if_pos hi, (ot0_o S what c).1 2 (by decide)]
  · rw [h34 3 (Or.inl rfl)]
    show (if decide (what = 3) = true then (0 : Int32) else V.1 3 i) = (otL (ot0 S what c) what (nCr T)).1 3 i
    rw [(l3 i).2, (ot0_o S what c).1 3 (by decide), (q.2.1 i hi).2.1]
    by_cases z : what = 3
    · rw [if_pos (decide_eq_true z), if_pos ⟨hi, z⟩]
    · rw [if_neg (by rw [decide_eq_false z]; decide), if_neg (fun q => z q.2)]
  · rw [h34 4 (Or.inr rfl)]
    show (if nI i = v then (2147483647 : Int32) else V.1 4 i) = (otL (ot0 S what c) what (nCr T)).1 4 i
    rw [l2 4 (by decide) (by decide), (q.2.1 i hi).2.2.1, hv]
    unfold ot0
    by_cases z : what = 1
    · have z0 : ¬ what = 0 := by rw [z]; decide
      rw [if_pos z, if_neg z0, if_pos z, upA_at]
      by_cases y : i = c
      · rw [if_pos y, if_pos (by rw [y])]
      · rw [if_neg y, if_neg (fun w => y (nI_inj (by omega) (by omega) w))]
    · rw [if_neg z, if_neg (nI_ne_neg (by omega) (by decide))]
      by_cases z0 : what = 0
      · rw [if_pos z0]; rfl
      rw [if_neg z0, if_neg z]
      by_cases z4 : what = 4
      · rw [if_pos z4]; rfl
      · rw [if_neg z4]
  · rw [hA 5 i (by decide) (by decide) (by decide), hB 5 i (by decide) (by decide) (by decide)]; exact (q.2.1 i hi).2.2.2.1
  · rw [hA 6 i (by decide) (by decide) (by decide), hB 6 i (by decide) (by decide) (by decide)]; exact (q.2.1 i hi).2.2.2.2.1
  · rw [hA 7 i (by decide) (by decide) (by decide), hB 7 i (by decide) (by decide) (by decide)]; exact (q.2.1 i hi).2.2.2.2.2
  · rw [hA 9 i (by decide) (by decide) (by decide), hB 9 i (by decide) (by decide) (by decide)]; exact q.2.2.1 i hi
  · rw [hI k]
    show _ = (otL (ot0 S what c) what (nCr T)).2 k
    rw [l1]
    have e : (flM V (decide (what = 0)) (decide (what = 3)) v).2 k = if k = 16 then (if what = 0 then 0 else 1) else S.2 k := by
      show (if k = 16 then (if decide (what = 0) = true then (0 : Int32) else 1) else V.2 k) = _
      by_cases z : k = 16
      · rw [if_pos z, if_pos z]
        by_cases y : what = 0
        · rw [if_pos y, if_pos (decide_eq_true y)]
        · rw [if_neg y, if_neg (by rw [decide_eq_false y]; decide)]
      · rw [if_neg z, if_neg z]; exact q.2.2.2 k k1 k2
    rw [e]
    unfold ot0
    by_cases z0 : what = 0
    · have z4 : ¬ what = 4 := by rw [z0]; decide
      rw [if_pos z0, if_pos z0, if_neg (fun q => z4 q.2)]
      by_cases z : k = 16
      · rw [if_pos z, z, upI_i]
      · rw [if_neg z, upI_n _ _ z]
    rw [if_neg z0, if_neg z0]
    have e16 : (if k = 16 then (1 : Int32) else S.2 k) = S.2 k := by
      by_cases z : k = 16
      · rw [if_pos z, z, hz]
      · rw [if_neg z]
    by_cases z4 : what = 4
    · have z1 : ¬ what = 1 := by rw [z4]; decide
      rw [if_neg z1, if_pos z4, e16]
      by_cases z : k = 12
      · rw [if_pos ⟨z, z4⟩, z, upI_i]
      · rw [if_neg (fun q => z q.1), upI_n _ _ z]
    · rw [if_neg (fun q => z4 q.2), e16]
      by_cases z1 : what = 1
      · rw [if_pos z1]; rfl
      · rw [if_neg z1, if_neg z4]
