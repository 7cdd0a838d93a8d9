/-- nothing changed but what is laid from a row -/
def TA (g g' : Hp) : Prop := K7 g g' ∧ (∀ k, k ≠ 61 → gI g' 8 0 k = gI g 8 0 k) ∧ (∀ k, gL g' 8 0 k = gL g 8 0 k) ∧ ∀ k, k ≠ 24 → k ≠ 25 → k ≠ 27 → gA g' 8 0 k = gA g 8 0 k
theorem TA.rf (g : Hp) : TA g g := ⟨K7.rf g, fun _ _ => rfl, fun _ => rfl, fun _ _ _ _ => rfl⟩
theorem TA.tr {g g' g'' : Hp} (x : TA g g') (y : TA g' g'') : TA g g'' := ⟨x.1.tr y.1, fun k q => (y.2.1 k q).trans (x.2.1 k q), fun k => (y.2.2.1 k).trans (x.2.2.1 k), fun k q r s => (y.2.2.2 k q r s).trans (x.2.2.2 k q r s)⟩
theorem TA.a (k i : Nat) (g : Hp) (v : Int32) (hk : k = 24 ∨ k = 25 ∨ k = 27) : TA g (sA g 8 0 k i v) := ⟨K7.a g k i v, fun _ _ => rfl, fun _ => rfl, fun j h1 h2 h3 => funext fun u => by rw [A_at, if_neg (fun q => by omega)]⟩
theorem TA.i (g : Hp) (v : Int32) : TA g (sI g 8 0 61 v) := ⟨K7.i g 61 v, fun k hk => by rw [I_at, if_neg hk], fun _ => rfl, fun _ _ _ _ => rfl⟩
def TakR (g g' : Hp) (a i : Nat) : Prop := TA g g' ∧ (∀ c, c < 4 → gA g' 8 0 27 c = gA g 8 0 a (i + c) ∧ gA g' 8 0 25 c = gA g 8 0 a (i + 4 + c)) ∧ (∀ s, s < 8 → gA g' 8 0 24 s = gA g 8 0 a (i + 8 + s)) ∧ gI g' 8 0 61 = gA g 8 0 a (i + 16)
section Take
variable {N : Nat} {g : Hp} {T : Txt} {S S' I : Str} {X : Xs}
/-- half 0 shows S' then, if the row shows it -/
theorem R8a.take (r : R8a g T S) {g' : Hp} {a i : Nat} (t : TakR g g' a i) (sn : SN T (gA g 8 0 a) i S') (o1 : ∀ k, k ≠ 1 → k ≠ 2 → k ≠ 5 → S'.1 k = S.1 k) (o2 : ∀ j, j ≠ 14 → S'.2 j = S.2 j) : R8a g' T S' := by
  have hc4 := r.1.2.1.2
  have h8 := r.1.1.2
  obtain ⟨hT, R, X, q, h49⟩ := r
  obtain ⟨f, t1, t2, t3⟩ := t
  refine ⟨hT, R, X.arr (fun k h1 h2 => f.2.1 k (by omega)) (fun k hk => f.2.2.2 k (by omega) (by omega) (by omega)), ⟨fun s hs => ⟨?_, ?_⟩, fun c hc => ⟨?_, ?_, ?_, ?_, ?_, ?_⟩, fun u hu => ?_, fun k k1 k2 => ?_⟩, ?_⟩
  · rw [o1 0 (by decide) (by decide) (by decide), ← (q.1 s hs).1]
    show gA g' 8 0 23 (8 * 0 + s) = gA g 8 0 23 (8 * 0 + s)
    rw [f.2.2.2 23 (by decide) (by decide) (by decide)]
  · rw [← sn.2.1 s hs, ← t2 s (by omega)]
    show gA g' 8 0 24 (8 * 0 + s) = _
    rw [show 8 * 0 + s = s by omega]
  · rw [← (sn.1 c hc).2, ← (t1 c (by omega)).2]
    show gA g' 8 0 25 (4 * 0 + c) = _
    rw [show 4 * 0 + c = c by omega]
  · rw [o1 3 (by decide) (by decide) (by decide), ← (q.2.1 c hc).2.1]
    show gA g' 8 0 7 c = gA g 8 0 7 c
    rw [f.2.2.2 7 (by decide) (by decide) (by decide)]
  · rw [o1 4 (by decide) (by decide) (by decide), ← (q.2.1 c hc).2.2.1]
    show gA g' 8 0 26 (4 * 0 + c) = gA g 8 0 26 (4 * 0 + c)
    rw [f.2.2.2 26 (by decide) (by decide) (by decide)]
  · rw [← (sn.1 c hc).1, ← (t1 c (by omega)).1]
    show gA g' 8 0 27 (4 * 0 + c) = _
    rw [show 4 * 0 + c = c by omega]
  · rw [o1 6 (by decide) (by decide) (by decide), ← (q.2.1 c hc).2.2.2.2.1]
    show gA g' 8 0 28 (4 * 0 + c) = gA g 8 0 28 (4 * 0 + c)
    rw [f.2.2.2 28 (by decide) (by decide) (by decide)]
  · rw [o1 7 (by decide) (by decide) (by decide), ← (q.2.1 c hc).2.2.2.2.2]
    show gA g' 8 0 29 (4 * 0 + c) = gA g 8 0 29 (4 * 0 + c)
    rw [f.2.2.2 29 (by decide) (by decide) (by decide)]
  · rw [o1 9 (by decide) (by decide) (by decide), ← q.2.2.1 u hu]
    show gA g' 8 0 30 (6 * 0 + u) = gA g 8 0 30 (6 * 0 + u)
    rw [f.2.2.2 30 (by decide) (by decide) (by decide)]
  · by_cases z : k = 14
    · subst z
      rw [b8_14, t3, sn.2.2]
    · rw [o2 k z, ← q.2.2.2 k k1 k2]
      rcases (show k = 11 ∨ k = 12 ∨ k = 13 ∨ k = 15 ∨ k = 16 by omega) with rfl | rfl | rfl | rfl | rfl
      · rw [b8_11, b8_11, f.2.2.2 33 (by decide) (by decide) (by decide)]
      · rw [b8_12, b8_12, f.2.2.2 31 (by decide) (by decide) (by decide)]
      · rw [b8_13, b8_13, f.2.2.2 32 (by decide) (by decide) (by decide)]
      · rw [b8_15, b8_15, f.2.2.1]
      · rw [b8_16, b8_16]
  · unfold gZ at h49 ⊢
    rw [f.2.1 49 (by decide)]
    exact h49
end Take

