-- PURE: a half of the reference, by what counts of it
def v8 (g : Hp) (b : Nat) (ru : Int32) : Str := (fun k i => if k = 0 then gA g 8 0 23 (8 * b + i) else if k = 1 then gA g 8 0 24 (8 * b + i) else if k = 2 then gA g 8 0 25 (4 * b + i) else if k = 3 then (if gZ g 8 0 64 = true then 0 else gA g 8 0 7 i) else if k = 4 then (if nI i = gI g 8 0 66 then 2147483647 else if gZ g 8 0 65 = true then 0 else gA g 8 0 26 (4 * b + i)) else if k = 5 then gA g 8 0 27 (4 * b + i) else if k = 6 then gA g 8 0 28 (4 * b + i) else if k = 7 then gA g 8 0 29 (4 * b + i) else if k = 9 then gA g 8 0 30 (6 * b + i) else 0, fun k => if k = 11 then gA g 8 0 33 b else if k = 12 then gA g 8 0 31 b else if k = 13 then gA g 8 0 32 b else if k = 14 then ru else if k = 15 then (gL g 8 0 62).toInt32 else if k = 16 then (if gZ g 8 0 63 = true then 0 else 1) else 0)
theorem v8_MV (g : Hp) (b : Nat) (ru : Int32) : MV g b ru (v8 g b ru) := by
  refine ⟨fun s _ => rfl, fun c _ => rfl, fun c _ => rfl, fun c _ => rfl, fun c _ => rfl, rfl, ?_⟩
  show (if gZ g 8 0 63 = true then (0 : Int32) else 1) = 0 ↔ _
  by_cases z : gZ g 8 0 63 = true
  · rw [if_pos z]; exact ⟨fun _ => z, fun _ => rfl⟩
  · rw [if_neg z]; exact ⟨fun q => absurd q (by decide), fun q => absurd q z⟩
theorem wr_self {n b : Nat} (f : Nat → Int32) : wr n b (fun i => f (n * b + i)) f = f := by
  funext i
  unfold wr
  by_cases z : n * b ≤ i ∧ i < n * b + n
  · rw [if_pos z]
    show f (n * b + (i - n * b)) = f i
    rw [show n * b + (i - n * b) = i by omega]
  · rw [if_neg z]
theorem wr_self1 {b : Nat} (f : Nat → Int32) : wr 1 b (fun _ => f b) f = f := by
  funext i
  unfold wr
  by_cases z : 1 * b ≤ i ∧ i < 1 * b + 1
  · rw [if_pos z, show i = b by omega]
  · rw [if_neg z]
theorem M8_v8 (g : Hp) (b : Nat) (ru : Int32) (h49 : gI g 8 0 49 = b2i (gZ g 8 0 49)) : M8 g b (v8 g b ru) (gZ g 8 0 49) g.2.2.2.2 = g := by
  have e1 : at3 g.1 8 0 49 (b2i (gZ g 8 0 49)) = g.1 := by
    funext c o k
    unfold at3
    by_cases z : c = 8 ∧ o = 0 ∧ k = 49
    · rw [if_pos z, z.1, z.2.1, z.2.2]; exact h49.symm
    · rw [if_neg z]
  have e2 : (fun c o k => if c = 8 ∧ o = 0 then arr8 b (v8 g b ru) (g.2.2.2.1 8 0) k else g.2.2.2.1 c o k) = g.2.2.2.1 := by
    funext c o k
    by_cases z : c = 8 ∧ o = 0
    · rw [if_pos z, z.1, z.2]
      by_cases k23 : k = 23
      · subst k23; exact (arr8_23 b _ _).trans (wr_self _)
      by_cases k28 : k = 28
      · subst k28; exact (arr8_28 b _ _).trans (wr_self _)
      by_cases k29 : k = 29
      · subst k29; exact (arr8_29 b _ _).trans (wr_self _)
      by_cases k30 : k = 30
      · subst k30; exact (arr8_30 b _ _).trans (wr_self _)
      by_cases k31 : k = 31
      · subst k31; exact (arr8_31 b _ _).trans (wr_self1 _)
      by_cases k32 : k = 32
      · subst k32; exact (arr8_32 b _ _).trans (wr_self1 _)
      by_cases k33 : k = 33
      · subst k33; exact (arr8_33 b _ _).trans (wr_self1 _)
      · exact congrArg (fun f => f) (arr8_n b _ _ (by omega))
    · rw [if_neg z]
  unfold M8
  rw [e1, e2]
