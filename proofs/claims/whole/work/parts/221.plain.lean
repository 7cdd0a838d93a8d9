-- PURE: the reference's halves, plain
section Plain
variable {g g' : Hp} {T : Txt}
theorem v8_b8 (hT : TOK T) (p : Plain g) (b : Nat) (ru : Int32) : Sq T (v8 g b ru) (upI (b8 g b) 14 ru) := by
  obtain ⟨p1, p2, p3, p4⟩ := p
  have hc := hT.2.1.2
  refine ⟨fun s _ => ⟨rfl, rfl⟩, fun c hc' => ⟨rfl, ?_, ?_, rfl, rfl, rfl⟩, fun f _ => rfl, fun k h1 h2 => ?_⟩
  · show (if gZ g 8 0 64 = true then (0 : Int32) else gA g 8 0 7 c) = gA g 8 0 7 c
    rw [p2, if_neg (fun q => Bool.noConfusion q)]
  · show (if nI c = gI g 8 0 66 then (2147483647 : Int32) else if gZ g 8 0 65 = true then 0 else gA g 8 0 26 (4 * b + c)) = gA g 8 0 26 (4 * b + c)
    rw [p4, if_neg (nI_ne_neg (show c < 2 ^ 31 by omega) (by decide)), p3, if_neg (fun q => Bool.noConfusion q)]
  · rcases (show k = 11 ∨ k = 12 ∨ k = 13 ∨ k = 14 ∨ k = 15 ∨ k = 16 by omega) with rfl | rfl | rfl | rfl | rfl | rfl
    · rfl
    · rfl
    · rfl
    · rfl
    · rfl
    · show (if gZ g 8 0 63 = true then (0 : Int32) else 1) = 1
      rw [p1, if_neg (fun q => Bool.noConfusion q)]
theorem b8_F8 (hT : TOK T) (f : F8 g g') : Sq T (b8 g' 0) (b8 g 0) := by
  have h8 := hT.1.2
  have hc := hT.2.1.2
  have hf := hT.2.2.1.2
  have a : ∀ k i, 23 ≤ k → k ≤ 33 → i < hn k → gA g' 8 0 k i = gA g 8 0 k i := f.2.2.2.2
  have a4 : ∀ k c, 25 ≤ k → k ≤ 29 → c < 4 → gA g' 8 0 k (4 * 0 + c) = gA g 8 0 k (4 * 0 + c) := fun k c h1 h2 h3 => a k _ (by omega) (by omega) (by rw [h4x k h1 h2]; omega)
  refine ⟨fun s hs => ⟨a 23 _ (by omega) (by omega) (by rw [h8x 23 (by omega) (by omega)]; omega), a 24 _ (by omega) (by omega) (by rw [h8x 24 (by omega) (by omega)]; omega)⟩, fun c hc' => ⟨a4 25 c (by omega) (by omega) (by omega), ?_, a4 26 c (by omega) (by omega) (by omega), a4 27 c (by omega) (by omega) (by omega), a4 28 c (by omega) (by omega) (by omega), a4 29 c (by omega) (by omega) (by omega)⟩, fun i hi => a 30 _ (by omega) (by omega) (by have : hn 30 = 6 := rfl; omega), fun k h1 h2 => ?_⟩
  · show gA g' 8 0 7 c = gA g 8 0 7 c
    rw [f.2.2.2.1 7 (by decide)]
  · rcases (show k = 11 ∨ k = 12 ∨ k = 13 ∨ k = 14 ∨ k = 15 ∨ k = 16 by omega) with rfl | rfl | rfl | rfl | rfl | rfl
    · exact a 33 0 (by omega) (by omega) (by decide)
    · exact a 31 0 (by omega) (by omega) (by decide)
    · exact a 32 0 (by omega) (by omega) (by decide)
    · exact f.2.1 61 (by decide)
    · show (gL g' 8 0 62).toInt32 = (gL g 8 0 62).toInt32
      rw [f.2.2.1.1]
    · show (1 : Int32) = 1
      rfl
theorem b8_lay (hT : TOK T) (f : FinL g g') : Sq T (b8 g' 1) (b8 g 0) := by
  have h8 := hT.1.2
  have hc := hT.2.1.2
  have hf := hT.2.2.1.2
  obtain ⟨f8, ⟨l1, l2, l3⟩, -, l4, l5, l6⟩ := f
  have z : ∀ n i, n * 0 + i = i := fun n i => by omega
  refine ⟨fun s hs => ⟨?_, ?_⟩, fun c hc' => ⟨?_, ?_, ?_, ?_, ?_, ?_⟩, fun i hi => ?_, fun k h1 h2 => ?_⟩
  · show gA g' 8 0 23 (8 * 1 + s) = gA g 8 0 23 (8 * 0 + s)
    rw [z, Nat.mul_one]; exact (l1 s (by omega)).1
  · show gA g' 8 0 24 (8 * 1 + s) = gA g 8 0 24 (8 * 0 + s)
    rw [z, Nat.mul_one]; exact (l1 s (by omega)).2
  · show gA g' 8 0 25 (4 * 1 + c) = gA g 8 0 25 (4 * 0 + c)
    rw [z, Nat.mul_one]; exact (l2 c (by omega)).1
  · show gA g' 8 0 7 c = gA g 8 0 7 c
    rw [f8.2.2.2.1 7 (by decide)]
  · show gA g' 8 0 26 (4 * 1 + c) = gA g 8 0 26 (4 * 0 + c)
    rw [z, Nat.mul_one]; exact (l2 c (by omega)).2.1
  · show gA g' 8 0 27 (4 * 1 + c) = gA g 8 0 27 (4 * 0 + c)
    rw [z, Nat.mul_one]; exact (l2 c (by omega)).2.2.1
  · show gA g' 8 0 28 (4 * 1 + c) = gA g 8 0 28 (4 * 0 + c)
    rw [z, Nat.mul_one]; exact (l2 c (by omega)).2.2.2.1
  · show gA g' 8 0 29 (4 * 1 + c) = gA g 8 0 29 (4 * 0 + c)
    rw [z, Nat.mul_one]; exact (l2 c (by omega)).2.2.2.2
  · show gA g' 8 0 30 (6 * 1 + i) = gA g 8 0 30 (6 * 0 + i)
    rw [z, Nat.mul_one]; exact l3 i (by omega)
  · rcases (show k = 11 ∨ k = 12 ∨ k = 13 ∨ k = 14 ∨ k = 15 ∨ k = 16 by omega) with rfl | rfl | rfl | rfl | rfl | rfl
    · exact l6
    · exact l4
    · exact l5
    · exact f8.2.1 61 (by decide)
    · show (gL g' 8 0 62).toInt32 = (gL g 8 0 62).toInt32
      rw [f8.2.2.1.1]
    · show (1 : Int32) = 1
      rfl
end Plain
