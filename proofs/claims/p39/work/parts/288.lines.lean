-- PURE: lines of crofts, fields, tides read by both
/-- within a line -/
def SS (u n : Nat) (h g hk gk : Hp) (q : Nat) (CI : Nat → Int32) (CA : Nat → Nat → Int32) (RI : Nat → Int32) (RA : Nat → Nat → Int32) (O7 : Int32) : Prop := (RF u h hk ∧ MF g gk ∧ KWL u h hk ∧ KWG g gk) ∧ (gI hk 5 u = CI ∧ gA hk 5 u = CA ∧ (∀ k, 17 ≤ k → k ≤ 20 → gI gk 8 0 k = RI k) ∧ gA gk 8 0 = RA ∧ gI hk 1 0 7 = O7) ∧ LX n hk gk q ∧ FT hk gk ∧ REF u hk
section Lines
variable {N : Nat} {h g hk gk : Hp} {n p q u : Nat} {CI RI : Nat → Int32} {CA RA : Nat → Nat → Int32} {O7 : Int32}
theorem SS.lf (s : SS u n h g hk gk q CI CA RI RA O7) {h' g' : Hp} {q' : Nat} (f : LF hk h') (e : LG gk g') (l : LX n h' g' q') (t : FT h' g') : SS u n h g h' g' q' CI CA RI RA O7 := by
  obtain ⟨⟨a1, a2, a3, a4⟩, ⟨b1, b2, b3, b4, b5⟩, -, -, c3⟩ := s
  exact ⟨⟨a1.tr (f.rfr u), a2.tr e.mf, a3.tr (f.kl u), a4.tr e.kg⟩, ⟨(f.f5 u).trans b1, (f.fa 5 u).trans b2, fun k h1 h2 => (e.2.1 k (by omega) (by omega) (by omega)).trans (b3 k h1 h2), e.fa.trans b4, (f.2.2.1 1 0 7 (by omega) (by omega)).trans b5⟩, l, t, c3.up (f.rfr u)⟩
theorem SS.row (s : SS u n h g hk gk q CI CA RI RA O7) (i' : Nat) (c : Nat) (v v' : Int32) (hi : 5 ≤ i') : SS u n h g (sI hk 5 u c v) (sA gk 8 0 3 i' v') q (up1 CI c v) CA RI (upk RA 3 i' v') O7 := by
  obtain ⟨⟨a1, a2, a3, a4⟩, ⟨b1, b2, b3, b4, b5⟩, c1, c2, c3⟩ := s
  have F := RF.i u hk 5 u c v (by omega)
  have G := MF.w gk (k := 3) (i := i') v' (w := 5) rfl (by omega) hi
  refine ⟨⟨a1.tr F, a2.tr G, a3.tr (KWL.i u hk c v), a4.tr (KWG.a gk 3 i' v' (by omega))⟩, ⟨?_, b2, b3, ?_, b5⟩, c1.up F G (fun _ => rfl) (fun _ _ _ => rfl), c2, c3⟩
  · rw [fam_i, b1]
  · rw [fam_a, b4]
theorem SS.fail (s : SS u n h g hk gk q CI CA RI RA O7) (x : CI 10 = gI h 5 u 10) (w : Int32) : POut u n h g p (bd2 (f_X1_fails hk w) fun v4 h3 => some (v4, h3)) (bd2 (f_X8_wrong gk w) fun v4 h3 => some (v4, h3)) := fail2 s.1.1 s.1.2.1 (by rw [s.2.1.1]; exact x) s.2.2.2.2 s.2.2.1.at w
theorem SS.stop (s : SS u n h g hk gk q CI CA RI RA O7) (x : CI 10 = gI h 5 u 10) {h' g' : Hp} (f : LF hk h') (e : LG gk g') (t : FT h' g') : POut u n h g p (some (false, h')) (some (false, g')) := POut.no (s.1.1.tr (f.rfr u)) (s.1.2.1.tr e.mf) t (by rw [f.f5 u, s.2.1.1]; exact x)
theorem SS.num (hN : 1000 ≤ N) (s : SS u n h g hk gk q CI CA RI RA O7) (x : CI 10 = gI h 5 u 10) (most : Nat) (hm : most ≤ 99999) {A' B' : Hp → Option (Bool × Hp)} (yes : ∀ v p' h' g', v ≤ most → SS u n h g h' g' p' CI CA RI RA O7 → q ≤ p' → (¬ gI h' 4 0 6 = 0 → q < p') → gI h' 1 0 6 = nI v → gI g' 8 0 11 = nI v → gI hk 4 0 6 = 2 → gI hk 4 0 7 = nI v → POut u n h g p (A' h') (B' g')) : POut u n h g p (bd2 (f_X1_takeNumber N hk (nI most)) fun v h3 => if ¬ b2i v = 0 then A' h3 else some (false, h3)) (bd2 (f_X8_number N gk 0 (nI most)) fun v h3 => if ¬ b2i v = 0 then B' h3 else some (false, h3)) :=
  step_num hN s.2.2.1 s.2.2.2.2.1 s.2.2.2.1 most hm (fun v p' h' g' hv f e t l h1 h2 h3 h4 h5 h6 => yes v p' h' g' hv (s.lf f e l t) h1 h2 h3 h4 h5 h6) (fun _ _ f e t => s.stop x f e t)
end Lines

