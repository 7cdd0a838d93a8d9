-- PURE: a rule tried by the reference
def R8a (g : Hp) (T : Txt) (S : Str) : Prop := TOK T ∧ TR T ∧ MT g T ∧ Sq T (b8 g 0) S ∧ gI g 8 0 49 = b2i (gZ g 8 0 49)
section MRule
variable {N : Nat} {g : Hp} {ru : Int32} {T : Txt} {S : Str}
theorem Sm.act1 (s : Sm g 1 ru T S) {j : Nat} (v : Int32) (hj : j < 4) : F8 g (sA g 8 0 27 (4 + j) v) ∧ Sm (sA g 8 0 27 (4 + j) v) 1 ru T (upA S 5 j v) := by
  have f : F8 g (sA g 8 0 27 (4 + j) v) := F8.a g v (by decide) (fun _ _ => by rw [h4x 27 (by omega) (by omega)]; omega)
  obtain ⟨hT, R, X, q, h49⟩ := s
  refine ⟨f, hT, R, f.mt X, Sq.tr ?_ (q.upA 5 j v), h49⟩
  refine ⟨fun s _ => ⟨rfl, rfl⟩, fun c _ => ⟨rfl, rfl, rfl, ?_, rfl, rfl⟩, fun i _ => rfl, fun k _ _ => rfl⟩
  rw [upA_at]
  show gA (sA g 8 0 27 (4 + j) v) 8 0 27 (4 * 1 + c) = if c = j then v else gA g 8 0 27 (4 * 1 + c)
  rw [A_at]
  by_cases z : c = j
  · rw [if_pos z, if_pos ⟨rfl, by omega⟩]
  · rw [if_neg z, if_neg (by omega)]
theorem Sm.of (r : R8a g T S) (hp : Plain g) : Sm g 0 ru T (upI S 14 ru) := by
  obtain ⟨hT, R, X, q, h49⟩ := r
  exact ⟨hT, R, X, (v8_b8 hT hp 0 ru).tr (q.upI 14 ru), h49⟩
theorem m_z5 (hN : 1000 ≤ N) {n : Nat} (hn : n < 900) {S1 : Str} {g1 : Hp} (s : Sm g1 1 ru T S1) (K : SOK T 0 (z5 S1 4)) (hh : ((z5 S1 4).2 11).toInt ≤ 4000000) : ∃ g', iter (fun _ _ => none) (f_X8_layRule_6 N ru (nI n)) N 0 g1 = some g' ∧ F8 g1 g' ∧ Sm g' 1 ru T (passN T (z5 S1 4) n) ∧ (∀ k, k ≠ 49 → gI g' 8 0 k = gI g1 8 0 k) := by
  refine iter_inv (bot := fun _ _ => none) (b := f_X8_layRule_6 N ru (nI n)) (fun m r => ∀ j g2, j ≤ 4 → 4 < m + j → F8 g1 g2 → Sm g2 1 ru T (z5 S1 j) → (∀ k, k ≠ 49 → gI g2 8 0 k = gI g1 8 0 k) → ∃ g', r (nI j) g2 = some g' ∧ F8 g1 g' ∧ Sm g' 1 ru T (passN T (z5 S1 4) n) ∧ (∀ k, k ≠ 49 → gI g' 8 0 k = gI g1 8 0 k)) (fun j _ _ _ => by omega) (fun m r ih j g2 hj hm f d i => ?_) N 0 g1 (by omega) (by omega) (F8.rf g1) s (fun _ _ => rfl)
  unfold f_X8_layRule_6
  by_cases z : j = 4
  · subst z
    rw [if_pos (show (4 : Int32) ≤ nI 4 by decide)]
    obtain ⟨g3, e3, f3, d3⟩ := d.pass hN K hh hn
    rw [e3, bind_s]
    refine ⟨g3, rfl, f.tr f3.f8, d3, fun k hk => ?_⟩
    obtain ⟨S', e', B', rfl⟩ := f3
    rw [M8_I g2 1 S' e' B' k hk, i k hk]
  · have h4 : (4 : Int32) + nI j = nI (4 + j) := nI_add 4 j
    rw [if_neg (show ¬ (4 : Int32) ≤ nI j from nleN (a := 4) (show j < 4 by omega) (by omega))]
    simp only [lt_e, h4, grd_p (inb_n (show 4 + j < 8 by omega) (show 8 < 2 ^ 31 by omega)), clN (show 4 + j < 2 ^ 31 by omega), nI_1]
    obtain ⟨f3, d3⟩ := d.act1 (j := j) 0 (by omega)
    exact ih (j + 1) _ (by omega) (by omega) (f.tr f3) d3 i
end MRule
