-- PURE: hours tried by the reference
def Sm (g : Hp) (b : Nat) (ru : Int32) (T : Txt) (S : Str) : Prop := TOK T ∧ TR T ∧ MT g T ∧ Sq T (v8 g b ru) S ∧ gI g 8 0 49 = b2i (gZ g 8 0 49)
/-- nothing changed but what an hour changes of half b -/
def G8 (b : Nat) (g g' : Hp) : Prop := ∃ S e B, g' = M8 g b S e B
theorem wr_wr (n b : Nat) (f f0 old : Nat → Int32) : wr n b f (wr n b f0 old) = wr n b f old := by
  funext i
  unfold wr
  by_cases z : n * b ≤ i ∧ i < n * b + n
  · rw [if_pos z, if_pos z]
  · rw [if_neg z, if_neg z, if_neg z]
theorem arr8_arr8 (b : Nat) (S S' : Str) (A : Nat → Nat → Int32) : arr8 b S' (arr8 b S A) = arr8 b S' A := by
  funext k
  by_cases k23 : k = 23
  · subst k23; rw [arr8_23, arr8_23, arr8_23, wr_wr]
  by_cases k28 : k = 28
  · subst k28; rw [arr8_28, arr8_28, arr8_28, wr_wr]
  by_cases k29 : k = 29
  · subst k29; rw [arr8_29, arr8_29, arr8_29, wr_wr]
  by_cases k30 : k = 30
  · subst k30; rw [arr8_30, arr8_30, arr8_30, wr_wr]
  by_cases k31 : k = 31
  · subst k31; rw [arr8_31, arr8_31, arr8_31, wr_wr]
  by_cases k32 : k = 32
  · subst k32; rw [arr8_32, arr8_32, arr8_32, wr_wr]
  by_cases k33 : k = 33
  · subst k33; rw [arr8_33, arr8_33, arr8_33, wr_wr]
  · rw [arr8_n b S' _ (by omega), arr8_n b S _ (by omega), arr8_n b S' _ (by omega)]
theorem M8_M8 (g : Hp) (b : Nat) (S S' : Str) (e e' : Bool) (B B' : Scr) : M8 (M8 g b S e B) b S' e' B' = M8 g b S' e' B' := by
  unfold M8
  refine Prod.ext ?_ (Prod.ext rfl (Prod.ext rfl (Prod.ext ?_ rfl)))
  · funext c o k
    show at3 (at3 g.1 8 0 49 (b2i e)) 8 0 49 (b2i e') c o k = at3 g.1 8 0 49 (b2i e') c o k
    unfold at3
    by_cases z : c = 8 ∧ o = 0 ∧ k = 49
    · rw [if_pos z, if_pos z]
    · rw [if_neg z, if_neg z, if_neg z]
  · funext c o k
    show (if c = 8 ∧ o = 0 then arr8 b S' (fun k => if (8 : Nat) = 8 ∧ (0 : Nat) = 0 then arr8 b S (g.2.2.2.1 8 0) k else g.2.2.2.1 8 0 k) k else (if c = 8 ∧ o = 0 then arr8 b S (g.2.2.2.1 8 0) k else g.2.2.2.1 c o k)) = (if c = 8 ∧ o = 0 then arr8 b S' (g.2.2.2.1 8 0) k else g.2.2.2.1 c o k)
    by_cases z : c = 8 ∧ o = 0
    · rw [if_pos z, if_pos z]
      have : (fun k => if (8 : Nat) = 8 ∧ (0 : Nat) = 0 then arr8 b S (g.2.2.2.1 8 0) k else g.2.2.2.1 8 0 k) = arr8 b S (g.2.2.2.1 8 0) := funext fun k => if_pos ⟨rfl, rfl⟩
      rw [this, arr8_arr8]
    · rw [if_neg z, if_neg z, if_neg z]
theorem G8.tr {b : Nat} {g g' g'' : Hp} (a : G8 b g g') (c : G8 b g' g'') : G8 b g g'' := by
  obtain ⟨S, e, B, rfl⟩ := a
  obtain ⟨S', e', B', rfl⟩ := c
  exact ⟨S', e', B', M8_M8 g b S S' e e' B B'⟩
theorem v8_M8 {g : Hp} {b : Nat} {ru : Int32} {T : Txt} {S1 : Str} {e : Bool} {B : Scr} (hT : TOK T) (c : SameC (v8 g b ru) S1) (h15 : S1.2 15 = (v8 g b ru).2 15) : Sq T (v8 (M8 g b S1 e B) b ru) S1 := by
  have h8 := hT.1.2
  have hc := hT.2.1.2
  have hf := hT.2.2.1.2
  obtain ⟨c1, c2, c3, c4, c5, c6, c7⟩ := c
  have A := M8_A g b S1 e B
  refine ⟨fun s hs => ⟨?_, ?_⟩, fun k hk => ⟨?_, ?_, ?_, ?_, ?_, ?_⟩, fun f hf' => ?_, fun k h1 h2 => ?_⟩
  · show gA (M8 g b S1 e B) 8 0 23 (8 * b + s) = _
    rw [A, arr8_23, wr_at (n := 8) _ _ (by omega)]
  · rw [c1]
    show gA (M8 g b S1 e B) 8 0 24 (8 * b + s) = gA g 8 0 24 (8 * b + s)
    rw [A, arr8_n b S1 _ (by omega)]
  · rw [c2]
    show gA (M8 g b S1 e B) 8 0 25 (4 * b + k) = gA g 8 0 25 (4 * b + k)
    rw [A, arr8_n b S1 _ (by omega)]
  · rw [c3]
    show (if gZ (M8 g b S1 e B) 8 0 64 = true then 0 else gA (M8 g b S1 e B) 8 0 7 k) = (if gZ g 8 0 64 = true then 0 else gA g 8 0 7 k)
    rw [M8_Z g b S1 e B 64 (by decide), A, arr8_n b S1 _ (by omega)]
  · rw [c4]
    show (if nI k = gI (M8 g b S1 e B) 8 0 66 then 2147483647 else if gZ (M8 g b S1 e B) 8 0 65 = true then 0 else gA (M8 g b S1 e B) 8 0 26 (4 * b + k)) = (if nI k = gI g 8 0 66 then 2147483647 else if gZ g 8 0 65 = true then 0 else gA g 8 0 26 (4 * b + k))
    rw [M8_I g b S1 e B 66 (by decide), M8_Z g b S1 e B 65 (by decide), A, arr8_n b S1 _ (by omega)]
  · rw [c5]
    show gA (M8 g b S1 e B) 8 0 27 (4 * b + k) = gA g 8 0 27 (4 * b + k)
    rw [A, arr8_n b S1 _ (by omega)]
  · show gA (M8 g b S1 e B) 8 0 28 (4 * b + k) = _
    rw [A, arr8_28, wr_at (n := 4) _ _ (by omega)]
  · show gA (M8 g b S1 e B) 8 0 29 (4 * b + k) = _
    rw [A, arr8_29, wr_at (n := 4) _ _ (by omega)]
  · show gA (M8 g b S1 e B) 8 0 30 (6 * b + f) = _
    rw [A, arr8_30, wr_at (n := 6) _ _ (by omega)]
  · rcases (show k = 11 ∨ k = 12 ∨ k = 13 ∨ k = 14 ∨ k = 15 ∨ k = 16 by omega) with rfl | rfl | rfl | rfl | rfl | rfl
    · show gA (M8 g b S1 e B) 8 0 33 b = _
      rw [A, arr8_33, wr_b]
    · show gA (M8 g b S1 e B) 8 0 31 b = _
      rw [A, arr8_31, wr_b]
    · show gA (M8 g b S1 e B) 8 0 32 b = _
      rw [A, arr8_32, wr_b]
    · rw [c6]; rfl
    · rw [h15]; rfl
    · rw [c7]
      show (if gZ (M8 g b S1 e B) 8 0 63 = true then (0 : Int32) else 1) = (if gZ g 8 0 63 = true then 0 else 1)
      rw [M8_Z g b S1 e B 63 (by decide)]
theorem M8_mt {g : Hp} {b : Nat} {T : Txt} {S : Str} {e : Bool} {B : Scr} (m : MT g T) : MT (M8 g b S e B) T := by
  obtain ⟨m1, m2, m3, m4, m5, m6, m7, m8, m9⟩ := m
  have i : ∀ k, k ≠ 49 → gI (M8 g b S e B) 8 0 k = gI g 8 0 k := M8_I g b S e B
  have a : ∀ k, k < 23 → gA (M8 g b S e B) 8 0 k = gA g 8 0 k := fun k hk => by rw [M8_A, arr8_n b S _ (by omega)]
  refine ⟨by rw [i 12 (by decide)]; exact m1, by rw [i 13 (by decide)]; exact m2, by rw [i 14 (by decide)]; exact m3, by rw [i 15 (by decide)]; exact m4, by rw [a 9 (by decide), a 10 (by decide), a 11 (by decide)]; exact m5, by rw [a 12 (by decide)]; exact m6, by rw [a 3 (by decide)]; exact m7, by rw [a 3 (by decide)]; exact m8, ?_⟩
  intro k hk
  have y : gY (M8 g b S e B) 8 0 13 k = gY g 8 0 13 k := by unfold gY; rw [a 13 (by decide)]
  rw [y]
  rcases m9 k hk with q | ⟨q1, q2⟩
  · exact Or.inl q
  · exact Or.inr ⟨q1, fun N x hN hx hn => q2 N x hN (fun c h1 h2 => by rw [hx c h1 h2, a c (by omega)]) hn⟩
section Trial
variable {N : Nat} {g : Hp} {b : Nat} {ru : Int32} {T : Txt} {S : Str}
theorem Sm.hour (hN : 1000 ≤ N) (hb : b < 2) (s : Sm g b ru T S) (K : SOK T 0 S) : ∃ g', f_X8_goOn N g (nI b) ru = some g' ∧ G8 b g g' ∧ Sm g' b ru T (passM T S) := by
  obtain ⟨hT, R, X, q, h49⟩ := s
  obtain ⟨e', B', e⟩ := m_goOn (e := gZ g 8 0 49) (B := g.2.2.2.2) hN hb hT X (v8_MV g b ru) R (K.sq q.sy)
  rw [M8_v8 g b ru h49] at e
  have sm := passM_same T (v8 g b ru)
  exact ⟨_, e, ⟨_, _, _, rfl⟩, hT, R, M8_mt X, (v8_M8 hT sm.1 sm.2.2).tr (passM_sq q hT), by
    rw [M8_E]
    show at3 g.1 8 0 49 (b2i e') 8 0 49 = b2i e'
    exact at3_s _ _ _ _ _⟩
end Trial

