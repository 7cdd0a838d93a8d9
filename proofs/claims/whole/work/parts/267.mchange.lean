-- PURE: changes by call, by the reference
/-- nothing changed but undo's rows -/
def FM (g g' : Hp) : Prop := K7 g g' ∧ (∀ k, k ≠ 76 → gI g' 8 0 k = gI g 8 0 k) ∧ (∀ k, gL g' 8 0 k = gL g 8 0 k) ∧ ∀ k, k ≠ 39 → gA g' 8 0 k = gA g 8 0 k
theorem FM.tr {g g' g'' : Hp} (x : FM g g') (y : FM g' g'') : FM g g'' := ⟨x.1.tr y.1, fun k q => (y.2.1 k q).trans (x.2.1 k q), fun k => (y.2.2.1 k).trans (x.2.2.1 k), fun k q => (y.2.2.2 k q).trans (x.2.2.2 k q)⟩
theorem PA.fm {g g' : Hp} (x : PA 39 g g') : FM g g' := ⟨x.1, fun k _ => x.2.1 k, x.2.2.1, x.2.2.2⟩
theorem FM.i (g : Hp) (v : Int32) : FM g (sI g 8 0 76 v) := ⟨K7.i g 76 v, fun k hk => by rw [I_at, if_neg hk], fun _ => rfl, fun _ _ => rfl⟩
theorem FM.ra {g g' : Hp} {T : Txt} {S : Str} (x : FM g g') (r : R8a g T S) : R8a g' T S := by
  obtain ⟨q1, q2, q3, q4, q5⟩ := r
  have e : b8 g' 0 = b8 g 0 := by
    unfold b8
    rw [x.2.1 61 (by decide), x.2.2.1 62, x.2.2.2 23 (by decide), x.2.2.2 24 (by decide), x.2.2.2 25 (by decide), x.2.2.2 7 (by decide), x.2.2.2 26 (by decide), x.2.2.2 27 (by decide), x.2.2.2 28 (by decide), x.2.2.2 29 (by decide), x.2.2.2 30 (by decide), x.2.2.2 31 (by decide), x.2.2.2 32 (by decide), x.2.2.2 33 (by decide)]
  refine ⟨q1, q2, q3.arr (fun k h1 h2 => x.2.1 k (by omega)) (fun k hk => x.2.2.2 k (by omega)), by rw [e]; exact q4, ?_⟩
  unfold gZ at q5 ⊢
  rw [x.2.1 49 (by decide)]
  exact q5
/-- the state told anew: half 0, undo's rows -/
theorem R8.mk {g g' : Hp} {T : Txt} {S S' I : Str} {X X' : Xs} (r : R8 g T S I X) (ra : R8a g' T S') (hi : ∀ k, k ≠ 2 → k ≠ 49 → k ≠ 61 → k ≠ 76 → gI g' 8 0 k = gI g 8 0 k) (hl : ∀ k, gL g' 8 0 k = gL g 8 0 k) (ha : ∀ k, (k < 23 ∨ 33 < k) → k ≠ 39 → gA g' 8 0 k = gA g 8 0 k) (h15 : S'.2 15 = S.2 15) (x1 : ∀ j, 3 ≤ j → X'.1 j = X.1 j) (x2 : ∀ j, j ≠ 0 → X'.2 j = X.2 j) (u1 : gI g' 8 0 76 = X'.2 0) (u2 : UR T X'.1 (gA g' 8 0 39) (X'.2 0).toNatClampNeg S') : R8 g' T S' I X' := by
  obtain ⟨r1, r2, r3, r4, r5, r6, r7, r8, r9, r10, r11⟩ := r
  refine ⟨ra, ?_, ?_, ?_, ?_, ⟨u1, u2⟩, ?_, ?_, ?_, ?_, ?_⟩
  · unfold TX; rw [ha 4 (by omega) (by omega), ha 5 (by omega) (by omega), ha 6 (by omega) (by omega), ha 7 (by omega) (by omega), ha 8 (by omega) (by omega), ha 3 (by omega) (by omega), ha 1 (by omega) (by omega), ha 13 (by omega) (by omega), ha 14 (by omega) (by omega), ha 15 (by omega) (by omega), ha 16 (by omega) (by omega), ha 17 (by omega) (by omega), ha 18 (by omega) (by omega)]; exact r2
  · unfold gZ; rw [hi 64 (by decide) (by decide) (by decide) (by decide)]; exact r3
  · rw [hl, h15]; exact r4
  · unfold SR
    rw [hi 72 (by decide) (by decide) (by decide) (by decide), hi 73 (by decide) (by decide) (by decide) (by decide), ha 37 (by omega) (by omega), x1 3 (by omega), x1 4 (by omega), x1 5 (by omega), x2 1 (by decide), x2 2 (by decide)]
    exact r5
  · rw [hi 78 (by decide) (by decide) (by decide) (by decide), x2 7 (by decide)]
    refine ⟨r7.1, fun q => ?_⟩
    have := r7.2 q
    unfold IMr
    rw [ha 40 (by omega) (by omega), ha 41 (by omega) (by omega), ha 42 (by omega) (by omega), ha 43 (by omega) (by omega), ha 44 (by omega) (by omega), hi 84 (by decide) (by decide) (by decide) (by decide), hi 85 (by decide) (by decide) (by decide) (by decide), hi 86 (by decide) (by decide) (by decide) (by decide), hl]
    exact this
  · rw [hi 1 (by decide) (by decide) (by decide) (by decide), ha 0 (by omega) (by omega), x2 3 (by decide), x1 6 (by omega)]; exact r8
  · rw [hi 4 (by decide) (by decide) (by decide) (by decide), x2 4 (by decide)]; exact r9
  · rw [hi 5 (by decide) (by decide) (by decide) (by decide), x2 5 (by decide)]; exact r10
  · rw [hi 16 (by decide) (by decide) (by decide) (by decide), x2 6 (by decide)]; exact r11
section MChange
variable {N : Nat} {g : Hp} {T : Txt} {S I : Str} {X : Xs}
theorem m_remember (hN : 1000 ≤ N) (ra : R8a g T S) {z : Nat} (hz : z ≤ 20) (e76 : gI g 8 0 76 = nI z) : ∃ g', f_X8_remember N g = some g' ∧ FM g g' ∧ gI g' 8 0 76 = nI (if z < 20 then z + 1 else 20) ∧ (z < 20 → (∀ j, j < 17 * z → gA g' 8 0 39 j = gA g 8 0 39 j) ∧ SN T (gA g' 8 0 39) (17 * z) S) ∧ (z = 20 → (∀ j, j < 323 → gA g' 8 0 39 j = gA g 8 0 39 (j + 17)) ∧ SN T (gA g' 8 0 39) 323 S) := by
  -- put and one more
  have last : ∀ h y, y < 20 → FM g h → gI h 8 0 76 = nI y → ∃ g', ((f_X8_put N h 8 0 39 (17 * (gI h 8 0 76))).bind fun h2 => lt_ (sI h2 8 0 76 ((gI h2 8 0 76) + 1)) fun h3 => some h3) = some g' ∧ FM g g' ∧ gI g' 8 0 76 = nI (y + 1) ∧ (∀ j, j < 17 * y → gA g' 8 0 39 j = gA h 8 0 39 j) ∧ SN T (gA g' 8 0 39) (17 * y) S := by
    intro h y hy f e
    have rh := f.ra ra
    obtain ⟨g2, e2, p2⟩ := m_put hN h (a := 39) (i := 17 * y) (Or.inl rfl) (show 17 * y + 17 ≤ 340 by omega) (by decide)
    have e17 : 17 * gI h 8 0 76 = nI (17 * y) := by rw [e, show (17 : Int32) = nI 17 from rfl, nI_mulN]
    have sn := p2.sn rh
    have e76' : gI g2 8 0 76 = nI y := (p2.1.2.1 76).trans e
    rw [e17, e2, bind_s, lt_e, e76', nI_1]
    refine ⟨_, rfl, f.tr (p2.1.fm.tr (FM.i g2 _)), by rw [I_at, if_pos rfl], fun j hj => p2.2.1 j (by omega), sn⟩
  unfold f_X8_remember
  rw [jn_e, e76]
  by_cases y : z = 20
  · subst y
    rw [if_neg (show ¬ ¬ nI 20 = 20 from fun q => q rfl)]
    refine iter_inv (bot := fun _ _ => none) (b := f_X8_remember_11 (fun h1 => (f_X8_put N h1 8 0 39 (17 * (gI h1 8 0 76))).bind fun h2 => lt_ (sI h2 8 0 76 ((gI h2 8 0 76) + 1)) fun h3 => some h3)) (fun m r => ∀ j h, j ≤ 323 → 323 < m + j → PA 39 g h → (∀ i, i < j → gA h 8 0 39 i = gA g 8 0 39 (i + 17)) → (∀ i, j ≤ i → gA h 8 0 39 i = gA g 8 0 39 i) → ∃ g', r (nI j) h = some g' ∧ FM g g' ∧ gI g' 8 0 76 = nI (if 20 < 20 then 20 + 1 else 20) ∧ (20 < 20 → (∀ j, j < 17 * 20 → gA g' 8 0 39 j = gA g 8 0 39 j) ∧ SN T (gA g' 8 0 39) (17 * 20) S) ∧ (20 = 20 → (∀ j, j < 323 → gA g' 8 0 39 j = gA g 8 0 39 (j + 17)) ∧ SN T (gA g' 8 0 39) 323 S)) (fun j _ _ _ => by omega) (fun m r ih j h hj hm f lo hi => ?_) N 0 g (by omega) (by omega) (PA.rf 39 g) (fun i hi => absurd hi (Nat.not_lt_zero _)) (fun _ _ => rfl)
    unfold f_X8_remember_11
    by_cases v : j = 323
    · subst v
      have e19 : gI h 8 0 76 - 1 = nI 19 := by rw [f.2.1, e76]; rfl
      rw [if_pos (show (323 : Int32) ≤ nI 323 by decide), lt_e, e19]
      obtain ⟨g', e', f', i', a', s'⟩ := last (sI h 8 0 76 (nI 19)) 19 (by omega) (f.fm.tr (FM.i h _)) (by rw [I_at, if_pos rfl])
      refine ⟨g', e', f', i', fun q => absurd q (Nat.lt_irrefl _), fun _ => ⟨fun i hi => (a' i hi).trans (lo i hi), s'⟩⟩
    · have e17 : nI j + 17 = nI (j + 17) := nI_add j 17
      rw [if_neg (show ¬ (323 : Int32) ≤ nI j from nleN (a := 323) (show j < 323 by omega) (by omega)), e17, grd_p (inb_n (show j + 17 < 340 by omega) (by omega)), grd_p (inb_n (show j < 340 by omega) (by omega)), lt_e, lt_e, nI_1, clN (show j < 2 ^ 31 by omega), clN (show j + 17 < 2 ^ 31 by omega), hi (j + 17) (by omega)]
      refine ih (j + 1) _ (by omega) (by omega) (f.tr (PA.a 39 _ h _)) (fun i h1 => ?_) (fun i h1 => ?_)
      · rw [A_at]
        by_cases w : i = j
        · rw [if_pos ⟨rfl, w⟩, w]
        · rw [if_neg (fun q => w q.2)]; exact lo i (by omega)
      · rw [A_at, if_neg (fun q => by omega)]; exact hi i (by omega)
  · have hz' : z < 20 := by omega
    rw [if_pos (show ¬ nI z = 20 from fun q => y (nI_inj (j := 20) (by omega) (by omega) q))]
    obtain ⟨g', e', f', i', a', s'⟩ := last g z hz' ⟨K7.rf g, fun _ _ => rfl, fun _ => rfl, fun _ _ => rfl⟩ e76
    refine ⟨g', e', f', by rw [i', if_pos hz'], fun _ => ⟨a', s'⟩, fun q => absurd q y⟩
theorem R8a.act (r : R8a g T S) {i : Nat} (v : Int32) (hi : i < 4) : R8a (sA g 8 0 27 i v) T (upA S 5 i v) := by
  obtain ⟨hT, R, X, q, h49⟩ := r
  refine ⟨hT, R, X.arr (fun _ _ _ => rfl) (fun k hk => funext fun u => by rw [A_at, if_neg (fun q => by omega)]), Sq.tr ?_ (q.upA 5 i v), h49⟩
  refine ⟨fun s hs => ⟨rfl, rfl⟩, fun c _ => ⟨rfl, rfl, rfl, ?_, rfl, rfl⟩, fun f _ => rfl, fun k _ _ => rfl⟩
  rw [upA_at]
  show gA (sA g 8 0 27 i v) 8 0 27 (4 * 0 + c) = if c = i then v else gA g 8 0 27 (4 * 0 + c)
  rw [A_at]
  by_cases z : c = i
  · rw [if_pos z, if_pos ⟨rfl, by omega⟩]
  · rw [if_neg z, if_neg (by omega)]
theorem R8a.cart (r : R8a g T S) {i : Nat} (v : Int32) (hi : i < 4) : R8a (sA g 8 0 25 i v) T (upA S 2 i v) := by
  obtain ⟨hT, R, X, q, h49⟩ := r
  refine ⟨hT, R, X.arr (fun _ _ _ => rfl) (fun k hk => funext fun u => by rw [A_at, if_neg (fun q => by omega)]), Sq.tr ?_ (q.upA 2 i v), h49⟩
  refine ⟨fun s hs => ⟨rfl, rfl⟩, fun c _ => ⟨?_, rfl, rfl, rfl, rfl, rfl⟩, fun f _ => rfl, fun k _ _ => rfl⟩
  rw [upA_at]
  show gA (sA g 8 0 25 i v) 8 0 25 (4 * 0 + c) = if c = i then v else gA g 8 0 25 (4 * 0 + c)
  rw [A_at]
  by_cases z : c = i
  · rw [if_pos z, if_pos ⟨rfl, by omega⟩]
  · rw [if_neg z, if_neg (by omega)]
theorem R8a.setrule (r : R8a g T S) (v : Int32) : R8a (sI g 8 0 61 v) T (upI S 14 v) := by
  obtain ⟨hT, R, X, q, h49⟩ := r
  refine ⟨hT, R, X.arr (fun k h1 h2 => by rw [I_at, if_neg (by omega)]) (fun _ _ => rfl), Sq.tr ?_ (q.upI 14 v), ?_⟩
  · refine ⟨fun s hs => ⟨rfl, rfl⟩, fun c _ => ⟨rfl, rfl, rfl, rfl, rfl, rfl⟩, fun f _ => rfl, fun k k1 k2 => ?_⟩
    rcases (show k = 11 ∨ k = 12 ∨ k = 13 ∨ k = 14 ∨ k = 15 ∨ k = 16 by omega) with rfl | rfl | rfl | rfl | rfl | rfl
    · rw [upI_n _ _ (by decide), b8_11, b8_11]; rfl
    · rw [upI_n _ _ (by decide), b8_12, b8_12]; rfl
    · rw [upI_n _ _ (by decide), b8_13, b8_13]; rfl
    · rw [upI_i, b8_14, I_at, if_pos rfl]
    · rw [upI_n _ _ (by decide), b8_15, b8_15]; rfl
    · rw [upI_n _ _ (by decide), b8_16, b8_16]
  · unfold gZ at h49 ⊢
    rw [I_at, if_neg (by decide)]
    exact h49
end MChange
