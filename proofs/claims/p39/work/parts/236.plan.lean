-- PURE: plan by the class
section Plan
variable {N : Nat} {h : Hp} {t : Nat} {T : Txt} {S I : Str} {X : Xs}
theorem af7 (g : Hp) (k : Nat) (f : Nat → Int32) (j : Nat) : gA (sAf g 7 0 k f) 7 0 j = if j = k then f else gA g 7 0 j := by
  show at3 g.2.2.2.1 7 0 k f 7 0 j = _
  unfold at3
  by_cases z : j = k
  · rw [if_pos z, if_pos ⟨rfl, rfl, z⟩]
  · rw [if_neg z, if_neg (fun q => z q.2.2)]
    rfl
/-- the class's way and best way -/
def WayP (T : Txt) (S : Str) (c n i : Nat) (g : Hp) : Prop := (∀ k, k < n → gA g 7 0 0 k = nI (1 + dg 3 n i k)) ∧ (0 < i → ∀ k, k < n → gA g 7 0 1 k = nI (1 + dg 3 n (plB T S c n i).2 k))
theorem plan_in (hN : 1000 ≤ N) (hT : TOK T) (hz : S.2 16 = 1) (K : SOK T 0 S) (hh : (S.2 11).toInt ≤ 4000000) {c n i : Nat} (hc : c < nCr T) (hn : n ≤ 6) (r21 : Int32 → Int32 → Int32 → Hp → Option (Int32 × Hp)) (R : Int32 × Hp → Prop)
    (out : ∀ q g, q ≤ n → Fr h g → Sd g 1 t T S → (∀ k, k ≤ q → Sd g (3 + k) t T (plS T S c n (i + 1) k)) → WayP T S c n (i + 1) g → ∃ x, r21 (plB T S c n (i + 1)).1 (nI q) (nI (i + 1)) g = some x ∧ R x) :
    ∀ m r, (∀ k g, k ≤ n → n < m + k → Fr h g → Sd g 1 t T S → (∀ k', k' ≤ k → Sd g (3 + k') t T (plS T S c n i k')) → WayP T S c n i g → ∃ x, r (nI k) g = some x ∧ R x) → ∀ k g, k ≤ n → n < m + 1 + k → Fr h g → Sd g 1 t T S → (∀ k', k' ≤ k → Sd g (3 + k') t T (plS T S c n i k')) → WayP T S c n i g → ∃ x, f_X7_planFor_31 N (nI c) (nI n) r21 (plB T S c n i).1 (nI i) r (nI k) g = some x ∧ R x := by
  intro m r ih k g hk hm f s1 sk w
  have hc4 := hT.2.1.2
  unfold f_X7_planFor_31
  by_cases z : n = k
  · subst z
    rw [if_pos (leN (Nat.le_refl _) (by omega))]
    have a3 : gA g 3 (3 + n) 6 c = (plS T S c n i n).1 6 c := ((sk n (Nat.le_refl n)).2.2.2.2.2.1 c hc).2.2.2.2.1
    have a1 : gA g 3 1 6 c = S.1 6 c := (s1.2.2.2.2.2.1 c hc).2.2.2.2.1
    simp only [jn_e, lt_e, clN (show n < 2 ^ 31 by omega), clN (show c < 2 ^ 31 by omega), grd_p (inb_n (show n < 7 by omega) (show 7 < 2 ^ 31 by omega)), grd_p (inb_n (show c < 4 by omega) (show 4 < 2 ^ 31 by omega)), a3, a1, nI_1]
    -- the next way
    have fin : ∀ g', W7 g g' → gA g' 7 0 0 = gA g 7 0 0 → (∀ k, k < n → gA g' 7 0 1 k = nI (1 + dg 3 n (plB T S c n (i + 1)).2 k)) → ∃ x, (bd2 (f_X7_nextWay N g' (nI n) 1 3) fun v14 h13 => r21 (plB T S c n (i + 1)).1 v14 (nI (i + 1)) h13) = some x ∧ R x := by
      intro g' w' e0 e1
      obtain ⟨q, g2, e2, q1, -, w2, b1, b0, b3⟩ := cl_nextWay hN (b := 3) (l := 1) (i := i) (n := n) (h := g') (by omega) (by omega) hn (fun k hk => by rw [e0]; exact w.1 k hk)
      have e2' : f_X7_nextWay N g' (nI n) 1 3 = some (nI q, g2) := e2
      rw [e2', bd2_s]
      have ww := w'.tr w2
      refine out q g2 q1 (f.tr ww.fr) (ww.sd s1) (fun k hk => ?_) ⟨b0, fun _ k hk => by rw [b1]; exact e1 k hk⟩
      rw [plS_cg T S c n k (fun j hj => b3 j (by omega))]
      exact ww.sd (sk k (by omega))
    by_cases y : (plB T S c n i).1 < (plS T S c n i n).1 6 c - S.1 6 c
    · rw [if_neg (Int32.not_le.mpr y)]
      have ep : plB T S c n (i + 1) = ((plS T S c n i n).1 6 c - S.1 6 c, i) := by rw [plB_s, if_pos y]
      rw [ep] at fin
      rw [grd_p (show ((0 : Int32) ≤ 0 ∧ (0 : Int32) ≤ 0 ∧ 0 ≤ nI n) ∧ (0 : Int32).toNatClampNeg + n ≤ 6 ∧ (0 : Int32).toNatClampNeg + n ≤ 6 from ⟨⟨by decide, by decide, leN (a := 0) (by omega) (by omega)⟩, by rw [z7.1]; omega, by rw [z7.1]; omega⟩)]
      refine fin _ (W7.af g 1 _) ?_ (fun k hk => ?_)
      · rw [af7, if_neg (by decide)]
      · rw [af7, if_pos rfl, z7.1, cpy_at _ _ hk]
        exact w.1 k hk
    · rw [if_pos (Int32.not_lt.mp y)]
      have ep : plB T S c n (i + 1) = plB T S c n i := by rw [plB_s, if_neg y]
      rw [ep] at fin
      refine fin g (W7.rf g) rfl (fun k hk => ?_)
      cases i with
      | zero =>
        refine absurd ?_ y
        have := pl_more hT K hh c n 0 hn
        show (-1 : Int32) < _
        have h1 := Int32.le_iff_toInt_le.mp this
        have z0 : (0 : Int32).toInt = 0 := rfl
        have z1 : (-1 : Int32).toInt = -1 := rfl
        exact Int32.lt_iff_toInt_lt.mpr (by omega)
      | succ i => exact w.2 (by omega) k hk
  · rw [if_neg (nleN (show k < n by omega) (show n < 2 ^ 31 by omega))]
    obtain ⟨g1, e1, c1, d1⟩ := (sk k (Nat.le_refl k)).copyC (o := 3 + (k + 1)) (by omega) (by rw [plS_16]; exact hz) (by omega)
    obtain ⟨f2, d2⟩ := d1.row 5 c (nI (1 + dg 3 n i k))
    obtain ⟨g3, e3, f3, d3⟩ := d2.hour hN
    have cc := (c1.tr (f2.ch (by omega))).tr (f3.ch (by omega))
    have ew : gA g1 7 0 0 k = nI (1 + dg 3 n i k) := by rw [c1.2.2 0]; exact w.1 k (by omega)
    simp only [lt_e, nI_1, clN (show k < 2 ^ 31 by omega), clN (show k + 1 < 2 ^ 31 by omega), clN (show c < 2 ^ 31 by omega), grd_p (inb_n (show k + 1 < 7 by omega) (show 7 < 2 ^ 31 by omega)), grd_p (inb_n (show k < 7 by omega) (show 7 < 2 ^ 31 by omega)), grd_p (inb_n (show k < 6 by omega) (show 6 < 2 ^ 31 by omega)), grd_p (inb_n (show c < 4 by omega) (show 4 < 2 ^ 31 by omega)), e1, bind_s, ew, e3]
    refine ih (k + 1) g3 (by omega) (by omega) (f.tr cc.1) (cc.2.1 1 S (by omega) s1) (fun k' hk' => ?_) ⟨fun j hj => by rw [cc.2.2]; exact w.1 j hj, fun hi j hj => by rw [cc.2.2]; exact w.2 hi j hj⟩
    by_cases y : k' = k + 1
    · rw [y]; exact d3
    · exact cc.2.1 _ _ (by omega) (sk k' (by omega))
theorem cl_planFor (hN : 1000 ≤ N) (s : Sd h 1 t T S) (hz : S.2 16 = 1) (K : SOK T 0 S) (hh : (S.2 11).toInt ≤ 4000000) {c n : Nat} (hc : c < nCr T) (hn : n ≤ 6) : ∃ g, f_X7_planFor N h (nI c) (nI n) = some ((plB T S c n (3 ^ n)).1, g) ∧ Fr h g ∧ ∀ k, k < n → gA g 7 0 1 k = nI (1 + dg 3 n (plB T S c n (3 ^ n)).2 k) := by
  have hT := s.2.2.2.1
  have h36 : 3 ^ n ≤ 729 := Nat.pow_le_pow_right (n := 3) (by omega) hn
  have h30 : 0 < 3 ^ n := Nat.pow_pos (by omega)
  obtain ⟨g1, e1, f1, d1, s1, w1⟩ := cl_startWays (l := 1) hN s hz hn
  have e1' : f_X7_startWays N h (nI n) 1 = some g1 := e1
  have e2' : f_X7_power N 3 (nI n) = some (nI (3 ^ n)) := cl_power hN 3 n (by omega)
  unfold f_X7_planFor
  rw [e1', bind_s, e2', bind_s]
  refine (iter_inv (bot := fun _ _ _ _ => none) (b := f_X7_planFor_21 N (nI c) (nI n) (nI (3 ^ n))) (fun m r => ∀ i q g, i ≤ 3 ^ n → 3 ^ n < m + i → q ≤ n → Fr h g → Sd g 1 t T S → (∀ k, k ≤ q → Sd g (3 + k) t T (plS T S c n i k)) → WayP T S c n i g → ∃ x, r (plB T S c n i).1 (nI q) (nI i) g = some x ∧ (x.1 = (plB T S c n (3 ^ n)).1 ∧ Fr h x.2 ∧ ∀ k, k < n → gA x.2 7 0 1 k = nI (1 + dg 3 n (plB T S c n (3 ^ n)).2 k))) (fun i _ _ _ _ => by omega) (fun m r ih i q g hi hm hq f s1 sk w => ?_) N 0 0 g1 (by omega) (by omega) (Nat.zero_le _) f1 s1 (fun k hk => by rw [show k = 0 by omega]; exact d1) ⟨fun k hk => by rw [dg_zero]; exact w1 k hk, fun q => absurd q (by omega)⟩).elim (fun x hx => ⟨x.2, by rw [← hx.2.1]; exact hx.1, hx.2.2.1, hx.2.2.2⟩)
  unfold f_X7_planFor_21
  by_cases z : 3 ^ n = i
  · rw [if_pos (leN (by omega) (by omega))]
    rw [z]
    exact ⟨_, rfl, rfl, f, w.2 (by omega)⟩
  · rw [if_neg (nleN (show i < 3 ^ n by omega) (by omega))]
    refine iter_inv (bot := fun _ _ => none) (b := f_X7_planFor_31 N (nI c) (nI n) r (plB T S c n i).1 (nI i)) (fun m r => ∀ k g, k ≤ n → n < m + k → Fr h g → Sd g 1 t T S → (∀ k', k' ≤ k → Sd g (3 + k') t T (plS T S c n i k')) → WayP T S c n i g → ∃ x, r (nI k) g = some x ∧ _) (fun k _ _ _ => by omega) (plan_in hN hT hz K hh hc hn r _ (fun q' g' hq' f' s' sk' w' => ih (i + 1) q' g' (by omega) (by omega) hq' f' s' sk' w')) N q g hq (by omega) f s1 sk w
end Plan

