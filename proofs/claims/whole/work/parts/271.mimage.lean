-- PURE: images, by the reference
/-- nothing changed but what an image holds -/
def KF (g g' : Hp) : Prop := K7 g g' ∧ (∀ k, (k < 84 ∨ 86 < k) → gI g' 8 0 k = gI g 8 0 k) ∧ (∀ k, k ≠ 87 → gL g' 8 0 k = gL g 8 0 k) ∧ ∀ k, (k < 41 ∨ 44 < k) → gA g' 8 0 k = gA g 8 0 k
theorem KF.rf (g : Hp) : KF g g := ⟨K7.rf g, fun _ _ => rfl, fun _ _ => rfl, fun _ _ => rfl⟩
theorem KF.tr {g g' g'' : Hp} (x : KF g g') (y : KF g' g'') : KF g g'' := ⟨x.1.tr y.1, fun k q => (y.2.1 k q).trans (x.2.1 k q), fun k q => (y.2.2.1 k q).trans (x.2.2.1 k q), fun k q => (y.2.2.2 k q).trans (x.2.2.2 k q)⟩
theorem KF.a (k i : Nat) (g : Hp) (v : Int32) (hk : 41 ≤ k ∧ k ≤ 44) : KF g (sA g 8 0 k i v) := ⟨K7.a g k i v, fun _ _ => rfl, fun _ _ => rfl, fun j hj => funext fun u => by rw [A_at, if_neg (fun q => by omega)]⟩
theorem KF.i (k : Nat) (g : Hp) (v : Int32) (hk : 84 ≤ k ∧ k ≤ 86) : KF g (sI g 8 0 k v) := ⟨K7.i g k v, fun j hj => by rw [I_at, if_neg (fun q => by omega)], fun _ _ => rfl, fun _ _ => rfl⟩
theorem KF.l (g : Hp) (v : Int64) : KF g (sL g 8 0 87 v) := ⟨fun c o k hc => ⟨rfl, if_neg (fun q => hc q.1), rfl, rfl⟩, fun _ _ => rfl, fun k hk => by rw [L_at, if_neg hk], fun _ _ => rfl⟩
/-- so much of the image laid -/
def KL (g0 g : Hp) (a b c : Nat) : Prop := KF g0 g ∧ (∀ i, i < a → gA g 8 0 41 i = gA g0 8 0 23 i) ∧ (∀ i, i < b → gA g 8 0 42 i = gA g0 8 0 28 i ∧ gA g 8 0 43 i = gA g0 8 0 29 i) ∧ ∀ i, i < c → gA g 8 0 44 i = gA g0 8 0 30 i
def KE (g0 g : Hp) : Prop := KL g0 g 8 4 6 ∧ gI g 8 0 84 = gA g0 8 0 31 0 ∧ gI g 8 0 85 = gA g0 8 0 32 0 ∧ gI g 8 0 86 = gA g0 8 0 33 0 ∧ gL g 8 0 87 = gL g0 8 0 62
theorem R8a.cg {g g' : Hp} {T : Txt} {S : Str} (r : R8a g T S) (hi : ∀ k, k < 62 → gI g' 8 0 k = gI g 8 0 k) (hl : gL g' 8 0 62 = gL g 8 0 62) (ha : ∀ k, k < 34 → gA g' 8 0 k = gA g 8 0 k) : R8a g' T S := by
  obtain ⟨q1, q2, q3, q4, q5⟩ := r
  have e : b8 g' 0 = b8 g 0 := by
    unfold b8
    rw [hi 61 (by decide), hl, ha 23 (by decide), ha 24 (by decide), ha 25 (by decide), ha 7 (by decide), ha 26 (by decide), ha 27 (by decide), ha 28 (by decide), ha 29 (by decide), ha 30 (by decide), ha 31 (by decide), ha 32 (by decide), ha 33 (by decide)]
  refine ⟨q1, q2, q3.arr (fun k h1 h2 => hi k (by omega)) (fun k hk => ha k (by omega)), by rw [e]; exact q4, ?_⟩
  unfold gZ at q5 ⊢
  rw [hi 49 (by decide)]
  exact q5
section Image
variable {N : Nat} {g : Hp} {T : Txt} {S I : Str} {X : Xs}
theorem keep3 (hN : 1000 ≤ N) {g0 g : Hp} (l : KL g0 g 8 4 0) : ∃ g', iter (fun _ _ => none) f_X8_keep_84 N 0 g = some (gA g0 8 0 33 0, g') ∧ KE g0 g' := by
  refine iter_inv (bot := fun _ _ => none) (b := f_X8_keep_84) (fun m r => ∀ j g, j ≤ 6 → 6 < m + j → KL g0 g 8 4 j → ∃ g', r (nI j) g = some (gA g0 8 0 33 0, g') ∧ KE g0 g') (fun j _ _ _ => by omega) (fun m r ih j g hj hm l => ?_) N 0 g (by omega) (by omega) l
  obtain ⟨f, l1, l2, l3⟩ := l
  unfold f_X8_keep_84
  by_cases z : j = 6
  · subst z
    have b : ∀ k, k = 31 ∨ k = 32 ∨ k = 33 → gA g 8 0 k 0 = gA g0 8 0 k 0 := fun k hk => by rw [f.2.2.2 k (by omega)]
    rw [if_pos (show (6 : Int32) ≤ nI 6 by decide)]
    simp only [lt_e, z7.1, grd_p (show inb 0 2 by decide)]
    show ∃ g', some (gA g 8 0 33 0, sL (sI (sI (sI g 8 0 84 (gA g 8 0 31 0)) 8 0 85 (gA g 8 0 32 0)) 8 0 86 (gA g 8 0 33 0)) 8 0 87 (gL g 8 0 62)) = some (gA g0 8 0 33 0, g') ∧ KE g0 g'
    rw [b 31 (by omega), b 32 (by omega), b 33 (by omega)]
    refine ⟨_, rfl, ⟨((f.tr (KF.i 84 g _ (by omega))).tr (KF.i 85 _ _ (by omega))).tr ((KF.i 86 _ _ (by omega)).tr (KF.l _ _)), l1, l2, l3⟩, ?_, ?_, ?_, ?_⟩
    · show gI (sI (sI (sI g 8 0 84 (gA g0 8 0 31 0)) 8 0 85 (gA g0 8 0 32 0)) 8 0 86 (gA g0 8 0 33 0)) 8 0 84 = _
      rw [I_at, if_neg (by decide), I_at, if_neg (by decide), I_at, if_pos rfl]
    · show gI (sI (sI (sI g 8 0 84 (gA g0 8 0 31 0)) 8 0 85 (gA g0 8 0 32 0)) 8 0 86 (gA g0 8 0 33 0)) 8 0 85 = _
      rw [I_at, if_neg (by decide), I_at, if_pos rfl]
    · show gI (sI (sI (sI g 8 0 84 (gA g0 8 0 31 0)) 8 0 85 (gA g0 8 0 32 0)) 8 0 86 (gA g0 8 0 33 0)) 8 0 86 = _
      rw [I_at, if_pos rfl]
    · rw [L_at, if_pos rfl, f.2.2.1 62 (by decide)]
  · have e30 : gA g 8 0 30 j = gA g0 8 0 30 j := by rw [f.2.2.2 30 (by omega)]
    rw [if_neg (show ¬ (6 : Int32) ≤ nI j from nleN (a := 6) (show j < 6 by omega) (by omega)), grd_p (inb_n (show j < 12 by omega) (by omega)), grd_p (inb_n (show j < 6 by omega) (by omega)), lt_e, lt_e, nI_1, clN (show j < 2 ^ 31 by omega), e30]
    refine ih (j + 1) _ (by omega) (by omega) ⟨f.tr (KF.a 44 j g _ (by omega)), fun i hi => ?_, fun i hi => ?_, fun i hi => ?_⟩
    · rw [A_at, if_neg (fun q => by omega)]; exact l1 i hi
    · rw [A_at, if_neg (fun q => by omega), A_at, if_neg (fun q => by omega)]; exact l2 i hi
    · rw [A_at]
      by_cases w : i = j
      · rw [if_pos ⟨rfl, w⟩, w]
      · rw [if_neg (fun q => w q.2)]; exact l3 i (by omega)
theorem keep2 (hN : 1000 ≤ N) {g0 g : Hp} (l : KL g0 g 8 0 0) : ∃ g', iter (fun _ _ => none) (f_X8_keep_47 N) N 0 g = some (gA g0 8 0 33 0, g') ∧ KE g0 g' := by
  refine iter_inv (bot := fun _ _ => none) (b := f_X8_keep_47 N) (fun m r => ∀ j g, j ≤ 4 → 4 < m + j → KL g0 g 8 j 0 → ∃ g', r (nI j) g = some (gA g0 8 0 33 0, g') ∧ KE g0 g') (fun j _ _ _ => by omega) (fun m r ih j g hj hm l => ?_) N 0 g (by omega) (by omega) l
  unfold f_X8_keep_47
  by_cases z : j = 4
  · subst z
    rw [if_pos (show (4 : Int32) ≤ nI 4 by decide)]
    exact keep3 hN l
  · obtain ⟨f, l1, l2, l3⟩ := l
    have e28 : gA g 8 0 28 j = gA g0 8 0 28 j := by rw [f.2.2.2 28 (by omega)]
    have e29 : gA (sA g 8 0 42 j (gA g0 8 0 28 j)) 8 0 29 j = gA g0 8 0 29 j := by rw [A_at, if_neg (fun q => by omega), f.2.2.2 29 (by omega)]
    rw [if_neg (show ¬ (4 : Int32) ≤ nI j from nleN (a := 4) (show j < 4 by omega) (by omega)), grd_p (inb_n (show j < 8 by omega) (by omega)), grd_p (inb_n (show j < 4 by omega) (by omega)), lt_e, grd_p (inb_n (show j < 8 by omega) (by omega)), grd_p (inb_n (show j < 4 by omega) (by omega)), lt_e, lt_e, nI_1, clN (show j < 2 ^ 31 by omega), e28, e29]
    refine ih (j + 1) _ (by omega) (by omega) ⟨f.tr ((KF.a 42 j g _ (by omega)).tr (KF.a 43 j _ _ (by omega))), fun i hi => ?_, fun i hi => ?_, fun i hi => absurd hi (Nat.not_lt_zero _)⟩
    · rw [A_at, if_neg (fun q => by omega), A_at, if_neg (fun q => by omega)]; exact l1 i hi
    · rw [A_at, if_neg (fun q => by omega), A_at, A_at]
      by_cases w : i = j
      · rw [if_pos ⟨rfl, w⟩, if_pos ⟨rfl, w⟩, w]; exact ⟨rfl, rfl⟩
      · rw [if_neg (fun q => w q.2), if_neg (fun q => w q.2), A_at, if_neg (fun q => by omega)]; exact l2 i (by omega)
theorem keep1 (hN : 1000 ≤ N) (g0 : Hp) : ∃ g', iter (fun _ _ => none) (f_X8_keep_21 N) N 0 g0 = some (gA g0 8 0 33 0, g') ∧ KE g0 g' := by
  refine iter_inv (bot := fun _ _ => none) (b := f_X8_keep_21 N) (fun m r => ∀ j g, j ≤ 8 → 8 < m + j → KL g0 g j 0 0 → ∃ g', r (nI j) g = some (gA g0 8 0 33 0, g') ∧ KE g0 g') (fun j _ _ _ => by omega) (fun m r ih j g hj hm l => ?_) N 0 g0 (by omega) (by omega) ⟨KF.rf g0, fun i hi => absurd hi (Nat.not_lt_zero _), fun i hi => absurd hi (Nat.not_lt_zero _), fun i hi => absurd hi (Nat.not_lt_zero _)⟩
  unfold f_X8_keep_21
  by_cases z : j = 8
  · subst z
    rw [if_pos (show (8 : Int32) ≤ nI 8 by decide)]
    exact keep2 hN l
  · obtain ⟨f, l1, l2, l3⟩ := l
    have e23 : gA g 8 0 23 j = gA g0 8 0 23 j := by rw [f.2.2.2 23 (by omega)]
    rw [if_neg (show ¬ (8 : Int32) ≤ nI j from nleN (a := 8) (show j < 8 by omega) (by omega)), grd_p (inb_n (show j < 16 by omega) (by omega)), grd_p (inb_n (show j < 8 by omega) (by omega)), lt_e, lt_e, nI_1, clN (show j < 2 ^ 31 by omega), e23]
    refine ih (j + 1) _ (by omega) (by omega) ⟨f.tr (KF.a 41 j g _ (by omega)), fun i hi => ?_, fun i hi => absurd hi (Nat.not_lt_zero _), fun i hi => absurd hi (Nat.not_lt_zero _)⟩
    rw [A_at]
    by_cases w : i = j
    · rw [if_pos ⟨rfl, w⟩, w]
    · rw [if_neg (fun q => w q.2)]; exact l1 i (by omega)
theorem m_keep (hN : 1000 ≤ N) (r : R8 g T S I X) : ∃ g', f_X8_keep N g = some (S.2 11, g') ∧ R8 g' T S S (uX7 X 1) ∧ K7 g g' := by
  obtain ⟨r0, k0⟩ := r.z0
  have hT := r.1.1
  have h8 := hT.1.2
  have hc4 := hT.2.1.2
  have hf6 := hT.2.2.1.2
  have i1 : ∀ k, k ≠ 78 → gI (sZ (sI g 8 0 2 0) 8 0 78 true) 8 0 k = gI (sI g 8 0 2 0) 8 0 k := fun k hk => by unfold sZ; rw [I_at, if_neg hk]
  have e78 : gI (sZ (sI g 8 0 2 0) 8 0 78 true) 8 0 78 = 1 := by unfold sZ; rw [I_at, if_pos rfl]; rfl
  obtain ⟨h3, e3, p3⟩ := m_put hN (sZ (sI g 8 0 2 0) 8 0 78 true) (a := 40) (i := 0) (Or.inr rfl) (show 0 + 17 ≤ 17 by omega) (by decide)
  have e3' : f_X8_put N (sZ (sI g 8 0 2 0) 8 0 78 true) 8 0 40 0 = some h3 := e3
  obtain ⟨g', e', ke⟩ := keep1 hN h3
  obtain ⟨⟨kf, l1, l2, l3⟩, k1, k2, k3, k4⟩ := ke
  -- everything but the image
  have gi : ∀ k, k ≠ 78 → (k < 84 ∨ 86 < k) → gI g' 8 0 k = gI (sI g 8 0 2 0) 8 0 k := fun k hk hr => (kf.2.1 k hr).trans ((p3.1.2.1 k).trans (i1 k hk))
  have gl : ∀ k, k ≠ 87 → gL g' 8 0 k = gL (sI g 8 0 2 0) 8 0 k := fun k hk => (kf.2.2.1 k hk).trans (p3.1.2.2.1 k)
  have ga : ∀ k, (k < 40 ∨ 44 < k) → gA g' 8 0 k = gA (sI g 8 0 2 0) 8 0 k := fun k hk => (kf.2.2.2 k (by omega)).trans (p3.1.2.2.2 k (by omega))
  have ga3 : ∀ k, k ≠ 40 → gA h3 8 0 k = gA (sI g 8 0 2 0) 8 0 k := fun k hk => p3.1.2.2.2 k hk
  obtain ⟨r1, r2, r3, r4, r5, r6, r7, r8, r9, r10, r11⟩ := r0
  have e78' : gI g' 8 0 78 = 1 := (kf.2.1 78 (by omega)).trans ((p3.1.2.1 78).trans e78)
  have ra : R8a g' T S := r1.cg (fun k hk => gi k (by omega) (by omega)) (gl 62 (by decide)) (fun k hk => ga k (by omega))
  have sn : SN T (gA h3 8 0 40) 0 S := p3.sn (r1.cg (fun k hk => i1 k (by omega)) rfl (fun _ _ => rfl))
  have rh : R8a h3 T S := r1.cg (fun k hk => (p3.1.2.1 k).trans (i1 k (by omega))) (p3.1.2.2.1 62) (fun k hk => ga3 k (by omega))
  unfold f_X8_keep
  rw [lt_e, lt_e, e3', bind_s, e', rh.hour]
  refine ⟨g', rfl, ⟨ra, ?_, ?_, ?_, ?_, ?_, ?_, ?_, ?_, ?_, ?_⟩, k0.tr (((K7.i _ 78 (b2i true)).tr p3.1.1).tr kf.1)⟩
  · unfold TX; rw [ga 4 (by omega), ga 5 (by omega), ga 6 (by omega), ga 7 (by omega), ga 8 (by omega), ga 3 (by omega), ga 1 (by omega), ga 13 (by omega), ga 14 (by omega), ga 15 (by omega), ga 16 (by omega), ga 17 (by omega), ga 18 (by omega)]; exact r2
  · unfold gZ; rw [gi 64 (by decide) (by omega)]; exact r3
  · rw [gl 62 (by decide)]; exact r4
  · unfold SR; rw [gi 72 (by decide) (by omega), gi 73 (by decide) (by omega), ga 37 (by omega)]; exact r5
  · rw [gi 76 (by decide) (by omega), ga 39 (by omega)]; exact r6
  · refine ⟨e78', fun _ => ⟨?_, fun s hs => ?_, fun c hc => ?_, fun f hf => ?_, ?_, ?_, ?_, ?_⟩⟩
    · rw [kf.2.2.2 40 (by omega)]; exact sn
    · rw [l1 s (by omega)]; exact (rh.lies hs).1
    · obtain ⟨b2, b3, b4, b5, b6, b7⟩ := rh.row hc
      rw [(l2 c (by omega)).1, (l2 c (by omega)).2]
      exact ⟨b6, b7⟩
    · rw [l3 f (by omega)]; exact rh.gotf hf
    · rw [k1]; exact rh.num.2.1
    · rw [k2]; exact rh.num.2.2.1
    · rw [k3]; exact rh.num.1
    · rw [k4, p3.1.2.2.1 62]; exact r4
  · rw [gi 1 (by decide) (by omega), ga 0 (by omega)]; exact r8
  · rw [gi 4 (by decide) (by omega)]; exact r9
  · rw [gi 5 (by decide) (by omega)]; exact r10
  · rw [gi 16 (by decide) (by omega)]; exact r11
theorem PI_keep (p : PI T S I X) : PI T S S (uX7 X 1) := by
  obtain ⟨p1, p2, p3, p4, p5, p6, p7, p8, p9⟩ := p
  exact ⟨p1, p2, p3, p4, fun _ => p4, p6, Or.inr rfl, p8, p9⟩
end Image
