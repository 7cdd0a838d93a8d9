-- PURE: binding, by both
def BS (u z0 : Nat) (h g : Hp) (W : Wtg) (H : List Nat) (st : Nat → List Nat) (z : Nat) : Prop := (gO h 1 0 3 = some u ∧ gI h 0 u 6 = nI z ∧ gI h 1 0 8 = nI W.length ∧ gI g 8 0 21 = nI z ∧ gI g 8 0 41 = nI W.length ∧ gI g 8 0 42 = nI H.length) ∧ WLs (gA h 1 0 0) (gA g 8 0 19) W ∧ HLs (gA g 8 0 20) H ∧ SPS z0 z (gA h 0 u 0) (gA h 0 u 1) (gA g 8 0 16) (gA g 8 0 17) (gA g 8 0 18) st ∧ st z = H ∧ H.length = bnC W + 1 ∧ z + npC W ≤ 64 ∧ W.length ≤ 72 ∧ ∃ r, H = (z - 1) :: r ∧ z0 < z
theorem BW.i8 (u z : Nat) (h : Hp) (v : Int32) : BW u z h (sI h 1 0 8 v) := ⟨RF.i u h 1 0 8 v (by omega), fun k q => by rw [GI, if_neg (by omega)], fun _ _ => rfl, ⟨rfl, rfl, rfl, rfl⟩, fun _ _ _ => rfl, fun _ _ _ => rfl⟩
theorem BV.i (z : Nat) (g : Hp) (k : Nat) (v : Int32) (hk : k = 21 ∨ k = 41 ∨ k = 42) : BV z g (sI g 8 0 k v) := ⟨MF.i g k v (by unfold mfI; omega), fun j a b c => by rw [I_at, if_neg (by omega)], fun _ _ => rfl, fun _ _ _ _ _ => rfl⟩
section Bind
variable {N : Nat} {h g : Hp} {u z z0 : Nat} {W w : Wtg} {H : List Nat} {st : Nat → List Nat} {e : Int32 × Int32}
theorem m_dropHeld {l : Nat} (hl : l < 96) (e : gI g 8 0 42 = nI (l + 1)) : f_X8_dropHeld g = some (gA g 8 0 20 l, sI g 8 0 42 (nI l)) := by
  unfold f_X8_dropHeld
  have s1 : nI (l + 1) - 1 = nI l := by rw [show (1 : Int32) = nI 1 from rfl, nI_sub (by omega), Nat.add_sub_cancel]
  rw [e, s1, lt_e, show gI (sI g 8 0 42 (nI l)) 8 0 42 = nI l from rfl, grd_p (inb_n hl (by omega)), clN (by omega)]
  rfl
theorem bind1 (b : BS u z0 h g (e :: w) H st z) (ne : ¬ e.2 = 0) : ∃ h' g' H' st', (∀ R r, ¬ nI (rkN e.2) < r → f_X1_putWaiting_0 r R h = R h') ∧ (∀ R r, ¬ nI (rkN e.2) < r → f_X8_bind_0 r R g = R g') ∧ BW u z h h' ∧ BV z g g' ∧ BS u z0 h' g' w H' st' (z + 1) := by
  obtain ⟨⟨b1, b2, b3, b4, b5, b6⟩, ⟨w1, w2, w3, w4⟩, hl, sp, sz, len, cnt, l72, r, eH, z01⟩ := b
  have el : (e :: w).length = w.length + 1 := rfl
  rw [el] at b3 b5 l72
  have en : npC (e :: w) = 1 + npC w := by show (if e.2 = 0 then 0 else 1) + npC w = _; rw [if_neg ne]
  rw [en] at cnt
  have hz : z < 64 := by omega
  have s1 : nI (w.length + 1) - 1 = nI w.length := by rw [show (1 : Int32) = nI 1 from rfl, nI_sub (by omega), Nat.add_sub_cancel]
  have np : ¬ nI (w.length + 1) ≤ 0 := show ¬ nI (w.length + 1) ≤ nI 0 from nleN (by omega) (by omega)
  have cw : (nI w.length).toNatClampNeg = w.length := clN (by omega)
  obtain ⟨k1, k2, k3⟩ := ent_rank w3
  -- the class
  have A : ∀ R r, ¬ nI (rkN e.2) < r → f_X1_putWaiting_0 r R h = R (putH (sI h 1 0 8 (nI w.length)) u z e.1 0) := fun R r hr => by
    unfold f_X1_putWaiting_0
    simp only [jn_e, lt_e, b3, s1]
    rw [if_neg np, grd_p (inb_n (show w.length < 72 by omega) (by omega))]
    simp only [cw, w1, k1, bind_s]
    have a1 : gO (sI h 1 0 8 (nI w.length)) 1 0 3 = some u := b1
    have a2 : gI (sI h 1 0 8 (nI w.length)) 1 0 8 = nI w.length := rfl
    have a3 : gA (sI h 1 0 8 (nI w.length)) 1 0 0 w.length = e.1 := w1
    rw [if_neg hr, a1, onO_s, a2, grd_p (inb_n (show w.length < 72 by omega) (by omega)), cw, a3, cl_put0 (show gI (sI h 1 0 8 (nI w.length)) 0 u 6 = nI z from b2) hz, bind_s]
  obtain ⟨p1, p2, p3⟩ := putH_v (h := sI h 1 0 8 (nI w.length)) (u := u) (z := z) e.1 0
  have BWh : BW u z h (putH (sI h 1 0 8 (nI w.length)) u z e.1 0) := (BW.i8 u z h _).tr (Nat.le_refl z) (putH_bf e.1 0)
  have i8 : gI (putH (sI h 1 0 8 (nI w.length)) u z e.1 0) 1 0 8 = nI w.length := rfl
  have o3 : gO (putH (sI h 1 0 8 (nI w.length)) u z e.1 0) 1 0 3 = some u := b1
  have aw : gA (putH (sI h 1 0 8 (nI w.length)) u z e.1 0) 1 0 0 = gA h 1 0 0 := rfl
  -- the reference, after its waits went down
  obtain ⟨g1, hg1⟩ : ∃ g1, g1 = sI g 8 0 41 (nI w.length) := ⟨_, rfl⟩
  have v1 : BV z g g1 := by rw [hg1]; exact BV.i z g 41 _ (by omega)
  have c21 : gI g1 8 0 21 = nI z := by rw [hg1]; exact b4
  have c41 : gI g1 8 0 41 = nI w.length := by rw [hg1]; rfl
  have c42 : gI g1 8 0 42 = nI H.length := by rw [hg1]; exact b6
  have cA : gA g1 8 0 = gA g 8 0 := by rw [hg1]; rfl
  have bnle := bn_np w
  -- a last step
  have last : ∀ (g2 : Hp) (rr : List Nat) (a b : Int32), BV z g1 g2 → gI g2 8 0 21 = nI z → gI g2 8 0 41 = nI w.length → gI g2 8 0 42 = nI rr.length → gA g2 8 0 = gA g 8 0 → rr.length = bnC w → HLs (gA g 8 0 20) rr → STP e.1 0 e.2 a b z (st z) (z :: rr) → BV z g (grH g2 z rr.length e.2 a b) ∧ BS u z0 (putH (sI h 1 0 8 (nI w.length)) u z e.1 0) (grH g2 z rr.length e.2 a b) w (z :: rr) (fun i => if i = z + 1 then z :: rr else st i) (z + 1) := fun g2 rr a b v d21 d41 d42 dA hr hh stp => by
    obtain ⟨q1, q2, q3, q4, q5, q6, q7⟩ := grH_v (g := g2) (z := z) (l := rr.length) e.2 a b
    have bv := (v1.tr (Nat.le_refl z) v).tr (Nat.le_refl z) (grH_bg (l := rr.length) e.2 a b)
    refine ⟨bv, ⟨o3, p1, i8, q1, q7.trans d41, q2⟩, ?_, ?_, ?_, if_pos rfl, ?_, by omega, by omega, rr, by rw [Nat.add_sub_cancel], by omega⟩
    · rw [aw, bv.2.2.1 19 (by omega)]; exact w4
    · rw [q6, dA]
      exact ⟨up_p _ _ _, hh.cg (fun i hi => up_n (by omega))⟩
    · rw [p2, p3, q3, q4, q5, dA]
      exact sp.grow stp
    · show rr.length + 1 = _
      omega
  have i0 : ∀ K : Option Hp, grd (inb (nI w.length) 96) K = K := fun K => grd_p (inb_n (by omega) (by omega)) K
  have w19 : gA g1 8 0 19 w.length = e.2 := by rw [cA]; exact w2
  by_cases e2 : e.2 = 2
  · -- not
    have eb : bnC (e :: w) = bnC w := by
      show (if e.2 = 0 then 0 else if e.2 = 2 then 0 else 1) + bnC w = _
      rw [if_neg ne, if_pos e2, Nat.zero_add]
    rw [eb, eH] at len
    have len : r.length + 1 = bnC w + 1 := len
    have e1 : e.1 = 279 := by
      rcases w3 with q | q | q
      · exact absurd q.2 ne
      · exact q.1
      · exact absurd e2 (bin_rank q).2.2.2
    rw [eH] at hl c42
    obtain ⟨h1, h2⟩ := hl
    have c42 : gI g1 8 0 42 = nI (r.length + 1) := c42
    obtain ⟨g2, hg2⟩ : ∃ g2, g2 = sI g1 8 0 42 (nI r.length) := ⟨_, rfl⟩
    have stp : STP e.1 0 e.2 (nI (z - 1)) (-1) z (st z) (z :: r) := Or.inr (Or.inr (Or.inl ⟨z - 1, r, by rw [sz, eH], e1, e2, rfl, rfl⟩))
    have d21 : gI g2 8 0 21 = nI z := by rw [hg2]; exact c21
    have d41 : gI g2 8 0 41 = nI w.length := by rw [hg2]; exact c41
    have d42 : gI g2 8 0 42 = nI r.length := by rw [hg2]; rfl
    obtain ⟨L1, L2⟩ := last g2 r (nI (z - 1)) (-1) (by rw [hg2]; exact BV.i z g1 42 _ (by omega)) d21 d41 d42 (by rw [hg2]; exact cA) (by omega) h2 stp
    refine ⟨_, _, _, _, A, fun R r' hr => ?_, BWh, L1, L2⟩
    unfold f_X8_bind_0
    simp only [jn_e, lt_e, b5, s1]
    rw [if_neg np, i0]
    simp only [cw, w2, m_rank, bind_s]
    rw [if_neg hr, ← hg1, c41, i0]
    simp only [cw, w19]
    rw [if_neg (fun q => q e2), m_dropHeld (by omega) c42, bd2_s, ← hg2, cA, h1, m_grown d21 hz d42 (by omega), bind_s]
  · -- two joined
    have eb : bnC (e :: w) = 1 + bnC w := by
      show (if e.2 = 0 then 0 else if e.2 = 2 then 0 else 1) + bnC w = _
      rw [if_neg ne, if_neg e2]
    rw [eb, eH] at len
    have len : r.length + 1 = 1 + bnC w + 1 := len
    obtain ⟨x, rr, er⟩ : ∃ x rr, r = x :: rr := by
      cases r with
      | nil => have len : 0 + 1 = 1 + bnC w + 1 := len; omega
      | cons x rr => exact ⟨x, rr, rfl⟩
    subst er
    have len : rr.length + 1 + 1 = 1 + bnC w + 1 := len
    have b2' : bin2 e.1 e.2 := by
      rcases w3 with q | q | q
      · exact absurd q.2 ne
      · exact absurd q.2 e2
      · exact q
    rw [eH] at hl c42
    obtain ⟨h1, h2, h3⟩ := hl
    have h1 : gA g 8 0 20 (rr.length + 1) = nI (z - 1) := h1
    have c42 : gI g1 8 0 42 = nI (rr.length + 1 + 1) := c42
    obtain ⟨g2, hg2⟩ : ∃ g2, g2 = sI g1 8 0 42 (nI (rr.length + 1)) := ⟨_, rfl⟩
    obtain ⟨g3, hg3⟩ : ∃ g3, g3 = sI g2 8 0 42 (nI rr.length) := ⟨_, rfl⟩
    have stp : STP e.1 0 e.2 (nI x) (nI (z - 1)) z (st z) (z :: rr) := Or.inr (Or.inr (Or.inr ⟨x, z - 1, rr, by rw [sz, eH], b2', rfl, rfl, rfl⟩))
    have c42' : gI g2 8 0 42 = nI (rr.length + 1) := by rw [hg2]; rfl
    have d21 : gI g3 8 0 21 = nI z := by rw [hg3, hg2]; exact c21
    have d41 : gI g3 8 0 41 = nI w.length := by rw [hg3, hg2]; exact c41
    have d42 : gI g3 8 0 42 = nI rr.length := by rw [hg3]; rfl
    have dA2 : gA g2 8 0 = gA g 8 0 := by rw [hg2]; exact cA
    obtain ⟨L1, L2⟩ := last g3 rr (nI x) (nI (z - 1)) (by rw [hg3, hg2]; exact (BV.i z g1 42 _ (by omega)).tr (Nat.le_refl z) (BV.i z _ 42 _ (by omega))) d21 d41 d42 (by rw [hg3]; exact dA2) (by omega) h3 stp
    refine ⟨_, _, _, _, A, fun R r' hr => ?_, BWh, L1, L2⟩
    unfold f_X8_bind_0
    simp only [jn_e, lt_e, b5, s1]
    rw [if_neg np, i0]
    simp only [cw, w2, m_rank, bind_s]
    rw [if_neg hr, ← hg1, c41, i0]
    simp only [cw, w19]
    rw [if_pos e2, m_dropHeld (by omega) c42, bd2_s, ← hg2, cA, h1, m_dropHeld (by omega) c42', bd2_s, ← hg3, dA2, h2, m_grown d21 hz d42 (by omega), bind_s]
theorem bind0 (b : BS u z0 h g W H st z) (r : Int32) (hr : W = [] ∨ ∃ e w, W = e :: w ∧ nI (rkN e.2) < r) : (∀ R, f_X1_putWaiting_0 r R h = some h) ∧ (∀ R, f_X8_bind_0 r R g = some g) := by
  obtain ⟨⟨b1, b2, b3, b4, b5, b6⟩, ww, hl, sp, sz, len, cnt, l72, -⟩ := b
  rcases hr with rfl | ⟨e, w, rfl, hr⟩
  · refine ⟨fun R => ?_, fun R => ?_⟩
    · unfold f_X1_putWaiting_0
      rw [jn_e, b3, if_pos (show nI ([] : Wtg).length ≤ 0 by decide)]
    · unfold f_X8_bind_0
      rw [jn_e, b5, if_pos (show nI ([] : Wtg).length ≤ 0 by decide)]
  · obtain ⟨w1, w2, w3, w4⟩ := ww
    have el : (e :: w).length = w.length + 1 := rfl
    rw [el] at b3 b5 l72
    have s1 : nI (w.length + 1) - 1 = nI w.length := by rw [show (1 : Int32) = nI 1 from rfl, nI_sub (by omega), Nat.add_sub_cancel]
    have np : ¬ nI (w.length + 1) ≤ 0 := show ¬ nI (w.length + 1) ≤ nI 0 from nleN (by omega) (by omega)
    have cw : (nI w.length).toNatClampNeg = w.length := clN (by omega)
    obtain ⟨k1, k2, k3⟩ := ent_rank w3
    refine ⟨fun R => ?_, fun R => ?_⟩
    · unfold f_X1_putWaiting_0
      simp only [jn_e, lt_e, b3, s1]
      rw [if_neg np, grd_p (inb_n (show w.length < 72 by omega) (by omega))]
      simp only [cw, w1, k1, bind_s]
      rw [if_pos hr]
    · unfold f_X8_bind_0
      simp only [jn_e, lt_e, b5, s1]
      rw [if_neg np, grd_p (inb_n (show w.length < 96 by omega) (by omega))]
      simp only [cw, w2, m_rank, bind_s]
      rw [if_pos hr]
/-- both stop at the same place -/
def Sam (r r' : Nat) (W : Wtg) : Prop := (r = r' ∨ (r = 4 ∧ r' = 5 ∧ cmpd W = false)) ∧ 1 ≤ r ∧ r ≤ 6 ∧ r' ≤ 6
theorem bind_same (hN : 1000 ≤ N) : ∀ (W : Wtg) (h g : Hp) (H : List Nat) (st : Nat → List Nat) (z r r' : Nat), BS u z0 h g W H st z → Sam r r' W → ∀ m m', W.length < m → W.length < m' → ∃ h' g' H' st' z', iter (fun _ => none) (f_X1_putWaiting_0 (nI r)) m h = some h' ∧ iter (fun _ => none) (f_X8_bind_0 (nI r')) m' g = some g' ∧ BW u z h h' ∧ BV z g g' ∧ BS u z0 h' g' (dropR r' W) H' st' z' ∧ z ≤ z' ∧ z' + npC (dropR r' W) = z + npC W := by
  intro W
  induction W with
  | nil =>
    intro h g H st z r r' b s m m' hm hm'
    obtain ⟨m, rfl⟩ : ∃ x, m = x + 1 := ⟨m - 1, by omega⟩
    obtain ⟨m', rfl⟩ : ∃ x, m' = x + 1 := ⟨m' - 1, by omega⟩
    rw [iter_s, iter_s]
    exact ⟨h, g, H, st, z, (bind0 b _ (Or.inl rfl)).1 _, (bind0 b _ (Or.inl rfl)).2 _, BW.rf u z h, BV.rf z g, b, Nat.le_refl z, rfl⟩
  | cons e w ih =>
    intro h g H st z r r' b s m m' hm hm'
    obtain ⟨m, rfl⟩ : ∃ x, m = x + 1 := ⟨m - 1, by omega⟩
    obtain ⟨m', rfl⟩ : ∃ x, m' = x + 1 := ⟨m' - 1, by omega⟩
    rw [iter_s, iter_s]
    obtain ⟨s1, s2, s3, s4⟩ := s
    have h6 : rkN e.2 ≤ 6 := (ent_rank b.2.1.2.2.1).2.1
    have cm : cmpd (e :: w) = if rkN e.2 = 4 then true else if 5 ≤ rkN e.2 then cmpd w else false := rfl
    have ed : dropR r' (e :: w) = if r' ≤ rkN e.2 then dropR r' w else e :: w := rfl
    have hm : w.length + 1 < m + 1 := hm
    have hm' : w.length + 1 < m' + 1 := hm'
    by_cases y : r' ≤ rkN e.2
    · have y1 : r ≤ rkN e.2 := by
        rcases s1 with q | ⟨q1, q2, -⟩ <;> omega
      have ne : ¬ e.2 = 0 := fun q => by rw [q] at y1; have : rkN 0 = 0 := by decide
                                         omega
      obtain ⟨h1, g1, H1, st1, a1, a2, a3, a4, a5⟩ := bind1 b ne
      rw [a1 _ _ (Int32.not_lt.mpr (leN y1 (by omega))), a2 _ _ (Int32.not_lt.mpr (leN y (by omega)))]
      have s' : Sam r r' w := by
        refine ⟨?_, s2, s3, s4⟩
        rcases s1 with q | ⟨q1, q2, q3⟩
        · exact Or.inl q
        · refine Or.inr ⟨q1, q2, ?_⟩
          rw [cm] at q3
          by_cases x : rkN e.2 = 4
          · omega
          · rw [if_neg x, if_pos (by omega)] at q3; exact q3
      obtain ⟨h2, g2, H2, st2, z2, c1, c2, c3, c4, c5, c6, c7⟩ := ih h1 g1 H1 st1 (z + 1) r r' a5 s' m m' (by omega) (by omega)
      rw [ed, if_pos y]
      refine ⟨h2, g2, H2, st2, z2, c1, c2, a3.tr (by omega) c3, a4.tr (by omega) c4, c5, by omega, ?_⟩
      have en : npC (e :: w) = 1 + npC w := by show (if e.2 = 0 then 0 else 1) + npC w = _; rw [if_neg ne]
      rw [en]
      omega
    · rw [ed, if_neg y]
      have y1 : rkN e.2 < r := by
        rcases s1 with q | ⟨q1, q2, q3⟩
        · omega
        · rw [cm] at q3
          by_cases x : rkN e.2 = 4
          · rw [if_pos x] at q3; exact Bool.noConfusion q3
          · omega
      refine ⟨h, g, H, st, z, (bind0 b _ (Or.inr ⟨e, w, rfl, Int32.not_le.mp (nleN y1 (by omega))⟩)).1 _, (bind0 b _ (Or.inr ⟨e, w, rfl, Int32.not_le.mp (nleN (by omega) (by omega))⟩)).2 _, BW.rf u z h, BV.rf z g, b, Nat.le_refl z, rfl⟩
end Bind
