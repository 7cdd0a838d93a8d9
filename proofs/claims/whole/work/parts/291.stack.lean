-- PURE: what waits, what is held; binding by both
def rkN (kt : Int32) : Nat := if 13 ≤ kt then 6 else if 11 ≤ kt then 5 else if 5 ≤ kt then 4 else if kt = 2 then 3 else if kt = 3 then 2 else if kt = 4 then 1 else 0
theorem m_rank (kt : Int32) : f_X8_rank kt = some (nI (rkN kt)) := by
  unfold f_X8_rank rkN
  simp only [jn_e]
  by_cases h1 : kt < 13
  · rw [if_pos h1, if_neg (Int32.not_le.mpr h1)]
    by_cases h2 : kt < 11
    · rw [if_pos h2, if_neg (Int32.not_le.mpr h2)]
      by_cases h3 : kt < 5
      · rw [if_pos h3, if_neg (Int32.not_le.mpr h3)]
        by_cases h4 : kt = 2
        · rw [if_neg (fun q => q h4), if_pos h4]; rfl
        · rw [if_pos h4, if_neg h4]
          by_cases h5 : kt = 3
          · rw [if_neg (fun q => q h5), if_pos h5]; rfl
          · rw [if_pos h5, if_neg h5]
            by_cases h6 : kt = 4
            · rw [if_neg (fun q => q h6), if_pos h6]; rfl
            · rw [if_pos h6, if_neg h6]; rfl
      · rw [if_neg h3, if_pos (Int32.not_lt.mp h3)]; rfl
    · rw [if_neg h2, if_pos (Int32.not_lt.mp h2)]; rfl
  · rw [if_neg h1, if_pos (Int32.not_lt.mp h1)]; rfl
/-- what may wait: the class's kind, the reference's code -/
def ENT (e : Int32 × Int32) : Prop := (e.1 = 40 ∧ e.2 = 0) ∨ (e.1 = 279 ∧ e.2 = 2) ∨ bin2 e.1 e.2
theorem bin_rank {kn kt : Int32} (h : bin2 kn kt) : f_X1_bindingOf kn = some (nI (rkN kt)) ∧ (rkN kt = 1 ∨ rkN kt = 2 ∨ (4 ≤ rkN kt ∧ rkN kt ≤ 6)) ∧ ¬ kt = 0 ∧ ¬ kt = 2 := by
  rcases h with ⟨rfl, rfl⟩ | ⟨rfl, rfl⟩ | ⟨rfl, rfl⟩ | ⟨rfl, rfl⟩ | ⟨rfl, rfl⟩ | ⟨rfl, rfl⟩ | ⟨rfl, rfl⟩ | ⟨rfl, rfl⟩ | ⟨rfl, rfl⟩ | ⟨rfl, rfl⟩ | ⟨rfl, rfl⟩ | ⟨rfl, rfl⟩ <;> exact ⟨by decide, by decide, by decide, by decide⟩
theorem ent_rank {e : Int32 × Int32} (h : ENT e) : f_X1_bindingOf e.1 = some (nI (rkN e.2)) ∧ rkN e.2 ≤ 6 ∧ (rkN e.2 = 0 ↔ e.2 = 0) := by
  obtain ⟨kn, kt⟩ := e
  rcases h with ⟨h1, h2⟩ | ⟨h1, h2⟩ | h
  · have h1 : kn = 40 := h1
    have h2 : kt = 0 := h2
    subst h1 h2
    exact ⟨by decide, by decide, by decide⟩
  · have h1 : kn = 279 := h1
    have h2 : kt = 2 := h2
    subst h1 h2
    exact ⟨by decide, by decide, by decide⟩
  · obtain ⟨b1, b2, b3, b4⟩ := bin_rank h
    have b1 : f_X1_bindingOf kn = some (nI (rkN kt)) := b1
    have b2 : rkN kt = 1 ∨ rkN kt = 2 ∨ (4 ≤ rkN kt ∧ rkN kt ≤ 6) := b2
    have b3 : ¬ kt = 0 := b3
    exact ⟨b1, by show rkN kt ≤ 6; omega, ⟨fun q => by have q : rkN kt = 0 := q; omega, fun q => absurd q b3⟩⟩
abbrev Wtg : Type := List (Int32 × Int32)
def WLs (a b : Nat → Int32) : Wtg → Prop
  | [] => True
  | e :: r => a r.length = e.1 ∧ b r.length = e.2 ∧ ENT e ∧ WLs a b r
def HLs (b : Nat → Int32) : List Nat → Prop
  | [] => True
  | x :: r => b r.length = nI x ∧ HLs b r
def bnC : Wtg → Nat
  | [] => 0
  | e :: r => (if e.2 = 0 then 0 else if e.2 = 2 then 0 else 1) + bnC r
def npC : Wtg → Nat
  | [] => 0
  | e :: r => (if e.2 = 0 then 0 else 1) + npC r
def cmpd : Wtg → Bool
  | [] => false
  | e :: r => if rkN e.2 = 4 then true else if 5 ≤ rkN e.2 then cmpd r else false
def CMP (cm : Nat → Int32) : Wtg → Nat → Prop
  | [], o => o = 0
  | e :: r, o => if e.2 = 0 then ∃ o', o = o' + 1 ∧ cm o' = b2i (cmpd r) ∧ CMP cm r o' else CMP cm r o
def dropR (r : Nat) : Wtg → Wtg
  | [] => []
  | e :: w => if r ≤ rkN e.2 then dropR r w else e :: w
theorem bn_np : ∀ W : Wtg, bnC W ≤ npC W
  | [] => Nat.le_refl 0
  | e :: r => by
    have := bn_np r
    show (if e.2 = 0 then 0 else if e.2 = 2 then 0 else 1) + bnC r ≤ (if e.2 = 0 then 0 else 1) + npC r
    by_cases h : e.2 = 0
    · rw [if_pos h, if_pos h]; omega
    · rw [if_neg h, if_neg h]
      by_cases h2 : e.2 = 2
      · rw [if_pos h2]; omega
      · rw [if_neg h2]; omega
theorem WLs.cg {a b a' b' : Nat → Int32} : ∀ {W : Wtg}, WLs a b W → (∀ i, i < W.length → a' i = a i ∧ b' i = b i) → WLs a' b' W
  | [], _, _ => trivial
  | e :: r, ⟨h1, h2, h3, h4⟩, q => by
    have q0 := q r.length (Nat.lt_succ_self _)
    exact ⟨q0.1.trans h1, q0.2.trans h2, h3, WLs.cg h4 (fun i hi => q i (Nat.lt_succ_of_lt hi))⟩
theorem HLs.cg {b b' : Nat → Int32} : ∀ {H : List Nat}, HLs b H → (∀ i, i < H.length → b' i = b i) → HLs b' H
  | [], _, _ => trivial
  | x :: r, ⟨h1, h2⟩, q => ⟨(q r.length (Nat.lt_succ_self _)).trans h1, HLs.cg h2 (fun i hi => q i (Nat.lt_succ_of_lt hi))⟩
theorem CMP.drop {cm : Nat → Int32} {r : Nat} (hr : 1 ≤ r) : ∀ {W : Wtg} {o : Nat}, CMP cm W o → CMP cm (dropR r W) o
  | [], _, h => h
  | e :: w, o, h => by
    show CMP cm (if r ≤ rkN e.2 then dropR r w else e :: w) o
    by_cases z : r ≤ rkN e.2
    · rw [if_pos z]
      refine CMP.drop hr (W := w) ?_
      have h : (if e.2 = 0 then ∃ o', o = o' + 1 ∧ cm o' = b2i (cmpd w) ∧ CMP cm w o' else CMP cm w o) := h
      have ne : ¬ e.2 = 0 := fun q => by rw [q] at z; have : rkN 0 = 0 := by decide
                                         omega
      rw [if_neg ne] at h
      exact h
    · rw [if_neg z]; exact h
theorem len_drop {r : Nat} (hr : 1 ≤ r) {o : Nat} : ∀ {W : Wtg}, W.length = npC W + o → (dropR r W).length = npC (dropR r W) + o
  | [], h => h
  | e :: w, h => by
    show (if r ≤ rkN e.2 then dropR r w else e :: w).length = npC (if r ≤ rkN e.2 then dropR r w else e :: w) + o
    by_cases z : r ≤ rkN e.2
    · rw [if_pos z]
      refine len_drop hr ?_
      have ne : ¬ e.2 = 0 := fun q => by rw [q] at z; have : rkN 0 = 0 := by decide
                                         omega
      have h : w.length + 1 = ((if e.2 = 0 then 0 else 1) + npC w) + o := h
      rw [if_neg ne] at h
      omega
    · rw [if_neg z]; exact h
theorem cmpd_drop {r : Nat} (hr : 5 ≤ r) : ∀ W : Wtg, cmpd (dropR r W) = cmpd W
  | [] => rfl
  | e :: w => by
    show cmpd (if r ≤ rkN e.2 then dropR r w else e :: w) = _
    by_cases z : r ≤ rkN e.2
    · rw [if_pos z, cmpd_drop hr w]
      show _ = if rkN e.2 = 4 then true else if 5 ≤ rkN e.2 then cmpd w else false
      rw [if_neg (by omega), if_pos (by omega)]
    · rw [if_neg z]
theorem drop5_top : ∀ W : Wtg, (cmpd W = true → ∃ e w, dropR 5 W = e :: w ∧ rkN e.2 = 4) ∧ (cmpd W = false → dropR 5 W = [] ∨ ∃ e w, dropR 5 W = e :: w ∧ ¬ rkN e.2 = 4)
  | [] => ⟨fun q => Bool.noConfusion q, fun _ => Or.inl rfl⟩
  | e :: w => by
    have ih := drop5_top w
    show ((if rkN e.2 = 4 then true else if 5 ≤ rkN e.2 then cmpd w else false) = true → ∃ e' w', (if 5 ≤ rkN e.2 then dropR 5 w else e :: w) = e' :: w' ∧ rkN e'.2 = 4) ∧ ((if rkN e.2 = 4 then true else if 5 ≤ rkN e.2 then cmpd w else false) = false → (if 5 ≤ rkN e.2 then dropR 5 w else e :: w) = [] ∨ ∃ e' w', (if 5 ≤ rkN e.2 then dropR 5 w else e :: w) = e' :: w' ∧ ¬ rkN e'.2 = 4)
    by_cases z : 5 ≤ rkN e.2
    · rw [if_pos z, if_pos z, if_neg (by omega)]
      exact ih
    · rw [if_neg z, if_neg z]
      by_cases y : rkN e.2 = 4
      · rw [if_pos y]
        exact ⟨fun _ => ⟨e, w, rfl, y⟩, fun q => Bool.noConfusion q⟩
      · rw [if_neg y]
        exact ⟨fun q => Bool.noConfusion q, fun _ => Or.inr ⟨e, w, rfl, y⟩⟩
/-- steps made -/
def SPS (z0 z : Nat) (kn nu kt pt ot : Nat → Int32) (st : Nat → List Nat) : Prop := z0 ≤ z ∧ st z0 = [] ∧ ∀ i, z0 ≤ i → i < z → STP (kn i) (nu i) (kt (64 + i)) (pt (64 + i)) (ot (64 + i)) i (st i) (st (i + 1))
theorem SPS.grow {z0 z : Nat} {kn nu kt pt ot : Nat → Int32} {st : Nat → List Nat} (s : SPS z0 z kn nu kt pt ot st) {a b c d e : Int32} {s' : List Nat} (q : STP a b c d e z (st z) s') : SPS z0 (z + 1) (upd kn z a) (upd nu z b) (upd kt (64 + z) c) (upd pt (64 + z) d) (upd ot (64 + z) e) (fun i => if i = z + 1 then s' else st i) := by
  obtain ⟨s1, s2, s3⟩ := s
  refine ⟨by omega, ?_, fun i h1 h2 => ?_⟩
  · show (if z0 = z + 1 then s' else st z0) = []
    rw [if_neg (by omega)]; exact s2
  · show STP (upd kn z a i) (upd nu z b i) (upd kt (64 + z) c (64 + i)) (upd pt (64 + z) d (64 + i)) (upd ot (64 + z) e (64 + i)) i (if i = z + 1 then s' else st i) (if i + 1 = z + 1 then s' else st (i + 1))
    by_cases x : i = z
    · subst x
      rw [up_p, up_p, up_p, up_p, up_p, if_neg (by omega), if_pos rfl]
      exact q
    · rw [up_n x, up_n x, up_n (by omega), up_n (by omega), up_n (by omega), if_neg (by omega), if_neg (by omega)]
      exact s3 i h1 (by omega)
theorem SPS.cg {z0 z : Nat} {kn nu kt pt ot kn' nu' kt' pt' ot' : Nat → Int32} {st : Nat → List Nat} (s : SPS z0 z kn nu kt pt ot st) (a : ∀ i, i < z → kn' i = kn i ∧ nu' i = nu i) (b : ∀ i, i < z → kt' (64 + i) = kt (64 + i) ∧ pt' (64 + i) = pt (64 + i) ∧ ot' (64 + i) = ot (64 + i)) : SPS z0 z kn' nu' kt' pt' ot' st := by
  obtain ⟨s1, s2, s3⟩ := s
  refine ⟨s1, s2, fun i h1 h2 => ?_⟩
  rw [(a i h2).1, (a i h2).2, (b i h2).1, (b i h2).2.1, (b i h2).2.2]
  exact s3 i h1 h2
/-- what binding changes -/
def BW (u z : Nat) (h h' : Hp) : Prop := RF u h h' ∧ (∀ k, ¬ k = 8 → gI h' 1 0 k = gI h 1 0 k) ∧ (∀ k, ¬ k = 6 → gI h' 0 u k = gI h 0 u k) ∧ (gI h' 5 u = gI h 5 u ∧ gI h' 4 0 = gI h 4 0 ∧ gA h' 1 0 = gA h 1 0 ∧ gA h' 5 u = gA h 5 u) ∧ (∀ k, ¬ k = 0 → ¬ k = 1 → gA h' 0 u k = gA h 0 u k) ∧ ∀ k i, i < z → gA h' 0 u k i = gA h 0 u k i
def BV (z : Nat) (g g' : Hp) : Prop := MF g g' ∧ (∀ k, ¬ k = 21 → ¬ k = 41 → ¬ k = 42 → gI g' 8 0 k = gI g 8 0 k) ∧ (∀ k, (k < 16 ∨ k = 19 ∨ 20 < k) → gA g' 8 0 k = gA g 8 0 k) ∧ ∀ k i, 16 ≤ k → k ≤ 18 → i < z → gA g' 8 0 k (64 + i) = gA g 8 0 k (64 + i)
theorem BW.rf (u z : Nat) (h : Hp) : BW u z h h := ⟨RF.rf u h, fun _ _ => rfl, fun _ _ => rfl, ⟨rfl, rfl, rfl, rfl⟩, fun _ _ _ => rfl, fun _ _ _ => rfl⟩
theorem BV.rf (z : Nat) (g : Hp) : BV z g g := ⟨MF.rf g, fun _ _ _ _ => rfl, fun _ _ => rfl, fun _ _ _ _ _ => rfl⟩
theorem BW.tr {u z z' : Nat} (hz : z ≤ z') {h h' h'' : Hp} (a : BW u z h h') (b : BW u z' h' h'') : BW u z h h'' := by
  obtain ⟨a1, a2, a3, ⟨a4, a5, a6, a7⟩, a8, a9⟩ := a
  obtain ⟨b1, b2, b3, ⟨b4, b5, b6, b7⟩, b8, b9⟩ := b
  exact ⟨a1.tr b1, fun k q => (b2 k q).trans (a2 k q), fun k q => (b3 k q).trans (a3 k q), ⟨b4.trans a4, b5.trans a5, b6.trans a6, b7.trans a7⟩, fun k q r => (b8 k q r).trans (a8 k q r), fun k i q => (b9 k i (by omega)).trans (a9 k i q)⟩
theorem BV.tr {z z' : Nat} (hz : z ≤ z') {g g' g'' : Hp} (a : BV z g g') (b : BV z' g' g'') : BV z g g'' := by
  obtain ⟨a1, a2, a3, a4⟩ := a
  obtain ⟨b1, b2, b3, b4⟩ := b
  exact ⟨a1.tr b1, fun k q r s => (b2 k q r s).trans (a2 k q r s), fun k q => (b3 k q).trans (a3 k q), fun k i q r s => (b4 k i q r (by omega)).trans (a4 k i q r s)⟩
section Stack
variable {N : Nat} {h g : Hp} {u z : Nat}
def putH (h : Hp) (u z : Nat) (kn nu : Int32) : Hp := sI (sA (sA h 0 u 0 z kn) 0 u 1 z nu) 0 u 6 (nI (z + 1))
theorem cl_put0 (e : gI h 0 u 6 = nI z) (hz : z < 64) (kn nu : Int32) : f_X0_put h u kn nu = some (putH h u z kn nu) := by
  unfold f_X0_put
  have e2 : gI (sA h 0 u 0 z kn) 0 u 6 = nI z := e
  have e3 : gI (sA (sA h 0 u 0 z kn) 0 u 1 z nu) 0 u 6 = nI z := e
  simp only [jn_e, lt_e]
  rw [e, if_neg (show ¬ (64 : Int32) ≤ nI z from nleN (a := 64) hz (by omega)), grd_p (inb_n hz (by omega)), clN (by omega), e2, grd_p (inb_n hz (by omega)), clN (by omega), e3, nI_1]
  rfl
theorem putH_bf (kn nu : Int32) : BW u z h (putH h u z kn nu) := by
  unfold putH
  refine ⟨((RF.a u h 0 u 0 z kn (by omega)).tr (RF.a u _ 0 u 1 z nu (by omega))).tr (RF.i u _ 0 u 6 _ (by omega)), fun _ _ => rfl, fun k q => ?_, ⟨rfl, rfl, rfl, rfl⟩, fun k q r => ?_, fun k i hi => ?_⟩
  · rw [GI, if_neg (by omega)]; rfl
  · show gA (sA (sA h 0 u 0 z kn) 0 u 1 z nu) 0 u k = _
    rw [GA, if_neg (by omega), GA, if_neg (by omega)]
  · show gA (sA (sA h 0 u 0 z kn) 0 u 1 z nu) 0 u k i = _
    rw [fam_a, fam_a]
    unfold upk
    by_cases z1 : k = 1
    · subst z1
      rw [if_pos rfl, if_neg (by decide), up_n (by omega)]
    · rw [if_neg z1]
      by_cases z2 : k = 0
      · subst z2
        rw [if_pos rfl, up_n (by omega)]
      · rw [if_neg z2]
theorem putH_v (kn nu : Int32) : gI (putH h u z kn nu) 0 u 6 = nI (z + 1) ∧ gA (putH h u z kn nu) 0 u 0 = upd (gA h 0 u 0) z kn ∧ gA (putH h u z kn nu) 0 u 1 = upd (gA h 0 u 1) z nu := by
  refine ⟨by unfold putH; rw [GI, if_pos ⟨rfl, rfl, rfl⟩], ?_, ?_⟩
  · show gA (sA (sA h 0 u 0 z kn) 0 u 1 z nu) 0 u 0 = _
    rw [GA, if_neg (by omega), GA, if_pos ⟨rfl, rfl, rfl⟩]
  · show gA (sA (sA h 0 u 0 z kn) 0 u 1 z nu) 0 u 1 = _
    rw [GA, if_pos ⟨rfl, rfl, rfl⟩, GA, if_neg (by omega)]
def grH (g : Hp) (z l : Nat) (k a b : Int32) : Hp := sI (sI (sA (sA (sA (sA g 8 0 16 (64 + z) k) 8 0 17 (64 + z) a) 8 0 18 (64 + z) b) 8 0 20 l (nI z)) 8 0 42 (nI (l + 1))) 8 0 21 (nI (z + 1))
theorem m_grown (e : gI g 8 0 21 = nI z) (hz : z < 64) {l : Nat} (e2 : gI g 8 0 42 = nI l) (hl : l < 96) (k a b : Int32) : f_X8_grown g k a b = some (grH g z l k a b) := by
  unfold f_X8_grown
  have s64 : (64 : Int32) + nI z = nI (64 + z) := by rw [show (64 : Int32) = nI 64 from rfl, nI_add]
  have ii : ∀ K : Option Hp, grd (inb (nI (64 + z)) 128) K = K := fun K => grd_p (inb_n (by omega) (by omega)) K
  have a1 : gI (sA g 8 0 16 (64 + z) k) 8 0 21 = nI z := e
  have a2 : gI (sA (sA g 8 0 16 (64 + z) k) 8 0 17 (64 + z) a) 8 0 21 = nI z := e
  have a3 : gI (sA (sA (sA g 8 0 16 (64 + z) k) 8 0 17 (64 + z) a) 8 0 18 (64 + z) b) 8 0 21 = nI z := e
  have a4 : gI (sA (sA (sA g 8 0 16 (64 + z) k) 8 0 17 (64 + z) a) 8 0 18 (64 + z) b) 8 0 42 = nI l := e2
  have a5 : gI (sA (sA (sA (sA g 8 0 16 (64 + z) k) 8 0 17 (64 + z) a) 8 0 18 (64 + z) b) 8 0 20 l (nI z)) 8 0 42 = nI l := e2
  have a6 : gI (sI (sA (sA (sA (sA g 8 0 16 (64 + z) k) 8 0 17 (64 + z) a) 8 0 18 (64 + z) b) 8 0 20 l (nI z)) 8 0 42 (nI (l + 1))) 8 0 21 = nI z := e
  have c1 : (nI (64 + z)).toNatClampNeg = 64 + z := clN (by omega)
  have c2 : (nI l).toNatClampNeg = l := clN (by omega)
  simp only [lt_e, e, s64, ii, c1, a1, a2, a3, a4, c2, grd_p (inb_n hl (show 96 < 2 ^ 31 by omega)), a5, nI_1, a6]
  rfl
theorem grH_bg {l : Nat} (k a b : Int32) : BV z g (grH g z l k a b) := by
  unfold grH
  refine ⟨(((((MF.w g (w := 64) _ rfl (by omega) (by omega)).tr (MF.w _ (w := 64) _ rfl (by omega) (by omega))).tr (MF.w _ (w := 64) _ rfl (by omega) (by omega))).tr (MF.a _ 20 l _ (by unfold mfA; omega))).tr (MF.i _ 42 _ (by unfold mfI; omega))).tr (MF.i _ 21 _ (by unfold mfI; omega)), fun k q1 q2 q3 => ?_, fun k q => ?_, fun k i q1 q2 q3 => ?_⟩
  · rw [I_at, if_neg q1, I_at, if_neg q3]; rfl
  · show gA (sA (sA (sA (sA g 8 0 16 (64 + z) _) 8 0 17 (64 + z) a) 8 0 18 (64 + z) b) 8 0 20 l (nI z)) 8 0 k = _
    rw [GA, if_neg (by omega), GA, if_neg (by omega), GA, if_neg (by omega), GA, if_neg (by omega)]
  · show gA (sA (sA (sA (sA g 8 0 16 (64 + z) _) 8 0 17 (64 + z) a) 8 0 18 (64 + z) b) 8 0 20 l (nI z)) 8 0 k (64 + i) = _
    rw [A_at, if_neg (by omega), A_at, if_neg (by omega), A_at, if_neg (by omega), A_at, if_neg (by omega)]
theorem grH_v {l : Nat} (k a b : Int32) : gI (grH g z l k a b) 8 0 21 = nI (z + 1) ∧ gI (grH g z l k a b) 8 0 42 = nI (l + 1) ∧ gA (grH g z l k a b) 8 0 16 = upd (gA g 8 0 16) (64 + z) k ∧ gA (grH g z l k a b) 8 0 17 = upd (gA g 8 0 17) (64 + z) a ∧ gA (grH g z l k a b) 8 0 18 = upd (gA g 8 0 18) (64 + z) b ∧ gA (grH g z l k a b) 8 0 20 = upd (gA g 8 0 20) l (nI z) ∧ gI (grH g z l k a b) 8 0 41 = gI g 8 0 41 := by
  unfold grH
  refine ⟨rfl, rfl, ?_, ?_, ?_, ?_, rfl⟩
  · show gA (sA (sA (sA (sA g 8 0 16 (64 + z) k) 8 0 17 (64 + z) a) 8 0 18 (64 + z) b) 8 0 20 l (nI z)) 8 0 16 = _
    rfl
  · show gA (sA (sA (sA (sA g 8 0 16 (64 + z) k) 8 0 17 (64 + z) a) 8 0 18 (64 + z) b) 8 0 20 l (nI z)) 8 0 17 = _
    rfl
  · show gA (sA (sA (sA (sA g 8 0 16 (64 + z) k) 8 0 17 (64 + z) a) 8 0 18 (64 + z) b) 8 0 20 l (nI z)) 8 0 18 = _
    rfl
  · show gA (sA (sA (sA (sA g 8 0 16 (64 + z) k) 8 0 17 (64 + z) a) 8 0 18 (64 + z) b) 8 0 20 l (nI z)) 8 0 20 = _
    rfl
end Stack
