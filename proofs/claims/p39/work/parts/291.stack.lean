-- PURE: what waits, what is held; binding by both
def rkN (kt : Int32) : Nat := if 13 ≤ kt then 6 else if 11 ≤ kt then 5 else if 5 ≤ kt then 4 else if kt = 2 then 3 else if kt = 3 then 2 else if kt = 4 then 1 else 0
/-- what may wait: the class's kind, the reference's code -/
def ENT (e : Int32 × Int32) : Prop := (e.1 = 40 ∧ e.2 = 0) ∨ (e.1 = 279 ∧ e.2 = 2) ∨ bin2 e.1 e.2
abbrev Wtg : Type := List (Int32 × Int32)
def WLs (a b : Nat → Int32) : Wtg → Prop
  | [] => True
  | e :: r => a r.length = e.1 ∧ b r.length = e.2 ∧ ENT e ∧ WLs a b r
def HLs (b : Nat → Int32) : List Nat → Prop
  | [] => True
  | x :: r => b r.length = nI x ∧ HLs b r
def npC : Wtg → Nat
  | [] => 0
  | e :: r => (if e.2 = 0 then 0 else 1) + npC r
def cmpd : Wtg → Bool
  | [] => false
  | e :: r => if rkN e.2 = 4 then true else if 5 ≤ rkN e.2 then cmpd r else false
def CMP (cm : Nat → Int32) : Wtg → Nat → Prop
  | [], o => o = 0
  | e :: r, o => if e.2 = 0 then ∃ o', o = o' + 1 ∧ cm o' = b2i (cmpd r) ∧ CMP cm r o' else CMP cm r o
theorem WLs.cg {a b a' b' : Nat → Int32} : ∀ {W : Wtg}, WLs a b W → (∀ i, i < W.length → a' i = a i ∧ b' i = b i) → WLs a' b' W
  | [], _, _ => trivial
  | e :: r, ⟨h1, h2, h3, h4⟩, q => by
    have q0 := q r.length (Nat.lt_succ_self _)
    exact ⟨q0.1.trans h1, q0.2.trans h2, h3, WLs.cg h4 (fun i hi => q i (Nat.lt_succ_of_lt hi))⟩
theorem HLs.cg {b b' : Nat → Int32} : ∀ {H : List Nat}, HLs b H → (∀ i, i < H.length → b' i = b i) → HLs b' H
  | [], _, _ => trivial
  | x :: r, ⟨h1, h2⟩, q => ⟨(q r.length (Nat.lt_succ_self _)).trans h1, HLs.cg h2 (fun i hi => q i (Nat.lt_succ_of_lt hi))⟩
/-- steps made -/
def SPS (z0 z : Nat) (kn nu kt pt ot : Nat → Int32) (st : Nat → List Nat) : Prop := z0 ≤ z ∧ st z0 = [] ∧ ∀ i, z0 ≤ i → i < z → STP (kn i) (nu i) (kt (64 + i)) (pt (64 + i)) (ot (64 + i)) i (st i) (st (i + 1))
theorem SPS.cg {z0 z : Nat} {kn nu kt pt ot kn' nu' kt' pt' ot' : Nat → Int32} {st : Nat → List Nat} (s : SPS z0 z kn nu kt pt ot st) (a : ∀ i, i < z → kn' i = kn i ∧ nu' i = nu i) (b : ∀ i, i < z → kt' (64 + i) = kt (64 + i) ∧ pt' (64 + i) = pt (64 + i) ∧ ot' (64 + i) = ot (64 + i)) : SPS z0 z kn' nu' kt' pt' ot' st := by
  obtain ⟨s1, s2, s3⟩ := s
  refine ⟨s1, s2, fun i h1 h2 => ?_⟩
  rw [(a i h2).1, (a i h2).2, (b i h2).1, (b i h2).2.1, (b i h2).2.2]
  exact s3 i h1 h2
/-- what binding changes -/
def BW (u z : Nat) (h h' : Hp) : Prop := RF u h h' ∧ (∀ k, ¬ k = 8 → gI h' 1 0 k = gI h 1 0 k) ∧ (∀ k, ¬ k = 6 → gI h' 0 u k = gI h 0 u k) ∧ (gI h' 5 u = gI h 5 u ∧ gI h' 4 0 = gI h 4 0 ∧ gA h' 1 0 = gA h 1 0 ∧ gA h' 5 u = gA h 5 u) ∧ (∀ k, ¬ k = 0 → ¬ k = 1 → gA h' 0 u k = gA h 0 u k) ∧ ∀ k i, i < z → gA h' 0 u k i = gA h 0 u k i
def BV (z : Nat) (g g' : Hp) : Prop := MF g g' ∧ (∀ k, ¬ k = 21 → ¬ k = 41 → ¬ k = 42 → gI g' 8 0 k = gI g 8 0 k) ∧ (∀ k, (k < 16 ∨ k = 19 ∨ 20 < k) → gA g' 8 0 k = gA g 8 0 k) ∧ ∀ k i, 16 ≤ k → k ≤ 18 → i < z → gA g' 8 0 k (64 + i) = gA g 8 0 k (64 + i)
theorem BW.rf (u z : Nat) (h : Hp) : BW u z h h := ⟨RF.rf u h, fun _ _ => rfl, fun _ _ => rfl, ⟨rfl, rfl, rfl, rfl⟩, fun _ _ _ => rfl, fun _ _ _ => rfl⟩
theorem BV.rf (z : Nat) (g : Hp) : BV z g g := ⟨MF.rf g, fun _ _ _ _ => rfl, fun _ _ => rfl, fun _ _ _ _ _ => rfl⟩
theorem BW.tr {u z z' : Nat} (hz : z ≤ z') {h h' h'' : Hp} (a : BW u z h h') (b : BW u z' h' h'') : BW u z h h'' := by
  obtain ⟨a1, a2, a3, ⟨a4, a5, a6, a7⟩, a8, a9⟩ := a
  obtain ⟨b1, b2, b3, ⟨b4, b5, b6, b7⟩, b8, b9⟩ := b
  exact ⟨a1.tr b1, fun k q => (b2 k q).trans (a2 k q), fun k q => (b3 k q).trans (a3 k q), ⟨b4.trans a4, b5.trans a5, b6.trans a6, b7.trans a7⟩, fun k q r => (b8 k q r).trans (a8 k q r), fun k i q => (b9 k i (by omega)).trans (a9 k i q)⟩
theorem BV.tr {z z' : Nat} (hz : z ≤ z') {g g' g'' : Hp} (a : BV z g g') (b : BV z' g' g'') : BV z g g'' := by
  obtain ⟨a1, a2, a3, a4⟩ := a
  obtain ⟨b1, b2, b3, b4⟩ := b
  exact ⟨a1.tr b1, fun k q r s => (b2 k q r s).trans (a2 k q r s), fun k q => (b3 k q).trans (a3 k q), fun k i q r s => (b4 k i q r (by omega)).trans (a4 k i q r s)⟩
section Stack
variable {N : Nat} {h g : Hp} {u z : Nat}
def putH (h : Hp) (u z : Nat) (kn nu : Int32) : Hp := sI (sA (sA h 0 u 0 z kn) 0 u 1 z nu) 0 u 6 (nI (z + 1))
theorem cl_put0 (e : gI h 0 u 6 = nI z) (hz : z < 64) (kn nu : Int32) : f_X0_put h u kn nu = some (putH h u z kn nu) := by
  unfold f_X0_put
  have e2 : gI (sA h 0 u 0 z kn) 0 u 6 = nI z := e
  have e3 : gI (sA (sA h 0 u 0 z kn) 0 u 1 z nu) 0 u 6 = nI z := e
  simp only [jn_e, lt_e]
  rw [e, if_neg (show ¬ (64 : Int32) ≤ nI z from nleN (a := 64) hz (by omega)), grd_p (inb_n hz (by omega)), clN (by omega), e2, grd_p (inb_n hz (by omega)), clN (by omega), e3, nI_1]
  rfl
end Stack

