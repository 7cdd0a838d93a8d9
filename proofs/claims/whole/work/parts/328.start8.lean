-- PURE: the start: what the two constructors leave
section Start8
variable {N : Nat} {h g g' : Hp} {u n p : Nat} {T : Txt} {S I : Str} {X : Xs}
/-- the reference's text kept for the first time (as in R8.yes, with no state before) -/
theorem R8.yes0 (hN : 1000 ≤ N) (s5 : gI g 8 0 49 = b2i (gZ g 8 0 49)) (wd : WRD (gA g 8 0 1)) (f : MF (bgR g n) g') (dft : FT h g') (dtd : TDd (gI h 5 u) (gA h 5 u) (gI g' 8 0) (gA g' 8 0) (gI h 1 0 7)) (dld : LDd (gA h 0 u) (gI h 0 u 6) (gI h 1 0 10) (gI g' 8 0 21) (gI g' 8 0 44) (gA g' 8 0)) : ∃ gF, f_X8_keepText N g' = some gF ∧ R8 gF (txt h u) (bgM (txt h u)) I (nxX X (gI h 1 0 4) (gI h 1 0 5) (gI h 0 u 6)) ∧ K7 g gF := by
  obtain ⟨ok, tr, si⟩ := td_ok dtd
  obtain ⟨hf3, hf4, hf5, hf6, hf7, hf8, hf9, hf10, hf11, hf12, hf13, hf14, hf15, hf16, hf17, hf18⟩ := hfT_v
  obtain ⟨z, lz, l2, l3, l4, l5, l6⟩ := dld
  obtain ⟨gk, ⟨k1, k2, k3, k4, k5, k6⟩, ke⟩ := m_keepText hN g' (fun k hk => (l6 k hk).imp (fun q => q.1) (fun q => q.1))
  obtain ⟨g1, gF, ⟨⟨af1, af2, af3, af4, af5⟩, ⟨fs1, fs2, fs3⟩, fi1, fi2, fi3⟩, b1, b2, b3, b4, b5, b6, b7, b8, b9, b10, b11⟩ := m_begin hN gk
  obtain ⟨s, c, ff, tt, ⟨s1, s2, s3, s4⟩, ⟨c1, c2, c3, c4⟩, ⟨f1, f2, f3, f4⟩, ⟨t1, t2, t3, t4⟩, ⟨o1, o2, o3, o4, o5⟩, -⟩ := dtd
  obtain ⟨T', hT⟩ : ∃ T', T' = txt h u := ⟨_, rfl⟩
  have a5 : gA h 5 u = T'.1 := by rw [hT]; rfl
  have i5 : gI h 5 u = T'.2.1 := by rw [hT]; rfl
  rw [← hT] at ok tr si ⊢
  rw [i5] at s2 c2 f2 t2 o1 o2 o3 o4 o5
  rw [a5] at s4 c4 f4 t4
  have ns : nSt T' = s := by unfold nSt; rw [s2, clN (by omega)]
  have nc : nCr T' = c := by unfold nCr; rw [c2, clN (by omega)]
  have nf : nFi T' = ff := by unfold nFi; rw [f2, clN (by omega)]
  have nt : nTi T' = tt := by unfold nTi; rw [t2, clN (by omega)]
  -- the kept rows in the end
  have lA : ∀ k i, 3 ≤ k → k ≤ 18 → i < hfT k → gA gF 8 0 k i = gA g' 8 0 k (hfT k + i) := fun k i x y q => by
    rw [b3, af4 k (by omega)]
    exact k6 k i x y q
  have kA : ∀ k i, 3 ≤ k → k ≤ 18 → i < hfT k → gA gk 8 0 k i = gA g' 8 0 k (hfT k + i) := fun k i x y q => k6 k i x y q
  have hA : ∀ k, (k < 3 ∨ 33 < k) → gA gF 8 0 k = gA g' 8 0 k := fun k q => by rw [b3, af4 k (by omega), k5 k (by omega)]
  have iK : ∀ k, 12 ≤ k → k ≤ 16 → gI gF 8 0 k = gI g' 8 0 (k + 5) := fun k x y => by rw [b4 k (by omega), af2, k2 k x y]
  have iN : ∀ k, (k < 12 ∨ 16 < k) → ¬ (k = 61 ∨ (63 ≤ k ∧ k ≤ 66) ∨ k = 72 ∨ k = 73 ∨ k = 76 ∨ k = 78) → gI gF 8 0 k = gI g' 8 0 k := fun k x y => by rw [b4 k y, af2, k3 k x]
  have r3 : ∀ i, i < 5 → gA gF 8 0 3 i = gA g' 8 0 3 (5 + i) := fun i hi => by have := lA 3 i (by omega) (by omega) (by omega); rw [hf3] at this; exact this
  have L' : LPA (gA gF 8 0 13) (gA gF 8 0 14) (gA gF 8 0 15) (gA gF 8 0 16) (gA gF 8 0 17) (gA gF 8 0 18) T'.2.2 := by
    refine ⟨gA h 0 u, by rw [hT]; rfl, fun k hk => ?_⟩
    have e13 := lA 13 k (by omega) (by omega) (by omega)
    have e14 := lA 14 k (by omega) (by omega) (by omega)
    have e15 := lA 15 k (by omega) (by omega) (by omega)
    rw [hf13] at e13
    rw [hf14] at e14
    rw [hf15] at e15
    unfold LPK
    rw [e13, e14, e15]
    rcases l6 k hk with ⟨q1, q2, q3⟩ | ⟨q1, a, b, q2, q3, q4, q5, q6, q7, st, q8, q9, q10⟩
    · exact Or.inl ⟨q1, by rw [q2, q3]; decide⟩
    · refine Or.inr ⟨by rw [q1]; decide, a, b, q2, by omega, q4, q5, q6, q7, st, q8, fun i a1 a2 => ?_, q10⟩
      have e16 := lA 16 i (by omega) (by omega) (by omega)
      have e17 := lA 17 i (by omega) (by omega) (by omega)
      have e18 := lA 18 i (by omega) (by omega) (by omega)
      rw [hf16] at e16
      rw [hf17] at e17
      rw [hf18] at e18
      rw [e16, e17, e18]
      exact q9 i a1 a2
  have e61 : gI gF 8 0 61 = gA g' 8 0 3 6 := by
    rw [b5, af4 3 (by omega)]
    have := kA 3 1 (by omega) (by omega) (by omega)
    rw [hf3] at this; exact this
  have e62 : gL gF 8 0 62 = (gA g' 8 0 3 9).toInt64 := by
    rw [b6, af4 3 (by omega)]
    have := kA 3 4 (by omega) (by omega) (by omega)
    rw [hf3] at this; rw [this]
  have q1 := eq9_le (by omega) o1
  have q2 := eq9_le (by omega) o2
  have q3 := eq9_le (by omega) o3
  have q4 := eq9_le (by omega) o4
  have q5 := eq9_le (by omega) o5
  refine ⟨gF, ?_, ⟨⟨ok, tr, ⟨?_, ?_, ?_, ?_, fun i hi => ?_, fun i hi => ?_, ?_, ?_, LPA_LR L'⟩, ⟨fun i hi => ⟨?_, ?_⟩, fun i hi => ?_, fun i hi => ?_, fun k x y => ?_⟩, ?_⟩, ⟨fun i hi => ?_, fun i hi => ?_, ?_, ?_, ?_, ?_, L'⟩, ?_, ?_, ⟨b8, b9, fun k hk => ?_⟩, ⟨b10, trivial⟩, ⟨b11, fun q => absurd rfl q⟩, ⟨?_, fun i hi => ?_⟩, ?_, ?_, ?_⟩, ?_⟩
  · rw [ke, b1, bind_s]
  · rw [iK 12 (by omega) (by omega)]; exact s2.trans s3.symm
  · rw [iK 13 (by omega) (by omega)]; exact c2.trans c3.symm
  · rw [iK 14 (by omega) (by omega)]; exact f2.trans f3.symm
  · rw [iK 15 (by omega) (by omega)]; exact t2.trans t3.symm
  · obtain ⟨⟨j, j1, j2, j3⟩, j4, j5⟩ := f4 i (by omega)
    have e9 := lA 9 i (by omega) (by omega) (by omega)
    have e10 := lA 10 i (by omega) (by omega) (by omega)
    have e11 := lA 11 i (by omega) (by omega) (by omega)
    rw [hf9] at e9
    rw [hf10] at e10
    rw [hf11] at e11
    exact ⟨by rw [e9]; exact j2.trans j3.symm, by rw [e10]; exact (eq9_le (by omega) j4).2.2, by rw [e11]; exact (eq9_le (by omega) j5).2.2⟩
  · have e12 := lA 12 i (by omega) (by omega) (by omega)
    rw [hf12] at e12
    rw [e12]; exact (eq9_le (by omega) (t4 i (by omega))).2.2
  · rw [r3 2 (by omega)]; exact q3.2.2
  · rw [r3 3 (by omega)]; exact q4.2.2
  · show gA gF 8 0 23 (8 * 0 + i) = T'.1 0 i
    rw [b3, (fs1 i (by omega)).1]
    have e4 := kA 4 i (by omega) (by omega) (by omega)
    rw [hf4] at e4
    rw [e4]; exact (eq9_le (by omega) (s4 i (by omega))).2.2.symm
  · show gA gF 8 0 24 (8 * 0 + i) = if T'.2.1 12 ≤ 0 then (-1 : Int32) else nI i - nI i / T'.2.1 12 * T'.2.1 12
    rw [b3, (fs1 i (by omega)).2]
    unfold lotV
    rw [k2 13 (by omega) (by omega), c3, c2]
    by_cases y : c = 0
    · rw [if_pos (show nI c = 0 by rw [y]; rfl), if_pos (show nI c ≤ 0 by rw [y]; decide)]
    · rw [if_neg (show ¬ nI c = 0 from fun q => y (nI_inj (j := 0) (by omega) (by omega) q)), if_neg (show ¬ nI c ≤ 0 from nleN (b := 0) (by omega) (by omega))]
  · obtain ⟨j1, j2, j3, j4⟩ := c4 i (by omega)
    obtain ⟨w1, w2, w3, w4, w5⟩ := fs2 i (by omega)
    have e6 := kA 6 i (by omega) (by omega) (by omega)
    have e7 := lA 7 i (by omega) (by omega) (by omega)
    have e8 := kA 8 i (by omega) (by omega) (by omega)
    rw [hf6] at e6
    rw [hf7] at e7
    rw [hf8] at e8
    refine ⟨?_, ?_, ?_, ?_, ?_, ?_⟩
    · show gA gF 8 0 25 (4 * 0 + i) = T'.1 2 i
      rw [b3, w1, e6]; exact (eq9_le (by omega) j2).2.2.symm
    · show gA gF 8 0 7 i = T'.1 3 i
      rw [e7]; exact (eq9_le (by omega) j3).2.2.symm
    · show gA gF 8 0 26 (4 * 0 + i) = T'.1 4 i
      rw [b3, w2, e8]; exact (eq9_le (by omega) j4).2.2.symm
    · show gA gF 8 0 27 (4 * 0 + i) = 0
      rw [b3, w3]
    · show gA gF 8 0 28 (4 * 0 + i) = 0
      rw [b3, w4]
    · show gA gF 8 0 29 (4 * 0 + i) = 0
      rw [b3, w5]
  · show gA gF 8 0 30 (6 * 0 + i) = 0
    rw [b3, fs3 i (by omega)]
  · rcases (show k = 11 ∨ k = 12 ∨ k = 13 ∨ k = 14 ∨ k = 15 ∨ k = 16 by omega) with rfl | rfl | rfl | rfl | rfl | rfl
    · show gA gF 8 0 33 0 = 0
      rw [b3, fi3]
    · show gA gF 8 0 31 0 = T'.2.1 15
      rw [b3, fi1]
      have := kA 3 0 (by omega) (by omega) (by omega)
      rw [hf3] at this
      rw [this]; exact q1.2.2.symm
    · show gA gF 8 0 32 0 = 0
      rw [b3, fi2]
    · show gI gF 8 0 61 = T'.2.1 16
      rw [e61]; exact q2.2.2.symm
    · show (gL gF 8 0 62).toInt32 = T'.2.1 19
      rw [e62, Int32.toInt32_toInt64]; exact q5.2.2.symm
    · rfl
  · have e49 : gI gF 8 0 49 = gI g 8 0 49 := by
      rw [iN 49 (by omega) (by omega), f.2.1 49 (by unfold mfI; omega), bgR_i g n 49 (by omega)]
    unfold gZ at s5 ⊢
    rw [e49]; exact s5
  · have e4 := lA 4 i (by omega) (by omega) (by omega)
    rw [hf4] at e4
    rw [e4]; exact (eq9_le (by omega) (s4 i (by omega))).2.2.symm
  · obtain ⟨j1, j2, j3, j4⟩ := c4 i (by omega)
    have e5 := lA 5 i (by omega) (by omega) (by omega)
    have e6 := lA 6 i (by omega) (by omega) (by omega)
    have e7 := lA 7 i (by omega) (by omega) (by omega)
    have e8 := lA 8 i (by omega) (by omega) (by omega)
    rw [hf5] at e5
    rw [hf6] at e6
    rw [hf7] at e7
    rw [hf8] at e8
    rw [e5, e6, e7, e8]
    exact ⟨j1.symm, (eq9_le (by omega) j2).2.2.symm, (eq9_le (by omega) j3).2.2.symm, (eq9_le (by omega) j4).2.2.symm⟩
  · rw [r3 0 (by omega)]; exact q1.2.2.symm
  · rw [r3 1 (by omega)]; exact q2.2.2.symm
  · rw [r3 4 (by omega)]; exact q5.2.2.symm
  · rw [hA 1 (by omega), show gA g' 8 0 1 = gA (bgR g n) 8 0 1 from funext fun i => f.2.2.2 1 i (by unfold mfA; omega)]
    exact wd
  · unfold gZ
    rw [b7]; decide
  · rw [e62]
    show _ = (T'.2.1 19).toInt64
    rw [q5.2.2]
  · have : ((nxX X (gI h 1 0 4) (gI h 1 0 5) (gI h 0 u 6)).2 1).toNatClampNeg = 0 := by
      show (0 : Int32).toNatClampNeg = 0
      decide
    omega
  · show gI gF 8 0 1 = 0
    rw [iN 1 (by omega) (by omega), f.2.1 1 (by unfold mfI; omega)]
    rfl
  · have : ((nxX X (gI h 1 0 4) (gI h 1 0 5) (gI h 0 u 6)).2 3).toNatClampNeg = 0 := by
      show (0 : Int32).toNatClampNeg = 0
      decide
    omega
  · show gI gF 8 0 4 = gI h 1 0 4
    rw [iN 4 (by omega) (by omega)]; exact dft.1.symm
  · show gI gF 8 0 5 = gI h 1 0 5
    rw [iN 5 (by omega) (by omega)]; exact dft.2.symm
  · show gI gF 8 0 16 = gI h 0 u 6
    rw [iK 16 (by omega) (by omega), l2]; exact l4
  · exact ((((bgR_k7 g n).tr f.1).tr k1).tr af1).tr b2
theorem sI_self {h : Hp} {c o k : Nat} {v : Int32} (e : gI h c o k = v) : sI h c o k v = h := by
  have : at3 h.1 c o k v = h.1 := by
    funext c' o' k'
    unfold at3
    by_cases z : c' = c ∧ o' = o ∧ k' = k
    · rw [if_pos z, z.1, z.2.1, z.2.2]; exact e.symm
    · rw [if_neg z]
  unfold sI
  rw [this]
theorem eq9_0 (m : Nat) : Eq9 m 0 0 := ⟨0, Nat.zero_le _, rfl, rfl⟩
theorem gA_h0 (fW : Nat → Int32) (c o k : Nat) : gA (h0m fW) c o k = if c = 4 ∧ k = 1 then tspF 130 else if c = 8 ∧ k = 1 then fW else fun _ => 0 := rfl
theorem ex7 (h : Hp) (t : Nat) : (ex h t).1 7 = gA h 4 0 1 := rfl
theorem start_JI {fW : Nat → Int32} (wd : WRD fW) : ∃ h1 hE, f_X8_plain 1000 (h0m fW) = some h1 ∧ f_X8_keepText 1000 h1 = some hE ∧ JI hE := by
  obtain ⟨h1, p1, mf, ⟨z17, z44, zk⟩, z2, z3, z13⟩ := m_plain (N := 1000) (Nat.le_refl _) (h0m fW)
  have eb : bgR (h0m fW) 0 = h0m fW := by
    unfold bgR
    rw [sI_self (h := h0m fW) (c := 8) (o := 0) (k := 6) (v := nI 0) rfl, sI_self (h := h0m fW) (c := 8) (o := 0) (k := 1) (v := 0) rfl, sI_self (h := h0m fW) (c := 8) (o := 0) (k := 4) (v := 0) rfl, sI_self (h := h0m fW) (c := 8) (o := 0) (k := 5) (v := -1) rfl, sI_self (h := h0m fW) (c := 8) (o := 0) (k := 7) (v := 0) rfl]
  have mf' : MF (bgR (h0m fW) 0) h1 := by rw [eb]; exact mf
  have ft : FT (sI (h0m fW) 1 0 5 (-1)) h1 := ⟨(zk 4 (by omega)).symm, (zk 5 (by omega)).symm⟩
  have td : TDd (gI (sI (h0m fW) 1 0 5 (-1)) 5 0) (gA (sI (h0m fW) 1 0 5 (-1)) 5 0) (gI h1 8 0) (gA h1 8 0) (gI (sI (h0m fW) 1 0 5 (-1)) 1 0 7) := by
    refine ⟨0, 0, 0, 0, ⟨by decide, rfl, z17 17 (by omega) (by omega), fun i hi => absurd hi (Nat.not_lt_zero i)⟩, ⟨by decide, rfl, z17 18 (by omega) (by omega), fun i hi => absurd hi (Nat.not_lt_zero i)⟩, ⟨by decide, rfl, z17 19 (by omega) (by omega), fun i hi => absurd hi (Nat.not_lt_zero i)⟩, ⟨by decide, rfl, z17 20 (by omega) (by omega), fun i hi => absurd hi (Nat.not_lt_zero i)⟩, ⟨?_, ?_, ?_, ?_, ?_⟩, fun _ => false, rfl, fun i hi => z2 i hi⟩
    · rw [z3 5 (by omega) (by omega)]; exact eq9_0 _
    · rw [z3 6 (by omega) (by omega)]; exact eq9_0 _
    · rw [z3 7 (by omega) (by omega)]; exact eq9_0 _
    · rw [z3 8 (by omega) (by omega)]; exact eq9_0 _
    · rw [z3 9 (by omega) (by omega)]; exact eq9_0 _
  have ld : LDd (gA (sI (h0m fW) 1 0 5 (-1)) 0 0) (gI (sI (h0m fW) 1 0 5 (-1)) 0 0 6) (gI (sI (h0m fW) 1 0 5 (-1)) 1 0 10) (gI h1 8 0 21) (gI h1 8 0 44) (gA h1 8 0) := ⟨0, by decide, rfl, rfl, z17 21 (by omega) (by omega), z44, fun k hk => Or.inl ⟨z13 (4 + k) (by omega) (by omega), rfl, rfl⟩⟩
  obtain ⟨tok, tr, si⟩ := td_ok td
  have lok := ld_ok ld
  obtain ⟨hE, e2, r8, k7⟩ := R8.yes0 (N := 1000) (I := bgM (txt (h0m fW) 0)) (X := ex (h0m fW) 0) (Nat.le_refl _) (g := h0m fW) rfl wd mf' ft td ld
  have et : txt (sI (h0m fW) 1 0 5 (-1)) 0 = txt (h0m fW) 0 := rfl
  rw [et] at tok tr si r8
  have xe : nxX (ex (h0m fW) 0) (gI (sI (h0m fW) 1 0 5 (-1)) 1 0 4) (gI (sI (h0m fW) 1 0 5 (-1)) 1 0 5) (gI (sI (h0m fW) 1 0 5 (-1)) 0 0 6) = ex (h0m fW) 0 := by
    refine Prod.ext rfl (funext fun j => ?_)
    rcases j with _ | _ | _ | _ | _ | _ | _ | j
    · rfl
    · rfl
    · rfl
    · rfl
    · rfl
    · rfl
    · rfl
    · show (if j + 7 = 0 then (0 : Int32) else if j + 7 = 1 then 0 else if j + 7 = 2 then -1 else if j + 7 = 3 then 0 else if j + 7 = 4 then (0 : Int32) else if j + 7 = 5 then (-1 : Int32) else if j + 7 = 6 then (0 : Int32) else 0) = (0 : Int32)
      rw [if_neg (by omega), if_neg (by omega), if_neg (by omega), if_neg (by omega), if_neg (by omega), if_neg (by omega), if_neg (by omega)]
  rw [xe] at r8
  have n0 : nSt (txt (h0m fW) 0) = 0 ∧ nCr (txt (h0m fW) 0) = 0 ∧ nFi (txt (h0m fW) 0) = 0 := ⟨rfl, rfl, rfl⟩
  have sq : ∀ o, Sq (txt (h0m fW) 0) (vw (h0m fW) o) (bgM (txt (h0m fW) 0)) := fun o => by
    refine ⟨fun s hs => ?_, fun c hc => ?_, fun c hc => ?_, fun k a b => ?_⟩
    · rw [n0.1] at hs; exact absurd hs (Nat.not_lt_zero s)
    · rw [n0.2.1] at hc; exact absurd hc (Nat.not_lt_zero c)
    · rw [n0.2.2] at hc; exact absurd hc (Nat.not_lt_zero c)
    · rcases (show k = 11 ∨ k = 12 ∨ k = 13 ∨ k = 14 ∨ k = 15 ∨ k = 16 by omega) with rfl | rfl | rfl | rfl | rfl | rfl <;> rfl
  have rc : RC (h0m fW) 0 (txt (h0m fW) 0) (bgM (txt (h0m fW) 0)) (bgM (txt (h0m fW) 0)) (ex (h0m fW) 0) := ⟨⟨by decide, rfl, rfl, rfl, tok, lok⟩, ⟨rfl, sq 1⟩, ⟨rfl, sq 0⟩, rfl, fun q => absurd rfl q⟩
  have spl0 : SPL ((ex (h0m fW) 0).1 7) := by
    rw [ex7, gA_h0, if_pos (show (4 : Nat) = 4 ∧ (1 : Nat) = 1 from ⟨rfl, rfl⟩)]
    exact tsp_spl
  refine ⟨h1, hE, p1, e2, 0, _, _, _, _, k7.rc rc, r8, tok, tr, si.1, si, fun q => absurd rfl q, ⟨0, by decide, rfl, Or.inl rfl, fun k hk => absurd hk (Nat.not_lt_zero k)⟩, Or.inl rfl, ⟨0, Nat.zero_le _, rfl⟩, ⟨0, Nat.zero_le _, rfl⟩, spl0⟩
end Start8
