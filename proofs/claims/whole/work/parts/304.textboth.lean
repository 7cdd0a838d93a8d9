-- PURE: a text taken by both
section TextBoth
variable {N : Nat} {h g g' : Hp} {u t n p : Nat} {T : Txt} {S I : Str} {X : Xs}
theorem hfT_v : hfT 3 = 5 ∧ hfT 4 = 8 ∧ hfT 5 = 4 ∧ hfT 6 = 4 ∧ hfT 7 = 4 ∧ hfT 8 = 4 ∧ hfT 9 = 6 ∧ hfT 10 = 6 ∧ hfT 11 = 6 ∧ hfT 12 = 4 ∧ hfT 13 = 4 ∧ hfT 14 = 4 ∧ hfT 15 = 4 ∧ hfT 16 = 64 ∧ hfT 17 = 64 ∧ hfT 18 = 64 := by decide
theorem bgR_k7 (g : Hp) (n : Nat) : K7 g (bgR g n) := by
  unfold bgR
  exact ((((K7.i g 6 _).tr (K7.i _ 1 _)).tr (K7.i _ 4 _)).tr (K7.i _ 5 _)).tr (K7.i _ 7 _)
theorem bgR_i (g : Hp) (n k : Nat) (hk : ¬ (k = 1 ∨ (4 ≤ k ∧ k ≤ 7))) : gI (bgR g n) 8 0 k = gI g 8 0 k := by
  unfold bgR
  rw [I_at, if_neg (by omega), I_at, if_neg (by omega), I_at, if_neg (by omega), I_at, if_neg (by omega), I_at, if_neg (by omega)]
theorem LPA.cg {td fi la kn pa ot td' fi' la' kn' pa' ot' : Nat → Int32} {L : Nat → (Nat → Int64) → Int64} (l : LPA td fi la kn pa ot L) (a : ∀ k, k < 4 → td' k = td k ∧ fi' k = fi k ∧ la' k = la k) (b : ∀ i, i < 64 → kn' i = kn i ∧ pa' i = pa i ∧ ot' i = ot i) : LPA td' fi' la' kn' pa' ot' L := by
  obtain ⟨A, l1, l2⟩ := l
  refine ⟨A, l1, fun k hk => ?_⟩
  unfold LPK
  rw [(a k hk).1, (a k hk).2.1, (a k hk).2.2]
  rcases l2 k hk with q | ⟨q, x, y, h1, h2, h3, h4, h5, h6, st, h7, h8, h9⟩
  · exact Or.inl q
  · refine Or.inr ⟨q, x, y, h1, h2, h3, h4, h5, h6, st, h7, fun i a1 a2 => ?_, h9⟩
    rw [(b i (by omega)).1, (b i (by omega)).2.1, (b i (by omega)).2.2]
    exact h8 i a1 a2
theorem R8.bg (r : R8 g T S I X) (f : MF (bgR g n) g') : R8 g' T S I (flX X (gI g' 8 0 4) (gI g' 8 0 5)) ∧ K7 g g' := by
  obtain ⟨⟨s1, s2, ⟨m1, m2, m3, m4, m5, m6, m7, m8, m9⟩, s4, s5⟩, ⟨x1, x2, x3, x4, x5, x6, x7⟩, r3, r4, r5, r6, r7, r8, r9, r10, r11⟩ := r
  obtain ⟨hf3, hf4, hf5, hf6, hf7, hf8, hf9, hf10, hf11, hf12, hf13, hf14, hf15, hf16, hf17, hf18⟩ := hfT_v
  have aI : ∀ k, ¬ mfI k → ¬ (k = 1 ∨ (4 ≤ k ∧ k ≤ 7)) → gI g' 8 0 k = gI g 8 0 k := fun k a b => (f.2.1 k a).trans (bgR_i g n k b)
  have aI' : ∀ k, (k = 1 ∨ (12 ≤ k ∧ k ≤ 16) ∨ (22 ≤ k ∧ k ≤ 40) ∨ 47 ≤ k) → ¬ mfI k := fun k q => by unfold mfI; omega
  have iI : ∀ k, ((12 ≤ k ∧ k ≤ 16) ∨ (22 ≤ k ∧ k ≤ 40) ∨ 47 ≤ k) → gI g' 8 0 k = gI g 8 0 k := fun k q => aI k (aI' k (by omega)) (by omega)
  have aL : ∀ k, gL g' 8 0 k = gL g 8 0 k := fun k => f.2.2.1 k
  have aA : ∀ k i, ¬ mfA k i → gA g' 8 0 k i = gA g 8 0 k i := fun k i q => f.2.2.2 k i q
  have hA : ∀ k, 21 ≤ k ∨ k ≤ 1 → gA g' 8 0 k = gA g 8 0 k := fun k q => funext fun i => aA k i (by unfold mfA; omega)
  have lA : ∀ k i, 3 ≤ k → k ≤ 18 → i < hfT k → gA g' 8 0 k i = gA g 8 0 k i := fun k i a b c => aA k i (by unfold mfA; omega)
  have hT := s1
  obtain ⟨⟨-, t8⟩, ⟨-, t4⟩, ⟨-, t6⟩, ⟨-, tt⟩, -⟩ := hT
  have L' : LPA (gA g' 8 0 13) (gA g' 8 0 14) (gA g' 8 0 15) (gA g' 8 0 16) (gA g' 8 0 17) (gA g' 8 0 18) T.2.2 := x7.cg (fun k hk => ⟨lA 13 k (by omega) (by omega) (by omega), lA 14 k (by omega) (by omega) (by omega), lA 15 k (by omega) (by omega) (by omega)⟩) (fun i hi => ⟨lA 16 i (by omega) (by omega) (by omega), lA 17 i (by omega) (by omega) (by omega), lA 18 i (by omega) (by omega) (by omega)⟩)
  refine ⟨⟨⟨s1, s2, ⟨?_, ?_, ?_, ?_, fun i hi => ?_, fun i hi => ?_, ?_, ?_, LPA_LR L'⟩, ?_, ?_⟩, ⟨fun i hi => ?_, fun i hi => ?_, ?_, ?_, ?_, ?_, L'⟩, ?_, (aL 62).trans r4, ?_, ?_, ?_, ⟨?_, fun i hi => ?_⟩, rfl, rfl, ?_⟩, (bgR_k7 g n).tr f.1⟩
  · rw [iI 12 (by omega)]; exact m1
  · rw [iI 13 (by omega)]; exact m2
  · rw [iI 14 (by omega)]; exact m3
  · rw [iI 15 (by omega)]; exact m4
  · rw [lA 9 i (by omega) (by omega) (by omega), lA 10 i (by omega) (by omega) (by omega), lA 11 i (by omega) (by omega) (by omega)]; exact m5 i hi
  · rw [lA 12 i (by omega) (by omega) (by omega)]; exact m6 i hi
  · rw [lA 3 2 (by omega) (by omega) (by omega)]; exact m7
  · rw [lA 3 3 (by omega) (by omega) (by omega)]; exact m8
  · refine Sq.tr ⟨fun s hs => ?_, fun c hc => ?_, fun i hi => ?_, fun k h1 h2 => ?_⟩ s4
    · exact ⟨by show gA g' 8 0 23 _ = gA g 8 0 23 _; rw [hA 23 (by omega)], by show gA g' 8 0 24 _ = gA g 8 0 24 _; rw [hA 24 (by omega)]⟩
    · exact ⟨by show gA g' 8 0 25 _ = gA g 8 0 25 _; rw [hA 25 (by omega)], (by show gA g' 8 0 7 c = gA g 8 0 7 c; exact lA 7 c (by omega) (by omega) (by omega)), by show gA g' 8 0 26 _ = gA g 8 0 26 _; rw [hA 26 (by omega)], by show gA g' 8 0 27 _ = gA g 8 0 27 _; rw [hA 27 (by omega)], by show gA g' 8 0 28 _ = gA g 8 0 28 _; rw [hA 28 (by omega)], by show gA g' 8 0 29 _ = gA g 8 0 29 _; rw [hA 29 (by omega)]⟩
    · show gA g' 8 0 30 _ = gA g 8 0 30 _
      rw [hA 30 (by omega)]
    · rcases (show k = 11 ∨ k = 12 ∨ k = 13 ∨ k = 14 ∨ k = 15 ∨ k = 16 by omega) with rfl | rfl | rfl | rfl | rfl | rfl
      · show gA g' 8 0 33 0 = gA g 8 0 33 0
        rw [hA 33 (by omega)]
      · show gA g' 8 0 31 0 = gA g 8 0 31 0
        rw [hA 31 (by omega)]
      · show gA g' 8 0 32 0 = gA g 8 0 32 0
        rw [hA 32 (by omega)]
      · show gI g' 8 0 61 = gI g 8 0 61
        exact iI 61 (by omega)
      · show (gL g' 8 0 62).toInt32 = (gL g 8 0 62).toInt32
        rw [aL]
      · show (1 : Int32) = 1
        rfl
  · unfold gZ
    rw [iI 49 (by omega)]
    exact s5
  · rw [lA 4 i (by omega) (by omega) (by omega)]; exact x1 i hi
  · rw [lA 5 i (by omega) (by omega) (by omega), lA 6 i (by omega) (by omega) (by omega), lA 7 i (by omega) (by omega) (by omega), lA 8 i (by omega) (by omega) (by omega)]; exact x2 i hi
  · rw [lA 3 0 (by omega) (by omega) (by omega)]; exact x3
  · rw [lA 3 1 (by omega) (by omega) (by omega)]; exact x4
  · rw [lA 3 4 (by omega) (by omega) (by omega)]; exact x5
  · rw [hA 1 (by omega)]; exact x6
  · unfold gZ
    rw [iI 64 (by omega)]; exact r3
  · unfold SR
    rw [iI 72 (by omega), iI 73 (by omega), hA 37 (by omega)]; exact r5
  · rw [iI 76 (by omega), hA 39 (by omega)]; exact r6
  · rw [iI 78 (by omega)]
    refine ⟨r7.1, fun q => ?_⟩
    have := r7.2 q
    unfold IMr
    rw [hA 40 (by omega), hA 41 (by omega), hA 42 (by omega), hA 43 (by omega), hA 44 (by omega), iI 84 (by omega), iI 85 (by omega), iI 86 (by omega), aL 87]
    exact this
  · show gI g' 8 0 1 = 0
    rw [f.2.1 1 (by unfold mfI; omega)]
    rfl
  · have : ((flX X (gI g' 8 0 4) (gI g' 8 0 5)).2 3).toNatClampNeg = 0 := by
      show (0 : Int32).toNatClampNeg = 0
      decide
    omega
  · rw [iI 16 (by omega)]; exact r11
theorem R8.yes (hN : 1000 ≤ N) (r : R8 g T S I X) (f : MF (bgR g n) g') (d : RD u n h g' p) : ∃ gF, ((f_X8_keepText N g').bind fun h11 => some (gI h 5 u 10, h11)) = some (gI h 5 u 10, gF) ∧ R8 gF (txt h u) (bgM (txt h u)) I (nxX X (gI h 1 0 4) (gI h 1 0 5) (gI h 0 u 6)) ∧ K7 g gF := by
  obtain ⟨dl, dr, dft, dtd, dld⟩ := d
  obtain ⟨ok, tr, si⟩ := td_ok dtd
  have s5 := r.1.2.2.2.2
  obtain ⟨hf3, hf4, hf5, hf6, hf7, hf8, hf9, hf10, hf11, hf12, hf13, hf14, hf15, hf16, hf17, hf18⟩ := hfT_v
  obtain ⟨z, lz, l2, l3, l4, l5, l6⟩ := dld
  obtain ⟨gk, ⟨k1, k2, k3, k4, k5, k6⟩, ke⟩ := m_keepText hN g' (fun k hk => (l6 k hk).imp (fun q => q.1) (fun q => q.1))
  obtain ⟨g1, gF, ⟨⟨af1, af2, af3, af4, af5⟩, ⟨fs1, fs2, fs3⟩, fi1, fi2, fi3⟩, b1, b2, b3, b4, b5, b6, b7, b8, b9, b10, b11⟩ := m_begin hN gk
  obtain ⟨s, c, ff, tt, ⟨s1, s2, s3, s4⟩, ⟨c1, c2, c3, c4⟩, ⟨f1, f2, f3, f4⟩, ⟨t1, t2, t3, t4⟩, ⟨o1, o2, o3, o4, o5⟩, -⟩ := dtd
  obtain ⟨T', hT⟩ : ∃ T', T' = txt h u := ⟨_, rfl⟩
  have a5 : gA h 5 u = T'.1 := by rw [hT]; rfl
  have i5 : gI h 5 u = T'.2.1 := by rw [hT]; rfl
  rw [← hT] at ok tr si ⊢
  rw [i5] at s2 c2 f2 t2 o1 o2 o3 o4 o5
  rw [a5] at s4 c4 f4 t4
  have ns : nSt T' = s := by unfold nSt; rw [s2, clN (by omega)]
  have nc : nCr T' = c := by unfold nCr; rw [c2, clN (by omega)]
  have nf : nFi T' = ff := by unfold nFi; rw [f2, clN (by omega)]
  have nt : nTi T' = tt := by unfold nTi; rw [t2, clN (by omega)]
  -- the kept rows in the end
  have lA : ∀ k i, 3 ≤ k → k ≤ 18 → i < hfT k → gA gF 8 0 k i = gA g' 8 0 k (hfT k + i) := fun k i x y q => by
    rw [b3, af4 k (by omega)]
    exact k6 k i x y q
  have kA : ∀ k i, 3 ≤ k → k ≤ 18 → i < hfT k → gA gk 8 0 k i = gA g' 8 0 k (hfT k + i) := fun k i x y q => k6 k i x y q
  have hA : ∀ k, (k < 3 ∨ 33 < k) → gA gF 8 0 k = gA g' 8 0 k := fun k q => by rw [b3, af4 k (by omega), k5 k (by omega)]
  have iK : ∀ k, 12 ≤ k → k ≤ 16 → gI gF 8 0 k = gI g' 8 0 (k + 5) := fun k x y => by rw [b4 k (by omega), af2, k2 k x y]
  have iN : ∀ k, (k < 12 ∨ 16 < k) → ¬ (k = 61 ∨ (63 ≤ k ∧ k ≤ 66) ∨ k = 72 ∨ k = 73 ∨ k = 76 ∨ k = 78) → gI gF 8 0 k = gI g' 8 0 k := fun k x y => by rw [b4 k y, af2, k3 k x]
  have r3 : ∀ i, i < 5 → gA gF 8 0 3 i = gA g' 8 0 3 (5 + i) := fun i hi => by have := lA 3 i (by omega) (by omega) (by omega); rw [hf3] at this; exact this
  have L' : LPA (gA gF 8 0 13) (gA gF 8 0 14) (gA gF 8 0 15) (gA gF 8 0 16) (gA gF 8 0 17) (gA gF 8 0 18) T'.2.2 := by
    refine ⟨gA h 0 u, by rw [hT]; rfl, fun k hk => ?_⟩
    have e13 := lA 13 k (by omega) (by omega) (by omega)
    have e14 := lA 14 k (by omega) (by omega) (by omega)
    have e15 := lA 15 k (by omega) (by omega) (by omega)
    rw [hf13] at e13
    rw [hf14] at e14
    rw [hf15] at e15
    unfold LPK
    rw [e13, e14, e15]
    rcases l6 k hk with ⟨q1, q2, q3⟩ | ⟨q1, a, b, q2, q3, q4, q5, q6, q7, st, q8, q9, q10⟩
    · exact Or.inl ⟨q1, by rw [q2, q3]; decide⟩
    · refine Or.inr ⟨by rw [q1]; decide, a, b, q2, by omega, q4, q5, q6, q7, st, q8, fun i a1 a2 => ?_, q10⟩
      have e16 := lA 16 i (by omega) (by omega) (by omega)
      have e17 := lA 17 i (by omega) (by omega) (by omega)
      have e18 := lA 18 i (by omega) (by omega) (by omega)
      rw [hf16] at e16
      rw [hf17] at e17
      rw [hf18] at e18
      rw [e16, e17, e18]
      exact q9 i a1 a2
  have e61 : gI gF 8 0 61 = gA g' 8 0 3 6 := by
    rw [b5, af4 3 (by omega)]
    have := kA 3 1 (by omega) (by omega) (by omega)
    rw [hf3] at this; exact this
  have e62 : gL gF 8 0 62 = (gA g' 8 0 3 9).toInt64 := by
    rw [b6, af4 3 (by omega)]
    have := kA 3 4 (by omega) (by omega) (by omega)
    rw [hf3] at this; rw [this]
  have q1 := eq9_le (by omega) o1
  have q2 := eq9_le (by omega) o2
  have q3 := eq9_le (by omega) o3
  have q4 := eq9_le (by omega) o4
  have q5 := eq9_le (by omega) o5
  refine ⟨gF, ?_, ⟨⟨ok, tr, ⟨?_, ?_, ?_, ?_, fun i hi => ?_, fun i hi => ?_, ?_, ?_, LPA_LR L'⟩, ⟨fun i hi => ⟨?_, ?_⟩, fun i hi => ?_, fun i hi => ?_, fun k x y => ?_⟩, ?_⟩, ⟨fun i hi => ?_, fun i hi => ?_, ?_, ?_, ?_, ?_, L'⟩, ?_, ?_, ⟨b8, b9, fun k hk => ?_⟩, ⟨b10, trivial⟩, ⟨b11, fun q => absurd rfl q⟩, ⟨?_, fun i hi => ?_⟩, ?_, ?_, ?_⟩, ?_⟩
  · rw [ke, b1, bind_s, bind_s]
  · rw [iK 12 (by omega) (by omega)]; exact s2.trans s3.symm
  · rw [iK 13 (by omega) (by omega)]; exact c2.trans c3.symm
  · rw [iK 14 (by omega) (by omega)]; exact f2.trans f3.symm
  · rw [iK 15 (by omega) (by omega)]; exact t2.trans t3.symm
  · obtain ⟨⟨j, j1, j2, j3⟩, j4, j5⟩ := f4 i (by omega)
    have e9 := lA 9 i (by omega) (by omega) (by omega)
    have e10 := lA 10 i (by omega) (by omega) (by omega)
    have e11 := lA 11 i (by omega) (by omega) (by omega)
    rw [hf9] at e9
    rw [hf10] at e10
    rw [hf11] at e11
    exact ⟨by rw [e9]; exact j2.trans j3.symm, by rw [e10]; exact (eq9_le (by omega) j4).2.2, by rw [e11]; exact (eq9_le (by omega) j5).2.2⟩
  · have e12 := lA 12 i (by omega) (by omega) (by omega)
    rw [hf12] at e12
    rw [e12]; exact (eq9_le (by omega) (t4 i (by omega))).2.2
  · rw [r3 2 (by omega)]; exact q3.2.2
  · rw [r3 3 (by omega)]; exact q4.2.2
  · show gA gF 8 0 23 (8 * 0 + i) = T'.1 0 i
    rw [b3, (fs1 i (by omega)).1]
    have e4 := kA 4 i (by omega) (by omega) (by omega)
    rw [hf4] at e4
    rw [e4]; exact (eq9_le (by omega) (s4 i (by omega))).2.2.symm
  · show gA gF 8 0 24 (8 * 0 + i) = if T'.2.1 12 ≤ 0 then (-1 : Int32) else nI i - nI i / T'.2.1 12 * T'.2.1 12
    rw [b3, (fs1 i (by omega)).2]
    unfold lotV
    rw [k2 13 (by omega) (by omega), c3, c2]
    by_cases y : c = 0
    · rw [if_pos (show nI c = 0 by rw [y]; rfl), if_pos (show nI c ≤ 0 by rw [y]; decide)]
    · rw [if_neg (show ¬ nI c = 0 from fun q => y (nI_inj (j := 0) (by omega) (by omega) q)), if_neg (show ¬ nI c ≤ 0 from nleN (b := 0) (by omega) (by omega))]
  · obtain ⟨j1, j2, j3, j4⟩ := c4 i (by omega)
    obtain ⟨w1, w2, w3, w4, w5⟩ := fs2 i (by omega)
    have e6 := kA 6 i (by omega) (by omega) (by omega)
    have e7 := lA 7 i (by omega) (by omega) (by omega)
    have e8 := kA 8 i (by omega) (by omega) (by omega)
    rw [hf6] at e6
    rw [hf7] at e7
    rw [hf8] at e8
    refine ⟨?_, ?_, ?_, ?_, ?_, ?_⟩
    · show gA gF 8 0 25 (4 * 0 + i) = T'.1 2 i
      rw [b3, w1, e6]; exact (eq9_le (by omega) j2).2.2.symm
    · show gA gF 8 0 7 i = T'.1 3 i
      rw [e7]; exact (eq9_le (by omega) j3).2.2.symm
    · show gA gF 8 0 26 (4 * 0 + i) = T'.1 4 i
      rw [b3, w2, e8]; exact (eq9_le (by omega) j4).2.2.symm
    · show gA gF 8 0 27 (4 * 0 + i) = 0
      rw [b3, w3]
    · show gA gF 8 0 28 (4 * 0 + i) = 0
      rw [b3, w4]
    · show gA gF 8 0 29 (4 * 0 + i) = 0
      rw [b3, w5]
  · show gA gF 8 0 30 (6 * 0 + i) = 0
    rw [b3, fs3 i (by omega)]
  · rcases (show k = 11 ∨ k = 12 ∨ k = 13 ∨ k = 14 ∨ k = 15 ∨ k = 16 by omega) with rfl | rfl | rfl | rfl | rfl | rfl
    · show gA gF 8 0 33 0 = 0
      rw [b3, fi3]
    · show gA gF 8 0 31 0 = T'.2.1 15
      rw [b3, fi1]
      have := kA 3 0 (by omega) (by omega) (by omega)
      rw [hf3] at this
      rw [this]; exact q1.2.2.symm
    · show gA gF 8 0 32 0 = 0
      rw [b3, fi2]
    · show gI gF 8 0 61 = T'.2.1 16
      rw [e61]; exact q2.2.2.symm
    · show (gL gF 8 0 62).toInt32 = T'.2.1 19
      rw [e62, Int32.toInt32_toInt64]; exact q5.2.2.symm
    · rfl
  · have e49 : gI gF 8 0 49 = gI g 8 0 49 := by
      rw [iN 49 (by omega) (by omega), f.2.1 49 (by unfold mfI; omega), bgR_i g n 49 (by omega)]
    unfold gZ at s5 ⊢
    rw [e49]; exact s5
  · have e4 := lA 4 i (by omega) (by omega) (by omega)
    rw [hf4] at e4
    rw [e4]; exact (eq9_le (by omega) (s4 i (by omega))).2.2.symm
  · obtain ⟨j1, j2, j3, j4⟩ := c4 i (by omega)
    have e5 := lA 5 i (by omega) (by omega) (by omega)
    have e6 := lA 6 i (by omega) (by omega) (by omega)
    have e7 := lA 7 i (by omega) (by omega) (by omega)
    have e8 := lA 8 i (by omega) (by omega) (by omega)
    rw [hf5] at e5
    rw [hf6] at e6
    rw [hf7] at e7
    rw [hf8] at e8
    rw [e5, e6, e7, e8]
    exact ⟨j1.symm, (eq9_le (by omega) j2).2.2.symm, (eq9_le (by omega) j3).2.2.symm, (eq9_le (by omega) j4).2.2.symm⟩
  · rw [r3 0 (by omega)]; exact q1.2.2.symm
  · rw [r3 1 (by omega)]; exact q2.2.2.symm
  · rw [r3 4 (by omega)]; exact q5.2.2.symm
  · rw [hA 1 (by omega), show gA g' 8 0 1 = gA (bgR g n) 8 0 1 from funext fun i => f.2.2.2 1 i (by unfold mfA; omega)]
    exact r.2.1.2.2.2.2.2.1
  · unfold gZ
    rw [b7]; decide
  · rw [e62]
    show _ = (T'.2.1 19).toInt64
    rw [q5.2.2]
  · have : ((nxX X (gI h 1 0 4) (gI h 1 0 5) (gI h 0 u 6)).2 1).toNatClampNeg = 0 := by
      show (0 : Int32).toNatClampNeg = 0
      decide
    omega
  · show gI gF 8 0 1 = 0
    rw [iN 1 (by omega) (by omega), f.2.1 1 (by unfold mfI; omega)]
    rfl
  · have : ((nxX X (gI h 1 0 4) (gI h 1 0 5) (gI h 0 u 6)).2 3).toNatClampNeg = 0 := by
      show (0 : Int32).toNatClampNeg = 0
      decide
    omega
  · show gI gF 8 0 4 = gI h 1 0 4
    rw [iN 4 (by omega) (by omega)]; exact dft.1.symm
  · show gI gF 8 0 5 = gI h 1 0 5
    rw [iN 5 (by omega) (by omega)]; exact dft.2.symm
  · show gI gF 8 0 16 = gI h 0 u 6
    rw [iK 16 (by omega) (by omega), l2]; exact l4
  · exact ((((bgR_k7 g n).tr f.1).tr k1).tr af1).tr b2
theorem text_both (hN : 1000 ≤ N) (rc : RC h t T S I X) (r8 : R8 g T S I X) (pi : PI T S I X) (v : Int32) : ∃ a h' g' t' T' S' X', f_X7_text N h v = some (a, h') ∧ f_X8_text N g v = some (a, g') ∧ RC h' t' T' S' I X' ∧ R8 g' T' S' I X' ∧ PI T' S' I X' ∧ K8 h h' ∧ K7 g g' := by
  obtain ⟨r0, k0⟩ := r8.z0
  obtain ⟨y, hy, e3⟩ := pi.2.2.2.2.2.2.2.2.1
  have e2 : gI h 4 0 2 = nI y := by rw [← e3, ← rc.2.2.2.1]; rfl
  have m1 : gI (sI g 8 0 2 0) 8 0 1 = nI y := r0.2.2.2.2.2.2.2.1.1.trans e3
  by_cases z : 0 ≤ v ∧ v ≤ nI y
  rotate_left
  · refine ⟨-2, h, _, t, T, S, X, ?_, ?_, rc, r0, pi, K8.rf h, k0⟩
    · unfold f_X7_text
      simp only [jn_e]
      rw [e2]
      by_cases w : v < 0
      · rw [if_pos w]
      · rw [if_neg w, if_neg (fun q => z ⟨Int32.not_lt.mp w, q⟩)]
    · unfold f_X8_text
      simp only [jn_e, lt_e]
      rw [m1]
      by_cases w : v < 0
      · rw [if_pos w]
      · rw [if_neg w, if_neg (fun q => z ⟨Int32.not_lt.mp w, q⟩)]
  obtain ⟨n, hn, rfl⟩ := rngN (a := v) (m := y) (by omega) z.1 z.2
  have x6 : gA h 4 0 0 = X.1 6 := by rw [← rc.2.2.2.1]; rfl
  have x7 : gA h 4 0 1 = X.1 7 := by rw [← rc.2.2.2.1]; rfl
  have ea : ∀ i, i < n → gA h 4 0 0 i = gA (sI g 8 0 2 0) 8 0 0 i := fun i hi => by
    rw [x6]
    exact (r0.2.2.2.2.2.2.2.1.2 i (by rw [e3, clN (by omega)]; omega)).symm
  have sp : SPL (gA h 4 0 1) := by rw [x7]; exact pi.2.2.2.2.2.2.2.2.2
  have wd : WRD (gA (sI g 8 0 2 0) 8 0 1) := r0.2.1.2.2.2.2.2.1
  have mt : f_X8_text N g (nI n) = ((f_X8_plain N (bgR (sI g 8 0 2 0) n)).bind fun h7 => (f_X8_token N h7).bind fun h8 => iter (fun _ _ => none) (f_X8_text_55 N) N 0 h8) := by
    unfold f_X8_text
    simp only [jn_e, lt_e]
    rw [if_neg (Int32.not_lt.mpr z.1), m1, if_pos z.2]
    rfl
  rw [mt]
  rcases reads_both (h := h) (g := sI g 8 0 2 0) (n := n) hN (by omega) (1 - t) ea sp wd with ⟨h', g', a1, a2, a3, a4, a5⟩ | ⟨h', g', i', p', a1, a2, a3, a4, a5, a6, a7⟩
  · have ce := text_e (N := N) rc (by omega) e3 (by omega) hy a1
    obtain ⟨c1, c2⟩ := cl_textN rc a3
    obtain ⟨d1, d2⟩ := r0.bg a4
    rw [if_neg (show ¬ ¬ b2i false = 0 from fun q => q rfl)] at ce
    rw [← a5.1, ← a5.2] at d1
    exact ⟨-1, _, _, t, T, S, _, ce, a2, c1, d1, pi.fl _ _, c2, k0.tr d2⟩
  · obtain ⟨ok, tr, si⟩ := td_ok a5.2.2.2.1
    obtain ⟨gC, c1, c2, c3⟩ := cl_textY hN rc (by omega) e3 (by omega) hy a1 a3 ok (ld_ok a5.2.2.2.2)
    obtain ⟨gF, d1, d2, d3⟩ := r0.yes hN a4 a5
    rw [a7] at d1 c1
    exact ⟨nI i', gC, gF, 1 - t, _, _, _, c1, a2.trans d1, c2, d2, pi.nx ⟨ok, tr, si⟩ _ _ _, c3, k0.tr d3⟩
end TextBoth
