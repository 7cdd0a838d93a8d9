-- PURE: reading begun and done, by both
/-- the class, a text read: what may change -/
def RT (u : Nat) (h h' : Hp) : Prop := K8 h h' ∧ (∀ c o k, c ≠ 8 → c ≠ 1 → gO h' c o k = gO h c o k) ∧ (∀ c o k, ¬ c = 1 → ¬ (c = 4 ∧ o = 0 ∧ 3 ≤ k ∧ k ≤ 8) → ¬ (c = 5 ∧ o = u) → ¬ (c = 0 ∧ o = u) → gI h' c o k = gI h c o k) ∧ ∀ c o k, ¬ c = 1 → ¬ (c = 5 ∧ o = u) → ¬ (c = 0 ∧ o = u) → gA h' c o k = gA h c o k
theorem RT.tr {u : Nat} {h g k : Hp} (a : RT u h g) (b : RT u g k) : RT u h k := ⟨a.1.tr b.1, fun c o i q r => (b.2.1 c o i q r).trans (a.2.1 c o i q r), fun c o i q r s t => (b.2.2.1 c o i q r s t).trans (a.2.2.1 c o i q r s t), fun c o i q r s => (b.2.2.2 c o i q r s).trans (a.2.2.2 c o i q r s)⟩
theorem RF.rt {u : Nat} {h h' : Hp} (a : RF u h h') : RT u h h' := ⟨a.1, fun c o k q _ => a.2.1 c o k q, fun c o k q r s t => a.2.2.1 c o k q (fun z => r ⟨z.1, z.2.1, by omega, by omega⟩) s t, a.2.2.2⟩
theorem K8.so (h : Hp) (c o k v : Nat) (hc : c ≠ 8) : K8 h (sO h c o k v) := fun j => ⟨rfl, rfl, if_neg (fun z => hc z.1.symm), rfl⟩
theorem RT.so (u : Nat) (h : Hp) (k v : Nat) : RT u h (sO h 1 0 k v) := ⟨K8.so h 1 0 k v (by decide), fun c o i _ q => if_neg (fun z => q z.1), fun _ _ _ _ _ _ _ => rfl, fun _ _ _ _ _ _ => rfl⟩
theorem RT.i4 (u : Nat) (h : Hp) (k : Nat) (v : Int32) (hk : 3 ≤ k ∧ k ≤ 8) : RT u h (sI h 4 0 k v) := ⟨K8.i h 4 0 k v (by decide), fun _ _ _ _ _ => rfl, fun c o i _ q _ _ => if_neg (fun z => q ⟨z.1, z.2.1, by omega, by omega⟩), fun _ _ _ _ _ _ => rfl⟩
section Begin
variable {N : Nat} {h g : Hp} {u n : Nat}
theorem cl_clear0 (hN : 1000 ≤ N) (h : Hp) (u : Nat) : ∃ h', f_X0_clear N h u = some h' ∧ RF u h h' ∧ gI h' 0 u 6 = 0 ∧ (∀ i, i < 4 → gA h' 0 u 2 i = 0 ∧ gA h' 0 u 3 i = 0) := by
  unfold f_X0_clear
  rw [lt_e]
  refine iter_inv (bot := fun _ _ => none) (b := f_X0_clear_7 u) (fun m r => ∀ k h1, k ≤ 4 → 4 < m + k → RF u h h1 → gI h1 0 u 6 = 0 → (∀ i, i < k → gA h1 0 u 2 i = 0 ∧ gA h1 0 u 3 i = 0) → ∃ h', r (nI k) h1 = some h' ∧ RF u h h' ∧ gI h' 0 u 6 = 0 ∧ (∀ i, i < 4 → gA h' 0 u 2 i = 0 ∧ gA h' 0 u 3 i = 0)) (fun k _ _ _ => by omega) (fun m r ih k h1 hk hm f e b => ?_) N 0 _ (by omega) (by omega) (RF.i u h 0 u 6 0 (by omega)) (by rw [GI, if_pos ⟨rfl, rfl, rfl⟩]) (fun i hi => by omega)
  unfold f_X0_clear_7
  by_cases y : k = 4
  · subst y
    rw [if_pos (show (4 : Int32) ≤ nI 4 by decide)]
    exact ⟨h1, rfl, f, e, b⟩
  · rw [if_neg (show ¬ (4 : Int32) ≤ nI k from nleN (a := 4) (show k < 4 by omega) (by omega)), grd_p (inb_n (by omega) (by omega)), lt_e, grd_p (inb_n (by omega) (by omega)), lt_e, lt_e, clN (by omega), nI_1]
    refine ih (k + 1) _ (by omega) (by omega) (f.tr ((RF.a u h1 0 u 2 k 0 (by omega)).tr (RF.a u _ 0 u 3 k 0 (by omega)))) e (fun i hi => ?_)
    have a2 : gA (sA (sA h1 0 u 2 k 0) 0 u 3 k 0) 0 u 2 = upd (gA h1 0 u 2) k 0 := by
      rw [GA, if_neg (by omega), GA, if_pos ⟨rfl, rfl, rfl⟩]
    have a3 : gA (sA (sA h1 0 u 2 k 0) 0 u 3 k 0) 0 u 3 = upd (gA h1 0 u 3) k 0 := by
      rw [GA, if_pos ⟨rfl, rfl, rfl⟩, GA, if_neg (by omega)]
    rw [a2, a3]
    by_cases w : i = k
    · rw [w, up_p, up_p]; exact ⟨rfl, rfl⟩
    · rw [up_n w, up_n w]; exact b i (by omega)
theorem cl_clear (hN : 1000 ≤ N) (h : Hp) (u : Nat) : ∃ h', f_X5_clear N h u = some h' ∧ RF u h h' ∧ gI h' 0 u 6 = 0 ∧ (∀ i, i < 4 → gA h' 0 u 2 i = 0 ∧ gA h' 0 u 3 i = 0) ∧ ∀ k, 10 ≤ k → k ≤ 19 → gI h' 5 u k = 0 := by
  obtain ⟨h1, a1, a2, a3, a4⟩ := cl_clear0 hN h u
  unfold f_X5_clear
  rw [a1, bind_s]
  simp only [lt_e]
  have f : ∀ (h2 : Hp) k, RF u h2 (sI h2 5 u k 0) := fun h2 k => RF.i u h2 5 u k 0 (by omega)
  refine ⟨_, rfl, a2.tr ((((((((((f _ _).tr (f _ _)).tr (f _ _)).tr (f _ _)).tr (f _ _)).tr (f _ _)).tr (f _ _)).tr (f _ _)).tr (f _ _)).tr (f _ _)), a3, a4, fun k h1 h2 => ?_⟩
  simp only [GI]
  rcases (show k = 10 ∨ k = 11 ∨ k = 12 ∨ k = 13 ∨ k = 14 ∨ k = 15 ∨ k = 16 ∨ k = 17 ∨ k = 18 ∨ k = 19 by omega) with rfl | rfl | rfl | rfl | rfl | rfl | rfl | rfl | rfl | rfl <;> simp
theorem m_plain (hN : 1000 ≤ N) (g : Hp) : ∃ g', f_X8_plain N g = some g' ∧ MF g g' ∧ ((∀ k, 17 ≤ k → k ≤ 21 → gI g' 8 0 k = 0) ∧ gI g' 8 0 44 = 0 ∧ ∀ k, k ≤ 16 → gI g' 8 0 k = gI g 8 0 k) ∧ (∀ i, i < 4 → gA g' 8 0 2 i = 0) ∧ (∀ i, 5 ≤ i → i < 10 → gA g' 8 0 3 i = 0) ∧ ∀ i, 4 ≤ i → i < 8 → gA g' 8 0 13 i = 0 := by
  obtain ⟨g0, hg0⟩ : ∃ g0, g0 = sI (sI (sI (sI (sI (sI g 8 0 17 0) 8 0 18 0) 8 0 19 0) 8 0 20 0) 8 0 21 0) 8 0 44 0 := ⟨_, rfl⟩
  have m0 : MF g g0 := by
    rw [hg0]
    exact (((((MF.i g 17 0 (by unfold mfI; omega)).tr (MF.i _ 18 0 (by unfold mfI; omega))).tr (MF.i _ 19 0 (by unfold mfI; omega))).tr (MF.i _ 20 0 (by unfold mfI; omega))).tr (MF.i _ 21 0 (by unfold mfI; omega))).tr (MF.i _ 44 0 (by unfold mfI; omega))
  have z0 : (∀ k, 17 ≤ k → k ≤ 21 → gI g0 8 0 k = 0) ∧ gI g0 8 0 44 = 0 ∧ ∀ k, k ≤ 16 → gI g0 8 0 k = gI g 8 0 k := by
    rw [hg0]
    refine ⟨fun k h1 h2 => ?_, rfl, fun k hk => ?_⟩
    · rcases (show k = 17 ∨ k = 18 ∨ k = 19 ∨ k = 20 ∨ k = 21 by omega) with rfl | rfl | rfl | rfl | rfl <;> rfl
    · rw [I_at, if_neg (by omega), I_at, if_neg (by omega), I_at, if_neg (by omega), I_at, if_neg (by omega), I_at, if_neg (by omega), I_at, if_neg (by omega)]
  -- nothing but the rows 2, 3, 13 changes
  let Q := fun (g1 : Hp) => MF g g1 ∧ ∀ k, gI g1 8 0 k = gI g0 8 0 k
  let P := fun (x y z : Nat) (g1 : Hp) => Q g1 ∧ (∀ i, i < x → gA g1 8 0 2 i = 0) ∧ (∀ i, 5 ≤ i → i < y → gA g1 8 0 3 i = 0) ∧ ∀ i, 4 ≤ i → i < z → gA g1 8 0 13 i = 0
  have l3 : ∀ g1, P 4 10 4 g1 → ∃ g', iter (fun _ _ => none) f_X8_plain_73 N 4 g1 = some g' ∧ P 4 10 8 g' := fun g1 p1 => by
    refine iter_inv (bot := fun _ _ => none) (b := f_X8_plain_73) (fun m r => ∀ k g1, 4 ≤ k → k ≤ 8 → 8 < m + k → P 4 10 k g1 → ∃ g', r (nI k) g1 = some g' ∧ P 4 10 8 g') (fun k _ _ _ _ => by omega) (fun m r ih k g1 k4 hk hm f => ?_) N 4 g1 (by omega) (by omega) (by omega) p1
    unfold f_X8_plain_73
    by_cases y : k = 8
    · subst y
      rw [if_pos (show (8 : Int32) ≤ nI 8 by decide)]
      exact ⟨g1, rfl, f⟩
    · rw [if_neg (show ¬ (8 : Int32) ≤ nI k from nleN (a := 8) (show k < 8 by omega) (by omega)), grd_p (inb_n (by omega) (by omega)), lt_e, lt_e, clN (by omega), nI_1]
      obtain ⟨⟨f1, f2⟩, f3, f4, f5⟩ := f
      refine ih (k + 1) _ (by omega) (by omega) (by omega) ⟨⟨f1.tr (MF.w g1 (w := 4) _ rfl (by omega) k4), f2⟩, f3, f4, fun i h1 h2 => ?_⟩
      show gA (sA g1 8 0 13 k (b2i false)) 8 0 13 i = 0
      rw [A_at]
      by_cases w : i = k
      · rw [if_pos ⟨rfl, w⟩]; rfl
      · rw [if_neg (by omega)]; exact f5 i h1 (by omega)
  have l2 : ∀ g1, P 4 5 4 g1 → ∃ g', iter (fun _ _ => none) (f_X8_plain_52 N) N 5 g1 = some g' ∧ P 4 10 8 g' := fun g1 p1 => by
    refine iter_inv (bot := fun _ _ => none) (b := f_X8_plain_52 N) (fun m r => ∀ k g1, 5 ≤ k → k ≤ 10 → 10 < m + k → P 4 k 4 g1 → ∃ g', r (nI k) g1 = some g' ∧ P 4 10 8 g') (fun k _ _ _ _ => by omega) (fun m r ih k g1 h5 hk hm f => ?_) N 5 g1 (by omega) (by omega) (by omega) p1
    unfold f_X8_plain_52
    by_cases y : k = 10
    · subst y
      rw [if_pos (show (10 : Int32) ≤ nI 10 by decide)]
      exact l3 g1 f
    · rw [if_neg (show ¬ (10 : Int32) ≤ nI k from nleN (a := 10) (show k < 10 by omega) (by omega)), grd_p (inb_n (by omega) (by omega)), lt_e, lt_e, clN (by omega), nI_1]
      obtain ⟨⟨f1, f2⟩, f3, f4, f5⟩ := f
      refine ih (k + 1) _ (by omega) (by omega) (by omega) ⟨⟨f1.tr (MF.w g1 (w := 5) _ rfl (by omega) h5), f2⟩, f3, fun i h1 h2 => ?_, f5⟩
      rw [A_at]
      by_cases w : i = k
      · rw [if_pos ⟨rfl, w⟩]
      · rw [if_neg (by omega)]; exact f4 i h1 (by omega)
  have l1 : ∃ g', iter (fun _ _ => none) (f_X8_plain_32 N) N 0 g0 = some g' ∧ P 4 10 8 g' := by
    refine iter_inv (bot := fun _ _ => none) (b := f_X8_plain_32 N) (fun m r => ∀ k g1, k ≤ 4 → 4 < m + k → P k 5 4 g1 → ∃ g', r (nI k) g1 = some g' ∧ P 4 10 8 g') (fun k _ _ _ => by omega) (fun m r ih k g1 hk hm f => ?_) N 0 g0 (by omega) (by omega) ⟨⟨m0, fun _ => rfl⟩, fun i hi => by omega, fun i h1 h2 => by omega, fun i h1 h2 => by omega⟩
    unfold f_X8_plain_32
    by_cases y : k = 4
    · subst y
      rw [if_pos (show (4 : Int32) ≤ nI 4 by decide)]
      exact l2 g1 f
    · rw [if_neg (show ¬ (4 : Int32) ≤ nI k from nleN (a := 4) (show k < 4 by omega) (by omega)), grd_p (inb_n (by omega) (by omega)), lt_e, lt_e, clN (by omega), nI_1]
      obtain ⟨⟨f1, f2⟩, f3, f4, f5⟩ := f
      refine ih (k + 1) _ (by omega) (by omega) ⟨⟨f1.tr (MF.a g1 2 k _ (Or.inl rfl)), f2⟩, fun i hi => ?_, f4, f5⟩
      show gA (sA g1 8 0 2 k (b2i false)) 8 0 2 i = 0
      rw [A_at]
      by_cases w : i = k
      · rw [if_pos ⟨rfl, w⟩]; rfl
      · rw [if_neg (by omega)]; exact f3 i (by omega)
  unfold f_X8_plain
  simp only [lt_e]
  rw [← hg0]
  obtain ⟨g', a1, ⟨a2, a3⟩, a4, a5, a6⟩ := l1
  exact ⟨g', a1, a2, ⟨fun k h1 h2 => (a3 k).trans (z0.1 k h1 h2), (a3 44).trans z0.2.1, fun k hk => (a3 k).trans (z0.2.2 k hk)⟩, a4, a5, a6⟩
/-- the reference's memory as the reading begins -/
def bgR (g : Hp) (n : Nat) : Hp := sI (sI (sI (sI (sI g 8 0 6 (nI n)) 8 0 1 0) 8 0 4 0) 8 0 5 (-1)) 8 0 7 0
theorem reads_both (hN : 1000 ≤ N) (hn : n ≤ 700) (u : Nat) (ea : ∀ i, i < n → gA h 4 0 0 i = gA g 8 0 0 i) (sp : SPL (gA h 4 0 1)) (wd : WRD (gA g 8 0 1)) : (∃ h' g', f_X1_reads N h (nI n) u = some (false, h') ∧ ((f_X8_plain N (bgR g n)).bind fun h7 => (f_X8_token N h7).bind fun h8 => iter (fun _ _ => none) (f_X8_text_55 N) N 0 h8) = some (-1, g') ∧ RT u h h' ∧ MF (bgR g n) g' ∧ FT h' g') ∨ (∃ h' g' i' p', f_X1_reads N h (nI n) u = some (true, h') ∧ ((f_X8_plain N (bgR g n)).bind fun h7 => (f_X8_token N h7).bind fun h8 => iter (fun _ _ => none) (f_X8_text_55 N) N 0 h8) = ((f_X8_keepText N g').bind fun h11 => some (nI i', h11)) ∧ RT u h h' ∧ MF (bgR g n) g' ∧ RD u n h' g' p' ∧ i' ≤ 701 ∧ gI h' 5 u 10 = nI i') := by
  obtain ⟨h4, a1, a2, a3, a4, a5⟩ := cl_clear hN (sO (sO h 1 0 2 0) 1 0 3 u) u
  obtain ⟨h8, eh8⟩ : ∃ h8, h8 = sI (sI (sI (sI h4 1 0 4 0) 1 0 5 (-1)) 1 0 7 0) 1 0 10 0 := ⟨_, rfl⟩
  have f8 : RF u h4 h8 := by
    rw [eh8]
    exact (((RF.i u h4 1 0 4 0 (by omega)).tr (RF.i u _ 1 0 5 _ (by omega))).tr (RF.i u _ 1 0 7 _ (by omega))).tr (RF.i u _ 1 0 10 _ (by omega))
  have o2 : gO (sO (sO h 1 0 2 0) 1 0 3 u) 1 0 2 = some 0 := rfl
  have o3 : gO (sO (sO h 1 0 2 0) 1 0 3 u) 1 0 3 = some u := rfl
  have r8 : REF u h8 := REF.up ⟨o2, o3⟩ (a2.tr f8)
  obtain ⟨h0, eh0⟩ : ∃ h0, h0 = sI (sI h8 4 0 3 (nI n)) 4 0 4 0 := ⟨_, rfl⟩
  have r0 : REF u h0 := by rw [eh0]; exact r8
  have rt0 : RT u h h0 := by
    rw [eh0]
    exact (((((RT.so u h 2 0).tr (RT.so u _ 3 u)).tr a2.rt).tr f8.rt).tr (RT.i4 u _ 3 _ (by omega))).tr (RT.i4 u _ 4 _ (by omega))
  obtain ⟨g7, b1, b2, ⟨b3, b4, b5⟩, b6, b7, b8⟩ := m_plain hN (bgR g n)
  have k0 : ∀ k, gI h0 1 0 k = gI h8 1 0 k := fun k => by rw [eh0]; rfl
  have h0a : gA h0 4 0 0 = gA h 4 0 0 := rt0.2.2.2 4 0 0 (by omega) (by omega) (by omega)
  have h0b : gA h0 4 0 1 = gA h 4 0 1 := rt0.2.2.2 4 0 1 (by omega) (by omega) (by omega)
  have g7a : gA g7 8 0 0 = gA g 8 0 0 := funext fun i => b2.2.2.2 0 i (by unfold mfA; omega)
  have g7b : gA g7 8 0 1 = gA g 8 0 1 := funext fun i => b2.2.2.2 1 i (by unfold mfA; omega)
  have lb : LB n h0 g7 0 := by
    refine ⟨hn, Nat.zero_le _, ?_, ?_, (b5 6 (by omega)).trans rfl, (b5 7 (by omega)).trans rfl, ?_, ?_, ?_⟩
    · rw [eh0]; rfl
    · rw [eh0]; rfl
    · rw [h0a, g7a]; exact ea
    · rw [h0b]; exact sp
    · rw [g7b]; exact wd
  obtain ⟨h9, g8, p, c1, c2, c3, c4, c5, c6, c7⟩ := lex hN lb
  have ft0 : FT h0 g7 := by
    unfold FT
    rw [k0, k0, b5 4 (by omega), b5 5 (by omega), eh8]
    exact ⟨rfl, rfl⟩
  have i5 : ∀ k, 10 ≤ k → k ≤ 19 → gI h0 5 u k = 0 := fun k x y => by
    rw [eh0, eh8]
    exact a5 k x y
  have e9 : FT h0 g7 ∧ TDd (gI h0 5 u) (gA h0 5 u) (gI g7 8 0) (gA g7 8 0) (gI h0 1 0 7) ∧ LDd (gA h0 0 u) (gI h0 0 u 6) (gI h0 1 0 10) (gI g7 8 0 21) (gI g7 8 0 44) (gA g7 8 0) := by
    have z9 : ∀ m, Eq9 m 0 0 := fun m => ⟨0, Nat.zero_le _, rfl, rfl⟩
    refine ⟨ft0, ⟨0, 0, 0, 0, ⟨by omega, i5 11 (by omega) (by omega), b3 17 (by omega) (by omega), fun i hi => by omega⟩, ⟨by omega, i5 12 (by omega) (by omega), b3 18 (by omega) (by omega), fun i hi => by omega⟩, ⟨by omega, i5 13 (by omega) (by omega), b3 19 (by omega) (by omega), fun i hi => by omega⟩, ⟨by omega, i5 14 (by omega) (by omega), b3 20 (by omega) (by omega), fun i hi => by omega⟩, ?_, ?_⟩, 0, by omega, ?_, ?_, b3 21 (by omega) (by omega), b4, fun k hk => Or.inl ⟨b8 (4 + k) (by omega) (by omega), ?_, ?_⟩⟩
    · unfold TdO
      rw [i5 15 (by omega) (by omega), i5 16 (by omega) (by omega), i5 17 (by omega) (by omega), i5 18 (by omega) (by omega), i5 19 (by omega) (by omega), b7 5 (by omega) (by omega), b7 6 (by omega) (by omega), b7 7 (by omega) (by omega), b7 8 (by omega) (by omega), b7 9 (by omega) (by omega)]
      exact ⟨z9 _, z9 _, z9 _, z9 _, z9 _⟩
    · refine ⟨fun _ => false, ?_, fun i hi => b6 i hi⟩
      rw [k0, eh8]; rfl
    · rw [eh0, eh8]; exact a3
    · rw [k0, eh8]; rfl
    · rw [eh0, eh8]; exact (a4 k hk).1
    · rw [eh0, eh8]; exact (a4 k hk).2
  have d9 : RD u n h9 g8 p := by
    have dl : ∀ {hx gx : Hp} {px : Nat}, T4 h0 hx → U8 g7 gx → LX n hx gx px → RD u n hx gx px := fun {hx gx px} a b l => by
      have e3 : gA gx 8 0 = gA g7 8 0 := funext fun k => b.2.2.2 k
      refine ⟨l, r0.up (a.lf.rfr u), ft0.lf a b, ?_, e9.2.2.kl (a.lf.kl u) b.lg.kg⟩
      rw [a.lf.f5 u, a.lf.fa 5 u, e3, a.2.2.1 1 0 7 (by omega)]
      have td' := e9.2.1
      obtain ⟨_, _, _, _, -, -, -, -, o, q⟩ := td'
      exact td_cg e9.2.1 (fun _ _ _ => rfl) (fun k h1 h2 => b.2.1 k (by omega)) (fun _ _ _ => rfl) o q
    exact dl c3 c4 c5
  have e10 : gI h9 5 u 10 = nI 0 := (congrFun (c3.lf.f5 u) 10).trans (i5 10 (by omega) (by omega))
  have cls : f_X1_reads N h (nI n) u = iter (fun _ _ => none) (f_X1_reads_48 N) N 0 h9 := by
    have eb : f_X4_begin N h8 (nI n) = some h9 := by
      unfold f_X4_begin
      have mn : (if 700 < nI n then 700 else nI n) = nI n := if_neg (Int32.not_lt.mpr (leN (b := 700) hn (by omega)))
      rw [mn, lt_e, lt_e, ← eh0, c1, bind_s]
    unfold f_X1_reads
    simp only [lt_e]
    rw [o3, onO_s, a1, bind_s, ← eh8, r8.1, onO_s, eb, bind_s]
  have rf : ((f_X8_plain N (bgR g n)).bind fun h7 => (f_X8_token N h7).bind fun h8 => iter (fun _ _ => none) (f_X8_text_55 N) N 0 h8) = iter (fun _ _ => none) (f_X8_text_55 N) N 0 g8 := by rw [b1, bind_s, c2, bind_s]
  have rt9 : RT u h h9 := rt0.tr (c3.lf.rfr u).rt
  have mf8 : MF (bgR g n) g8 := b2.tr c4.lg.mf
  rw [cls, rf]
  rcases text_loop hN 701 0 h9 g8 p (by omega) (by omega) (fun e => by have := c7 e; omega) d9 e10 N N (by omega) (by omega) with ⟨h', g', x1, x2, x3, x4, x5⟩ | ⟨h', g', i', p', x1, x2, x3, x4, x5, x6, x7⟩
  · exact Or.inl ⟨h', g', x1, x2, rt9.tr x3.rt, mf8.tr x4, x5⟩
  · exact Or.inr ⟨h', g', i', p', x1, x2, rt9.tr x3.rt, mf8.tr x4, x5, x6, x7⟩
end Begin
