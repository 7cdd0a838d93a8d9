-- PURE: a strand begun; a text taken by the class
/-- nothing changed but strand 0 -/
def B0 (h h' : Hp) : Prop := (∀ c o k, ¬ (c = 3 ∧ o = 0) → gI h' c o k = gI h c o k ∧ gA h' c o k = gA h c o k ∧ gO h' c o k = gO h c o k) ∧ ∀ c o k, gL h' c o k = gL h c o k
theorem B0.rf (h : Hp) : B0 h h := ⟨fun _ _ _ _ => ⟨rfl, rfl, rfl⟩, fun _ _ _ => rfl⟩
theorem B0.tr {h g k : Hp} (a : B0 h g) (b : B0 g k) : B0 h k := ⟨fun c o i q => ⟨(b.1 c o i q).1.trans (a.1 c o i q).1, (b.1 c o i q).2.1.trans (a.1 c o i q).2.1, (b.1 c o i q).2.2.trans (a.1 c o i q).2.2⟩, fun c o i => (b.2 c o i).trans (a.2 c o i)⟩
theorem B0.i (h : Hp) (k : Nat) (v : Int32) : B0 h (sI h 3 0 k v) := ⟨fun c o i q => ⟨if_neg (fun z => q ⟨z.1, z.2.1⟩), rfl, rfl⟩, fun _ _ _ => rfl⟩
theorem B0.a (h : Hp) (k i : Nat) (v : Int32) : B0 h (sA h 3 0 k i v) := ⟨fun c o j q => ⟨rfl, if_neg (fun z => q ⟨z.1, z.2.1⟩), rfl⟩, fun _ _ _ => rfl⟩
theorem B0.o (h : Hp) (k v : Nat) : B0 h (sO h 3 0 k v) := ⟨fun c o j q => ⟨rfl, rfl, if_neg (fun z => q ⟨z.1, z.2.1⟩)⟩, fun _ _ _ => rfl⟩
theorem A3_at (h : Hp) (k i : Nat) (v : Int32) (j l : Nat) : gA (sA h 3 0 k i v) 3 0 j l = if j = k ∧ l = i then v else gA h 3 0 j l := by
  rw [GA]
  by_cases z : j = k
  · subst z
    rw [if_pos ⟨rfl, rfl, rfl⟩]
    by_cases w : l = i
    · rw [if_pos ⟨rfl, w⟩, w, up_p]
    · rw [if_neg (fun q => w q.2), up_n w]
  · rw [if_neg (fun q => z q.2.2), if_neg (fun q => z q.1)]
section Strand0
variable {N : Nat} {h : Hp} {u : Nat}
/-- so much of strand 0 as the text tells -/
def Bg (T : Txt) (h : Hp) (x y z : Nat) : Prop := (∀ i, i < x → gA h 3 0 0 i = (bgM T).1 0 i ∧ gA h 3 0 1 i = (bgM T).1 1 i) ∧ (∀ i, i < y → gA h 3 0 2 i = (bgM T).1 2 i ∧ gA h 3 0 3 i = (bgM T).1 3 i ∧ gA h 3 0 4 i = (bgM T).1 4 i ∧ gA h 3 0 5 i = (bgM T).1 5 i ∧ gA h 3 0 6 i = (bgM T).1 6 i ∧ gA h 3 0 7 i = (bgM T).1 7 i) ∧ ∀ i, i < z → gA h 3 0 9 i = (bgM T).1 9 i
theorem begin3 (hN : 1000 ≤ N) {T : Txt} {g : Hp} (f0 : B0 h g) (e0 : ∀ k, gI g 3 0 k = gI h 3 0 k) (o0 : gO g 3 0 10 = gO h 3 0 10) (b0 : Bg T g 8 4 0) : ∃ g', iter (fun _ _ => none) (f_X3_begin_165 0) N 0 g = some g' ∧ B0 h g' ∧ (∀ k, gI g' 3 0 k = gI h 3 0 k) ∧ gO g' 3 0 10 = gO h 3 0 10 ∧ Bg T g' 8 4 6 := by
  refine iter_inv (bot := fun _ _ => none) (b := f_X3_begin_165 0) (fun m r => ∀ k g, k ≤ 6 → 6 < m + k → B0 h g → (∀ k, gI g 3 0 k = gI h 3 0 k) → gO g 3 0 10 = gO h 3 0 10 → Bg T g 8 4 k → ∃ g', r (nI k) g = some g' ∧ B0 h g' ∧ (∀ k, gI g' 3 0 k = gI h 3 0 k) ∧ gO g' 3 0 10 = gO h 3 0 10 ∧ Bg T g' 8 4 6) (fun k _ _ _ => by omega) (fun m r ih k g hk hm f e o b => ?_) N 0 g (by omega) (by omega) f0 e0 o0 b0
  unfold f_X3_begin_165
  by_cases y : k = 6
  · subst y
    rw [if_pos (show (6 : Int32) ≤ nI 6 by decide)]
    exact ⟨g, rfl, f, e, o, b⟩
  · rw [if_neg (show ¬ (6 : Int32) ≤ nI k from nleN (a := 6) (show k < 6 by omega) (by omega)), grd_p (inb_n (by omega) (by omega)), lt_e, lt_e, clN (by omega), nI_1]
    obtain ⟨b1, b2, b3⟩ := b
    refine ih (k + 1) _ (by omega) (by omega) (f.tr (B0.a g 9 k 0)) e o ⟨fun i hi => ?_, fun i hi => ?_, fun i hi => ?_⟩
    · simp only [A3_at]
      rw [if_neg (by omega), if_neg (by omega)]; exact b1 i hi
    · simp only [A3_at]
      rw [if_neg (by omega), if_neg (by omega), if_neg (by omega), if_neg (by omega), if_neg (by omega), if_neg (by omega)]; exact b2 i hi
    · rw [A3_at]
      by_cases w : i = k
      · rw [if_pos ⟨rfl, w⟩]; rfl
      · rw [if_neg (by omega)]; exact b3 i (by omega)
theorem begin2 (hN : 1000 ≤ N) {T : Txt} (eT : gA h 5 u = T.1) {g : Hp} (f0 : B0 h g) (e0 : ∀ k, gI g 3 0 k = gI h 3 0 k) (o0 : gO g 3 0 10 = gO h 3 0 10) (b0 : Bg T g 8 0 0) : ∃ g', iter (fun _ _ => none) (f_X3_begin_95 N 0 u) N 0 g = some g' ∧ B0 h g' ∧ (∀ k, gI g' 3 0 k = gI h 3 0 k) ∧ gO g' 3 0 10 = gO h 3 0 10 ∧ Bg T g' 8 4 6 := by
  refine iter_inv (bot := fun _ _ => none) (b := f_X3_begin_95 N 0 u) (fun m r => ∀ k g, k ≤ 4 → 4 < m + k → B0 h g → (∀ k, gI g 3 0 k = gI h 3 0 k) → gO g 3 0 10 = gO h 3 0 10 → Bg T g 8 k 0 → ∃ g', r (nI k) g = some g' ∧ B0 h g' ∧ (∀ k, gI g' 3 0 k = gI h 3 0 k) ∧ gO g' 3 0 10 = gO h 3 0 10 ∧ Bg T g' 8 4 6) (fun k _ _ _ => by omega) (fun m r ih k g hk hm f e o b => ?_) N 0 g (by omega) (by omega) f0 e0 o0 b0
  unfold f_X3_begin_95
  by_cases y : k = 4
  · subst y
    rw [if_pos (show (4 : Int32) ≤ nI 4 by decide)]
    exact begin3 hN f e o b
  · have ib : ∀ K : Option Hp, grd (inb (nI k) 4) K = K := fun K => grd_p (inb_n (by omega) (by omega)) K
    have ck : (nI k).toNatClampNeg = k := clN (by omega)
    rw [if_neg (show ¬ (4 : Int32) ≤ nI k from nleN (a := 4) (show k < 4 by omega) (by omega))]
    simp only [ib, ck, lt_e, nI_1]
    obtain ⟨b1, b2, b3⟩ := b
    have g5 : gA g 5 u = T.1 := by rw [← eT]; exact funext fun j => (f.1 5 u j (by omega)).2.1
    have x5 : ∀ (g2 : Hp) (a i v j l : Nat) (w : Int32), gA (sA g2 3 0 a i w) 5 u j l = gA g2 5 u j l := fun _ _ _ _ _ _ _ => rfl
    refine ih (k + 1) _ (by omega) (by omega) (f.tr ((((((B0.a g 2 k _).tr (B0.a _ 3 k _)).tr (B0.a _ 4 k _)).tr (B0.a _ 5 k _)).tr (B0.a _ 6 k _)).tr (B0.a _ 7 k _))) e o ⟨fun i hi => ?_, fun i hi => ?_, fun i hi => by omega⟩
    · simp only [A3_at]
      simp
      exact b1 i hi
    · simp only [A3_at]
      have y3 : gA (sA g 3 0 2 k (gA g 5 u 2 k)) 5 u 3 k = T.1 3 k := by rw [← g5]; rfl
      have y4 : gA (sA (sA g 3 0 2 k (gA g 5 u 2 k)) 3 0 3 k (gA (sA g 3 0 2 k (gA g 5 u 2 k)) 5 u 3 k)) 5 u 4 k = T.1 4 k := by rw [← g5]; rfl
      by_cases w : i = k
      · subst w
        simp
        refine ⟨?_, y3, y4, rfl, rfl, rfl⟩
        rw [g5]; rfl
      · simp [w]
        exact b2 i (by omega)
theorem cl_begin (hN : 1000 ≤ N) (h : Hp) (u : Nat) : ∃ g', f_X3_begin N h 0 u = some g' ∧ B0 h g' ∧ gO g' 3 0 10 = some u ∧ Cp (bgM (txt h u)) (vw g' 0) := by
  obtain ⟨T, hT⟩ : ∃ T, T = txt h u := ⟨_, rfl⟩
  have e5 : gA h 5 u = T.1 := by rw [hT]; rfl
  have i5 : gI h 5 u = T.2.1 := by rw [hT]; rfl
  obtain ⟨h1, eh1⟩ : ∃ h1, h1 = sZ (sI (sI (sI (sI (sI (sO h 3 0 10 u) 3 0 11 0) 3 0 12 (gI h 5 u 15)) 3 0 13 0) 3 0 14 (gI h 5 u 16)) 3 0 15 (gI h 5 u 19)) 3 0 16 true := ⟨_, rfl⟩
  have f1 : B0 h h1 := by
    rw [eh1]
    exact ((((((B0.o h 10 u).tr (B0.i _ 11 _)).tr (B0.i _ 12 _)).tr (B0.i _ 13 _)).tr (B0.i _ 14 _)).tr (B0.i _ 15 _)).tr (B0.i _ 16 _)
  have o1 : gO h1 3 0 10 = some u := by rw [eh1]; rfl
  have n1 : ∀ k, 11 ≤ k → k ≤ 16 → gI h1 3 0 k = (bgM T).2 k := fun k a b => by
    rw [eh1]
    rcases (show k = 11 ∨ k = 12 ∨ k = 13 ∨ k = 14 ∨ k = 15 ∨ k = 16 by omega) with rfl | rfl | rfl | rfl | rfl | rfl
    · rfl
    · show gI h 5 u 15 = T.2.1 15
      rw [i5]
    · rfl
    · show gI h 5 u 16 = T.2.1 16
      rw [i5]
    · show gI h 5 u 19 = T.2.1 19
      rw [i5]
    · rfl
  have e51 : gA h1 5 u = T.1 := by rw [← e5]; exact funext fun j => (f1.1 5 u j (by omega)).2.1
  have i51 : gI h1 5 u = T.2.1 := by rw [← i5]; exact funext fun j => (f1.1 5 u j (by omega)).1
  unfold f_X3_begin
  have z1 : gI (sI (sO h 3 0 10 u) 3 0 11 0) 5 u 15 = gI h 5 u 15 := rfl
  have z2 : ∀ v, gI (sI (sI (sI (sO h 3 0 10 u) 3 0 11 0) 3 0 12 v) 3 0 13 0) 5 u 16 = gI h 5 u 16 := fun _ => rfl
  have z3 : ∀ v w, gI (sI (sI (sI (sI (sO h 3 0 10 u) 3 0 11 0) 3 0 12 v) 3 0 13 0) 3 0 14 w) 5 u 19 = gI h 5 u 19 := fun _ _ => rfl
  simp only [lt_e, z1, z2, z3]
  rw [← eh1, ← hT]
  have L : ∃ g', iter (fun _ _ => none) (f_X3_begin_46 N 0 u) N 0 h1 = some g' ∧ B0 h1 g' ∧ (∀ k, gI g' 3 0 k = gI h1 3 0 k) ∧ gO g' 3 0 10 = gO h1 3 0 10 ∧ Bg T g' 8 4 6 := by
    refine iter_inv (bot := fun _ _ => none) (b := f_X3_begin_46 N 0 u) (fun m r => ∀ k g, k ≤ 8 → 8 < m + k → B0 h1 g → (∀ k, gI g 3 0 k = gI h1 3 0 k) → gO g 3 0 10 = gO h1 3 0 10 → Bg T g k 0 0 → ∃ g', r (nI k) g = some g' ∧ B0 h1 g' ∧ (∀ k, gI g' 3 0 k = gI h1 3 0 k) ∧ gO g' 3 0 10 = gO h1 3 0 10 ∧ Bg T g' 8 4 6) (fun k _ _ _ => by omega) (fun m r ih k g hk hm f e o b => ?_) N 0 h1 (by omega) (by omega) (B0.rf h1) (fun _ => rfl) rfl ⟨fun i hi => by omega, fun i hi => by omega, fun i hi => by omega⟩
    unfold f_X3_begin_46
    by_cases y : k = 8
    · subst y
      rw [if_pos (show (8 : Int32) ≤ nI 8 by decide)]
      exact begin2 hN e51 f e o b
    · have ib : ∀ K : Option Hp, grd (inb (nI k) 8) K = K := fun K => grd_p (inb_n (by omega) (by omega)) K
      have ck : (nI k).toNatClampNeg = k := clN (by omega)
      have g5 : gA g 5 u = T.1 := by rw [← e51]; exact funext fun j => (f.1 5 u j (by omega)).2.1
      have j5 : gI g 5 u = T.2.1 := by rw [← i51]; exact funext fun j => (f.1 5 u j (by omega)).1
      have j12 : ∀ v, gI (sA g 3 0 0 k v) 5 u 12 = T.2.1 12 := fun v => by rw [← j5]; rfl
      rw [if_neg (show ¬ (8 : Int32) ≤ nI k from nleN (a := 8) (show k < 8 by omega) (by omega))]
      simp only [ib, ck, lt_e, nI_1, jn_e, j12, g5]
      obtain ⟨b1, b2, b3⟩ := b
      have fin : ∀ v, v = (bgM T).1 1 k → ∃ g', r (nI (k + 1)) (sA (sA g 3 0 0 k (T.1 0 k)) 3 0 1 k v) = some g' ∧ B0 h1 g' ∧ (∀ k, gI g' 3 0 k = gI h1 3 0 k) ∧ gO g' 3 0 10 = gO h1 3 0 10 ∧ Bg T g' 8 4 6 := fun v hv => by
        refine ih (k + 1) _ (by omega) (by omega) (f.tr ((B0.a g 0 k _).tr (B0.a _ 1 k _))) e o ⟨fun i hi => ?_, fun i hi => by omega, fun i hi => by omega⟩
        simp only [A3_at]
        by_cases w : i = k
        · subst w
          simp
          exact ⟨rfl, hv⟩
        · simp [w]
          exact b1 i (by omega)
      by_cases z : T.2.1 12 ≤ 0
      · rw [if_pos z]
        exact fin _ (by show _ = if T.2.1 12 ≤ 0 then (-1 : Int32) else _; rw [if_pos z])
      · rw [if_neg z, grd_p (show ¬ T.2.1 12 = 0 from fun q => z (by rw [q]; decide))]
        exact fin _ (by show _ = if T.2.1 12 ≤ 0 then (-1 : Int32) else nI k - nI k / T.2.1 12 * T.2.1 12; rw [if_neg z])
  obtain ⟨g', a1, a2, a3, a4, a5, a6, a7⟩ := L
  exact ⟨g', a1, f1.tr a2, a4.trans o1, a5, a6, a7, fun k x y => (a3 k).trans (n1 k x y)⟩
end Strand0

