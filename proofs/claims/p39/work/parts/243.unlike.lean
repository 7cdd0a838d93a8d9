-- PURE: the most less the least; lots
def mnM (f : Nat → Int32) : Nat → Int32
  | 0 => 2147483647
  | j + 1 => if f j < mnM f j then f j else mnM f j
def mxM (f : Nat → Int32) : Nat → Int32
  | 0 => -2147483648
  | j + 1 => if mxM f j < f j then f j else mxM f j
def spM (f : Nat → Int32) (n : Nat) : Int32 := if n = 0 then 0 else mxM f n - mnM f n
theorem mnM_s (f : Nat → Int32) (j : Nat) : mnM f (j + 1) = if f j < mnM f j then f j else mnM f j := rfl
theorem mxM_s (f : Nat → Int32) (j : Nat) : mxM f (j + 1) = if mxM f j < f j then f j else mxM f j := rfl
theorem mnM_cg {f g : Nat → Int32} : ∀ n, (∀ i, i < n → f i = g i) → mnM f n = mnM g n
  | 0, _ => rfl
  | n + 1, h => by rw [mnM_s, mnM_s, mnM_cg n (fun i hi => h i (by omega)), h n (by omega)]
theorem mxM_cg {f g : Nat → Int32} : ∀ n, (∀ i, i < n → f i = g i) → mxM f n = mxM g n
  | 0, _ => rfl
  | n + 1, h => by rw [mxM_s, mxM_s, mxM_cg n (fun i hi => h i (by omega)), h n (by omega)]
theorem spM_cg {f g : Nat → Int32} {n : Nat} (h : ∀ i, i < n → f i = g i) : spM f n = spM g n := by unfold spM; rw [mnM_cg n h, mxM_cg n h]
/-- what lies on the lots of a croft -/
def lotF (T : Txt) (S : Str) (c : Nat) : Int32 := lotM S (nI c) (nSt T)
/-- nothing changed but the scratch row of a strand -/
def E8 (o : Nat) (g g' : Hp) : Prop := (∀ c o k, gI g' c o k = gI g c o k ∧ gL g' c o k = gL g c o k ∧ gO g' c o k = gO g c o k) ∧ ∀ c o' k, ¬ (c = 3 ∧ o' = o ∧ k = 8) → gA g' c o' k = gA g c o' k
theorem E8.rf (o : Nat) (h : Hp) : E8 o h h := ⟨fun _ _ _ => ⟨rfl, rfl, rfl⟩, fun _ _ _ _ => rfl⟩
theorem E8.tr {o : Nat} {h h' h'' : Hp} (a : E8 o h h') (b : E8 o h' h'') : E8 o h h'' := ⟨fun c o k => ⟨(b.1 c o k).1.trans (a.1 c o k).1, (b.1 c o k).2.1.trans (a.1 c o k).2.1, (b.1 c o k).2.2.trans (a.1 c o k).2.2⟩, fun c o k q => (b.2 c o k q).trans (a.2 c o k q)⟩
theorem E8.a (h : Hp) (o i : Nat) (v : Int32) : E8 o h (sA h 3 o 8 i v) := ⟨fun _ _ _ => ⟨rfl, rfl, rfl⟩, fun _ _ _ q => if_neg q⟩
theorem E8.fr {o : Nat} {h g : Hp} (a : E8 o h g) : Fr h g := ⟨fun c o' k _ => a.1 c o' k, fun c o' k _ q _ => a.2 c o' k (fun z => q.elim (fun q => q z.1) (fun q => q.2 z.2.2))⟩
theorem E8.sd {o p t : Nat} {h g : Hp} {T : Txt} {S : Str} (a : E8 o h g) (s : Sd h p t T S) : Sd g p t T S := by
  obtain ⟨s1, s2, s3, s4, s5⟩ := s
  have k : ∀ i, i ≠ 8 → (vw g p).1 i = (vw h p).1 i := fun i hi => a.2 3 p i (fun z => hi z.2.2)
  refine ⟨(a.1 3 p 10).2.2.trans s1, (a.fr.tx t).trans s2, ?_, s4, Sq.tr ?_ s5⟩
  · rw [show gA g 0 t = gA h 0 t from funext fun k => a.2 0 t k (by omega)]; exact s3
  · exact ⟨fun s _ => ⟨by rw [k 0 (by decide)], by rw [k 1 (by decide)]⟩, fun c _ => ⟨by rw [k 2 (by decide)], by rw [k 3 (by decide)], by rw [k 4 (by decide)], by rw [k 5 (by decide)], by rw [k 6 (by decide)], by rw [k 7 (by decide)]⟩, fun f _ => by rw [k 9 (by decide)], fun i _ _ => (a.1 3 p i).1⟩
section Unlike
variable {N : Nat} {h g : Hp} {t o : Nat} {T : Txt} {S I : Str} {X : Xs}
theorem cl_spread (hN : 1000 ≤ N) (g : Hp) (c o a : Nat) {n : Nat} (hn : n ≤ (ak c a).2) (h9 : (ak c a).2 < 1000) : f_X7_spread N g c o a (nI n) = some (spM (gA g c o a) n) := by
  unfold f_X7_spread
  refine iter_inv (bot := fun _ _ _ => none) (b := f_X7_spread_11 g c o a (nI n)) (fun m r => ∀ j, j ≤ n → n < m + j → r (mnM (gA g c o a) j) (mxM (gA g c o a) j) (nI j) = some (spM (gA g c o a) n)) (fun j _ _ => by omega) (fun m r ih j hj hm => ?_) N 0 (by omega) (by omega)
  unfold f_X7_spread_11
  simp only [jn_e, lt_e]
  by_cases z : n = j
  · subst z
    rw [if_pos (leN (Nat.le_refl _) (by omega))]
    unfold spM
    by_cases y : n = 0
    · rw [if_pos y, if_pos (by rw [y]; decide)]
    · rw [if_neg y, if_neg (show ¬ nI n ≤ 0 from nleN (b := 0) (by omega) (by omega))]
  · have nx := ih (j + 1) (by omega) (by omega)
    rw [mnM_s, mxM_s] at nx
    simp only [if_neg (nleN (show j < n by omega) (show n < 2 ^ 31 by omega)), if_neg (show ¬ Int32.ofNat (ak c a).2 ≤ nI j from nleN (a := (ak c a).2) (by omega) (by omega)), grd_p (inb_n (show j < (ak c a).2 by omega) (show (ak c a).2 < 2 ^ 31 by omega)), clN (show j < 2 ^ 31 by omega), nI_1]
    exact nx
theorem cl_unlikeLots (hN : 1000 ≤ N) (s : Sd g o t T S) : ∃ g', f_X3_unlikeLots N g o = some (spM (lotF T S) (nCr T), g') ∧ E8 o g g' := by
  have hT := s.2.2.2.1
  have hc4 := hT.2.1.2
  unfold f_X3_unlikeLots
  refine iter_inv (bot := fun _ _ => none) (b := f_X3_unlikeLots_2 N o) (fun m r => ∀ j g1, j ≤ nCr T → nCr T < m + j → E8 o g g1 → (∀ i, i < j → gA g1 3 o 8 i = lotF T S i) → ∃ g', r (nI j) g1 = some (spM (lotF T S) (nCr T), g') ∧ E8 o g g') (fun j _ _ _ => by omega) (fun m r ih j g1 hj hm e w => ?_) N 0 g (by omega) (by omega) (E8.rf o g) (fun i hi => absurd hi (Nat.not_lt_zero _))
  have d := e.sd s
  have e12 : gI g1 5 t 12 = nI (nCr T) := by rw [← d.2.2.2.1.2.1.1, ← d.2.1]; rfl
  unfold f_X3_unlikeLots_2
  rw [d.1, onO_s, e12]
  by_cases z : nCr T = j
  · subst z
    rw [if_pos (leN (Nat.le_refl _) (by omega)), onO_s, e12, cl_spread hN g1 3 o 8 (show nCr T ≤ 4 from hc4) (by decide), bind_s, spM_cg w]
    exact ⟨g1, rfl, e⟩
  · rw [if_neg (nleN (show j < nCr T by omega) (show nCr T < 2 ^ 31 by omega)), d.lots hN (nI j), bind_s, grd_p (inb_n (show j < 4 by omega) (show 4 < 2 ^ 31 by omega)), lt_e, lt_e, nI_1, clN (show j < 2 ^ 31 by omega)]
    refine ih (j + 1) _ (by omega) (by omega) (e.tr (E8.a g1 o j _)) (fun i hi => ?_)
    show at3 g1.2.2.2.1 3 o 8 (upd (gA g1 3 o 8) j (lotM S (nI j) (nSt T))) 3 o 8 i = _
    rw [at3_s]
    by_cases y : i = j
    · rw [y, upd_s]; rfl
    · rw [upd_n _ _ y]; exact w i (by omega)
theorem cl_unlike (hN : 1000 ≤ N) (r : RC h t T S I X) : ∃ g, f_X7_unlike N h = some (spM (lotF T S) (nCr T), g) ∧ Fr h g := by
  obtain ⟨g, e, f⟩ := cl_unlikeLots hN r.sd
  unfold f_X7_unlike
  rw [e, bd2_s]
  exact ⟨g, rfl, f.fr⟩
end Unlike
section MUnlike
variable {N : Nat} {g : Hp} {T : Txt} {S : Str}
end MUnlike

