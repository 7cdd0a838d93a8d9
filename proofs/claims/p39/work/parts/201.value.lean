-- PURE: a law worked out by the class
def stC (kn nu : Int32) (nm : Nat → Int64) (top : Nat) (s : Nat → Int64) : Option (Nat × Int64) :=
  if kn = 2 then some (top, nu.toInt64)
  else if 272 ≤ kn ∧ kn ≤ 278 then some (top, nm (kn - 272).toNatClampNeg)
  else if kn = 279 ∧ 1 ≤ top then some (top - 1, if s (top - 1) = 0 then 1 else 0)
  else if 2 ≤ top then some (top - 2, joinM kn (s (top - 2)) (s (top - 1)))
  else none
def evC (kn nu : Nat → Int32) (nm : Nat → Int64) : Nat → Nat → Nat → (Nat → Int64) → Int64
  | 0, _, top, s => if top = 1 then s 0 else -9223372036854775808
  | n + 1, i, top, s => match stC (kn i) (nu i) nm top s with
    | none => -9223372036854775808
    | some (t, v) => if 1000000000000 < v ∨ v < -1000000000000 then -9223372036854775808 else evC kn nu nm n (i + 1) (t + 1) (vp_updL s t v)
def isTM (A : Nat → Nat → Int32) (k : Nat) : Bool := decide (A 2 k < A 3 k)
/-- a law's answer out of the arrays of the class's Laws -/
def lawM (A : Nat → Nat → Int32) (k : Nat) (nm : Nat → Int64) : Int64 :=
  if A 2 k < A 3 k then evC (A 0) (A 1) nm ((A 3 k).toNatClampNeg - (A 2 k).toNatClampNeg) (A 2 k).toNatClampNeg 0 (fun _ => 0) else -9223372036854775808
/-- what the laws' arrays keep: each law is a stretch of at most 64 knots -/
def LOK (A : Nat → Nat → Int32) : Prop := ∀ k, k < 4 → ∃ a b : Nat, A 2 k = nI a ∧ A 3 k = nI b ∧ a ≤ b ∧ b ≤ 64
theorem stC_congr {kn nu : Int32} {nm nm' : Nat → Int64} {top : Nat} {s s' : Nat → Int64} (hn : ∀ i, i < 7 → nm i = nm' i) (hs : ∀ i, i < top → s i = s' i) : stC kn nu nm top s = stC kn nu nm' top s' := by
  unfold stC
  by_cases h1 : kn = 2
  · rw [if_pos h1, if_pos h1]
  rw [if_neg h1, if_neg h1]
  by_cases h2 : 272 ≤ kn ∧ kn ≤ 278
  · rw [if_pos h2, if_pos h2, hn]
    have a1 : (272 : Int) ≤ kn.toInt := by have := Int32.le_iff_toInt_le.mp h2.1; exact this
    have a2 : kn.toInt ≤ 278 := by have := Int32.le_iff_toInt_le.mp h2.2; exact this
    have a3 : (kn - 272).toInt = kn.toInt - 272 := by
      have e : (272 : Int32).toInt = 272 := rfl
      rw [Kit.i32_sub (by rw [e]; omega) (by rw [e]; omega), e]
    show (kn - 272).toInt.toNat < 7
    omega
  rw [if_neg h2, if_neg h2]
  by_cases h3 : kn = 279 ∧ 1 ≤ top
  · rw [if_pos h3, if_pos h3, hs _ (by omega)]
  rw [if_neg h3, if_neg h3]
  by_cases h4 : 2 ≤ top
  · rw [if_pos h4, if_pos h4, hs _ (by omega), hs _ (by omega)]
  rw [if_neg h4, if_neg h4]
theorem stC_top {kn nu : Int32} {nm : Nat → Int64} {top : Nat} {s : Nat → Int64} {t : Nat} {v : Int64} (h : stC kn nu nm top s = some (t, v)) : t ≤ top := by
  unfold stC at h
  split at h
  · cases h; omega
  split at h
  · cases h; omega
  split at h
  · cases h; omega
  split at h
  · cases h; omega
  · cases h
theorem evC_congr (kn nu : Nat → Int32) {nm nm' : Nat → Int64} (hn : ∀ i, i < 7 → nm i = nm' i) : ∀ (n i top : Nat) (s s' : Nat → Int64), (∀ i, i < top → s i = s' i) → evC kn nu nm n i top s = evC kn nu nm' n i top s'
  | 0, i, top, s, s', hs => by
    unfold evC
    by_cases h : top = 1
    · rw [if_pos h, if_pos h, hs 0 (by omega)]
    · rw [if_neg h, if_neg h]
  | n + 1, i, top, s, s', hs => by
    unfold evC
    rw [stC_congr hn hs]
    cases hz : stC (kn i) (nu i) nm' top s' with
    | none => rfl
    | some q =>
      obtain ⟨t, v⟩ := q
      have ht := stC_top hz
      show (if _ then _ else _) = (if _ then _ else _)
      by_cases hb : 1000000000000 < v ∨ v < -1000000000000
      · rw [if_pos hb, if_pos hb]
      · rw [if_neg hb, if_neg hb]
        refine evC_congr kn nu hn n (i + 1) (t + 1) _ _ fun j hj => ?_
        unfold vp_updL
        by_cases hjt : j = t
        · rw [if_pos hjt, if_pos hjt]
        · rw [if_neg hjt, if_neg hjt]
          exact hs j (by omega)
theorem lawM_congr (A : Nat → Nat → Int32) (k : Nat) {nm nm' : Nat → Int64} (hn : ∀ i, i < 7 → nm i = nm' i) : lawM A k nm = lawM A k nm' := by
  unfold lawM
  by_cases h : A 2 k < A 3 k
  · rw [if_pos h, if_pos h]
    exact evC_congr _ _ hn _ _ _ _ _ fun _ _ => rfl
  · rw [if_neg h, if_neg h]
theorem cl_isTold (h : Hp) (t : Nat) {k : Nat} (hk : k < 4) : f_X0_isTold h t (nI k) = some (isTM (gA h 0 t) k) := by
  unfold f_X0_isTold isTM
  simp only [jn_e, if_neg (nI_pos (show k < 2 ^ 31 by omega)), if_neg (show ¬ (4 : Int32) ≤ nI k from nleN (a := 4) hk (by omega)), grd_p (inb_n hk (show 4 < 2 ^ 31 by omega)), clN (show k < 2 ^ 31 by omega)]
  by_cases z : gA h 0 t 3 k ≤ gA h 0 t 2 k
  · rw [if_pos z, decide_eq_false (Int32.not_lt.mpr z)]
  · rw [if_neg z, decide_eq_true (Int32.not_le.mp z)]
def VQ (t : Nat) (A : Nat → Nat → Int32) (b : Nat) (m : Nat) (r : Int32 → Int32 → Hp → Option (Int64 × Hp)) : Prop :=
  ∀ n i top h, gA h 0 t = A → n + i = b → top ≤ i → n < m → ∃ B', r (nI top) (nI i) h = some (evC (A 0) (A 1) (gB h 0 t 4) n i top (gB h 0 t 5), h.1, h.2.1, h.2.2.1, h.2.2.2.1, B')
/-- what the class does with what a knot made -/
def pushF (t : Nat) (r : Int32 → Int32 → Hp → Option (Int64 × Hp)) (h : Hp) (i v8 : Int32) (v9 : Int64) : Option (Int64 × Hp) :=
  if 0 < (lg_cmp v9 (1000000000000 : Int64)) then some ((-9223372036854775808 : Int64), h)
  else if 0 ≤ (lg_cmp v9 (-1000000000000 : Int64)) then grd (inb v8 64) (r (v8 + 1) (i + 1) (sB h 0 t 5 v8.toNatClampNeg v9))
  else some ((-9223372036854775808 : Int64), h)
def pushM (A : Nat → Nat → Int32) (nm : Nat → Int64) (n i : Nat) (s : Nat → Int64) (q : Option (Nat × Int64)) : Int64 := match q with
  | none => -9223372036854775808
  | some (t, v) => if 1000000000000 < v ∨ v < -1000000000000 then -9223372036854775808 else evC (A 0) (A 1) nm n (i + 1) (t + 1) (vp_updL s t v)
theorem value_push {t : Nat} {A : Nat → Nat → Int32} {b m : Nat} {r : Int32 → Int32 → Hp → Option (Int64 × Hp)} (ih : VQ t A b m r) (hb : b ≤ 64) {n i top : Nat} {h : Hp} (hA : gA h 0 t = A) (hn : n + 1 + i = b) (ht : top ≤ i) (hm : n + 1 < m + 1) (t2 : Nat) (v : Int64) (ht2 : t2 ≤ top) :
    ∃ B', pushF t r h (nI i) (nI t2) v = some (pushM A (gB h 0 t 4) n i (gB h 0 t 5) (some (t2, v)), h.1, h.2.1, h.2.2.1, h.2.2.2.1, B') := by
  unfold pushF pushM
  simp only [lg_cmp_gt, lg_cmp_ge]
  by_cases z : 1000000000000 < v
  · rw [if_pos z, if_pos (Or.inl z)]
    exact ⟨h.2.2.2.2, rfl⟩
  · rw [if_neg z]
    by_cases w : -1000000000000 ≤ v
    · rw [if_pos w, if_neg (by rintro (q | q); exact z q; exact absurd q (Int64.not_lt.mpr w))]
      simp only [grd_p (inb_n (show t2 < 64 by omega) (show 64 < 2 ^ 31 by omega)), clN (show t2 < 2 ^ 31 by omega), nI_1]
      have e4 : gB (sB h 0 t 5 t2 v) 0 t 4 = gB h 0 t 4 := by unfold sB; rw [gB_sBf, if_neg (by omega)]
      have e5 : gB (sB h 0 t 5 t2 v) 0 t 5 = vp_updL (gB h 0 t 5) t2 v := by unfold sB; rw [gB_sBf, if_pos ⟨rfl, rfl, rfl⟩]
      obtain ⟨B', hB⟩ := ih n (i + 1) (t2 + 1) (sB h 0 t 5 t2 v) hA (by omega) (by omega) (by omega)
      rw [e4, e5] at hB
      exact ⟨B', hB⟩
    · rw [if_neg w, if_pos (Or.inr (Int64.not_le.mp w))]
      exact ⟨h.2.2.2.2, rfl⟩
/-- a knot that joins the two upper ones -/
def twoF (t : Nat) (r : Int32 → Int32 → Hp → Option (Int64 × Hp)) (h : Hp) (i g tp : Int32) : Option (Int64 × Hp) :=
  if tp < 2 then some ((-9223372036854775808 : Int64), h) else grd (inb (tp + -2) 64) (grd (inb (tp + -2 + 1) 64) ((f_X0_joined g (gB h 0 t 5 (tp + -2).toNatClampNeg) (gB h 0 t 5 (tp + -2 + 1).toNatClampNeg)).bind fun v14 => pushF t r h i (tp + -2) v14))
theorem value_two {t : Nat} {A : Nat → Nat → Int32} {b m : Nat} {r : Int32 → Int32 → Hp → Option (Int64 × Hp)} (ih : VQ t A b m r) (hb : b ≤ 64) {n i top : Nat} {h : Hp} (hA : gA h 0 t = A) (hn : n + 1 + i = b) (ht : top ≤ i) (hm : n + 1 < m + 1) (g : Int32) :
    ∃ B', twoF t r h (nI i) g (nI top) = some (pushM A (gB h 0 t 4) n i (gB h 0 t 5) (if 2 ≤ top then some (top - 2, joinM g (gB h 0 t 5 (top - 2)) (gB h 0 t 5 (top - 1))) else none), h.1, h.2.1, h.2.2.1, h.2.2.2.1, B') := by
  unfold twoF
  by_cases z : 2 ≤ top
  · obtain ⟨u, rfl⟩ : ∃ u, top = u + 2 := ⟨top - 2, by omega⟩
    have e2 := nI_m2 u
    simp only [if_neg (show ¬ nI (u + 2) < 2 from nI_nlt (a := u + 2) (b := 2) (by omega) (by omega)), if_pos z, e2, nI_1, grd_p (inb_n (show u < 64 by omega) (show 64 < 2 ^ 31 by omega)), grd_p (inb_n (show u + 1 < 64 by omega) (show 64 < 2 ^ 31 by omega)), clN (show u < 2 ^ 31 by omega), clN (show u + 1 < 2 ^ 31 by omega), cl_joined, bind_s, Nat.add_sub_cancel, show u + 2 - 1 = u + 1 by omega]
    exact value_push ih hb hA hn ht hm u _ (by omega)
  · simp only [if_pos (show nI top < 2 from nI_lt (a := top) (b := 2) (by omega) (by omega)), if_neg z, pushM]
    exact ⟨h.2.2.2.2, rfl⟩
def restF (t : Nat) (r : Int32 → Int32 → Hp → Option (Int64 × Hp)) (h : Hp) (i g tp : Int32) : Option (Int64 × Hp) :=
  if ¬ g = 279 then twoF t r h i g tp
  else if tp < 1 then twoF t r h i g tp
  else grd (inb (tp + -1) 64) (if ¬ lg_cmp (gB h 0 t 5 (tp + -1).toNatClampNeg) (0 : Int64) = 0 then pushF t r h i (tp + -1) (0 : Int64) else pushF t r h i (tp + -1) (1 : Int64))
theorem value_rest {t : Nat} {A : Nat → Nat → Int32} {b m : Nat} {r : Int32 → Int32 → Hp → Option (Int64 × Hp)} (ih : VQ t A b m r) (hb : b ≤ 64) {n i top : Nat} {h : Hp} (hA : gA h 0 t = A) (hn : n + 1 + i = b) (ht : top ≤ i) (hm : n + 1 < m + 1) (g : Int32) :
    ∃ B', restF t r h (nI i) g (nI top) = some (pushM A (gB h 0 t 4) n i (gB h 0 t 5) (if g = 279 ∧ 1 ≤ top then some (top - 1, if gB h 0 t 5 (top - 1) = 0 then (1 : Int64) else 0) else if 2 ≤ top then some (top - 2, joinM g (gB h 0 t 5 (top - 2)) (gB h 0 t 5 (top - 1))) else none), h.1, h.2.1, h.2.2.1, h.2.2.2.1, B') := by
  unfold restF
  by_cases h3 : g = 279
  · by_cases z : 1 ≤ top
    · obtain ⟨u, rfl⟩ : ∃ u, top = u + 1 := ⟨top - 1, by omega⟩
      have e1 := nI_m1 u
      simp only [if_neg (fun q => q h3 : ¬ ¬ g = 279), if_pos (⟨h3, z⟩ : g = 279 ∧ 1 ≤ u + 1), if_neg (show ¬ nI (u + 1) < 1 from nI_nlt (a := u + 1) (b := 1) (by omega) (by omega)), e1, grd_p (inb_n (show u < 64 by omega) (show 64 < 2 ^ 31 by omega)), clN (show u < 2 ^ 31 by omega), Nat.add_sub_cancel, lg_cmp_eq]
      by_cases w : gB h 0 t 5 u = 0
      · simp only [if_pos w, if_neg (fun q => q w : ¬ ¬ gB h 0 t 5 u = 0)]
        exact value_push ih hb hA hn ht hm u 1 (by omega)
      · simp only [if_neg w, if_pos w]
        exact value_push ih hb hA hn ht hm u 0 (by omega)
    · simp only [if_neg (fun q => q h3 : ¬ ¬ g = 279), if_neg (fun q => z q.2 : ¬ (g = 279 ∧ 1 ≤ top)), if_pos (show nI top < 1 from nI_lt (a := top) (b := 1) (by omega) (by omega))]
      exact value_two ih hb hA hn ht hm g
  · simp only [if_pos h3, if_neg (fun q => h3 q.1 : ¬ (g = 279 ∧ 1 ≤ top))]
    exact value_two ih hb hA hn ht hm g
theorem value_body (t k : Nat) (hk : k < 4) (r : Int32 → Int32 → Hp → Option (Int64 × Hp)) (v3 v4 : Int32) (h : Hp) : f_X0_value_21 t (nI k) r v3 v4 h =
    (if (gA h 0 t 3 k) ≤ v4 then (if ¬ v3 = 1 then some ((-9223372036854775808 : Int64), h) else some (gB h 0 t 5 0, h))
    else grd (inb v4 64) (if ¬ gA h 0 t 0 v4.toNatClampNeg = 2 then (if gA h 0 t 0 v4.toNatClampNeg < 272 then restF t r h v4 (gA h 0 t 0 v4.toNatClampNeg) v3 else if 278 < gA h 0 t 0 v4.toNatClampNeg then restF t r h v4 (gA h 0 t 0 v4.toNatClampNeg) v3 else grd (inb (gA h 0 t 0 v4.toNatClampNeg - 272) 7) (pushF t r h v4 v3 (gB h 0 t 4 (gA h 0 t 0 v4.toNatClampNeg - 272).toNatClampNeg))) else grd (inb v4 64) (pushF t r h v4 v3 (gA h 0 t 1 v4.toNatClampNeg).toInt64))) := by
  unfold f_X0_value_21 restF twoF pushF
  simp only [jn_e, lt_e, grd_p (inb_n hk (show 4 < 2 ^ 31 by omega)), clN (show k < 2 ^ 31 by omega), grd_p (show inb 0 64 from inb_n (j := 0) (n := 64) (by omega) (by omega)), show (0 : Int32).toNatClampNeg = 0 from rfl]
theorem value_loop (t k : Nat) (hk : k < 4) (A : Nat → Nat → Int32) (b : Nat) (hb : b ≤ 64) (e3 : A 3 k = nI b) : ∀ m, VQ t A b m (iter (fun _ _ _ => none) (f_X0_value_21 t (nI k)) m) := by
  refine iter_inv (VQ t A b) (fun n i top h _ _ _ hm => absurd hm (Nat.not_lt_zero _)) fun m r ih => ?_
  intro n i top h hA hn ht hm
  rw [value_body t k hk]
  simp only [hA, e3]
  cases n with
  | zero =>
    simp only [if_pos (leN (show b ≤ i by omega) (show i < 2 ^ 31 by omega)), evC]
    refine ⟨h.2.2.2.2, ?_⟩
    by_cases z : top = 1
    · subst z
      rw [if_neg (fun q => q rfl), if_pos rfl]
    · rw [if_pos (show ¬ nI top = 1 from fun q => z ((nI_eq (by omega) (by omega)).mp (show nI top = nI 1 from q))), if_neg z]
  | succ n =>
    have hi : i < 64 := by omega
    simp only [if_neg (nleN (show i < b by omega) (show b < 2 ^ 31 by omega)), grd_p (inb_n hi (show 64 < 2 ^ 31 by omega)), clN (show i < 2 ^ 31 by omega)]
    show ∃ B', _ = some (pushM A (gB h 0 t 4) n i (gB h 0 t 5) (stC (A 0 i) (A 1 i) (gB h 0 t 4) top (gB h 0 t 5)), h.1, h.2.1, h.2.2.1, h.2.2.2.1, B')
    unfold stC
    by_cases h1 : A 0 i = 2
    · simp only [if_pos h1, if_neg (fun q => q h1 : ¬ ¬ A 0 i = 2)]
      exact value_push ih hb hA hn ht hm top _ (Nat.le_refl _)
    simp only [if_pos h1, if_neg h1]
    by_cases h2 : 272 ≤ A 0 i ∧ A 0 i ≤ 278
    · have a1 : (272 : Int) ≤ (A 0 i).toInt := Int32.le_iff_toInt_le.mp h2.1
      have a2 : (A 0 i).toInt ≤ 278 := Int32.le_iff_toInt_le.mp h2.2
      have a3 : (A 0 i - 272).toInt = (A 0 i).toInt - 272 := by
        have e : (272 : Int32).toInt = 272 := rfl
        rw [Kit.i32_sub (by rw [e]; omega) (by rw [e]; omega), e]
      have a4 : inb (A 0 i - 272) 7 := ⟨Kit.i32_nonneg.mpr (by omega), by show (A 0 i - 272).toInt.toNat < 7; omega⟩
      simp only [if_neg (Int32.not_lt.mpr h2.1), if_neg (Int32.not_lt.mpr h2.2), if_pos h2, grd_p a4]
      exact value_push ih hb hA hn ht hm top _ (Nat.le_refl _)
    by_cases h5 : A 0 i < 272
    · simp only [if_pos h5, if_neg h2]
      exact value_rest ih hb hA hn ht hm _
    · have h6 : 278 < A 0 i := Int32.not_le.mp fun q => h2 ⟨Int32.not_lt.mp h5, q⟩
      simp only [if_neg h5, if_pos h6, if_neg h2]
      exact value_rest ih hb hA hn ht hm _
/-- a law's value: what lawM says of the laws' arrays and the names that are laid -/
theorem cl_value {N : Nat} (hN : 1000 ≤ N) (h : Hp) (t : Nat) {k : Nat} (hk : k < 4) (hL : LOK (gA h 0 t)) : ∃ B', f_X0_value N h t (nI k) = some (lawM (gA h 0 t) k (gB h 0 t 4), h.1, h.2.1, h.2.2.1, h.2.2.2.1, B') := by
  obtain ⟨a, b, ea, eb, hab, hb⟩ := hL k hk
  unfold f_X0_value lawM
  simp only [cl_isTold h t hk, bind_s, nb2i0, isTM, ea, eb]
  by_cases z : nI a < nI b
  · simp only [if_pos z, decide_eq_true z, if_true, grd_p (inb_n hk (show 4 < 2 ^ 31 by omega)), clN (show k < 2 ^ 31 by omega), lt_e, ea, clN (show a < 2 ^ 31 by omega), clN (show b < 2 ^ 31 by omega)]
    obtain ⟨B', hB⟩ := value_loop t k hk (gA h 0 t) b hb eb N (b - a) a 0 h rfl (by omega) (by omega) (by omega)
    refine ⟨B', ?_⟩
    rw [show (0 : Int32) = nI 0 from rfl, hB]
    rw [evC_congr (gA h 0 t 0) (gA h 0 t 1) (nm := gB h 0 t 4) (nm' := gB h 0 t 4) (fun _ _ => rfl) (b - a) a 0 (gB h 0 t 5) (fun _ => 0) (fun i hi => absurd hi (Nat.not_lt_zero _))]
  · simp only [if_neg z, decide_eq_false z]
    exact ⟨h.2.2.2.2, rfl⟩

