-- PURE: how likely a gain is, by both
def chN (T : Txt) (S : Str) (seed : Int32) (n : Nat) : Nat → Int32
  | 0 => seed
  | i + 1 => (passG T (upI S 15 (chN T S seed n i)) n).2 15
def chC (T : Txt) (S : Str) (seed : Int32) (n c : Nat) (bound : Int32) : Nat → Nat
  | 0 => 0
  | i + 1 => if (passG T (upI S 15 (chN T S seed n i)) n).1 6 c < bound then chC T S seed n c bound i else chC T S seed n c bound i + 1
theorem chN_s (T : Txt) (S : Str) (seed : Int32) (n i : Nat) : chN T S seed n (i + 1) = (passG T (upI S 15 (chN T S seed n i)) n).2 15 := rfl
theorem chC_s (T : Txt) (S : Str) (seed : Int32) (n c : Nat) (bound : Int32) (i : Nat) : chC T S seed n c bound (i + 1) = if (passG T (upI S 15 (chN T S seed n i)) n).1 6 c < bound then chC T S seed n c bound i else chC T S seed n c bound i + 1 := rfl
def chaM (T : Txt) (S : Str) (seed n c bound : Int32) : Int32 := if (0 ≤ seed ∧ 1 ≤ n ∧ n ≤ 99) ∧ inC T c = true ∧ 0 ≤ bound ∧ bound ≤ 999999 then nI (chC T S seed n.toNatClampNeg c.toNatClampNeg bound 10) else -1
/-- as F8, but for what is drawn -/
def F9 (g g' : Hp) : Prop := K7 g g' ∧ (∀ k, kpI k = true → gI g' 8 0 k = gI g 8 0 k) ∧ (gL g' 8 0 87 = gL g 8 0 87 ∧ (N49 g → N49 g')) ∧ (∀ k, kpA k = true → gA g' 8 0 k = gA g 8 0 k) ∧ ∀ k i, 23 ≤ k → k ≤ 33 → i < hn k → gA g' 8 0 k i = gA g 8 0 k i
theorem F8.f9 {g g' : Hp} (f : F8 g g') : F9 g g' := ⟨f.1, f.2.1, ⟨f.2.2.1.2.1, f.2.2.1.2.2⟩, f.2.2.2.1, f.2.2.2.2⟩
theorem F9.tr {g g' g'' : Hp} (a : F9 g g') (b : F9 g' g'') : F9 g g'' := ⟨a.1.tr b.1, fun k q => (b.2.1 k q).trans (a.2.1 k q), ⟨b.2.2.1.1.trans a.2.2.1.1, fun q => b.2.2.1.2 (a.2.2.1.2 q)⟩, fun k q => (b.2.2.2.1 k q).trans (a.2.2.2.1 k q), fun k i q r s => (b.2.2.2.2 k i q r s).trans (a.2.2.2.2 k i q r s)⟩
theorem Gf.n49 {b : Nat} {g g' : Hp} (f : Gf b g g') (q : N49 g) : N49 g' := by
  unfold N49 gZ at q ⊢
  rw [f.2.1]
  exact q
theorem Gf.f9 {g g' : Hp} (f : Gf 1 g g') : F9 g g' := by
  refine ⟨f.1, fun k _ => f.2.1 k, ⟨f.2.2.1 87 (by decide), f.n49⟩, fun k hk => funext fun u => f.2.2.2 k u (fun q => ?_), fun k i h1 h2 h3 => f.2.2.2 k i (fun q => ?_)⟩
  · rw [q.1] at hk
    exact absurd hk (by decide)
  · rw [q.1, hn_v.1] at h3
    omega
theorem F9.l (g : Hp) (l : Int64) : F9 g (sL g 8 0 62 l) := ⟨fun c o k hc => ⟨rfl, if_neg (fun q => hc q.1), rfl, rfl⟩, fun _ _ => rfl, ⟨by rw [L_at, if_neg (by decide)], id⟩, fun _ _ => rfl, fun _ _ _ _ _ => rfl⟩
/-- what was drawn put back -/
theorem F9.fin {g g' : Hp} (f : F9 g g') : F8 g (sL g' 8 0 62 (gL g 8 0 62)) := by
  have h := f.tr (F9.l g' (gL g 8 0 62))
  exact ⟨h.1, h.2.1, ⟨by rw [L_at, if_pos rfl], h.2.2.1.1, h.2.2.1.2⟩, h.2.2.2.1, h.2.2.2.2⟩
theorem MT.f9 {g g' : Hp} {T : Txt} (m : MT g T) (f : F9 g g') : MT g' T := (f.fin.mt m).arr (g := sL g' 8 0 62 (gL g 8 0 62)) (fun _ _ _ => rfl) (fun _ _ => rfl)
theorem b8_1 (g : Hp) (l : Int64) (b : Nat) : (b8 (sL g 8 0 62 l) b).1 = (b8 g b).1 := by unfold b8; rfl
theorem b8_i (g : Hp) (b k : Nat) : (b8 g b).2 k = if k = 11 then gA g 8 0 33 b else if k = 12 then gA g 8 0 31 b else if k = 13 then gA g 8 0 32 b else if k = 14 then gI g 8 0 61 else if k = 15 then (gL g 8 0 62).toInt32 else if k = 16 then 1 else 0 := rfl
theorem b8_11 (g : Hp) (b : Nat) : (b8 g b).2 11 = gA g 8 0 33 b := by rw [b8_i, if_pos rfl]
theorem b8_12 (g : Hp) (b : Nat) : (b8 g b).2 12 = gA g 8 0 31 b := by rw [b8_i, if_neg (by decide), if_pos rfl]
theorem b8_13 (g : Hp) (b : Nat) : (b8 g b).2 13 = gA g 8 0 32 b := by rw [b8_i, if_neg (by decide), if_neg (by decide), if_pos rfl]
theorem b8_14 (g : Hp) (b : Nat) : (b8 g b).2 14 = gI g 8 0 61 := by rw [b8_i, if_neg (by decide), if_neg (by decide), if_neg (by decide), if_pos rfl]
theorem b8_15 (g : Hp) (b : Nat) : (b8 g b).2 15 = (gL g 8 0 62).toInt32 := by rw [b8_i, if_neg (by decide), if_neg (by decide), if_neg (by decide), if_neg (by decide), if_pos rfl]
theorem b8_16 (g : Hp) (b : Nat) : (b8 g b).2 16 = 1 := by rw [b8_i, if_neg (by decide), if_neg (by decide), if_neg (by decide), if_neg (by decide), if_neg (by decide), if_pos rfl]
theorem b8_l (T : Txt) (g : Hp) (l : Int64) : Sq T (b8 g 0) (upI (b8 (sL g 8 0 62 l) 0) 15 (gL g 8 0 62).toInt32) := by
  have e1 : (upI (b8 (sL g 8 0 62 l) 0) 15 (gL g 8 0 62).toInt32).1 = (b8 g 0).1 := b8_1 g l 0
  have e2 : ∀ k, 11 ≤ k → k ≤ 16 → (b8 g 0).2 k = (upI (b8 (sL g 8 0 62 l) 0) 15 (gL g 8 0 62).toInt32).2 k := fun k k1 k2 => by
    rcases (show k = 11 ∨ k = 12 ∨ k = 13 ∨ k = 14 ∨ k = 15 ∨ k = 16 by omega) with rfl | rfl | rfl | rfl | rfl | rfl
    · rw [upI_n _ _ (by decide), b8_11, b8_11]; rfl
    · rw [upI_n _ _ (by decide), b8_12, b8_12]; rfl
    · rw [upI_n _ _ (by decide), b8_13, b8_13]; rfl
    · rw [upI_n _ _ (by decide), b8_14, b8_14]; rfl
    · rw [upI_i, b8_15]
    · rw [upI_n _ _ (by decide), b8_16, b8_16]
  exact ⟨fun s _ => by rw [e1]; exact ⟨rfl, rfl⟩, fun c _ => by rw [e1]; exact ⟨rfl, rfl, rfl, rfl, rfl, rfl⟩, fun f _ => by rw [e1], e2⟩
theorem R8a.f9 {g g' : Hp} {T : Txt} {S : Str} (r : R8a g T S) (f : F9 g g') : R8a g' T (upI S 15 (gL g' 8 0 62).toInt32) := by
  obtain ⟨hT, R, X, q, h49⟩ := r
  refine ⟨hT, R, X.f9 f, ?_, f.2.2.1.2 h49⟩
  exact (b8_l T g' (gL g 8 0 62)).tr (((b8_F8 hT f.fin).tr q).upI 15 _)
section Chance
variable {N : Nat} {h g : Hp} {t b : Nat} {ru : Int32} {T : Txt} {S I : Str} {X : Xs}
theorem cl_chance (hN : 1000 ≤ N) (r : RC h t T S I X) (hz : S.2 16 = 1) (seed n c bound : Int32) : ∃ g, f_X7_chance N h seed n c bound = some (chaM T S seed n c bound, g) ∧ Fr h g := by
  have hT := r.1.2.2.2.2.1
  have hc4 := hT.2.1.2
  unfold f_X7_chance chaM
  simp only [jn_e, cl_isIn, cl_isCroft r.1.2.1 r.1.2.2.2.1, bind_s, b2i0, decide_eq_false_iff_not, Classical.not_not]
  by_cases z : seed < 0
  · rw [if_pos z, if_neg (fun q => absurd q.1.1 (Int32.not_le.mpr z))]; exact ⟨h, rfl, Fr.rf h⟩
  rw [if_neg z]
  by_cases w : 1 ≤ n ∧ n ≤ 99
  rotate_left
  · rw [if_pos w, if_neg (fun q => w q.1.2)]; exact ⟨h, rfl, Fr.rf h⟩
  rw [if_neg (fun q => q w)]
  cases hc : inC T c with
  | false => rw [if_pos rfl, if_neg (fun q => Bool.noConfusion q.2.1)]; exact ⟨h, rfl, Fr.rf h⟩
  | true =>
    rw [if_neg (fun q => Bool.noConfusion q)]
    by_cases y : 0 ≤ bound ∧ bound ≤ 999999
    rotate_left
    · rw [if_neg y, if_neg (fun q => y q.2.2)]; exact ⟨h, rfl, Fr.rf h⟩
    rw [if_pos y, if_pos (show (0 ≤ seed ∧ 1 ≤ n ∧ n ≤ 99) ∧ true = true ∧ 0 ≤ bound ∧ bound ≤ 999999 from ⟨⟨Int32.not_lt.mp z, w⟩, rfl, y⟩)]
    obtain ⟨i, hi, rfl⟩ := inC_of hT hc
    obtain ⟨k, hk, rfl⟩ := rngN (a := n) (m := 99) (by omega) (Int32.le_trans (by decide) w.1) w.2
    rw [grd_p (show inb 0 7 by decide), lt_e, show 3 + (0 : Int32).toNatClampNeg = 3 from rfl, clN (show i < 2 ^ 31 by omega), clN (show k < 2 ^ 31 by omega)]
    refine iter_inv (bot := fun _ _ _ _ => none) (b := f_X7_chance_53 N (nI k) (nI i) bound 3) (fun m q => ∀ j g, j ≤ 10 → 10 < m + j → Fr h g → ∃ g', q (nI (chC T S seed k i bound j)) (chN T S seed k j) (nI j) g = some (nI (chC T S seed k i bound 10), g') ∧ Fr h g') (fun j _ _ _ => by omega) (fun m q ih j g hj hm f => ?_) N 0 h (by omega) (by omega) (Fr.rf h)
    unfold f_X7_chance_53
    by_cases v : j = 10
    · subst v
      rw [if_pos (show (10 : Int32) ≤ nI 10 by decide)]
      exact ⟨g, rfl, f⟩
    · rw [if_neg (show ¬ (10 : Int32) ≤ nI j from nleN (a := 10) (show j < 10 by omega) (by omega))]
      obtain ⟨g1, e1, c1, d1⟩ := (f.rc r).sd.copyC (o := 3) (by decide) hz (by decide)
      obtain ⟨f2, d2⟩ := d1.num 15 (chN T S seed k j)
      obtain ⟨g3, e3, f3, d3⟩ := d2.gales hN (n := k) (by omega)
      have a15 : gI g3 3 3 15 = chN T S seed k (j + 1) := d3.2.2.2.2.2.2.2 15 (by omega) (by omega)
      have a6 : gA g3 3 3 6 i = (passG T (upI S 15 (chN T S seed k j)) k).1 6 i := (d3.2.2.2.2.2.1 i hi).2.2.2.2.1
      have nx := ih (j + 1) g3 (by omega) (by omega) (f.tr (c1.1.tr ((f2.tr f3).fr (by decide))))
      rw [chC_s] at nx
      rw [e1, bind_s, lt_e, e3, bind_s, lt_e, a15]
      simp only [jn_e, lt_e, grd_p (inb_n (show i < 4 by omega) (show 4 < 2 ^ 31 by omega)), clN (show i < 2 ^ 31 by omega), a6, nI_1]
      by_cases u : (passG T (upI S 15 (chN T S seed k j)) k).1 6 i < bound
      · rw [if_pos u] at nx
        rw [if_pos u]; exact nx
      · rw [if_neg u] at nx
        rw [if_neg u]; exact nx
theorem Sg.hour (hN : 1000 ≤ N) (hb : b < 2) (s : Sg g b ru T S) (K : SOK T 0 S) : ∃ g', f_X8_goOn N g (nI b) ru = some g' ∧ G8 b g g' ∧ Sg g' b ru T (passM T S) := by
  obtain ⟨g', e, f, d⟩ := s.1.hour hN hb K
  refine ⟨g', e, f, d, ?_⟩
  obtain ⟨S1, e1, B1, rfl⟩ := f
  rw [(passM_same T S).2.2]
  exact s.2
theorem passG_ok (hT : TOK T) (R : TR T) (K : SOK T 0 S) (hh : (S.2 11).toInt ≤ 4000000) : ∀ n : Nat, n ≤ 1000 → SOK T 0 (passG T S n) ∧ ((passG T S n).2 11).toInt = (S.2 11).toInt + n ∧ (passG T S n).2 14 = S.2 14 ∧ (passG T S n).2 16 = S.2 16
  | 0, _ => ⟨K, by show (S.2 11).toInt = _; omega, rfl, rfl⟩
  | n + 1, h => by
    obtain ⟨a, b, c, d⟩ := passG_ok hT R K hh n (by omega)
    have h0 := K.2.2.2.1
    have z1 : (1 : Int32).toInt = 1 := rfl
    have gi := (galeM_i T (passG T S n)).1
    have e11 := gi 11 (by decide)
    have pm := passM_same T (galeM T (passG T S n))
    rw [passG_s]
    refine ⟨(a.gale R).pass hT (by rw [e11]; omega), ?_, ?_, ?_⟩
    · rw [pm.2.1, e11, add_toInt (by omega), b]
      omega
    · rw [pm.1.2.2.2.2.2.1, gi 14 (by decide)]; exact c
    · rw [pm.1.2.2.2.2.2.2, gi 16 (by decide)]; exact d
theorem m_chanceT (hN : 1000 ≤ N) (hT : TOK T) (R : TR T) (K : SOK T 0 S) (hh : (S.2 11).toInt ≤ 4000000) {n c : Nat} (hn : n ≤ 99) (hc : c < nCr T) (bound : Int32) {q j : Nat} (r59 : Int32 → Int32 → Hp → Option (Int32 × Hp)) (P : Int32 × Hp → Prop) {g0 : Hp}
    (out : ∀ g', F9 g0 g' → gZ g' 8 0 64 = false → gL g' 8 0 62 = ((passG T S n).2 15).toInt64 → ∃ y, r59 (if (passG T S n).1 6 c < bound then nI q else nI (q + 1)) (nI (j + 1)) g' = some y ∧ P y) {g : Hp} (f : F9 g0 g) (p64 : gZ g 8 0 64 = false) (e61 : gI g 8 0 61 = S.2 14) (s : Sg g 1 (S.2 14) T S) : ∃ y, iter (fun _ _ => none) (f_X8_chance_73 N (nI n) (nI c) bound r59 (nI q) (nI j)) N 0 g = some y ∧ P y := by
  have hc4 := hT.2.1.2
  refine iter_inv (bot := fun _ _ => none) (b := f_X8_chance_73 N (nI n) (nI c) bound r59 (nI q) (nI j)) (fun m r => ∀ k g, k ≤ n → n < m + k → F9 g0 g → gZ g 8 0 64 = false → gI g 8 0 61 = S.2 14 → Sg g 1 (S.2 14) T (passG T S k) → ∃ y, r (nI k) g = some y ∧ P y) (fun k _ _ _ => by omega) (fun m r ih k g hk hm f p64 e61 s => ?_) N 0 g (by omega) (by omega) f p64 e61 s
  unfold f_X8_chance_73
  by_cases z : n = k
  · subst z
    rw [if_pos (leN (Nat.le_refl _) (by omega))]
    have h4 : (4 : Int32) + nI c = nI (4 + c) := nI_add 4 c
    have a4 : gA g 8 0 28 (4 + c) = (passG T S n).1 6 c := (s.1.2.2.2.1.2.1 c hc).2.2.2.2.1
    have o := out g f p64 s.2
    simp only [jn_e, lt_e, h4, clN (show 4 + c < 2 ^ 31 by omega), grd_p (inb_n (show 4 + c < 8 by omega) (show 8 < 2 ^ 31 by omega)), a4, nI_1]
    by_cases y : (passG T S n).1 6 c < bound
    · rw [if_pos y] at o
      rw [if_pos y, show nI q + b2i false = nI q from Int32.add_zero _]; exact o
    · rw [if_neg y] at o
      rw [if_neg y, show nI q + b2i true = nI (q + 1) from nI_1 q]; exact o
  · rw [if_neg (nleN (show k < n by omega) (show n < 2 ^ 31 by omega))]
    obtain ⟨g1, e1, f1, s1⟩ := m_gale hN (by decide) s
    have e1' : f_X8_gale N g 1 = some g1 := e1
    obtain ⟨g2, e2, f2, s2⟩ := s1.hour hN (by decide) ((passG_ok hT R K hh k (by omega)).1.gale R)
    have e2' : f_X8_goOn N g1 1 (S.2 14) = some g2 := e2
    rw [e1', bind_s, f1.2.1, e61, e2', bind_s, lt_e, nI_1]
    have i2 : ∀ k, k ≠ 49 → gI g2 8 0 k = gI g1 8 0 k := fun k hk => by
      obtain ⟨S1, e, B, rfl⟩ := f2
      exact M8_I g1 1 S1 e B k hk
    refine ih (k + 1) g2 (by omega) (by omega) (f.tr (f1.f9.tr f2.f8.f9)) ?_ ?_ s2
    · unfold gZ
      rw [i2 64 (by decide), f1.2.1]
      exact p64
    · rw [i2 61 (by decide), f1.2.1]; exact e61
theorem m_chance (hN : 1000 ≤ N) (r : R8a g T S) (K : SOK T 0 S) (hh : (S.2 11).toInt ≤ 4000000) (p64 : gZ g 8 0 64 = false) (seed n c bound : Int32) : ∃ g', f_X8_chance N g seed n c bound = some (chaM T S seed n c bound, g') ∧ F8 g g' ∧ gZ g' 8 0 64 = false := by
  have f0 : F8 g (sI g 8 0 2 0) := F8.i g 0 (by decide)
  have r0 := r.f8 f0
  have hT := r.1
  have hc4 := hT.2.1.2
  unfold f_X8_chance chaM
  simp only [jn_e, lt_e, m_isIn, m_isCroft r0.2.2.1.2.1, bind_s, b2i0, decide_eq_false_iff_not, Classical.not_not]
  by_cases z : seed < 0
  · rw [if_pos z, if_neg (fun q => absurd q.1.1 (Int32.not_le.mpr z))]; exact ⟨_, rfl, f0, p64⟩
  rw [if_neg z]
  by_cases w : 1 ≤ n ∧ n ≤ 99
  rotate_left
  · rw [if_pos w, if_neg (fun q => w q.1.2)]; exact ⟨_, rfl, f0, p64⟩
  rw [if_neg (fun q => q w)]
  cases hc : inC T c with
  | false => rw [if_pos rfl, if_neg (fun q => Bool.noConfusion q.2.1)]; exact ⟨_, rfl, f0, p64⟩
  | true =>
    rw [if_neg (fun q => Bool.noConfusion q)]
    by_cases y : 0 ≤ bound ∧ bound ≤ 999999
    rotate_left
    · rw [if_neg y, if_neg (fun q => y q.2.2)]; exact ⟨_, rfl, f0, p64⟩
    rw [if_pos y, if_pos (show (0 ≤ seed ∧ 1 ≤ n ∧ n ≤ 99) ∧ true = true ∧ 0 ≤ bound ∧ bound ≤ 999999 from ⟨⟨Int32.not_lt.mp z, w⟩, rfl, y⟩)]
    obtain ⟨i, hi, rfl⟩ := inC_of hT hc
    obtain ⟨k, hk, rfl⟩ := rngN (a := n) (m := 99) (by omega) (Int32.le_trans (by decide) w.1) w.2
    rw [clN (show i < 2 ^ 31 by omega), clN (show k < 2 ^ 31 by omega)]
    have eL : gL (sI g 8 0 2 0) 8 0 62 = gL g 8 0 62 := rfl
    rw [eL]
    refine (iter_inv (bot := fun _ _ _ => none) (b := f_X8_chance_59 N (nI k) (nI i) bound (gL g 8 0 62)) (fun m q => ∀ j g1, j ≤ 10 → 10 < m + j → F9 g g1 → gZ g1 8 0 64 = false → gL g1 8 0 62 = (chN T S seed k j).toInt64 → ∃ y, q (nI (chC T S seed k i bound j)) (nI j) g1 = some y ∧ (y.1 = nI (chC T S seed k i bound 10) ∧ F8 g y.2 ∧ gZ y.2 8 0 64 = false)) (fun j _ _ _ => by omega) (fun m q ih j g1 hj hm f z64 l => ?_) N 0 _ (by omega) (by omega) (f0.f9.tr (F9.l _ _)) p64 (by rw [L_at, if_pos rfl])).elim (fun y hy => ⟨y.2, by rw [← hy.2.1]; exact hy.1, hy.2.2⟩)
    unfold f_X8_chance_59
    by_cases v : j = 10
    · subst v
      rw [if_pos (show (10 : Int32) ≤ nI 10 by decide), lt_e]
      exact ⟨_, rfl, rfl, f.fin, z64⟩
    · rw [if_neg (show ¬ (10 : Int32) ≤ nI j from nleN (a := 10) (show j < 10 by omega) (by omega))]
      have r1 := r.f9 f
      have e32 : (gL g1 8 0 62).toInt32 = chN T S seed k j := by rw [l, Int32.toInt32_toInt64]
      rw [e32] at r1
      obtain ⟨g2, e2, f2, p2, s2, u2, r2⟩ := m_lay hN r1
      have s2' : Sg g2 1 ((upI S 15 (chN T S seed k j)).2 14) T (upI S 15 (chN T S seed k j)) := ⟨s2, by rw [f2.2.2.1.1, l, upI_i]⟩
      have nx := ih (j + 1)
      rw [chC_s] at nx
      rw [e2, bind_s]
      refine m_chanceT hN hT r.2.1 (K.num (k := 15) _ (by omega)) (show ((upI S 15 (chN T S seed k j)).2 11).toInt ≤ 4000000 from hh) hk hi bound q _ (fun g3 f3 z3 l3 => ?_) (f.tr f2.f9) p2.2.1 u2 s2'
      have o := nx g3 (by omega) (by omega) f3 z3 l3
      by_cases u : (passG T (upI S 15 (chN T S seed k j)) k).1 6 i < bound
      · rw [if_pos u] at o ⊢; exact o
      · rw [if_neg u] at o ⊢; exact o
end Chance
