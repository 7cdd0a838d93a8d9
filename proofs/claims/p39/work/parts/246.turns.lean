-- PURE: who forks by turns, by the class
def czL (S : Str) : Nat → Str
  | 0 => S
  | j + 1 => upA (czL S j) 4 j 0
def faL (S : Str) (w : Nat) : Nat → Str
  | 0 => S
  | j + 1 => upA (faL S w j) 5 j (if j = w then 2 else 3)
theorem czL_i (S : Str) : ∀ j, (czL S j).2 = S.2
  | 0 => rfl
  | j + 1 => czL_i S j
theorem faL_i (S : Str) (w : Nat) : ∀ j, (faL S w j).2 = S.2
  | 0 => rfl
  | j + 1 => faL_i S w j
def tuS (T : Txt) (S : Str) (n i : Nat) : Nat → Str
  | 0 => czL S (nCr T)
  | k + 1 => passM T (faL (tuS T S n i k) (dg (nCr T) n i k) (nCr T))
theorem tuS_s (T : Txt) (S : Str) (n i k : Nat) : tuS T S n i (k + 1) = passM T (faL (tuS T S n i k) (dg (nCr T) n i k) (nCr T)) := rfl
theorem tuS_cg (T : Txt) (S : Str) (n : Nat) {i i' : Nat} : ∀ k, (∀ j, j < k → dg (nCr T) n i' j = dg (nCr T) n i j) → tuS T S n i' k = tuS T S n i k
  | 0, _ => rfl
  | k + 1, h => by rw [tuS_s, tuS_s, tuS_cg T S n k (fun j hj => h j (by omega)), h k (by omega)]
theorem tuS_16 (T : Txt) (S : Str) (n i : Nat) : ∀ k, (tuS T S n i k).2 16 = S.2 16
  | 0 => by show (czL S (nCr T)).2 16 = _; rw [czL_i]
  | k + 1 => by rw [tuS_s, (passM_same T _).1.2.2.2.2.2.2, faL_i]; exact tuS_16 T S n i k
section Turns
variable {N : Nat} {h g : Hp} {t o : Nat} {T : Txt} {S I : Str} {X : Xs}
theorem SOK.cz {n : Nat} (K : SOK T n S) : ∀ j, SOK T n (czL S j)
  | 0 => K
  | j + 1 => (SOK.cz K j).come
theorem SOK.fa {n : Nat} (K : SOK T n S) (w : Nat) : ∀ j, SOK T n (faL S w j)
  | 0 => K
  | j + 1 => (SOK.fa K w j).act0 (by
    by_cases z : j = w
    · rw [if_pos z]; exact Or.inr (Or.inr (Or.inl rfl))
    · rw [if_neg z]; exact Or.inr (Or.inr (Or.inr rfl)))
theorem tuS_ok (hT : TOK T) (K : SOK T 0 S) (h9 : (S.2 11).toInt ≤ 9999) (n i : Nat) : ∀ k : Nat, k ≤ 4 → SOK T 0 (tuS T S n i k) ∧ ((tuS T S n i k).2 11).toInt = (S.2 11).toInt + k
  | 0, _ => ⟨K.cz _, by show ((czL S (nCr T)).2 11).toInt = _; rw [czL_i]; omega⟩
  | k + 1, hk => by
    obtain ⟨a, b⟩ := tuS_ok hT K h9 n i k (by omega)
    have a' := a.fa (dg (nCr T) n i k) (nCr T)
    have h0 := K.2.2.2.1
    have z1 : (1 : Int32).toInt = 1 := rfl
    rw [tuS_s]
    refine ⟨a'.pass hT (by rw [faL_i]; omega), ?_⟩
    rw [(passM_same T _).2.1, faL_i, add_toInt (by omega), b]
    omega
/-- how unlike they forked, of the way i -/
def tuU (T : Txt) (S : Str) (n i : Nat) : Int32 := spM ((tuS T S n i n).1 7) (nCr T)
def tuB (T : Txt) (S : Str) (n : Nat) : Nat → Int32 × Int32 × Nat
  | 0 => (-1, 0, 0)
  | i + 1 => if (tuB T S n i).1 < (tuS T S n i n).2 12 ∨ ((tuS T S n i n).2 12 = (tuB T S n i).1 ∧ tuU T S n i < (tuB T S n i).2.1) then ((tuS T S n i n).2 12, tuU T S n i, i) else tuB T S n i
theorem tuB_s (T : Txt) (S : Str) (n i : Nat) : tuB T S n (i + 1) = if (tuB T S n i).1 < (tuS T S n i n).2 12 ∨ ((tuS T S n i n).2 12 = (tuB T S n i).1 ∧ tuU T S n i < (tuB T S n i).2.1) then ((tuS T S n i n).2 12, tuU T S n i, i) else tuB T S n i := rfl
def TurP (T : Txt) (S : Str) (n i : Nat) (g : Hp) : Prop := (∀ k, k < n → gA g 7 0 0 k = nI (dg (nCr T) n i k)) ∧ (0 < i → ∀ k, k < n → gA g 7 0 1 k = nI (dg (nCr T) n (tuB T S n i).2.2 k))
theorem cl_letFork (hN : 1000 ≤ N) (s : Sd g o t T S) (w : Nat) (hw : w < 4) : ∃ g', f_X3_letForkAlone N g o (nI w) = some g' ∧ Fo o g g' ∧ Sd g' o t T (faL S w (nCr T)) := by
  have hc4 := s.2.2.2.1.2.1.2
  unfold f_X3_letForkAlone
  refine iter_inv (bot := fun _ _ => none) (b := f_X3_letForkAlone_2 o (nI w)) (fun m r => ∀ j g2, j ≤ nCr T → nCr T < m + j → Fo o g g2 → Sd g2 o t T (faL S w j) → ∃ g', r (nI j) g2 = some g' ∧ Fo o g g' ∧ Sd g' o t T (faL S w (nCr T))) (fun j _ _ _ => by omega) (fun m r ih j g2 hj hm f d => ?_) N 0 g (by omega) (by omega) (Fo.rf o g) s
  have e12 : gI g2 5 t 12 = nI (nCr T) := by rw [← d.2.2.2.1.2.1.1, ← d.2.1]; rfl
  unfold f_X3_letForkAlone_2
  rw [d.1, onO_s, e12]
  by_cases z : nCr T = j
  · rw [← z, if_pos (leN (Nat.le_refl _) (by omega))]
    rw [← z] at d
    exact ⟨g2, rfl, f, d⟩
  · rw [if_neg (nleN (show j < nCr T by omega) (show nCr T < 2 ^ 31 by omega))]
    simp only [jn_e, lt_e, grd_p (inb_n (show j < 4 by omega) (show 4 < 2 ^ 31 by omega)), clN (show j < 2 ^ 31 by omega), nI_1]
    obtain ⟨f3, d3⟩ := d.row 5 j (if j = w then 2 else 3)
    have nx := ih (j + 1) _ (by omega) (by omega) (f.tr f3) d3
    by_cases y : j = w
    · rw [if_pos y] at nx
      rw [if_neg (show ¬ ¬ nI j = nI w from fun q => q (by rw [y]))]; exact nx
    · rw [if_neg y] at nx
      rw [if_pos (show ¬ nI j = nI w from fun q => y (nI_inj (by omega) (by omega) q))]; exact nx
theorem turn_in (hN : 1000 ≤ N) (h13 : gO h 7 0 13 = some t) (hT : TOK T) (hz : S.2 16 = 1) (K : SOK T 0 S) (h9 : (S.2 11).toInt ≤ 9999) {n i : Nat} (hc0 : 0 < nCr T) (hn : n ≤ 4) (r60 : Int32 → Int32 → Int32 → Int32 → Hp → Option (Int32 × Hp)) (R : Int32 × Hp → Prop)
    (out : ∀ q g, q ≤ n → Fr h g → (∀ k, k ≤ q → Sd g (3 + k) t T (tuS T S n (i + 1) k)) → TurP T S n (i + 1) g → ∃ x, r60 (tuB T S n (i + 1)).1 (tuB T S n (i + 1)).2.1 (nI q) (nI (i + 1)) g = some x ∧ R x) :
    ∀ m r, (∀ k g, k ≤ n → n < m + k → Fr h g → (∀ k', k' ≤ k → Sd g (3 + k') t T (tuS T S n i k')) → TurP T S n i g → ∃ x, r (nI k) g = some x ∧ R x) → ∀ k g, k ≤ n → n < m + 1 + k → Fr h g → (∀ k', k' ≤ k → Sd g (3 + k') t T (tuS T S n i k')) → TurP T S n i g → ∃ x, f_X7_findTurns_70 N (nI n) r60 (tuB T S n i).1 (tuB T S n i).2.1 (nI i) r (nI k) g = some x ∧ R x := by
  intro m r ih k g hk hm f sk w
  have hc4 := hT.2.1.2
  have t13 : ∀ {g : Hp}, Fr h g → gO g 7 0 13 = some t := fun f => (f.1 7 0 13 (Or.inl (by decide))).2.2.trans h13
  unfold f_X7_findTurns_70
  by_cases z : n = k
  · subst z
    rw [if_pos (leN (Nat.le_refl _) (by omega))]
    have dn := sk n (Nat.le_refl n)
    have e12 : ∀ {g' : Hp}, Sd g' (3 + n) t T (tuS T S n i n) → gI g' 5 t 12 = nI (nCr T) := fun d => by rw [← d.2.2.2.1.2.1.1, ← d.2.1]; rfl
    have ah : gI g 3 (3 + n) 12 = (tuS T S n i n).2 12 := dn.2.2.2.2.2.2.2 12 (by omega) (by omega)
    have au : spM (gA g 3 (3 + n) 7) (nCr T) = tuU T S n i := spM_cg (fun c hc => (dn.2.2.2.2.2.1 c hc).2.2.2.2.2)
    simp only [jn_e, lt_e, clN (show n < 2 ^ 31 by omega), grd_p (inb_n (show n < 7 by omega) (show 7 < 2 ^ 31 by omega)), ah, t13 f, onO_s, e12 dn, cl_spread hN g 3 (3 + n) 7 (show nCr T ≤ 4 from hc4) (by decide), bind_s, au, nI_1]
    have fin : ∀ g', W7 g g' → gA g' 7 0 0 = gA g 7 0 0 → (∀ k, k < n → gA g' 7 0 1 k = nI (dg (nCr T) n (tuB T S n (i + 1)).2.2 k)) → ∃ x, (onO (gO g' 7 0 13) fun o22 => bd2 (f_X7_nextWay N g' (nI n) 0 ((gI g' 5 o22 12) - 1)) fun v24 h23 => r60 (tuB T S n (i + 1)).1 (tuB T S n (i + 1)).2.1 v24 (nI (i + 1)) h23) = some x ∧ R x := by
      intro g' w' e0 e1
      obtain ⟨q, g2, e2, q1, -, w2, b1, b0, b3⟩ := cl_nextWay hN (b := nCr T) (l := 0) (i := i) (n := n) (h := g') hc0 (by omega) (by omega) (fun k hk => by rw [e0, Nat.zero_add]; exact w.1 k hk)
      have e2' : f_X7_nextWay N g' (nI n) 0 (nI (nCr T) - 1) = some (nI q, g2) := by rw [Nat.zero_add] at e2; exact e2
      rw [t13 (f.tr w'.fr), onO_s, e12 (w'.sd dn), e2', bd2_s]
      have ww := w'.tr w2
      refine out q g2 q1 (f.tr ww.fr) (fun k hk => ?_) ⟨fun k hk => by rw [b0 k hk, Nat.zero_add], fun _ k hk => by rw [b1]; exact e1 k hk⟩
      rw [tuS_cg T S n k (fun j hj => b3 j (by omega))]
      exact ww.sd (sk k (by omega))
    have cpy : (tuB T S n (i + 1)) = ((tuS T S n i n).2 12, tuU T S n i, i) → ∃ x, (grd ((0 ≤ (0 : Int32) ∧ 0 ≤ (0 : Int32) ∧ 0 ≤ nI n) ∧ (0 : Int32).toNatClampNeg + n ≤ 6 ∧ (0 : Int32).toNatClampNeg + n ≤ 6) <| onO (gO (sAf g 7 0 1 (va_cpy (gA g 7 0 0) (gA g 7 0 1) (0 : Int32).toNatClampNeg (0 : Int32).toNatClampNeg n)) 7 0 13) fun o22 => bd2 (f_X7_nextWay N (sAf g 7 0 1 (va_cpy (gA g 7 0 0) (gA g 7 0 1) (0 : Int32).toNatClampNeg (0 : Int32).toNatClampNeg n)) (nI n) 0 ((gI (sAf g 7 0 1 (va_cpy (gA g 7 0 0) (gA g 7 0 1) (0 : Int32).toNatClampNeg (0 : Int32).toNatClampNeg n)) 5 o22 12) - 1)) fun v24 h23 => r60 ((tuS T S n i n).2 12) (tuU T S n i) v24 (nI (i + 1)) h23) = some x ∧ R x := by
      intro ep
      rw [ep] at fin
      rw [grd_p (show ((0 : Int32) ≤ 0 ∧ (0 : Int32) ≤ 0 ∧ 0 ≤ nI n) ∧ (0 : Int32).toNatClampNeg + n ≤ 6 ∧ (0 : Int32).toNatClampNeg + n ≤ 6 from ⟨⟨by decide, by decide, leN (a := 0) (by omega) (by omega)⟩, by rw [z7.1]; omega, by rw [z7.1]; omega⟩)]
      refine fin _ (W7.af g 1 _) ?_ (fun k hk => ?_)
      · rw [af7, if_neg (by decide)]
      · rw [af7, if_pos rfl, z7.1, cpy_at _ _ hk]
        exact w.1 k hk
    have keep : (tuB T S n (i + 1)) = tuB T S n i → 0 < i → ∃ x, (onO (gO g 7 0 13) fun o22 => bd2 (f_X7_nextWay N g (nI n) 0 ((gI g 5 o22 12) - 1)) fun v24 h23 => r60 (tuB T S n i).1 (tuB T S n i).2.1 v24 (nI (i + 1)) h23) = some x ∧ R x := by
      intro ep hi
      rw [ep] at fin
      exact fin g (W7.rf g) rfl (w.2 hi)
    rw [t13 f, onO_s, e12 dn] at keep
    have hi0 : ¬ (tuB T S n i).1 < (tuS T S n i n).2 12 → 0 < i := fun q => by
      cases i with
      | zero =>
        refine absurd ?_ q
        have h0 := (tuS_ok hT K h9 n 0 n hn).1.2.2.2.2.2.2.1.1
        have z1 : (-1 : Int32).toInt = -1 := rfl
        show (-1 : Int32) < _
        exact Int32.lt_iff_toInt_lt.mpr (by omega)
      | succ i => omega
    by_cases y : (tuB T S n i).1 < (tuS T S n i n).2 12
    · rw [if_pos y]
      exact cpy (by rw [tuB_s, if_pos (Or.inl y)])
    rw [if_neg y]
    by_cases v : (tuS T S n i n).2 12 = (tuB T S n i).1
    · rw [if_neg (fun q => q v)]
      by_cases u : (tuB T S n i).2.1 ≤ tuU T S n i
      · rw [if_pos u]
        exact keep (by rw [tuB_s, if_neg (fun q => q.elim y (fun q => absurd q.2 (Int32.not_lt.mpr u)))]) (hi0 y)
      · rw [if_neg u]
        exact cpy (by rw [tuB_s, if_pos (Or.inr ⟨v, Int32.not_le.mp u⟩)])
    · rw [if_pos v]
      exact keep (by rw [tuB_s, if_neg (fun q => q.elim y (fun q => v q.1))]) (hi0 y)
  · rw [if_neg (nleN (show k < n by omega) (show n < 2 ^ 31 by omega))]
    have hd := dg_lt (b := nCr T) hc0 n i k
    obtain ⟨g1, e1, c1, d1⟩ := (sk k (Nat.le_refl k)).copyC (o := 3 + (k + 1)) (by omega) (by rw [tuS_16]; exact hz) (by omega)
    obtain ⟨g2, e2, f2, d2⟩ := cl_letFork hN d1 (dg (nCr T) n i k) (by omega)
    obtain ⟨g3, e3, f3, d3⟩ := d2.hour hN
    have cc := (c1.tr (f2.ch (by omega))).tr (f3.ch (by omega))
    have ew : gA g1 7 0 0 k = nI (dg (nCr T) n i k) := by rw [c1.2.2 0]; exact w.1 k (by omega)
    simp only [lt_e, nI_1, clN (show k < 2 ^ 31 by omega), clN (show k + 1 < 2 ^ 31 by omega), grd_p (inb_n (show k + 1 < 7 by omega) (show 7 < 2 ^ 31 by omega)), grd_p (inb_n (show k < 7 by omega) (show 7 < 2 ^ 31 by omega)), grd_p (inb_n (show k < 6 by omega) (show 6 < 2 ^ 31 by omega)), e1, bind_s, ew, e2, e3]
    refine ih (k + 1) g3 (by omega) (by omega) (f.tr cc.1) (fun k' hk' => ?_) ⟨fun j hj => by rw [cc.2.2]; exact w.1 j hj, fun hi j hj => by rw [cc.2.2]; exact w.2 hi j hj⟩
    by_cases y : k' = k + 1
    · rw [y]; exact d3
    · exact cc.2.1 _ _ (by omega) (sk k' (by omega))
end Turns

