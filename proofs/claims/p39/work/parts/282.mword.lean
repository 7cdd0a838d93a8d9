-- PURE: words read by the reference
def wln (k : Nat) : Nat := (wrdL.getD k []).length
def ofs (k : Nat) : Nat := ((wrdL.take k).flatMap (fun w => w ++ [32])).length
set_option maxRecDepth 100000 in
theorem of_1 : ∀ k, k < 26 → ofs (k + 1) = ofs k + (wln k + 1) ∧ ofs k + wln k < 131 ∧ wrdA.getD (ofs k + wln k) 0 = 32 := by decide
set_option maxRecDepth 100000 in
theorem of_2 : ∀ k, k < 26 → ∀ i, i < wln k → wrdA.getD (ofs k + i) 0 = (wrdL.getD k []).getD i 0 := by decide
set_option maxRecDepth 100000 in
theorem of_z : ofs 0 = 0 ∧ ofs 26 = 131 := by decide
theorem lst_get (f : Nat → Int32) : ∀ k p i, i < k → (lst f k p).getD i 0 = (f (p + i)).toNatClampNeg
  | 0, _, _, h => absurd h (Nat.not_lt_zero _)
  | k + 1, p, 0, _ => rfl
  | k + 1, p, i + 1, h => by
    show (lst f k (p + 1)).getD i 0 = _
    rw [lst_get f k (p + 1) i (by omega), show p + 1 + i = p + (i + 1) by omega]
theorem list_eq : ∀ l l' : List Nat, l.length = l'.length → (∀ i, i < l.length → l.getD i 0 = l'.getD i 0) → l = l'
  | [], [], _, _ => rfl
  | [], _ :: _, h, _ => by have h : 0 = _ + 1 := h; omega
  | _ :: _, [], h, _ => by have h : _ + 1 = 0 := h; omega
  | a :: l, b :: l', h, e => by
    have h : l.length + 1 = l'.length + 1 := h
    have e0 : a = b := e 0 (by show 0 < l.length + 1; omega)
    rw [e0, list_eq l l' (by omega) (fun i hi => e (i + 1) (by show i + 1 < l.length + 1; omega))]
theorem getD_in : ∀ (l : List Nat) (i : Nat), i < l.length → l.getD i 0 ∈ l
  | [], i, h => absurd h (Nat.not_lt_zero _)
  | a :: l, 0, _ => List.mem_cons_self ..
  | a :: l, i + 1, h => List.mem_cons_of_mem _ (getD_in l i (Nat.lt_of_succ_lt_succ h))
section WordM
variable {N : Nat} {g : Hp} {n : Nat}
theorem m_same {p o wl k : Nat} (r5 : Int32 → Int32 → Option Int32) (ho : o + wl ≤ 131) (hN : 1000 ≤ N) (b : Bool) (hp : b = true → p + wl ≤ 700) : ((b = true ∧ ∀ t, t < wl → gA g 8 0 1 (o + t) = gA g 8 0 0 (p + t)) → iter (fun _ _ => none) (f_X8_wordAt_57 g (nI p) r5 (nI k) (nI o) (nI wl)) N b 0 = some (nI k)) ∧ (¬ (b = true ∧ ∀ t, t < wl → gA g 8 0 1 (o + t) = gA g 8 0 0 (p + t)) → iter (fun _ _ => none) (f_X8_wordAt_57 g (nI p) r5 (nI k) (nI o) (nI wl)) N b 0 = r5 (nI (k + 1)) (nI (o + (wl + 1)))) := by
  have main : ∀ (b : Bool) (i : Nat), i ≤ wl → (b = true → p + wl ≤ 700) → ∀ m, wl < m + i → ((b = true ∧ ∀ t, i ≤ t → t < wl → gA g 8 0 1 (o + t) = gA g 8 0 0 (p + t)) → iter (fun _ _ => none) (f_X8_wordAt_57 g (nI p) r5 (nI k) (nI o) (nI wl)) m b (nI i) = some (nI k)) ∧ (¬ (b = true ∧ ∀ t, i ≤ t → t < wl → gA g 8 0 1 (o + t) = gA g 8 0 0 (p + t)) → iter (fun _ _ => none) (f_X8_wordAt_57 g (nI p) r5 (nI k) (nI o) (nI wl)) m b (nI i) = r5 (nI (k + 1)) (nI (o + (wl + 1)))) := by
    intro b i hi hp m hm
    refine iter_inv (bot := fun _ _ => none) (b := f_X8_wordAt_57 g (nI p) r5 (nI k) (nI o) (nI wl)) (fun m r => ∀ (b : Bool) (i : Nat), i ≤ wl → (b = true → p + wl ≤ 700) → wl < m + i → ((b = true ∧ ∀ t, i ≤ t → t < wl → gA g 8 0 1 (o + t) = gA g 8 0 0 (p + t)) → r b (nI i) = some (nI k)) ∧ (¬ (b = true ∧ ∀ t, i ≤ t → t < wl → gA g 8 0 1 (o + t) = gA g 8 0 0 (p + t)) → r b (nI i) = r5 (nI (k + 1)) (nI (o + (wl + 1))))) (fun b i h1 _ h2 => by omega) (fun m r ih b i hi hp hm => ?_) m b i hi hp hm
    unfold f_X8_wordAt_57
    simp only [jn_e, lt_e, nI_1, nI_add]
    cases b with
    | false =>
      refine ⟨fun q => Bool.noConfusion q.1, fun _ => ?_⟩
      by_cases z : i = wl
      · rw [if_pos (leN (by omega) (by omega)), if_pos (show b2i false = 0 from rfl)]
      · rw [if_neg (nleN (by omega) (by omega)), if_pos (show b2i false = 0 from rfl), if_pos (show b2i false = 0 from rfl)]
    | true =>
      have hp := hp rfl
      by_cases z : i = wl
      · rw [if_pos (leN (by omega) (by omega)), if_neg (show ¬ b2i true = 0 by decide)]
        exact ⟨fun _ => rfl, fun q => absurd ⟨rfl, fun t h1 h2 => by omega⟩ q⟩
      · rw [if_neg (nleN (by omega) (by omega)), if_neg (show ¬ b2i true = 0 by decide), grd_p (inb_n (show o + i < 131 by omega) (by omega)), grd_p (inb_n (show p + i < 700 by omega) (by omega)), clN (show o + i < 2 ^ 31 by omega), clN (show p + i < 2 ^ 31 by omega)]
        by_cases y : gA g 8 0 1 (o + i) = gA g 8 0 0 (p + i)
        · rw [if_neg (fun q => q y)]
          obtain ⟨j1, j2⟩ := ih true (i + 1) (by omega) (fun _ => hp) (by omega)
          refine ⟨fun q => j1 ⟨rfl, fun t h1 h2 => q.2 t (by omega) h2⟩, fun q => j2 (fun w => q ⟨rfl, fun t h1 h2 => ?_⟩)⟩
          by_cases x : t = i
          · rw [x]; exact y
          · exact w.2 t (by omega) h2
        · rw [if_pos y]
          obtain ⟨j1, j2⟩ := ih false (i + 1) (by omega) (fun q => Bool.noConfusion q) (by omega)
          exact ⟨fun q => absurd (q.2 i (Nat.le_refl _) (by omega)) y, fun _ => j2 (fun q => Bool.noConfusion q.1)⟩
  obtain ⟨a, c⟩ := main b 0 (Nat.zero_le _) hp N (by omega)
  exact ⟨fun q => a ⟨q.1, fun t _ h => q.2 t h⟩, fun q => c (fun w => q ⟨w.1, fun t h => w.2 t (Nat.zero_le _) h⟩)⟩
theorem m_wordAt (hN : 1000 ≤ N) (wd : WRD (gA g 8 0 1)) {p q : Nat} (hpq : p ≤ q) (hq : q ≤ 700) (hl : ∀ i, p ≤ i → i < q → isL (gA g 8 0 0 i) = true) : ∃ r, f_X8_wordAt N g (nI p) (nI q) = some r ∧ ((∃ k, IsW (lst (gA g 8 0 0) (q - p) p) k ∧ r = nI k) ∨ ((∀ k, ¬ IsW (lst (gA g 8 0 0) (q - p) p) k) ∧ r = -1)) := by
  obtain ⟨l, hll⟩ : ∃ l, l = lst (gA g 8 0 0) (q - p) p := ⟨_, rfl⟩
  have ll : l.length = q - p := by rw [hll, lst_len]
  rw [← hll]
  have eqv : ∀ k, k < 26 → (((decide (wln k = q - p) = true) ∧ ∀ t, t < wln k → gA g 8 0 1 (ofs k + t) = gA g 8 0 0 (p + t)) ↔ wrdL.getD k [] = l) := fun k hk => by
    obtain ⟨o1, o2, o3⟩ := of_1 k hk
    have ea : ∀ t, t < wln k → gA g 8 0 1 (ofs k + t) = nI ((wrdL.getD k []).getD t 0) := fun t ht => by rw [wd _ (by omega), of_2 k hk t ht]
    constructor
    · rintro ⟨b, c⟩
      have b := of_decide_eq_true b
      refine list_eq _ _ (by rw [ll]; exact b) (fun i hi => ?_)
      have hi : i < wln k := hi
      obtain ⟨x, hx, ex⟩ := isL_of (hl (p + i) (by omega) (by omega))
      have := c i hi
      rw [ea i hi, ex] at this
      have lt := (wrd_ok k hk).2
      have hm : (wrdL.getD k []).getD i 0 ∈ wrdL.getD k [] := getD_in _ _ hi
      have h1 := (lt _ hm).2
      have h2 := hx.2
      rw [hll, lst_get _ _ _ _ (by omega), ex, clN (by omega)]
      exact nI_inj (by omega) (by omega) this
    · intro e
      have b : wln k = q - p := by
        unfold wln
        rw [e, ll]
      refine ⟨decide_eq_true b, fun t ht => ?_⟩
      obtain ⟨x, hx, ex⟩ := isL_of (hl (p + t) (by omega) (by omega))
      have h2 := hx.2
      rw [ea t ht, e, hll, lst_get _ _ _ _ (by omega), ex, clN (by omega)]
  unfold f_X8_wordAt
  refine iter_inv (bot := fun _ _ => none) (b := f_X8_wordAt_5 N g (nI p) (nI q)) (fun m r => ∀ k, k ≤ 26 → 26 < m + k → (∀ j, j < k → ¬ IsW l j) → ∃ v, r (nI k) (nI (ofs k)) = some v ∧ ((∃ k, IsW l k ∧ v = nI k) ∨ ((∀ k, ¬ IsW l k) ∧ v = -1))) (fun k _ _ => by omega) (fun m r ih k hk hm no => ?_) N 0 (by omega) (by omega) (fun j hj => absurd hj (Nat.not_lt_zero _))
  unfold f_X8_wordAt_5
  by_cases z : k = 26
  · subst z
    rw [of_z.2, if_pos (show (131 : Int32) ≤ nI 131 by decide)]
    exact ⟨_, rfl, Or.inr ⟨fun j hj => no j hj.1 hj, rfl⟩⟩
  have hk : k < 26 := by omega
  obtain ⟨o1, o2, o3⟩ := of_1 k hk
  rw [if_neg (show ¬ (131 : Int32) ≤ nI (ofs k) from nleN (a := 131) (show ofs k < 131 by omega) (by omega))]
  refine iter_inv (bot := fun _ => none) (b := f_X8_wordAt_18 N g (nI p) (nI q) r (nI k) (nI (ofs k))) (fun m' r' => ∀ i, i ≤ wln k → wln k < m' + i → ∃ v, r' (nI i) = some v ∧ ((∃ k, IsW l k ∧ v = nI k) ∨ ((∀ k, ¬ IsW l k) ∧ v = -1))) (fun i _ _ => by omega) (fun m' r' ih' i hi hm' => ?_) N 0 (by omega) (by have := (wrd_ok k hk).1; have : wln k ≤ 6 := this; omega)
  unfold f_X8_wordAt_18
  simp only [jn_e, lt_e, nI_1, nI_add]
  rw [grd_p (inb_n (show ofs k + i < 131 by omega) (by omega)), clN (show ofs k + i < 2 ^ 31 by omega), wd _ (by omega)]
  by_cases y : i = wln k
  · subst y
    rw [o3, if_pos (show nI 32 = 32 from rfl), nI_sub hpq]
    have fin : ∀ b : Bool, b = decide (wln k = q - p) → ∃ v, iter (fun _ _ => none) (f_X8_wordAt_57 g (nI p) r (nI k) (nI (ofs k)) (nI (wln k))) N b 0 = some v ∧ ((∃ k, IsW l k ∧ v = nI k) ∨ ((∀ k, ¬ IsW l k) ∧ v = -1)) := fun b hb => by
      obtain ⟨s1, s2⟩ := m_same (g := g) (p := p) (k := k) r (show ofs k + wln k ≤ 131 by omega) hN b (fun q => by
        rw [hb] at q
        have := of_decide_eq_true q
        omega)
      by_cases x : wrdL.getD k [] = l
      · have := (eqv k hk).mpr x
        rw [← hb] at this
        exact ⟨_, s1 this, Or.inl ⟨k, ⟨hk, x⟩, rfl⟩⟩
      · have : ¬ (b = true ∧ ∀ t, t < wln k → gA g 8 0 1 (ofs k + t) = gA g 8 0 0 (p + t)) := fun w => x ((eqv k hk).mp (by rw [← hb]; exact w))
        rw [s2 this, ← o1]
        refine ih (k + 1) (by omega) (by omega) (fun j hj => ?_)
        by_cases xx : j = k
        · rw [xx]; exact fun w => x w.2
        · exact no j (by omega)
    have hw : wln k ≤ 6 := (wrd_ok k hk).1
    by_cases x : wln k = q - p
    · rw [if_neg (fun w => w (by rw [x]))]
      exact fin true (decide_eq_true x).symm
    · rw [if_pos (fun w => x (nI_inj (by omega) (by omega) w))]
      exact fin false (decide_eq_false x).symm
  · have hi' : i < wln k := by omega
    have hw : wln k ≤ 6 := (wrd_ok k hk).1
    have hm2 : (wrdL.getD k []).getD i 0 ∈ wrdL.getD k [] := getD_in _ _ hi'
    have lt := (wrd_ok k hk).2 _ hm2
    rw [of_2 k hk i hi', if_neg (fun w => by have := nI_inj (j := 32) (by have := lt.2; omega) (by omega) w; have := lt.1; omega)]
    exact ih' (i + 1) (by omega) (by omega)
theorem m_packed (hN : 1000 ≤ N) {p q : Nat} (hpq : p ≤ q) (hq : q ≤ 700) (h6 : q - p ≤ 6) (hl : ∀ i, p ≤ i → i < q → isL (gA g 8 0 0 i) = true) : f_X8_packed N g (nI p) (nI q) = some (nI (pckL (lst (gA g 8 0 0) (q - p) p) 6)) := by
  unfold f_X8_packed
  refine iter_inv (bot := fun _ _ => none) (b := f_X8_packed_5 g (nI p) (nI q)) (fun m r => ∀ i V, i ≤ 6 → 6 < m + i → V < 2 ^ (5 * i) → V * 2 ^ (5 * (6 - i)) + pckL (lst (gA g 8 0 0) (q - (p + i)) (p + i)) (6 - i) = pckL (lst (gA g 8 0 0) (q - p) p) 6 → r (nI V) (nI (p + i)) = some (nI (pckL (lst (gA g 8 0 0) (q - p) p) 6))) (fun i _ _ _ => by omega) (fun m r ih i V hi hm hV e => ?_) N 0 0 (by omega) (by omega) (by decide) (by rw [Nat.zero_mul, Nat.zero_add]; rfl)
  unfold f_X8_packed_5
  simp only [jn_e, lt_e, nI_1, show (6 : Int32) = nI 6 from rfl, nI_add]
  by_cases z : i = 6
  · subst z
    rw [if_pos (leN (by omega) (by omega)), ← e]
    have e1 : q - (p + 6) = 0 := by omega
    rw [e1]
    show _ = some (nI (V * 1 + 0))
    rw [Nat.mul_one]; rfl
  · have ej : 6 - i = (6 - (i + 1)) + 1 := by omega
    have ev : 5 * (6 - i) = 5 * (6 - (i + 1)) + 5 := by omega
    have hV2 : V < 2 ^ 25 := Nat.lt_of_lt_of_le hV (Nat.pow_le_pow_right (by omega) (by omega))
    have step : ∀ d, d < 32 → pckL (lst (gA g 8 0 0) (q - (p + i)) (p + i)) (6 - i) = d * 2 ^ (5 * (6 - (i + 1))) + pckL (lst (gA g 8 0 0) (q - (p + (i + 1))) (p + (i + 1))) (6 - (i + 1)) → r (nI V <<< (5 &&& 31) ||| nI d) (nI (p + i + 1)) = some (nI (pckL (lst (gA g 8 0 0) (q - p) p) 6)) := fun d hd ed => by
      have eo : V * 32 ||| d = V * 32 + d := by
        have := or_add (a := V) (b := d) (i := 5) hd
        rw [Nat.mul_comm V 32]
        exact this
      rw [nI_shl5 (by omega), nI_or, eo, Nat.add_assoc]
      refine ih (i + 1) (V * 32 + d) (by omega) (by omega) ?_ ?_
      · rw [show 5 * (i + 1) = 5 * i + 5 by omega, Nat.pow_add]
        omega
      · have e5 : V * 2 ^ (5 * (6 - i)) = V * 32 * 2 ^ (5 * (6 - (i + 1))) := by
          rw [ev, Nat.pow_add, Nat.mul_comm (2 ^ _) (2 ^ 5), ← Nat.mul_assoc]
        rw [← e, ed, e5, Nat.add_mul]
        omega
    rw [if_neg (nleN (by omega) (by omega))]
    by_cases y : q ≤ p + i
    · rw [if_pos (leN y (by omega))]
      refine step 0 (by omega) ?_
      have e1 : q - (p + i) = 0 := by omega
      have e2 : q - (p + (i + 1)) = 0 := by omega
      rw [e1, e2, ej]
      show 32 * 0 * _ = _ + pckL [] _
      cases 6 - (i + 1) with
      | zero => rfl
      | succ m => show _ = _ + 32 * 0 * m; rw [Nat.mul_zero, Nat.zero_mul, Nat.zero_mul, Nat.zero_mul]
    · obtain ⟨c, hc, ec⟩ := isL_of (hl (p + i) (by omega) (by omega))
      have hc1 := hc.1
      have hc2 := hc.2
      rw [if_neg (nleN (show p + i < q by omega) (by omega)), grd_p (inb_n (show p + i < 700 by omega) (by omega)), clN (show p + i < 2 ^ 31 by omega), ec, show (96 : Int32) = nI 96 from rfl, nI_sub (by omega)]
      refine step (c - 96) (by omega) ?_
      have e1 : q - (p + i) = (q - (p + (i + 1))) + 1 := by omega
      rw [e1, ej]
      show (_ - 96) * 2 ^ (5 * _) + pckL (lst _ _ (p + i + 1)) _ = _
      rw [ec, clN (by omega), Nat.add_assoc p i 1]
end WordM

