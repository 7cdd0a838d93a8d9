-- PURE: words read, by both
theorem nI_or (a b : Nat) : nI a ||| nI b = nI (a ||| b) := Int32.toBitVec_inj.mp BitVec.ofNat_or.symm
theorem bv_shl {d s : Nat} (hd : d * 2 ^ s < 2 ^ 31) : (BitVec.ofNat 32 d) <<< s = BitVec.ofNat 32 (d * 2 ^ s) := by
  have h1 : d ≤ d * 2 ^ s := Nat.le_mul_of_pos_right d (Nat.pow_pos (by omega))
  refine BitVec.eq_of_toNat_eq ?_
  rw [BitVec.toNat_shiftLeft, BitVec.toNat_ofNat, BitVec.toNat_ofNat, Nat.shiftLeft_eq, Nat.mod_eq_of_lt (show d < 2 ^ 32 by omega)]
theorem nI_shl {d j : Nat} (hj : j < 6) (hd : d < 32) : nI d <<< (nI (25 - 5 * j) &&& 31) = nI (d * 2 ^ (25 - 5 * j)) := by
  refine Int32.toBitVec_inj.mp ?_
  rcases (show j = 0 ∨ j = 1 ∨ j = 2 ∨ j = 3 ∨ j = 4 ∨ j = 5 by omega) with rfl | rfl | rfl | rfl | rfl | rfl
  · exact bv_shl (d := d) (s := 25) (by omega)
  · exact bv_shl (d := d) (s := 20) (by omega)
  · exact bv_shl (d := d) (s := 15) (by omega)
  · exact bv_shl (d := d) (s := 10) (by omega)
  · exact bv_shl (d := d) (s := 5) (by omega)
  · exact bv_shl (d := d) (s := 0) (by omega)
theorem or_add {a b i : Nat} (h : b < 2 ^ i) : (2 ^ i * a) ||| b = 2 ^ i * a + b := (Nat.two_pow_add_eq_or_of_lt h a).symm
/-- the bytes from p on, k of them -/
def lst (f : Nat → Int32) : Nat → Nat → List Nat
  | 0, _ => []
  | k + 1, p => (f p).toNatClampNeg :: lst f k (p + 1)
theorem lst_len (f : Nat → Int32) : ∀ k p, (lst f k p).length = k
  | 0, _ => rfl
  | k + 1, p => by
    show (lst f k (p + 1)).length + 1 = _
    rw [lst_len f k]
def LTR (c : Nat) : Prop := 97 ≤ c ∧ c ≤ 122
theorem isL_of {b : Int32} (h : isL b = true) : ∃ c, LTR c ∧ b = nI c := by
  obtain ⟨h1, h2⟩ := of_decide_eq_true h
  obtain ⟨k, hk, rfl⟩ := rngN (a := b) (m := 122) (by omega) (Int32.le_trans (by decide) h1) h2
  refine ⟨k, ⟨?_, hk⟩, rfl⟩
  refine Decidable.byContradiction fun w => ?_
  exact nleN (a := 97) (show k < 97 by omega) (by omega) h1
theorem lst_ltr {f : Nat → Int32} : ∀ k p, (∀ i, p ≤ i → i < p + k → isL (f i) = true) → ∀ c, c ∈ lst f k p → LTR c
  | 0, _, _, c, hc => absurd hc (List.not_mem_nil)
  | k + 1, p, h, c, hc => by
    rcases List.mem_cons.mp hc with rfl | hc
    · obtain ⟨c, hl, e⟩ := isL_of (h p (by omega) (by omega))
      have := hl.2
      rw [e, clN (by omega)]; exact hl
    · exact lst_ltr k (p + 1) (fun i h1 h2 => h i (by omega) (by omega)) c hc
theorem rnE_in (P : Int32 → Bool) (f : Nat → Int32) : ∀ k p i, p ≤ i → i < rnE P f k p → P (f i) = true
  | 0, p, i, h1, h2 => by
    have : i < p := h2
    omega
  | k + 1, p, i, h1, h2 => by
    rw [rnE_s] at h2
    by_cases z : P (f p) = true
    · rw [if_pos z] at h2
      by_cases y : i = p
      · rw [y]; exact z
      · exact rnE_in P f k (p + 1) i (by omega) h2
    · rw [if_neg z] at h2
      omega
theorem pckL_lt : ∀ (l : List Nat) (n : Nat), (∀ c, c ∈ l → LTR c) → pckL l n < 2 ^ (5 * n)
  | [], 0, _ => by decide
  | _ :: _, 0, _ => by show 0 < _; exact Nat.pow_pos (by omega)
  | [], n + 1, _ => by
    show 32 * 0 * n < _
    rw [Nat.mul_zero, Nat.zero_mul]
    exact Nat.pow_pos (by omega)
  | c :: l, n + 1, h => by
    have i := pckL_lt l n (fun d hd => h d (List.mem_cons_of_mem _ hd))
    have hc := h c (List.mem_cons_self ..)
    show (c - 96) * 2 ^ (5 * n) + pckL l n < _
    have e : 2 ^ (5 * (n + 1)) = 32 * 2 ^ (5 * n) := by rw [show 5 * (n + 1) = 5 + 5 * n by omega, Nat.pow_add]
    rw [e]
    have h1 : (c - 96) * 2 ^ (5 * n) ≤ 26 * 2 ^ (5 * n) := Nat.mul_le_mul_right _ (by have := hc.2; omega)
    omega
theorem pckL_inj : ∀ (n : Nat) (l l' : List Nat), (∀ c, c ∈ l → LTR c) → (∀ c, c ∈ l' → LTR c) → l.length ≤ n → l'.length ≤ n → pckL l n = pckL l' n → l = l'
  | 0, l, l', _, _, h1, h2, _ => by
    rw [List.length_eq_zero_iff.mp (Nat.le_zero.mp h1), List.length_eq_zero_iff.mp (Nat.le_zero.mp h2)]
  | n + 1, [], [], _, _, _, _, _ => rfl
  | n + 1, [], c :: l, _, h, _, _, e => by
    exfalso
    have e : 32 * 0 * n = (c - 96) * 2 ^ (5 * n) + pckL l n := e
    have hc := h c (List.mem_cons_self ..)
    have p0 : 0 < 2 ^ (5 * n) := Nat.pow_pos (by omega)
    have : 1 * 2 ^ (5 * n) ≤ (c - 96) * 2 ^ (5 * n) := Nat.mul_le_mul_right _ (by have := hc.1; omega)
    rw [Nat.mul_zero, Nat.zero_mul] at e
    omega
  | n + 1, c :: l, [], h, _, _, _, e => by
    exfalso
    have e : (c - 96) * 2 ^ (5 * n) + pckL l n = 32 * 0 * n := e
    have hc := h c (List.mem_cons_self ..)
    have p0 : 0 < 2 ^ (5 * n) := Nat.pow_pos (by omega)
    have : 1 * 2 ^ (5 * n) ≤ (c - 96) * 2 ^ (5 * n) := Nat.mul_le_mul_right _ (by have := hc.1; omega)
    rw [Nat.mul_zero, Nat.zero_mul] at e
    omega
  | n + 1, c :: l, c' :: l', h, h', h1, h2, e => by
    have e : (c - 96) * 2 ^ (5 * n) + pckL l n = (c' - 96) * 2 ^ (5 * n) + pckL l' n := e
    have b1 := pckL_lt l n (fun d hd => h d (List.mem_cons_of_mem _ hd))
    have b2 := pckL_lt l' n (fun d hd => h' d (List.mem_cons_of_mem _ hd))
    have hc := h c (List.mem_cons_self ..)
    have hc' := h' c' (List.mem_cons_self ..)
    have l1 : (c :: l).length = l.length + 1 := rfl
    have l2 : (c' :: l').length = l'.length + 1 := rfl
    have p0 : 0 < 2 ^ (5 * n) := Nat.pow_pos (by omega)
    have ed : c - 96 = c' - 96 := by
      have d1 : ((c - 96) * 2 ^ (5 * n) + pckL l n) / 2 ^ (5 * n) = c - 96 := by
        rw [Nat.add_comm, Nat.add_mul_div_right _ _ p0, Nat.div_eq_of_lt b1, Nat.zero_add]
      have d2 : ((c' - 96) * 2 ^ (5 * n) + pckL l' n) / 2 ^ (5 * n) = c' - 96 := by
        rw [Nat.add_comm, Nat.add_mul_div_right _ _ p0, Nat.div_eq_of_lt b2, Nat.zero_add]
      rw [← d1, e, d2]
    have ec : c = c' := by have := hc.1; have := hc'.1; omega
    rw [ed] at e
    rw [ec, pckL_inj n l l' (fun d hd => h d (List.mem_cons_of_mem _ hd)) (fun d hd => h' d (List.mem_cons_of_mem _ hd)) (by omega) (by omega) (by omega)]
/-- the letters that the class packs: k bytes more, from p on, j packed already -/
def clL (f : Nat → Int32) : Nat → Nat → Nat → Int32 → Int32
  | 0, _, _, v => v
  | k + 1, p, j, v => if isL (f p) = true then clL f k (p + 1) (j + 1) (if j < 6 then v ||| (((f p - 97) + 1) <<< (nI (25 - 5 * j) &&& 31)) else v) else v
theorem clL_s (f : Nat → Int32) (k p j : Nat) (v : Int32) : clL f (k + 1) p j v = if isL (f p) = true then clL f k (p + 1) (j + 1) (if j < 6 then v ||| (((f p - 97) + 1) <<< (nI (25 - 5 * j) &&& 31)) else v) else v := rfl
theorem clL_val (f : Nat → Int32) : ∀ k p j W, (rnE isL f k p - p) + j ≤ 6 → clL f k p j (nI (2 ^ (5 * (6 - j)) * W)) = nI (2 ^ (5 * (6 - j)) * W + pckL (lst f (rnE isL f k p - p) p) (6 - j))
  | 0, p, j, W, h => by
    have e : rnE isL f 0 p - p = 0 := Nat.sub_self p
    rw [e]
    show _ = nI (_ + pckL [] _)
    cases 6 - j with
    | zero => rfl
    | succ m => show _ = nI (_ + 32 * 0 * m); rw [Nat.mul_zero, Nat.zero_mul]; rfl
  | k + 1, p, j, W, h => by
    rw [clL_s]
    rw [rnE_s] at h ⊢
    by_cases z : isL (f p) = true
    · rw [if_pos z] at h
      simp only [if_pos z]
      have le := (rnE_le isL f k (p + 1)).1
      have h6 : j < 6 := by omega
      obtain ⟨c, hc, e⟩ := isL_of z
      have hc1 := hc.1
      have hc2 := hc.2
      have ex1 : (f p - 97) + 1 = nI (c - 96) := by
        rw [e, show (97 : Int32) = nI 97 from rfl, nI_sub hc1, nI_1]
        congr 1
        omega
      have ev : 5 * (6 - j) = 5 * (6 - (j + 1)) + 5 := by omega
      have es : 25 - 5 * j = 5 * (6 - (j + 1)) := by omega
      have el : rnE isL f k (p + 1) - p = (rnE isL f k (p + 1) - (p + 1)) + 1 := by omega
      have lt : (c - 96) * 2 ^ (25 - 5 * j) < 2 ^ (5 * (6 - j)) := by
        rw [ev, es, Nat.pow_add, Nat.mul_comm]
        exact Nat.mul_lt_mul_of_pos_left (show c - 96 < 2 ^ 5 by omega) (Nat.pow_pos (by omega))
      rw [if_pos h6, ex1, nI_shl h6 (by omega), nI_or, or_add lt, el]
      have e2 : 2 ^ (5 * (6 - j)) * W + (c - 96) * 2 ^ (25 - 5 * j) = 2 ^ (5 * (6 - (j + 1))) * (2 ^ 5 * W + (c - 96)) := by
        rw [ev, es, Nat.pow_add, Nat.mul_add, Nat.mul_assoc, Nat.mul_comm (c - 96)]
      rw [e2, clL_val f k (p + 1) (j + 1) _ (by omega), ← e2]
      congr 1
      have ej : 6 - j = (6 - (j + 1)) + 1 := by omega
      show _ = _ + pckL ((f p).toNatClampNeg :: lst f _ (p + 1)) (6 - j)
      rw [ej]
      show _ = _ + ((_ - 96) * 2 ^ (5 * (6 - (j + 1))) + _)
      rw [e, clN (by omega), ← ej, es]
      omega
    · rw [if_neg z] at h
      simp only [if_neg z]
      rw [Nat.sub_self]
      show _ = nI (_ + pckL [] _)
      cases 6 - j with
      | zero => rfl
      | succ m => show _ = nI (_ + 32 * 0 * m); rw [Nat.mul_zero, Nat.zero_mul]; rfl
theorem clL_all (f : Nat → Int32) (k p : Nat) (h : rnE isL f k p - p ≤ 6) : clL f k p 0 0 = nI (pckL (lst f (rnE isL f k p - p) p) 6) := by
  have := clL_val f k p 0 0 (by omega)
  rw [Nat.mul_zero, Nat.zero_add] at this
  exact this
theorem wrd_ok : ∀ k, k < 26 → (wrdL.getD k []).length ≤ 6 ∧ ∀ c, c ∈ wrdL.getD k [] → LTR c := by
  have h : ∀ k, k < 26 → (wrdL.getD k []).length ≤ 6 ∧ (wrdL.getD k []).all (fun c => decide (97 ≤ c) && decide (c ≤ 122)) = true := by decide
  intro k hk
  refine ⟨(h k hk).1, fun c hc => ?_⟩
  have := List.all_eq_true.mp (h k hk).2 c hc
  rw [Bool.and_eq_true] at this
  exact ⟨of_decide_eq_true this.1, of_decide_eq_true this.2⟩
theorem cwd_onto : ∀ w, w < 26 → ∃ k, k < 26 ∧ cwd k = w := by decide
theorem cwd_lt : ∀ k, k < 26 → cwd k < 26 := by decide
/-- which word it is -/
def IsW (l : List Nat) (k : Nat) : Prop := k < 26 ∧ wrdL.getD k [] = l
section Word
variable {N : Nat} {h g : Hp} {n : Nat}
theorem cl_lookup (hN : 1000 ≤ N) (h : Hp) (sp : SPL (gA h 4 0 1)) (l : List Nat) (hl : l.length ≤ 6) (lt : ∀ c, c ∈ l → LTR c) (e8 : gI h 4 0 8 = nI (pckL l 6)) (e6 : gI h 4 0 6 = 3) : ∃ g, iter (fun _ _ => none) f_X4_readWord_106 N 0 h = some g ∧ T4 h g ∧ gI g 4 0 4 = gI h 4 0 4 ∧ gI g 4 0 5 = gI h 4 0 5 ∧ gI g 4 0 8 = gI h 4 0 8 ∧ ((∃ k, IsW l k ∧ gI g 4 0 6 = nI (256 + cwd k)) ∨ ((∀ k, ¬ IsW l k) ∧ gI g 4 0 6 = 3)) := by
  have eqv : ∀ k, k < 26 → (gA h 4 0 1 (cwd k) = gI h 4 0 8 ↔ wrdL.getD k [] = l) := fun k hk => by
    obtain ⟨w1, w2⟩ := wrd_ok k hk
    rw [sp k hk, e8]
    refine ⟨fun q => ?_, fun q => by rw [q]⟩
    have b1 := pckL_lt _ 6 w2
    have b2 := pckL_lt _ 6 lt
    exact pckL_inj 6 _ _ w2 lt w1 hl (nI_inj (by omega) (by omega) q)
  refine iter_inv (bot := fun _ _ => none) (b := f_X4_readWord_106) (fun m r => ∀ w g, w ≤ 26 → 26 < m + w → T4 h g → gI g 4 0 4 = gI h 4 0 4 → gI g 4 0 5 = gI h 4 0 5 → gI g 4 0 8 = gI h 4 0 8 → ((∃ k, IsW l k ∧ gI g 4 0 6 = nI (256 + cwd k)) ∨ ((∀ u, u < w → ¬ gA h 4 0 1 u = gI h 4 0 8) ∧ gI g 4 0 6 = 3)) → ∃ g', r (nI w) g = some g' ∧ T4 h g' ∧ gI g' 4 0 4 = gI h 4 0 4 ∧ gI g' 4 0 5 = gI h 4 0 5 ∧ gI g' 4 0 8 = gI h 4 0 8 ∧ ((∃ k, IsW l k ∧ gI g' 4 0 6 = nI (256 + cwd k)) ∨ ((∀ k, ¬ IsW l k) ∧ gI g' 4 0 6 = 3))) (fun w _ _ _ => by omega) (fun m r ih w g hw hm f e4 e5 e8' inv => ?_) N 0 h (by omega) (by omega) (T4.rf h) rfl rfl rfl (Or.inr ⟨fun u hu => absurd hu (Nat.not_lt_zero _), e6⟩)
  unfold f_X4_readWord_106
  by_cases z : w = 26
  · subst z
    rw [if_pos (show (26 : Int32) ≤ nI 26 by decide)]
    refine ⟨g, rfl, f, e4, e5, e8', ?_⟩
    rcases inv with a | ⟨a, b⟩
    · exact Or.inl a
    · exact Or.inr ⟨fun k hk => a (cwd k) (cwd_lt k hk.1) ((eqv k hk.1).mpr hk.2), b⟩
  · have fa : gA g 4 0 1 = gA h 4 0 1 := f.2.2.2 4 0 1
    rw [if_neg (show ¬ (26 : Int32) ≤ nI w from nleN (a := 26) (show w < 26 by omega) (by omega)), grd_p (inb_n (show w < 26 by omega) (by omega)), jn_e, e8', fa]
    simp only [clN (show w < 2 ^ 31 by omega), lt_e, nI_1]
    by_cases y : gA h 4 0 1 w = gI h 4 0 8
    · rw [if_neg (fun q => q y)]
      obtain ⟨k, hk, ek⟩ := cwd_onto w (by omega)
      refine ih (w + 1) _ (by omega) (by omega) (f.tr (T4.i g 6 _ (by omega))) ?_ ?_ ?_ (Or.inl ⟨k, ⟨hk, (eqv k hk).mp (by rw [ek]; exact y)⟩, ?_⟩)
      · rw [I4_at, if_neg (by decide), e4]
      · rw [I4_at, if_neg (by decide), e5]
      · rw [I4_at, if_neg (by decide), e8']
      · rw [I4_at, if_pos rfl, ek, show (256 : Int32) = nI 256 from rfl, nI_add]
    · rw [if_pos y]
      refine ih (w + 1) g (by omega) (by omega) f e4 e5 e8' ?_
      rcases inv with a | ⟨a, b⟩
      · exact Or.inl a
      · refine Or.inr ⟨fun u hu => ?_, b⟩
        by_cases x : u = w
        · rw [x]; exact y
        · exact a u (by omega)
/-- the shift that goes down -/
def shV (j : Nat) : Int32 := Int32.ofInt (25 - 5 * (j : Int))
theorem shV_s (j : Nat) : shV j + -5 = shV (j + 1) := by
  unfold shV
  rw [show (-5 : Int32) = Int32.ofInt (-5) by decide, ← Int32.ofInt_add]
  congr 1
  omega
theorem shV_n {j : Nat} (h : j < 6) : shV j = nI (25 - 5 * j) := by
  rcases (show j = 0 ∨ j = 1 ∨ j = 2 ∨ j = 3 ∨ j = 4 ∨ j = 5 by omega) with rfl | rfl | rfl | rfl | rfl | rfl <;> decide
theorem shV_neg {j : Nat} (hj : j ≤ 700) : shV j < 0 ↔ 6 ≤ j := by
  have e : (shV j).toInt = 25 - 5 * (j : Int) := Int32.toInt_ofInt_of_le (by show -(2:Int)^31 ≤ _; omega) (by show _ < (2:Int)^31; omega)
  rw [Int32.lt_iff_toInt_lt, e, show (0 : Int32).toInt = 0 by decide]
  omega
theorem cl_readWord (hN : 1000 ≤ N) (e3 : gI h 4 0 3 = nI n) (hn : n ≤ 700) (sp : SPL (gA h 4 0 1)) {p : Nat} (e4 : gI h 4 0 4 = nI p) (e5 : gI h 4 0 5 = nI p) (hp : p ≤ n) : ∃ g, f_X4_readWord N h = some g ∧ T4 h g ∧ gI g 4 0 4 = nI (rnE isL (gA h 4 0 0) (n - p) p) ∧ gI g 4 0 5 = nI p ∧ ((6 < rnE isL (gA h 4 0 0) (n - p) p - p ∧ gI g 4 0 6 = 1) ∨ (rnE isL (gA h 4 0 0) (n - p) p - p ≤ 6 ∧ gI g 4 0 8 = nI (pckL (lst (gA h 4 0 0) (rnE isL (gA h 4 0 0) (n - p) p - p) p) 6) ∧ ((∃ k, IsW (lst (gA h 4 0 0) (rnE isL (gA h 4 0 0) (n - p) p - p) p) k ∧ gI g 4 0 6 = nI (256 + cwd k)) ∨ ((∀ k, ¬ IsW (lst (gA h 4 0 0) (rnE isL (gA h 4 0 0) (n - p) p - p) p) k) ∧ gI g 4 0 6 = 3)))) := by
  obtain ⟨f, hf⟩ : ∃ f, f = gA h 4 0 0 := ⟨_, rfl⟩
  obtain ⟨q, hq⟩ : ∃ q, q = rnE isL f (n - p) p := ⟨_, rfl⟩
  have qle : q ≤ n := by have := (rnE_le isL f (n - p) p).2; omega
  have pq : p ≤ q := by rw [hq]; exact (rnE_le isL f (n - p) p).1
  rw [← hf, ← hq]
  unfold f_X4_readWord
  rw [lt_e]
  have s0 : (25 : Int32) = shV 0 := by decide
  rw [s0]
  refine iter_inv (bot := fun _ _ => none) (b := f_X4_readWord_8 N) (fun m r => ∀ j g, p + j ≤ n → n < m + (p + j) → T4 h g → gI g 4 0 4 = nI (p + j) → gI g 4 0 5 = nI p → rnE isL f (n - (p + j)) (p + j) = q → clL f (n - (p + j)) (p + j) j (gI g 4 0 8) = clL f (n - p) p 0 0 → ∃ g', r (shV j) g = some g' ∧ T4 h g' ∧ gI g' 4 0 4 = nI q ∧ gI g' 4 0 5 = nI p ∧ ((6 < q - p ∧ gI g' 4 0 6 = 1) ∨ (q - p ≤ 6 ∧ gI g' 4 0 8 = nI (pckL (lst f (q - p) p) 6) ∧ ((∃ k, IsW (lst f (q - p) p) k ∧ gI g' 4 0 6 = nI (256 + cwd k)) ∨ ((∀ k, ¬ IsW (lst f (q - p) p) k) ∧ gI g' 4 0 6 = 3))))) (fun j g _ _ => by omega) (fun m r ih j g hj hm fr e4 e5 er ec => ?_) N 0 _ (by omega) (by omega) (T4.i h 8 0 (by omega)) ?_ ?_ hq.symm ?_
  · have f3 : gI g 4 0 3 = nI n := (fr.2.2.1 4 0 3 (by omega)).trans e3
    have fa : gA g 4 0 0 = f := (fr.2.2.2 4 0 0).trans hf.symm
    have fb : gA g 4 0 1 = gA h 4 0 1 := fr.2.2.2 4 0 1
    have fin : q = p + j → gI g 4 0 8 = clL f (n - p) p 0 0 → ∃ g', (if gI g 4 0 4 - gI g 4 0 5 ≤ 6 then iter (fun _ _ => none) f_X4_readWord_106 N 0 (sI g 4 0 6 3) else some (sI g 4 0 6 1)) = some g' ∧ T4 h g' ∧ gI g' 4 0 4 = nI q ∧ gI g' 4 0 5 = nI p ∧ ((6 < q - p ∧ gI g' 4 0 6 = 1) ∨ (q - p ≤ 6 ∧ gI g' 4 0 8 = nI (pckL (lst f (q - p) p) 6) ∧ ((∃ k, IsW (lst f (q - p) p) k ∧ gI g' 4 0 6 = nI (256 + cwd k)) ∨ ((∀ k, ¬ IsW (lst f (q - p) p) k) ∧ gI g' 4 0 6 = 3)))) := fun qe ec => by
      rw [e4, e5, nI_sub (by omega), show p + j - p = q - p by omega]
      by_cases z : q - p ≤ 6
      · rw [if_pos (show nI (q - p) ≤ (6 : Int32) from leN (b := 6) z (by omega))]
        have cv := clL_all f (n - p) p (by rw [← hq]; exact z)
        rw [← hq] at cv
        obtain ⟨g', b1, b2, b3, b4, b5, b6⟩ := cl_lookup hN (sI g 4 0 6 3) (by rw [show gA (sI g 4 0 6 3) 4 0 1 = gA g 4 0 1 from rfl, fb]; exact sp) (lst f (q - p) p) (by rw [lst_len]; exact z) (lst_ltr _ _ (fun i h1 h2 => rnE_in isL f (n - p) p i h1 (by omega))) (by rw [I4_at, if_neg (by decide), ec, cv]) (by rw [I4_at, if_pos rfl])
        refine ⟨g', b1, fr.tr ((T4.i g 6 3 (by omega)).tr b2), ?_, ?_, Or.inr ⟨z, ?_, b6⟩⟩
        · rw [b3, I4_at, if_neg (by decide), e4, qe]
        · rw [b4, I4_at, if_neg (by decide), e5]
        · rw [b5, I4_at, if_neg (by decide), ec, cv]
      · rw [if_neg (show ¬ nI (q - p) ≤ (6 : Int32) from nleN (b := 6) (show 6 < q - p by omega) (by omega))]
        refine ⟨_, rfl, fr.tr (T4.i g 6 1 (by omega)), ?_, ?_, Or.inl ⟨by omega, ?_⟩⟩
        · rw [I4_at, if_neg (by decide), e4, qe]
        · rw [I4_at, if_neg (by decide), e5]
        · rw [I4_at, if_pos rfl]
    unfold f_X4_readWord_8
    simp only [jn_e, lt_e, f3, fa]
    by_cases z : p + j = n
    · rw [if_pos (by rw [e4]; exact leN (by omega) (by omega))]
      have e0 : n - (p + j) = 0 := by omega
      rw [e0] at er ec
      have er : p + j = q := er
      exact fin er.symm ec
    · rw [if_neg (by rw [e4]; exact nleN (show p + j < n by omega) (by omega))]
      have es : n - (p + j) = (n - (p + (j + 1))) + 1 := by omega
      rw [es, rnE_s] at er
      rw [es, clL_s] at ec
      rw [grd_p (by rw [e4]; exact inb_n (show p + j < 700 by omega) (by omega)), cl_isLetter, bind_s]
      have ei : f (gI g 4 0 4).toNatClampNeg = f (p + j) := by rw [e4, clN (show p + j < 2 ^ 31 by omega)]
      rw [ei]
      cases hd : isL (f (p + j)) with
      | false =>
        rw [hd, if_neg (fun q => Bool.noConfusion q)] at er ec
        rw [if_pos (show b2i false = 0 from rfl)]
        exact fin er.symm ec
      | true =>
        rw [hd, if_pos rfl] at er ec
        rw [if_neg (show ¬ b2i true = 0 by decide), shV_s]
        by_cases y : j < 6
        · rw [if_neg (fun q => by have := (shV_neg (show j ≤ 700 by omega)).mp q; omega), grd_p (by rw [e4]; exact inb_n (show p + j < 700 by omega) (by omega)), shV_n y]
          rw [if_pos y] at ec
          refine ih (j + 1) _ (by omega) (by omega) (fr.tr ((T4.i g 8 _ (by omega)).tr (T4.i _ 4 _ (by omega)))) ?_ ?_ er ?_
          · rw [I4_at, if_pos rfl, I4_at, if_neg (by decide), e4, nI_1, Nat.add_assoc]
          · rw [I4_at, if_neg (by decide), I4_at, if_neg (by decide), e5]
          · rw [I4_at, if_neg (by decide), I4_at, if_pos rfl]
            exact ec
        · rw [if_pos ((shV_neg (show j ≤ 700 by omega)).mpr (by omega))]
          rw [if_neg y] at ec
          refine ih (j + 1) _ (by omega) (by omega) (fr.tr (T4.i g 4 _ (by omega))) ?_ ?_ er ?_
          · rw [I4_at, if_pos rfl, e4, nI_1, Nat.add_assoc]
          · rw [I4_at, if_neg (by decide), e5]
          · rw [I4_at, if_neg (by decide)]
            exact ec
  · rw [I4_at, if_neg (by decide), e4]; rfl
  · rw [I4_at, if_neg (by decide), e5]
  · rw [I4_at, if_pos rfl]; rfl
end Word

