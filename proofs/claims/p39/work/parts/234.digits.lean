-- PURE: numbers by digits; ways one after the other
def dD (b i m : Nat) : Nat := i / b ^ m % b
def dg (b n i k : Nat) : Nat := dD b i (n - 1 - k)
theorem dD_0 (b i : Nat) : dD b i 0 = i % b := by unfold dD; rw [Nat.pow_zero, Nat.div_one]
theorem dD_s (b i m : Nat) : dD b i (m + 1) = dD b (i / b) m := by unfold dD; rw [Nat.pow_succ, Nat.mul_comm, ← Nat.div_div_eq_div_mul]
theorem inc_low {b i : Nat} (h : i % b + 1 < b) : (i + 1) % b = i % b + 1 ∧ (i + 1) / b = i / b := by
  have e := Nat.div_add_mod i b
  have hb : 0 < b := by omega
  have q : (i + 1) / b = i / b := by
    refine Nat.div_eq_of_lt_le ?_ ?_
    · rw [Nat.mul_comm]; omega
    · rw [Nat.succ_mul, Nat.mul_comm]; omega
  refine ⟨?_, q⟩
  have e2 := Nat.div_add_mod (i + 1) b
  rw [q] at e2
  omega
theorem inc_top {b i : Nat} (hb : 0 < b) (h : i % b + 1 = b) : (i + 1) % b = 0 ∧ (i + 1) / b = i / b + 1 := by
  have e := Nat.div_add_mod i b
  have e3 : i + 1 = b * (i / b + 1) := by rw [Nat.mul_succ]; omega
  rw [e3]
  exact ⟨Nat.mul_mod_right b _, Nat.mul_div_cancel_left _ hb⟩
theorem dD_inc {b : Nat} (hb : 0 < b) : ∀ m i, (∀ m', m' < m → dD b i m' + 1 = b) → dD b i m + 1 < b → (∀ m', m' < m → dD b (i + 1) m' = 0) ∧ dD b (i + 1) m = dD b i m + 1 ∧ ∀ m', m < m' → dD b (i + 1) m' = dD b i m'
  | 0, i, _, h => by
    rw [dD_0] at h
    obtain ⟨a, c⟩ := inc_low h
    refine ⟨fun m' hm => absurd hm (Nat.not_lt_zero _), by rw [dD_0, dD_0, a], fun m' hm => ?_⟩
    obtain ⟨k, rfl⟩ : ∃ k, m' = k + 1 := ⟨m' - 1, by omega⟩
    rw [dD_s, dD_s, c]
  | m + 1, i, lo, h => by
    have l0 := lo 0 (by omega)
    rw [dD_0] at l0
    obtain ⟨a, c⟩ := inc_top hb l0
    obtain ⟨x, y, z⟩ := dD_inc hb m (i / b) (fun m' hm => by rw [← dD_s]; exact lo (m' + 1) (by omega)) (by rw [← dD_s]; exact h)
    refine ⟨fun m' hm => ?_, by rw [dD_s, dD_s, c, y], fun m' hm => ?_⟩
    · cases m' with
      | zero => rw [dD_0, a]
      | succ k => rw [dD_s, c]; exact x k (by omega)
    · obtain ⟨k, rfl⟩ : ∃ k, m' = k + 1 := ⟨m' - 1, by omega⟩
      rw [dD_s, dD_s, c]
      exact z k (by omega)
theorem dD_all {b : Nat} (hb : 0 < b) : ∀ n i, (∀ m', m' < n → dD b i m' + 1 = b) → ∀ m', m' < n → dD b (i + 1) m' = 0
  | 0, _, _, m', hm => absurd hm (Nat.not_lt_zero _)
  | n + 1, i, lo, m', hm => by
    have l0 := lo 0 (by omega)
    rw [dD_0] at l0
    obtain ⟨a, c⟩ := inc_top hb l0
    cases m' with
    | zero => rw [dD_0, a]
    | succ k =>
      rw [dD_s, c]
      exact dD_all hb n (i / b) (fun m' h => by rw [← dD_s]; exact lo (m' + 1) (by omega)) k (by omega)
theorem dg_lt {b : Nat} (hb : 0 < b) (n i k : Nat) : dg b n i k < b := Nat.mod_lt _ hb
theorem dg_zero (b n k : Nat) : dg b n 0 k = 0 := by unfold dg dD; rw [Nat.zero_div, Nat.zero_mod]
/-- nothing changed but arrays of the class's own object, and long arrays -/
def W7 (h h' : Hp) : Prop := (∀ c o k, gI h' c o k = gI h c o k ∧ gL h' c o k = gL h c o k ∧ gO h' c o k = gO h c o k) ∧ ∀ c o k, c ≠ 7 → gA h' c o k = gA h c o k
theorem W7.rf (h : Hp) : W7 h h := ⟨fun _ _ _ => ⟨rfl, rfl, rfl⟩, fun _ _ _ _ => rfl⟩
theorem W7.tr {h h' h'' : Hp} (a : W7 h h') (b : W7 h' h'') : W7 h h'' := ⟨fun c o k => ⟨(b.1 c o k).1.trans (a.1 c o k).1, (b.1 c o k).2.1.trans (a.1 c o k).2.1, (b.1 c o k).2.2.trans (a.1 c o k).2.2⟩, fun c o k q => (b.2 c o k q).trans (a.2 c o k q)⟩
theorem W7.fr {h h' : Hp} (a : W7 h h') : Fr h h' := ⟨fun c o k _ => a.1 c o k, fun c o k q _ _ => a.2 c o k q⟩
theorem W7.sd {h h' : Hp} (a : W7 h h') {o t : Nat} {T : Txt} {S : Str} (s : Sd h o t T S) : Sd h' o t T S := by
  obtain ⟨s1, s2, s3, s4, s5⟩ := s
  refine ⟨(a.1 3 o 10).2.2.trans s1, (a.fr.tx t).trans s2, ?_, s4, ?_⟩
  · rw [show gA h' 0 t = gA h 0 t from funext fun k => a.2 0 t k (by decide)]; exact s3
  · rw [show vw h' o = vw h o from Prod.ext (funext fun k => a.2 3 o k (by decide)) (funext fun k => (a.1 3 o k).1)]; exact s5
theorem W7.a (h : Hp) (k i : Nat) (v : Int32) : W7 h (sA h 7 0 k i v) := ⟨fun _ _ _ => ⟨rfl, rfl, rfl⟩, fun _ _ _ q => if_neg (fun z => q z.1)⟩
theorem W7.af (h : Hp) (k : Nat) (f : Nat → Int32) : W7 h (sAf h 7 0 k f) := ⟨fun _ _ _ => ⟨rfl, rfl, rfl⟩, fun _ _ _ q => if_neg (fun z => q z.1)⟩
theorem A7_at (g : Hp) (k i : Nat) (v : Int32) (j u : Nat) : gA (sA g 7 0 k i v) 7 0 j u = if j = k ∧ u = i then v else gA g 7 0 j u := by
  show at3 g.2.2.2.1 7 0 k (upd (gA g 7 0 k) i v) 7 0 j u = _
  unfold at3
  by_cases z : j = k
  · subst z
    rw [if_pos ⟨rfl, rfl, rfl⟩]
    show (if u = i then v else gA g 7 0 j u) = _
    by_cases w : u = i
    · rw [if_pos w, if_pos ⟨rfl, w⟩]
    · rw [if_neg w, if_neg (fun q => w q.2)]
  · rw [if_neg (fun q => z q.2.2), if_neg (fun q => z q.1)]
    rfl
def vI (u : Nat) : Int32 := if u = 0 then -1 else nI (u - 1)
theorem vI_s (u : Nat) : vI (u + 1) = nI u := by unfold vI; rw [if_neg (by omega), Nat.add_sub_cancel]
theorem vI_m (u : Nat) : nI u - 1 = vI u := by
  cases u with
  | zero => decide
  | succ k => rw [vI_s, Int32.sub_eq_add_neg]; exact nI_m1 k
theorem vI_n (u : Nat) : nI u + -1 = vI u := by rw [← vI_m, Int32.sub_eq_add_neg]
theorem cl_nextWay {N : Nat} (hN : 1000 ≤ N) {b n l i : Nat} (hb : 0 < b) (hb9 : l + b < 100) (hn : n ≤ 6) {h : Hp} (hw : ∀ k, k < n → gA h 7 0 0 k = nI (l + dg b n i k)) : ∃ q h', f_X7_nextWay N h (nI n) (nI l) (nI (l + b) - 1) = some (nI q, h') ∧ q ≤ n ∧ (0 < n → q < n) ∧ W7 h h' ∧ gA h' 7 0 1 = gA h 7 0 1 ∧ (∀ k, k < n → gA h' 7 0 0 k = nI (l + dg b n (i + 1) k)) ∧ ∀ k, k < q → dg b n (i + 1) k = dg b n i k := by
  obtain ⟨b', rfl⟩ : ∃ b', b = b' + 1 := ⟨b - 1, by omega⟩
  unfold f_X7_nextWay
  rw [lt_e, vI_m n, vI_m (l + (b' + 1)), show l + (b' + 1) = (l + b') + 1 from rfl, vI_s]
  refine iter_inv (bot := fun _ _ => none) (b := f_X7_nextWay_5 (nI l) (nI (l + b'))) (fun m r => ∀ u g, u ≤ n → u < m → W7 h g → gA g 7 0 1 = gA h 7 0 1 → (∀ k, u ≤ k → k < n → gA g 7 0 0 k = nI l ∧ dg (b' + 1) n i k + 1 = b' + 1) → (∀ k, k < u → gA g 7 0 0 k = nI (l + dg (b' + 1) n i k)) → ∃ q h', r (vI u) g = some (nI q, h') ∧ q ≤ n ∧ (0 < n → q < n) ∧ W7 h h' ∧ gA h' 7 0 1 = gA h 7 0 1 ∧ (∀ k, k < n → gA h' 7 0 0 k = nI (l + dg (b' + 1) n (i + 1) k)) ∧ ∀ k, k < q → dg (b' + 1) n (i + 1) k = dg (b' + 1) n i k) (fun u _ _ hu => absurd hu (Nat.not_lt_zero _)) (fun m r ih u g hu hm w a1 hi lo => ?_) N n h (Nat.le_refl n) (by omega) (W7.rf h) rfl (fun k h1 h2 => by omega) hw
  unfold f_X7_nextWay_5
  cases u with
  | zero =>
    rw [if_pos (show vI 0 < 0 by decide)]
    refine ⟨0, g, rfl, by omega, fun z => z, w, a1, fun k hk => ?_, fun k hk => absurd hk (Nat.not_lt_zero _)⟩
    have z : dg (b' + 1) n (i + 1) k = 0 := by
      refine dD_all hb n i (fun m' hm' => ?_) (n - 1 - k) (by omega)
      have := (hi (n - 1 - m') (by omega) (by omega)).2
      unfold dg at this
      rw [show n - 1 - (n - 1 - m') = m' by omega] at this
      exact this
    rw [z, (hi k (by omega) hk).1]
    rfl
  | succ u =>
    have hlt := dg_lt (b := b' + 1) hb n i u
    rw [vI_s, if_neg (show ¬ nI u < 0 from Int32.not_lt.mpr (leN (a := 0) (by omega) (by omega))), grd_p (inb_n (show u < 6 by omega) (show 6 < 2 ^ 31 by omega))]
    simp only [clN (show u < 2 ^ 31 by omega), lo u (show u < u + 1 by omega)]
    by_cases z : dg (b' + 1) n i u = b'
    · rw [if_pos (leN (by omega) (by omega)), grd_p (inb_n (show u < 6 by omega) (show 6 < 2 ^ 31 by omega)), lt_e, lt_e, vI_n]
      refine ih u _ (by omega) (by omega) (w.tr (W7.a g 0 u _)) ?_ (fun k h1 h2 => ?_) (fun k hk => ?_)
      · rw [← a1]
        funext j
        rw [A7_at, if_neg (fun q => absurd q.1 (by decide))]
      · rw [A7_at]
        by_cases y : k = u
        · rw [if_pos ⟨rfl, y⟩, y, z]; exact ⟨rfl, rfl⟩
        · rw [if_neg (fun q => y q.2)]; exact hi k (by omega) h2
      · rw [A7_at, if_neg (fun q => by omega)]
        exact lo k (by omega)
    · rw [if_neg (nleN (by omega) (by omega)), grd_p (inb_n (show u < 6 by omega) (show 6 < 2 ^ 31 by omega)), grd_p (inb_n (show u < 6 by omega) (show 6 < 2 ^ 31 by omega)), lt_e, nI_1]
      obtain ⟨x1, x2, x3⟩ := dD_inc hb (n - 1 - u) i (fun m' hm' => by
        have := (hi (n - 1 - m') (by omega) (by omega)).2
        unfold dg at this
        rw [show n - 1 - (n - 1 - m') = m' by omega] at this
        exact this) (by
        have h9 : dD (b' + 1) i (n - 1 - u) < b' + 1 := hlt
        have h8 : ¬ dD (b' + 1) i (n - 1 - u) = b' := z
        omega)
      refine ⟨u, _, rfl, by omega, fun _ => by omega, w.tr (W7.a g 0 u _), ?_, fun k hk => ?_, fun k hk => x3 (n - 1 - k) (by omega)⟩
      · rw [← a1]
        funext j
        rw [A7_at, if_neg (fun q => absurd q.1 (by decide))]
      · rw [A7_at]
        by_cases y : k = u
        · rw [if_pos ⟨rfl, y⟩, y]
          have : dg (b' + 1) n (i + 1) u = dg (b' + 1) n i u + 1 := x2
          rw [this]
          rfl
        · rw [if_neg (fun q => y q.2)]
          by_cases v : k < u
          · rw [lo k (by omega)]
            have : dg (b' + 1) n (i + 1) k = dg (b' + 1) n i k := x3 (n - 1 - k) (by omega)
            rw [this]
          · rw [(hi k (by omega) hk).1]
            have : dg (b' + 1) n (i + 1) k = 0 := x1 (n - 1 - k) (by omega)
            rw [this]
            rfl
theorem cl_power {N : Nat} (hN : 1000 ≤ N) (b n : Nat) (hn : n < 900) : f_X7_power N (nI b) (nI n) = some (nI (b ^ n)) := by
  unfold f_X7_power
  exact iter_inv (bot := fun _ _ => none) (b := f_X7_power_4 (nI b) (nI n)) (fun m r => ∀ j, j ≤ n → n < m + j → r (nI (b ^ j)) (nI j) = some (nI (b ^ n))) (fun j _ _ => by omega) (fun m r ih j hj hm => by
    unfold f_X7_power_4
    by_cases z : n = j
    · subst z
      rw [if_pos (leN (Nat.le_refl _) (by omega))]
    · rw [if_neg (nleN (show j < n by omega) (show n < 2 ^ 31 by omega)), lt_e, lt_e, nI_mulN, nI_1, ← Nat.pow_succ]
      exact ih (j + 1) (by omega) (by omega)) N 0 (by omega) (by omega)
theorem nI_div {a b : Nat} (ha : a < 2 ^ 31) (hb : b < 2 ^ 31) : nI a / nI b = nI (a / b) := by
  refine Int32.toInt_inj.mp ?_
  have h1 : a / b ≤ a := Nat.div_le_self a b
  have e : (a : Int) / (b : Int) = ((a / b : Nat) : Int) := rfl
  generalize a / b = q at h1 e ⊢
  rw [Int32.toInt_div, nI_toInt ha, nI_toInt hb, nI_toInt (by omega), Int.tdiv_eq_ediv_of_nonneg (by omega), e, Int.bmod_eq_of_le (by omega) (by omega)]
theorem nI_sub {a b : Nat} (h : b ≤ a) : nI a - nI b = nI (a - b) := by
  have e : nI a = nI (a - b) + nI b := by rw [nI_add]; congr 1; omega
  rw [e, Int32.add_sub_cancel]
theorem nI_mod {a b : Nat} (ha : a < 2 ^ 31) (hb : b < 2 ^ 31) : nI a - nI a / nI b * nI b = nI (a % b) := by
  rw [nI_div ha hb, nI_mulN, nI_sub (Nat.div_mul_le_self a b)]
  congr 1
  have := Nat.div_add_mod a b
  rw [Nat.mul_comm] at this
  omega
