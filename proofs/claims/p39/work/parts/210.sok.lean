-- PURE: what stays so of a strand
theorem toI (k : Nat) : ∀ m : Nat, m ≤ 10000 → (nI m).toInt = m := fun m h => nI_toInt (by omega)
theorem upA_at (S : Str) (k i : Nat) (v : Int32) (j : Nat) : (upA S k i v).1 k j = if j = i then v else S.1 k j := by rw [upA_a]; rfl
section Keep
variable {T : Txt} {n : Nat} {S : Str}
theorem SOK.lie (K : SOK T n S) {j : Nat} {v : Int32} (h0 : 0 ≤ v.toInt) (h1 : v.toInt ≤ 9999) : SOK T n (upA S 0 j v) := by
  obtain ⟨a, c, d⟩ := K
  refine ⟨fun s hs => ?_, fun q hq => ?_, d⟩
  · rw [upA_at]
    by_cases z : s = j
    · rw [if_pos z]; exact ⟨h0, h1⟩
    · rw [if_neg z]; exact a s hs
  · rw [upA_n S j v (show (2 : Nat) ≠ 0 by decide), upA_n S j v (show (3 : Nat) ≠ 0 by decide), upA_n S j v (show (5 : Nat) ≠ 0 by decide)]
    exact c q hq
theorem SOK.any (K : SOK T n S) {j : Nat} (v : Int32) : SOK T n (upA S 6 j v) := by
  obtain ⟨a, c, d, e1, e2, e3, e4, e5⟩ := K
  refine ⟨fun s hs => ?_, fun q hq => ?_, fun f hf => ?_, e1, e2, e3, e4, fun q hq => ?_⟩
  · rw [upA_n S j v (show (0 : Nat) ≠ 6 by omega)]; exact a s hs
  · rw [upA_n S j v (show (2 : Nat) ≠ 6 by omega), upA_n S j v (show (3 : Nat) ≠ 6 by omega), upA_n S j v (show (5 : Nat) ≠ 6 by omega)]
    exact c q hq
  · rw [upA_n S j v (show (9 : Nat) ≠ 6 by omega)]; exact d f hf
  · rw [upA_n S j v (show (7 : Nat) ≠ 6 by omega)]; exact e5 q hq
theorem SOK.num (K : SOK T n S) {k : Nat} (v : Int32) (hk : ¬ k = 11 ∧ ¬ k = 12) : SOK T n (upI S k v) := by
  obtain ⟨a, c, d, e1, e2, e3, e4, e5⟩ := K
  have h11 : (upI S k v).2 11 = S.2 11 := upI_n S v (show (11 : Nat) ≠ k from fun q => hk.1 q.symm)
  have h12 : (upI S k v).2 12 = S.2 12 := upI_n S v (show (12 : Nat) ≠ k from fun q => hk.2 q.symm)
  unfold SOK
  rw [h11, h12]
  exact ⟨a, c, d, e1, e2, e3, e4, e5⟩
theorem SOK.heap (K : SOK T n S) {v : Int32} (h0 : 0 ≤ v.toInt) (h1 : v.toInt ≤ 999 + 396 * (S.2 11).toInt + 99 * n) : SOK T n (upI S 12 v) := by
  obtain ⟨a, c, d, e1, e2, e3, e4, e5⟩ := K
  have h11 : (upI S 12 v).2 11 = S.2 11 := upI_n S v (show (11 : Nat) ≠ 12 by decide)
  have h12 : (upI S 12 v).2 12 = v := upI_i S 12 v
  unfold SOK
  rw [h11, h12]
  exact ⟨a, c, d, e1, e2, e3, ⟨h0, h1⟩, e5⟩
theorem SOK.more (K : SOK T n S) {m : Nat} (h : n ≤ m) (hm : m ≤ 4) : SOK T m S := by
  obtain ⟨a, c, d, e1, e2, e3, e4, e5⟩ := K
  refine ⟨a, c, fun f hf => ⟨(d f hf).1, by have := (d f hf).2; omega⟩, e1, e2, hm, by omega, fun q hq => ⟨(e5 q hq).1, ?_⟩⟩
  have := (e5 q hq).2
  split at this <;> split <;> omega
theorem SOK.got (K : SOK T n S) {m : Nat} (hm : n + 1 = m) (h4 : m ≤ 4) {f : Nat} {v : Int32} (h0 : 0 ≤ v.toInt) (h1 : v.toInt ≤ 99) : SOK T m (upA S 9 f (S.1 9 f + v)) ∨ nFi T ≤ f := by
  by_cases hf : nFi T ≤ f
  · exact Or.inr hf
  obtain ⟨a, c, d, e1, e2, e3, e4, e5⟩ := K.more (m := m) (by omega) h4
  have df := K.2.2.1 f (by omega)
  refine Or.inl ⟨fun s hs => ?_, fun q hq => ?_, fun g hg => ?_, e1, e2, h4, e4, fun q hq => ?_⟩
  · rw [upA_n S f _ (show (0 : Nat) ≠ 9 by decide)]; exact a s hs
  · rw [upA_n S f _ (show (2 : Nat) ≠ 9 by decide), upA_n S f _ (show (3 : Nat) ≠ 9 by decide), upA_n S f _ (show (5 : Nat) ≠ 9 by decide)]
    exact c q hq
  · rw [upA_at]
    show 0 ≤ (if g = f then S.1 9 f + v else S.1 9 g).toInt ∧ (if g = f then S.1 9 f + v else S.1 9 g).toInt ≤ 396 * (S.2 11).toInt + 99 * m
    by_cases z : g = f
    · rw [if_pos z, add_toInt (by omega)]
      omega
    · rw [if_neg z]
      have := d g hg
      omega
  · rw [upA_n S f _ (show (7 : Nat) ≠ 9 by decide)]; exact e5 q hq
theorem SOK.load (K : SOK T n S) {c : Nat} {w : Int32} (hw : (w = -3 ∧ 0 ≤ (S.2 12).toInt) ∨ ∃ j, j < nSt T ∧ w = nI j) (h8 : nSt T ≤ 8) : 0 ≤ (loadM T S c (thereM S w)).toInt ∧ (loadM T S c (thereM S w)).toInt ≤ 99 ∧ (loadM T S c (thereM S w)).toInt ≤ (thereM S w).toInt ∧ 0 ≤ (thereM S w).toInt := by
  have ht : 0 ≤ (thereM S w).toInt := by
    unfold thereM
    rcases hw with ⟨rfl, q⟩ | ⟨j, hj, rfl⟩
    · exact q
    · rw [if_neg (nI_ne_neg (show j < 2 ^ 31 by omega) (by decide)), clN (show j < 2 ^ 31 by omega)]
      exact (K.1 j hj).1
  obtain ⟨k, hk, q⟩ := pwM_rng (if T.2.2 0 (nmP S (thereM S w) (nI c)) = erM then (5 * S.1 2 c - S.1 3 c).toInt64 else T.2.2 0 (nmP S (thereM S w) (nI c))) 99 (by omega)
  have q' : pwM (if T.2.2 0 (nmP S (thereM S w) (nI c)) = erM then (5 * S.1 2 c - S.1 3 c).toInt64 else T.2.2 0 (nmP S (thereM S w) (nI c))) 99 = nI k := q
  unfold loadM
  rw [q']
  have hk2 := toI 0 k (by omega)
  by_cases z : thereM S w < nI k
  · have z' := Int32.lt_iff_toInt_lt.mp z
    simp only [if_pos z]
    omega
  · have z' : ¬ (thereM S w).toInt < (nI k).toInt := fun q => z (Int32.lt_iff_toInt_lt.mpr q)
    simp only [if_neg z]
    omega
theorem sub_rng {x y : Int32} (h0 : 0 ≤ y.toInt) (h1 : y.toInt ≤ x.toInt) : 0 ≤ (x - y).toInt ∧ (x - y).toInt ≤ x.toInt := by
  have h2 := Int32.toInt_lt x
  rw [sub_toInt (by omega)]
  omega
theorem srcM_heap (h8 : nSt T ≤ 8) {c : Int32} {b : Bool} (h : srcM T S c b = -3) : 0 < S.2 12 := by
  unfold srcM at h
  by_cases z : S.2 14 = 2 ∧ 0 < S.2 12 ∧ b = false
  · exact z.2.1
  rw [if_neg z] at h
  by_cases w : (scM T S c (nSt T)).1 = -2 ∧ 0 < S.2 12 ∧ b = false
  · exact w.2.1
  rw [if_neg w] at h
  rcases scM_rng T S c (nSt T) with e | ⟨j, hj, e⟩
  · rw [e] at h; exact absurd h (by decide)
  · rw [e] at h
    exact absurd h (nI_ne_neg (show j < 2 ^ 31 by omega) (by decide))
theorem SOK.less (K : SOK T n S) {w v : Int32} (h8 : nSt T ≤ 8) (h0 : 0 ≤ v.toInt) (h1 : v.toInt ≤ (thereM S w).toInt) (hw : w = -3 ∨ ∃ j, j < nSt T ∧ w = nI j) : SOK T n (lessM S w v) := by
  unfold lessM
  unfold thereM at h1
  rcases hw with rfl | ⟨j, hj, rfl⟩
  · rw [if_pos rfl] at h1
    rw [if_pos rfl]
    have a := sub_rng h0 h1
    have b := K.2.2.2.2.2.2.1.2
    exact K.heap a.1 (by omega)
  · have g := nI_ne_neg (x := -3) (show j < 2 ^ 31 by omega) (by decide)
    rw [if_neg g, clN (show j < 2 ^ 31 by omega)] at h1
    rw [if_neg g, clN (show j < 2 ^ 31 by omega)]
    have a := sub_rng h0 h1
    exact K.lie a.1 (by have := (K.1 j hj).2; omega)
theorem SOK.cart (K : SOK T n S) (hT : TOK T) (hn : n < 4) (c : Nat) : SOK T (n + 1) (cartM T S c) := by
  have h8 := hT.1.2
  have hf6 := hT.2.2.1.2
  unfold cartM
  by_cases z : srcM T S (nI c) false = -2
  · rw [if_pos z]; exact K.more (by omega) (by omega)
  rw [if_neg z]
  rcases bfM_rng T S (nI c) (nFi T) with h1 | ⟨f, hf, h1⟩
  · rw [h1, if_pos rfl]; exact K.more (by omega) (by omega)
  rw [h1, if_neg (nI_ne_neg (show f < 2 ^ 31 by omega) (by decide)), clN (show f < 2 ^ 31 by omega)]
  have hw : (srcM T S (nI c) false = -3 ∧ 0 ≤ (S.2 12).toInt) ∨ ∃ j, j < nSt T ∧ srcM T S (nI c) false = nI j := by
    rcases srcM_rng T S (nI c) false with q | ⟨-, q⟩ | q
    · exact absurd q z
    · exact Or.inl ⟨q, Int.le_of_lt (Int32.lt_iff_toInt_lt.mp (srcM_heap h8 q))⟩
    · exact Or.inr q
  have hw' : srcM T S (nI c) false = -3 ∨ ∃ j, j < nSt T ∧ srcM T S (nI c) false = nI j := hw.elim (fun q => Or.inl q.1) Or.inr
  obtain ⟨l1, l2, l3, -⟩ := K.load (c := c) hw h8
  unfold gotM
  rcases (K.less h8 l1 l3 hw').got (m := n + 1) rfl (by omega) (f := f) l1 l2 with q | q
  · exact q.any _
  · omega
theorem tonsM_rng (T : Txt) (S : Str) (c : Nat) {lie : Int32} (h : 0 ≤ lie.toInt) : 0 ≤ (tonsM T S c lie).toInt ∧ (tonsM T S c lie).toInt ≤ lie.toInt ∧ (tonsM T S c lie).toInt ≤ 99 := by
  have hk : ∃ k : Nat, k ≤ 99 ∧ (if T.2.2 1 (nmP S lie (nI c)) = erM then (8 : Int32) else pwM (T.2.2 1 (nmP S lie (nI c))) 99) = nI k := by
    by_cases z : T.2.2 1 (nmP S lie (nI c)) = erM
    · rw [if_pos z]; exact ⟨8, by omega, rfl⟩
    · rw [if_neg z]; exact pwM_rng _ 99 (by omega)
  obtain ⟨k, hk, q⟩ := hk
  have hk2 := toI 0 k (by omega)
  unfold tonsM
  rw [q]
  by_cases z : lie < nI k
  · have z' := Int32.lt_iff_toInt_lt.mp z
    simp only [if_pos z]
    omega
  · have z' : ¬ lie.toInt < (nI k).toInt := fun q => z (Int32.lt_iff_toInt_lt.mpr q)
    simp only [if_neg z]
    omega
theorem SOK.fork (K : SOK T n S) (hT : TOK T) (hn : n < 4) : SOK T (n + 1) (forkM T S n) := by
  have h8 := hT.1.2
  unfold forkM
  rcases srcM_rng T S (nI n) true with q | ⟨q, -⟩ | ⟨j, hj, q⟩
  · rw [q, if_neg (show ¬ (0 : Int32) ≤ -2 by decide)]; exact K.more (by omega) (by omega)
  · exact Bool.noConfusion q
  rw [q, if_pos (nI_pos' (show j < 2 ^ 31 by omega)), clN (show j < 2 ^ 31 by omega)]
  unfold forkS
  have kj := K.1 j hj
  obtain ⟨t1, t2, t3⟩ := tonsM_rng T S n kj.1
  generalize tonsM T S n (S.1 0 j) = v at *
  have a := sub_rng t1 t2
  have K2 := (K.more (m := n + 1) (by omega) (by omega)).lie (j := j) a.1 (by omega)
  have hp := K.2.2.2.2.2.2.1
  have hh := K.2.2.2
  have ha : (S.2 12 + v).toInt = (S.2 12).toInt + v.toInt := add_toInt (by omega)
  have K3 := K2.heap (v := S.2 12 + v) (by omega) (by rw [ha]; show (S.2 12).toInt + v.toInt ≤ 999 + 396 * (S.2 11).toInt + 99 * ((n + 1 : Nat) : Int); omega)
  obtain ⟨b, c, d, e1, e2, e3, e4, e5⟩ := K3
  refine ⟨fun s hs => ?_, fun q hq => ?_, fun f hf => ?_, e1, e2, e3, e4, fun q hq => ?_⟩
  · rw [upA_n _ n _ (show (0 : Nat) ≠ 7 by decide)]; exact b s hs
  · rw [upA_n _ n _ (show (2 : Nat) ≠ 7 by decide), upA_n _ n _ (show (3 : Nat) ≠ 7 by decide), upA_n _ n _ (show (5 : Nat) ≠ 7 by decide)]
    exact c q hq
  · rw [upA_n _ n _ (show (9 : Nat) ≠ 7 by decide)]; exact d f hf
  · rw [upA_at]
    by_cases z : q = n
    · have o := K.2.2.2.2.2.2.2 q hq
      rw [z, if_neg (Nat.lt_irrefl n)] at o
      rw [if_pos z, z, if_pos (Nat.lt_succ_self n)]
      show 0 ≤ (S.1 7 n + v).toInt ∧ (S.1 7 n + v).toInt ≤ 99 * (S.2 11).toInt + 99
      rw [add_toInt (by omega)]
      omega
    · rw [if_neg z]; exact e5 q hq
theorem half_rng {x : Int32} (h : 0 ≤ x.toInt) : 0 ≤ (x / 2).toInt ∧ (x / 2).toInt ≤ x.toInt := by
  have e : (x / 2).toInt = x.toInt.tdiv 2 := by
    rw [Int32.toInt_div]
    have e2 : (2 : Int32).toInt = 2 := rfl
    rw [e2, Int.tdiv_eq_ediv_of_nonneg h, Int.bmod_eq_of_le (by omega) (by have := Int32.toInt_lt x; omega)]
  rw [e, Int.tdiv_eq_ediv_of_nonneg h]
  omega
theorem goneM_rng (T : Txt) (S : Str) {lie : Int32} (h : 0 ≤ lie.toInt) : 0 ≤ (goneM T S lie).toInt ∧ (goneM T S lie).toInt ≤ lie.toInt := by
  unfold goneM
  by_cases z : T.2.2 2 (nmP S lie (-1)) = erM
  · rw [if_pos z]; exact half_rng h
  · rw [if_neg z]
    obtain ⟨m, rfl, hm⟩ := eq_nI h
    have hm31 : m < 2 ^ 31 := by have := Int32.toInt_lt (nI m); omega
    obtain ⟨k, hk, q⟩ := pwM_rng (T.2.2 2 (nmP S (nI m) (-1))) m hm31
    rw [q, nI_toInt (by omega), nI_toInt hm31]
    omega
theorem SOK.ebb (K : SOK T n S) : ∀ j, j ≤ nSt T → SOK T n (ebM T S j)
  | 0, _ => K
  | j + 1, h => by
    have I := SOK.ebb K j (by omega)
    rw [ebM_s]
    have kj := I.1 j (by omega)
    have g := goneM_rng T (ebM T S j) kj.1
    have a := sub_rng g.1 g.2
    exact (I.lie a.1 (by omega)).num _ (by decide)
theorem SOK.act (K : SOK T n S) (hT : TOK T) (hn : n < 4) : SOK T (n + 1) (actM T S n) := by
  unfold actM
  by_cases z : doesM T S n = 1
  · rw [if_pos z]; exact K.cart hT hn n
  rw [if_neg z]
  by_cases w : doesM T S n = 2
  · rw [if_pos w]; exact K.fork hT hn
  · rw [if_neg w]; exact K.more (by omega) (by omega)
theorem SOK.crofts (K : SOK T 0 S) (hT : TOK T) : ∀ c, c ≤ 4 → SOK T c (crM T S c)
  | 0, _ => K
  | c + 1, h => by
    have I := SOK.crofts K hT c (by omega)
    rw [crM_s]
    by_cases z : (crM T S c).2 11 < (crM T S c).1 4 c
    · rw [if_pos z]; exact I.more (by omega) (by omega)
    · rw [if_neg z]; exact I.act hT (by omega)
theorem SOK.tide (K : SOK T n S) : SOK T n (tdM T S) := by
  unfold tdM
  by_cases z : ¬ S.2 16 = 0 ∧ tideM T (hrM S) = true
  · rw [if_pos z]; exact K.ebb _ (Nat.le_refl _)
  · rw [if_neg z]; exact K
theorem SOK.hour (K : SOK T 4 S) (hT : TOK T) (hh : (S.2 11).toInt < 5000000) : SOK T 0 (upI S 11 (S.2 11 + 1)) := by
  have h4 := hT.2.1.2
  obtain ⟨a, c, d, e1, e2, e3, e4, e5⟩ := K
  have h1 : ((1 : Int32)).toInt = 1 := rfl
  have ha : (S.2 11 + 1).toInt = (S.2 11).toInt + 1 := by rw [add_toInt (by omega)]; rfl
  have h11 : (upI S 11 (S.2 11 + 1)).2 11 = S.2 11 + 1 := upI_i S 11 _
  have h12 : (upI S 11 (S.2 11 + 1)).2 12 = S.2 12 := upI_n S _ (show (12 : Nat) ≠ 11 by decide)
  unfold SOK
  rw [h11, h12, ha]
  refine ⟨a, c, fun f hf => ⟨(d f hf).1, ?_⟩, by omega, by omega, by omega, ⟨e4.1, by omega⟩, fun q hq => ⟨(e5 q hq).1, ?_⟩⟩
  · have := (d f hf).2
    show (S.1 9 f).toInt ≤ _
    omega
  · have := (e5 q hq).2
    rw [if_pos (show q < 4 by omega)] at this
    rw [if_neg (Nat.not_lt_zero q)]
    show (S.1 7 q).toInt ≤ _
    omega
end Keep

