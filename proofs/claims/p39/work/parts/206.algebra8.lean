-- PURE: the reference's part of the memory
def wr (n b : Nat) (f old : Nat → Int32) : Nat → Int32 := fun i => if n * b ≤ i ∧ i < n * b + n then f (i - n * b) else old i
theorem wr_at {n b i : Nat} (f old : Nat → Int32) (hi : i < n) : wr n b f old (n * b + i) = f i := by
  unfold wr
  rw [if_pos ⟨by omega, by omega⟩, Nat.add_sub_cancel_left]
theorem wr_upd {n b i : Nat} (f old : Nat → Int32) (v : Int32) (hi : i < n) : upd (wr n b f old) (n * b + i) v = wr n b (upd f i v) old := by
  funext j
  unfold upd wr
  by_cases z : j = n * b + i
  · subst z
    rw [if_pos rfl, if_pos ⟨by omega, by omega⟩]
    show v = if n * b + i - n * b = i then v else f (n * b + i - n * b)
    rw [if_pos (by omega)]
  · rw [if_neg z]
    by_cases w : n * b ≤ j ∧ j < n * b + n
    · rw [if_pos w, if_pos w]
      show f (j - n * b) = if j - n * b = i then v else f (j - n * b)
      rw [if_neg (by omega)]
    · rw [if_neg w, if_neg w]
def arr8 (b : Nat) (S : Str) (A : Nat → Nat → Int32) : Nat → Nat → Int32 := fun k =>
  if k = 23 then wr 8 b (S.1 0) (A 23) else if k = 28 then wr 4 b (S.1 6) (A 28) else if k = 29 then wr 4 b (S.1 7) (A 29) else if k = 30 then wr 6 b (S.1 9) (A 30)
  else if k = 31 then wr 1 b (fun _ => S.2 12) (A 31) else if k = 32 then wr 1 b (fun _ => S.2 13) (A 32) else if k = 33 then wr 1 b (fun _ => S.2 11) (A 33) else A k
/-- the memory h with the reference's half b as S (what changes of it), its error flag as e, the long arrays as B -/
def M8 (h : Hp) (b : Nat) (S : Str) (e : Bool) (B : Scr) : Hp := (at3 h.1 8 0 49 (b2i e), h.2.1, h.2.2.1, fun c o k => if c = 8 ∧ o = 0 then arr8 b S (h.2.2.2.1 8 0) k else h.2.2.2.1 c o k, B)
def sE (g : Hp) (e : Bool) (B : Scr) : Hp := (at3 g.1 8 0 49 (b2i e), g.2.1, g.2.2.1, g.2.2.2.1, B)
section Alg
variable (h : Hp) (b : Nat) (S : Str) (e : Bool) (B : Scr)
theorem M8_I (k : Nat) (hk : k ≠ 49) : gI (M8 h b S e B) 8 0 k = gI h 8 0 k := if_neg fun z => hk z.2.2
theorem M8_E : gZ (M8 h b S e B) 8 0 49 = e := by
  show decide (¬ at3 h.1 8 0 49 (b2i e) 8 0 49 = 0) = e
  rw [at3_s, b2i_d]
theorem M8_Z (k : Nat) (hk : k ≠ 49) : gZ (M8 h b S e B) 8 0 k = gZ h 8 0 k := by unfold gZ; rw [M8_I h b S e B k hk]
theorem M8_A (k : Nat) : gA (M8 h b S e B) 8 0 k = arr8 b S (gA h 8 0) k := by
  show (if (8 : Nat) = 8 ∧ (0 : Nat) = 0 then arr8 b S (h.2.2.2.1 8 0) k else h.2.2.2.1 8 0 k) = _
  rw [if_pos ⟨rfl, rfl⟩]
  rfl
theorem M8_Y (k i : Nat) : gY (M8 h b S e B) 8 0 k i = decide (¬ arr8 b S (gA h 8 0) k i = 0) := by unfold gY; rw [M8_A]
theorem M8_sB (c o k i : Nat) (v : Int64) : sB (M8 h b S e B) c o k i v = M8 h b S e (at3 B c o k (vp_updL (B c o k) i v)) := rfl
theorem M8_sE (e' : Bool) (B' : Scr) : sE (M8 h b S e B) e' B' = M8 h b S e' B' := by
  unfold sE M8
  refine Prod.ext ?_ rfl
  funext c o k
  show at3 (at3 h.1 8 0 49 (b2i e)) 8 0 49 (b2i e') c o k = at3 h.1 8 0 49 (b2i e') c o k
  unfold at3
  by_cases z : c = 8 ∧ o = 0 ∧ k = 49
  · rw [if_pos z, if_pos z]
  · rw [if_neg z, if_neg z, if_neg z]
theorem arr8_n (A : Nat → Nat → Int32) {k : Nat} (hk : k < 23 ∨ 33 < k ∨ (23 < k ∧ k < 28)) : arr8 b S A k = A k := by
  unfold arr8
  rw [if_neg (by omega), if_neg (by omega), if_neg (by omega), if_neg (by omega), if_neg (by omega), if_neg (by omega), if_neg (by omega)]
theorem arr8_23 (A : Nat → Nat → Int32) : arr8 b S A 23 = wr 8 b (S.1 0) (A 23) := rfl
theorem arr8_28 (A : Nat → Nat → Int32) : arr8 b S A 28 = wr 4 b (S.1 6) (A 28) := rfl
theorem arr8_29 (A : Nat → Nat → Int32) : arr8 b S A 29 = wr 4 b (S.1 7) (A 29) := rfl
theorem arr8_30 (A : Nat → Nat → Int32) : arr8 b S A 30 = wr 6 b (S.1 9) (A 30) := rfl
theorem arr8_31 (A : Nat → Nat → Int32) : arr8 b S A 31 = wr 1 b (fun _ => S.2 12) (A 31) := rfl
theorem arr8_32 (A : Nat → Nat → Int32) : arr8 b S A 32 = wr 1 b (fun _ => S.2 13) (A 32) := rfl
theorem arr8_33 (A : Nat → Nat → Int32) : arr8 b S A 33 = wr 1 b (fun _ => S.2 11) (A 33) := rfl
theorem wr_b (x : Int32) (old : Nat → Int32) : wr 1 b (fun _ => x) old b = x := by
  have := wr_at (n := 1) (b := b) (i := 0) (fun _ => x) old (by omega)
  rw [Nat.one_mul, Nat.add_zero] at this
  exact this
theorem wr_ub (x v : Int32) (old : Nat → Int32) : upd (wr 1 b (fun _ => x) old) b v = wr 1 b (fun _ => v) old := by
  have := wr_upd (n := 1) (b := b) (i := 0) (fun _ => x) old v (by omega)
  rw [Nat.one_mul, Nat.add_zero] at this
  rw [this]
  funext j
  unfold wr
  by_cases z : 1 * b ≤ j ∧ j < 1 * b + 1
  · rw [if_pos z, if_pos z]
    have : j - 1 * b = 0 := by omega
    rw [this]
    rfl
  · rw [if_neg z, if_neg z]
theorem M8_set {k i : Nat} {v : Int32} {S' : Str} (hs : ∀ a, arr8 b S' (gA h 8 0) a = if a = k then upd (arr8 b S (gA h 8 0) k) i v else arr8 b S (gA h 8 0) a) : sA (M8 h b S e B) 8 0 k i v = M8 h b S' e B := by
  unfold sA sAf
  rw [M8_A]
  unfold M8
  refine Prod.ext rfl (Prod.ext rfl (Prod.ext rfl (Prod.ext ?_ rfl)))
  funext c o a
  show (if c = 8 ∧ o = 0 ∧ a = k then upd (arr8 b S (gA h 8 0) k) i v else (if c = 8 ∧ o = 0 then arr8 b S (h.2.2.2.1 8 0) a else h.2.2.2.1 c o a)) = (if c = 8 ∧ o = 0 then arr8 b S' (h.2.2.2.1 8 0) a else h.2.2.2.1 c o a)
  by_cases z : c = 8 ∧ o = 0
  · by_cases w : a = k
    · rw [if_pos ⟨z.1, z.2, w⟩, if_pos z]
      have := hs a
      rw [if_pos w] at this
      exact this.symm
    · rw [if_neg (fun q => w q.2.2), if_pos z, if_pos z]
      have := hs a
      rw [if_neg w] at this
      exact this.symm
  · rw [if_neg (fun q => z ⟨q.1, q.2.1⟩), if_neg z, if_neg z]
theorem M8_s0 {i : Nat} (hi : i < 8) (v : Int32) : sA (M8 h b S e B) 8 0 23 (8 * b + i) v = M8 h b (upA S 0 i v) e B := by
  refine M8_set h b S e B fun a => ?_
  by_cases z : a = 23
  · subst z
    rw [if_pos rfl, arr8_23, arr8_23, upA_a, wr_upd _ _ _ hi]
  · rw [if_neg z]
    unfold arr8
    rw [if_neg z, if_neg z, upA_n S i v (show (6 : Nat) ≠ 0 by decide), upA_n S i v (show (7 : Nat) ≠ 0 by decide), upA_n S i v (show (9 : Nat) ≠ 0 by decide)]
    rfl
theorem M8_s6 {i : Nat} (hi : i < 4) (v : Int32) : sA (M8 h b S e B) 8 0 28 (4 * b + i) v = M8 h b (upA S 6 i v) e B := by
  refine M8_set h b S e B fun a => ?_
  by_cases z : a = 28
  · subst z
    rw [if_pos rfl, arr8_28, arr8_28, upA_a, wr_upd _ _ _ hi]
  · rw [if_neg z]
    unfold arr8
    rw [if_neg z, if_neg z, upA_n S i v (show (0 : Nat) ≠ 6 by decide), upA_n S i v (show (7 : Nat) ≠ 6 by decide), upA_n S i v (show (9 : Nat) ≠ 6 by decide)]
    rfl
theorem M8_s7 {i : Nat} (hi : i < 4) (v : Int32) : sA (M8 h b S e B) 8 0 29 (4 * b + i) v = M8 h b (upA S 7 i v) e B := by
  refine M8_set h b S e B fun a => ?_
  by_cases z : a = 29
  · subst z
    rw [if_pos rfl, arr8_29, arr8_29, upA_a, wr_upd _ _ _ hi]
  · rw [if_neg z]
    unfold arr8
    rw [if_neg z, if_neg z, upA_n S i v (show (0 : Nat) ≠ 7 by decide), upA_n S i v (show (6 : Nat) ≠ 7 by decide), upA_n S i v (show (9 : Nat) ≠ 7 by decide)]
    rfl
theorem M8_s9 {i : Nat} (hi : i < 6) (v : Int32) : sA (M8 h b S e B) 8 0 30 (6 * b + i) v = M8 h b (upA S 9 i v) e B := by
  refine M8_set h b S e B fun a => ?_
  by_cases z : a = 30
  · subst z
    rw [if_pos rfl, arr8_30, arr8_30, upA_a, wr_upd _ _ _ hi]
  · rw [if_neg z]
    unfold arr8
    rw [if_neg z, if_neg z, upA_n S i v (show (0 : Nat) ≠ 9 by decide), upA_n S i v (show (6 : Nat) ≠ 9 by decide), upA_n S i v (show (7 : Nat) ≠ 9 by decide)]
    rfl
theorem M8_sheap (v : Int32) : sA (M8 h b S e B) 8 0 31 b v = M8 h b (upI S 12 v) e B := by
  refine M8_set h b S e B fun a => ?_
  by_cases z : a = 31
  · subst z
    rw [if_pos rfl, arr8_31, arr8_31, upI_i, wr_ub]
  · rw [if_neg z]
    unfold arr8
    rw [if_neg z, if_neg z, upI_n S v (show (13 : Nat) ≠ 12 by decide), upI_n S v (show (11 : Nat) ≠ 12 by decide)]
    rfl
theorem M8_ssea (v : Int32) : sA (M8 h b S e B) 8 0 32 b v = M8 h b (upI S 13 v) e B := by
  refine M8_set h b S e B fun a => ?_
  by_cases z : a = 32
  · subst z
    rw [if_pos rfl, arr8_32, arr8_32, upI_i, wr_ub]
  · rw [if_neg z]
    unfold arr8
    rw [if_neg z, if_neg z, upI_n S v (show (12 : Nat) ≠ 13 by decide), upI_n S v (show (11 : Nat) ≠ 13 by decide)]
    rfl
theorem M8_shour (v : Int32) : sA (M8 h b S e B) 8 0 33 b v = M8 h b (upI S 11 v) e B := by
  refine M8_set h b S e B fun a => ?_
  by_cases z : a = 33
  · subst z
    rw [if_pos rfl, arr8_33, arr8_33, upI_i, wr_ub]
  · rw [if_neg z]
    unfold arr8
    rw [if_neg z, if_neg z, upI_n S v (show (12 : Nat) ≠ 11 by decide), upI_n S v (show (13 : Nat) ≠ 11 by decide)]
    rfl
end Alg
/-- an index into a half -/
theorem ixN {n b i : Nat} (hn : n < 10) (hb : b < 2) (hi : i < n) : nI n * nI b + nI i = nI (n * b + i) := by
  rw [← nI_add]
  congr 1
  rcases (show b = 0 ∨ b = 1 by omega) with rfl | rfl
  · rw [Nat.mul_zero]; exact Int32.mul_zero
  · rw [Nat.mul_one]; exact Int32.mul_one _
theorem ix8 {b i : Nat} (hb : b < 2) (hi : i < 8) : (8 : Int32) * nI b + nI i = nI (8 * b + i) := ixN (n := 8) (by decide) hb hi
theorem ix4 {b i : Nat} (hb : b < 2) (hi : i < 4) : (4 : Int32) * nI b + nI i = nI (4 * b + i) := ixN (n := 4) (by decide) hb hi
theorem ix6 {b i : Nat} (hb : b < 2) (hi : i < 6) : (6 : Int32) * nI b + nI i = nI (6 * b + i) := ixN (n := 6) (by decide) hb hi
theorem mul_lt {n b i : Nat} (hb : b < 2) (hi : i < n) : n * b + i < 2 * n := by
  rcases (show b = 0 ∨ b = 1 by omega) with rfl | rfl
  · rw [Nat.mul_zero]; omega
  · rw [Nat.mul_one]; omega

