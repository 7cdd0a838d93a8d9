-- PURE: numbers, checks, loops; a strand's part of the memory
theorem iter_s {F : Type} (bot : F) (b : F → F) (n : Nat) : iter bot b (n + 1) = b (iter bot b n) := rfl
theorem iter_inv {F : Type} {bot : F} {b : F → F} (P : Nat → F → Prop) (h0 : P 0 bot) (hs : ∀ m r, P m r → P (m + 1) (b r)) : ∀ n, P n (iter bot b n)
  | 0 => h0
  | n + 1 => hs n _ (iter_inv P h0 hs n)
theorem grd_p {α : Type} {c : Prop} [Decidable c] (hc : c) (k : Option α) : grd c k = k := if_pos hc
theorem inb_n {j n : Nat} (h : j < n) (hn : n < 2 ^ 31) : inb (nI j) n := ⟨nI_pos' (by omega), by rw [nI_clamp (by omega)]; exact h⟩
theorem jn_e {F α : Type} (f : F) (k : F → Option α) : jn f k = k f := (Eq.refl (jn f k)).trans (by unfold jn; exact Eq.refl _)
theorem lt_e {β α : Type} (x : β) (k : β → Option α) : lt_ x k = k x := (Eq.refl (lt_ x k)).trans (by unfold lt_; exact Eq.refl _)
theorem onO_s {α : Type} (u : Nat) (k : Nat → Option α) : onO (some u) k = k u := (Eq.refl _).trans (by unfold onO; exact Eq.refl _)
theorem bd2_s {α β : Type} (v : β) (h : Hp) (k : β → Hp → Option α) : bd2 (some (v, h)) k = k v h := (Eq.refl _).trans (by unfold bd2; exact Eq.refl _)
theorem bind_s {α β : Type} (v : β) (k : β → Option α) : (some v).bind k = k v := (Eq.refl _).trans (by unfold Option.bind; exact Eq.refl _)
theorem b2i0 (b : Bool) : (b2i b = 0) = (b = false) := by cases b <;> simp [b2i]
theorem nb2i0 (b : Bool) : (¬ b2i b = 0) = (b = true) := by cases b <;> simp [b2i]
theorem m32_2 : (nI 2 + -2 : Int32) = 0 := by decide
theorem m32_1 : (nI 1 + -1 : Int32) = 0 := by decide
theorem nI_m2 (u : Nat) : nI (u + 2) + -2 = nI u := by rw [← nI_add, Int32.add_assoc, m32_2, Int32.add_zero]
theorem nI_m1 (u : Nat) : nI (u + 1) + -1 = nI u := by rw [← nI_add, Int32.add_assoc, m32_1, Int32.add_zero]
theorem leN {a b : Nat} (h : a ≤ b) (hb : b < 2 ^ 31) : nI a ≤ nI b := nI_le h hb
theorem nleN {a b : Nat} (h : b < a) (hb : a < 2 ^ 31) : ¬ nI a ≤ nI b := nI_ge h hb
theorem clN {a : Nat} (h : a < 2 ^ 31) : (nI a).toNatClampNeg = a := nI_clamp h
/-- a strand's slices: arrays by number and place, numbers by slot -/
abbrev Str : Type := (Nat → Nat → Int32) × (Nat → Int32)
abbrev Scr : Type := Nat → Nat → Nat → Nat → Int64
def upA (S : Str) (k i : Nat) (v : Int32) : Str := (fun k' => if k' = k then upd (S.1 k) i v else S.1 k', S.2)
def upI (S : Str) (k : Nat) (v : Int32) : Str := (S.1, fun k' => if k' = k then v else S.2 k')
/-- the memory h with strand o as S, and what the long arrays hold as B -/
def M3 (h : Hp) (o : Nat) (S : Str) (B : Scr) : Hp := (fun c o' k => if c = 3 ∧ o' = o then S.2 k else h.1 c o' k, h.2.1, h.2.2.1, fun c o' k => if c = 3 ∧ o' = o then S.1 k else h.2.2.2.1 c o' k, B)
def vw (h : Hp) (o : Nat) : Str := (fun k => gA h 3 o k, fun k => gI h 3 o k)
theorem M3_vw (h : Hp) (o : Nat) : M3 h o (vw h o) h.2.2.2.2 = h := by
  obtain ⟨a, b, c, d, e⟩ := h
  unfold M3 vw gA gI
  refine Prod.ext ?_ (Prod.ext rfl (Prod.ext rfl (Prod.ext ?_ rfl)))
  · funext c o' k
    show (if c = 3 ∧ o' = o then a 3 o k else a c o' k) = a c o' k
    by_cases z : c = 3 ∧ o' = o
    · rw [if_pos z, z.1, z.2]
    · rw [if_neg z]
  · funext c o' k
    show (if c = 3 ∧ o' = o then d 3 o k else d c o' k) = d c o' k
    by_cases z : c = 3 ∧ o' = o
    · rw [if_pos z, z.1, z.2]
    · rw [if_neg z]
section Alg
variable (h : Hp) (o : Nat) (S : Str) (B : Scr)
theorem M3_I3 (k : Nat) : gI (M3 h o S B) 3 o k = S.2 k := if_pos ⟨rfl, rfl⟩
theorem M3_A3 (k : Nat) : gA (M3 h o S B) 3 o k = S.1 k := if_pos ⟨rfl, rfl⟩
theorem M3_Z3 (k : Nat) : gZ (M3 h o S B) 3 o k = decide (¬ S.2 k = 0) := by rw [gZ, M3_I3]
theorem M3_I (c o' k : Nat) (hc : c ≠ 3) : gI (M3 h o S B) c o' k = gI h c o' k := if_neg fun z => hc z.1
theorem M3_A (c o' k : Nat) (hc : c ≠ 3) : gA (M3 h o S B) c o' k = gA h c o' k := if_neg fun z => hc z.1
theorem M3_I5 (t k : Nat) : gI (M3 h o S B) 5 t k = gI h 5 t k := M3_I h o S B 5 t k (by decide)
theorem M3_A5 (t k : Nat) : gA (M3 h o S B) 5 t k = gA h 5 t k := M3_A h o S B 5 t k (by decide)
theorem M3_A0 (t k : Nat) : gA (M3 h o S B) 0 t k = gA h 0 t k := M3_A h o S B 0 t k (by decide)
theorem M3_O (c o' k : Nat) : gO (M3 h o S B) c o' k = gO h c o' k := rfl
theorem M3_sA (k i : Nat) (v : Int32) : sA (M3 h o S B) 3 o k i v = M3 h o (upA S k i v) B := by
  unfold sA sAf
  rw [M3_A3]
  unfold M3 upA at3
  refine Prod.ext rfl (Prod.ext rfl (Prod.ext rfl (Prod.ext ?_ rfl)))
  funext c o' k'
  show (if c = 3 ∧ o' = o ∧ k' = k then _ else if c = 3 ∧ o' = o then _ else _) = (if c = 3 ∧ o' = o then if k' = k then _ else _ else _)
  by_cases z : c = 3 ∧ o' = o
  · by_cases w : k' = k
    · rw [if_pos ⟨z.1, z.2, w⟩, if_pos z, if_pos w]
    · rw [if_neg (fun q => w q.2.2), if_pos z, if_pos z, if_neg w]
  · rw [if_neg (fun q => z ⟨q.1, q.2.1⟩), if_neg z, if_neg z]
theorem M3_sI (k : Nat) (v : Int32) : sI (M3 h o S B) 3 o k v = M3 h o (upI S k v) B := by
  unfold sI M3 upI at3
  refine Prod.ext ?_ rfl
  funext c o' k'
  show (if c = 3 ∧ o' = o ∧ k' = k then _ else if c = 3 ∧ o' = o then _ else _) = (if c = 3 ∧ o' = o then if k' = k then _ else _ else _)
  by_cases z : c = 3 ∧ o' = o
  · by_cases w : k' = k
    · rw [if_pos ⟨z.1, z.2, w⟩, if_pos z, if_pos w]
    · rw [if_neg (fun q => w q.2.2), if_pos z, if_pos z, if_neg w]
  · rw [if_neg (fun q => z ⟨q.1, q.2.1⟩), if_neg z, if_neg z]
theorem M3_sB (c o' k i : Nat) (v : Int64) : sB (M3 h o S B) c o' k i v = M3 h o S (at3 B c o' k (vp_updL (B c o' k) i v)) := rfl
end Alg
theorem upA_a (S : Str) (k i : Nat) (v : Int32) : (upA S k i v).1 k = upd (S.1 k) i v := if_pos rfl
theorem upA_n (S : Str) {k k' : Nat} (i : Nat) (v : Int32) (hk : k' ≠ k) : (upA S k i v).1 k' = S.1 k' := if_neg hk
theorem upA_i (S : Str) (k i : Nat) (v : Int32) : (upA S k i v).2 = S.2 := rfl
theorem upI_i (S : Str) (k : Nat) (v : Int32) : (upI S k v).2 k = v := if_pos rfl
theorem upI_n (S : Str) {k k' : Nat} (v : Int32) (hk : k' ≠ k) : (upI S k v).2 k' = S.2 k' := if_neg hk
theorem upI_a (S : Str) (k : Nat) (v : Int32) : (upI S k v).1 = S.1 := rfl
theorem upd_s (f : Nat → Int32) (i : Nat) (v : Int32) : upd f i v i = v := if_pos rfl
theorem upd_n (f : Nat → Int32) {i j : Nat} (v : Int32) (hj : j ≠ i) : upd f i v j = f j := if_neg hj
-- the law of a kind, worked out
def joinM (g : Int32) (a b : Int64) : Int64 :=
  if g = 4 then (if a ≤ b then 1 else 0) else if g = 5 then (if a = b then 0 else 1) else if g = 6 then (if b ≤ a then 1 else 0)
  else if g = 42 then (if a = 0 ∨ ¬ (1000000000000 / (if 0 ≤ a then a else -a)) < (if 0 ≤ b then b else -b) then a * b else (-9223372036854775808 : Int64))
  else if g = 43 then a + b else if g = 45 then a - b else if g = 47 then (if b = 0 then (-9223372036854775808 : Int64) else a / b)
  else if g = 60 then (if a < b then 1 else 0) else if g = 61 then (if a = b then 1 else 0) else if g = 62 then (if b < a then 1 else 0)
  else if g = 280 then (if ¬ a = 0 ∧ ¬ b = 0 then 1 else 0) else if g = 281 then (if ¬ a = 0 ∨ ¬ b = 0 then 1 else 0) else (-9223372036854775808 : Int64)
theorem cl_joined (g : Int32) (a b : Int64) : f_X0_joined g a b = some (joinM g a b) := by
  unfold f_X0_joined joinM
  simp only [jn_e, lg_cmp_ge, lg_cmp_le, lg_cmp_gt, lg_cmp_lt, lg_cmp_eq]
  by_cases z : g = 4
  · rw [if_pos z, if_pos z]
    by_cases q : a ≤ b
    · rw [if_neg (Int64.not_lt.mpr q), if_pos q]
    · rw [if_pos (Int64.not_le.mp q), if_neg q]
  rw [if_neg z, if_neg z]; clear z
  by_cases z : g = 5
  · rw [if_pos z, if_pos z]
    by_cases q : a = b
    · rw [if_pos q, if_pos q]
    · rw [if_neg q, if_neg q]
  rw [if_neg z, if_neg z]; clear z
  by_cases z : g = 6
  · rw [if_pos z, if_pos z]
    by_cases q : b ≤ a
    · rw [if_neg (Int64.not_lt.mpr q), if_pos q]
    · rw [if_pos (Int64.not_le.mp q), if_neg q]
  rw [if_neg z, if_neg z]; clear z
  by_cases z : g = 42
  · rw [if_pos z, if_pos z]
    have key : ∀ v4 v5 : Int64, (a = 0 ↔ v4 = 0) → (if v4 = 0 then some (a * b) else grd (¬ v4 = 0) (if v5 ≤ (1000000000000 : Int64) / v4 then some (a * b) else some (-9223372036854775808 : Int64))) = some (if a = 0 ∨ ¬ (1000000000000 / v4) < v5 then a * b else (-9223372036854775808 : Int64)) := by
      intro v4 v5 hv
      by_cases w : v4 = 0
      · rw [if_pos w, if_pos (Or.inl (hv.mpr w))]
      · rw [if_neg w, grd_p w]
        by_cases q : v5 ≤ (1000000000000 : Int64) / v4
        · rw [if_pos q, if_pos (Or.inr (Int64.not_lt.mpr q))]
        · rw [if_neg q, if_neg]
          rintro (u | u)
          · exact w (hv.mp u)
          · exact u (Int64.not_le.mp q)
    have hn : a = 0 ↔ -a = 0 := by
      constructor
      · intro e; rw [e]; rfl
      · intro e
        have e2 : - -a = -0 := by rw [e]
        rw [Int64.neg_neg] at e2
        exact e2
    by_cases qa : 0 ≤ a <;> by_cases qb : 0 ≤ b <;> simp only [if_pos, if_neg, qa, qb, if_true, if_false, not_false_eq_true]
    · exact key a b Iff.rfl
    · exact key a (-b) Iff.rfl
    · exact key (-a) b hn
    · exact key (-a) (-b) hn
  rw [if_neg z, if_neg z]; clear z
  by_cases z : g = 43
  · rw [if_pos z, if_pos z]
  rw [if_neg z, if_neg z]; clear z
  by_cases z : g = 45
  · rw [if_pos z, if_pos z]
  rw [if_neg z, if_neg z]; clear z
  by_cases z : g = 47
  · rw [if_pos z, if_pos z]
    by_cases q : b = 0
    · rw [if_neg (fun n => n q), if_pos q]
    · rw [if_pos q, if_neg q, grd_p q]
  rw [if_neg z, if_neg z]; clear z
  by_cases z : g = 60
  · rw [if_pos z, if_pos z]
    by_cases q : a < b
    · rw [if_neg (Int64.not_le.mpr q), if_pos q]
    · rw [if_pos (Int64.not_lt.mp q), if_neg q]
  rw [if_neg z, if_neg z]; clear z
  by_cases z : g = 61
  · rw [if_pos z, if_pos z]
    by_cases q : a = b
    · rw [if_neg (fun n => n q), if_pos q]
    · rw [if_pos q, if_neg q]
  rw [if_neg z, if_neg z]; clear z
  by_cases z : g = 62
  · rw [if_pos z, if_pos z]
    by_cases q : b < a
    · rw [if_neg (Int64.not_le.mpr q), if_pos q]
    · rw [if_pos (Int64.not_lt.mp q), if_neg q]
  rw [if_neg z, if_neg z]; clear z
  by_cases z : g = 280
  · rw [if_pos z, if_pos z]
    by_cases q : a = 0 <;> by_cases w : b = 0 <;> simp [q, w]
  rw [if_neg z, if_neg z]; clear z
  by_cases z : g = 281
  · rw [if_pos z, if_pos z]
    by_cases q : a = 0 <;> by_cases w : b = 0 <;> simp [q, w]
  rw [if_neg z, if_neg z]

