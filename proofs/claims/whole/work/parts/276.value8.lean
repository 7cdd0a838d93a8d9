-- PURE: a knot worked out by the reference
theorem at3_at3 {α : Type} (f : Nat → Nat → Nat → α) (c o k : Nat) (v w : α) : at3 (at3 f c o k v) c o k w = at3 f c o k w := by
  funext c' o' k'
  unfold at3
  by_cases z : c' = c ∧ o' = o ∧ k' = k
  · rw [if_pos z, if_pos z]
  · rw [if_neg z, if_neg z, if_neg z]
theorem sE_sZ (g : Hp) (e : Bool) (B : Scr) (v : Bool) : sZ (sE g e B) 8 0 49 v = sE g v B := by
  show (at3 (at3 g.1 8 0 49 (b2i e)) 8 0 49 (b2i v), g.2.1, g.2.2.1, g.2.2.2.1, B) = _
  rw [at3_at3]
  rfl
theorem sE_e (g : Hp) (e : Bool) (B : Scr) : gZ (sE g e B) 8 0 49 = e := by
  unfold gZ
  rw [sE_at, if_pos rfl, Z_b]
theorem sE_sB (g : Hp) (e : Bool) (B : Scr) (c o k i : Nat) (v : Int64) : sB (sE g e B) c o k i v = sE g e (at3 B c o k (vp_updL (B c o k) i v)) := rfl
theorem sE_A (g : Hp) (e : Bool) (B : Scr) (k : Nat) : gA (sE g e B) 8 0 k = gA g 8 0 k := rfl
theorem sE_B (g : Hp) (e : Bool) (B : Scr) (k : Nat) : gB (sE g e B) 8 0 k = B 8 0 k := rfl
def big : Int64 := 1000000000000
/-- beyond all values -/
def ovM (v : Int64) : Bool := decide (1000000000000 < v ∨ v < -1000000000000)
/-- a product beyond all values -/
def muM (a b : Int64) : Bool := decide (¬ a = 0 ∧ ¬ b = 0 ∧ (1000000000000 / (if 0 ≤ a then a else -a)) < (if 0 ≤ b then b else -b))
def cpM (kt : Int32) (a b : Int64) : Bool := if kt = 5 then decide (a < b) else if kt = 6 then decide (a ≤ b) else if kt = 7 then decide (a = b) else if kt = 8 then decide (¬ a = b) else if kt = 9 then decide (b ≤ a) else decide (b < a)
def vlM (kt pt ot : Int32) (nm V : Nat → Int64) (e : Bool) : Int64 × Bool :=
  if kt = 0 then (pt.toInt64, e) else if kt = 1 then (nm pt.toNatClampNeg, e)
  else if kt = 2 then (if V pt.toNatClampNeg = 0 then 1 else 0, e)
  else if kt = 3 then (if ¬ V pt.toNatClampNeg = 0 ∧ ¬ V ot.toNatClampNeg = 0 then 1 else 0, e)
  else if kt = 4 then (if ¬ V pt.toNatClampNeg = 0 ∨ ¬ V ot.toNatClampNeg = 0 then 1 else 0, e)
  else if kt = 11 then (if (e || ovM (V pt.toNatClampNeg + V ot.toNatClampNeg)) = true then 0 else V pt.toNatClampNeg + V ot.toNatClampNeg, e || ovM (V pt.toNatClampNeg + V ot.toNatClampNeg))
  else if kt = 12 then (if (e || ovM (V pt.toNatClampNeg - V ot.toNatClampNeg)) = true then 0 else V pt.toNatClampNeg - V ot.toNatClampNeg, e || ovM (V pt.toNatClampNeg - V ot.toNatClampNeg))
  else if kt = 13 then (if (e || muM (V pt.toNatClampNeg) (V ot.toNatClampNeg)) = true then 0 else V pt.toNatClampNeg * V ot.toNatClampNeg, e || muM (V pt.toNatClampNeg) (V ot.toNatClampNeg))
  else if kt = 14 then (if (e || decide (V ot.toNatClampNeg = 0)) = true then 0 else V pt.toNatClampNeg / V ot.toNatClampNeg, e || decide (V ot.toNatClampNeg = 0))
  else (if cpM kt (V pt.toNatClampNeg) (V ot.toNatClampNeg) = true then 1 else 0, e)
section Value
variable {g : Hp} {e : Bool} {B : Scr}
theorem m_bounded (v : Int64) : f_X8_bounded (sE g e B) v = some (if (e || ovM v) = true then 0 else v, sE g (e || ovM v) B) := by
  unfold f_X8_bounded ovM
  simp only [jn_e, lt_e, sE_e, sE_sZ, lg_cmp_ge, lg_cmp_le, lg_cmp_gt, lg_cmp_lt, lg_cmp_eq]
  cases e with
  | true => rw [if_pos (show ¬ b2i true = 0 by decide), if_neg (show ¬ b2i true = 0 by decide)]; simp
  | false =>
    rw [if_neg (show ¬ ¬ b2i false = 0 by decide)]
    by_cases y : 1000000000000 < v
    · rw [if_pos y, if_neg (show ¬ b2i true = 0 by decide)]; simp [y]
    rw [if_neg y]
    by_cases w : -1000000000000 ≤ v
    · rw [if_pos w, if_pos (show b2i false = 0 from rfl)]
      simp [y, Int64.not_lt.mpr w]
    · rw [if_neg w, if_neg (show ¬ b2i true = 0 by decide)]
      simp [Int64.not_le.mp w]
theorem m_times (a b : Int64) : f_X8_times (sE g e B) a b = some (if (e || muM a b) = true then 0 else a * b, sE g (e || muM a b) B) := by
  have fin : ∀ m : Bool, (if ¬ (b2i e) = 0 then (if (b2i true) = 0 then some (a * b, sE g true B) else some ((0 : Int64), sE g true B)) else if (b2i m) = 0 then (if (b2i false) = 0 then some (a * b, sE g false B) else some ((0 : Int64), sE g false B)) else (if (b2i true) = 0 then some (a * b, sE g true B) else some ((0 : Int64), sE g true B))) = some (if (e || m) = true then 0 else a * b, sE g (e || m) B) := by
    intro m
    cases e <;> cases m <;> rfl
  unfold f_X8_times
  simp only [jn_e, lt_e, sE_e, sE_sZ, lg_cmp_ge, lg_cmp_le, lg_cmp_gt, lg_cmp_lt, lg_cmp_eq]
  by_cases za : a = 0
  · rw [if_pos za, fin false]
    have : muM a b = false := decide_eq_false (fun q => q.1 za)
    rw [this]
  rw [if_neg za]
  by_cases zb : b = 0
  · rw [if_pos zb, fin false]
    have : muM a b = false := decide_eq_false (fun q => q.2.1 zb)
    rw [this]
  rw [if_neg zb]
  have hn : ∀ x : Int64, ¬ x = 0 → ¬ -x = 0 := fun x hx q => hx (by
    have e2 : - -x = -0 := by rw [q]
    rw [Int64.neg_neg] at e2
    exact e2)
  have key : ∀ v6 v5 : Int64, ¬ v6 = 0 → (1000000000000 / (if 0 ≤ a then a else -a)) = 1000000000000 / v6 → (if 0 ≤ b then b else -b) = v5 → (grd (¬ v6 = 0) (if v5 ≤ (1000000000000 : Int64) / v6 then (if ¬ (b2i e) = 0 then (if (b2i true) = 0 then some (a * b, sE g true B) else some ((0 : Int64), sE g true B)) else if (b2i false) = 0 then (if (b2i false) = 0 then some (a * b, sE g false B) else some ((0 : Int64), sE g false B)) else (if (b2i true) = 0 then some (a * b, sE g true B) else some ((0 : Int64), sE g true B))) else (if ¬ (b2i e) = 0 then (if (b2i true) = 0 then some (a * b, sE g true B) else some ((0 : Int64), sE g true B)) else if (b2i true) = 0 then (if (b2i false) = 0 then some (a * b, sE g false B) else some ((0 : Int64), sE g false B)) else (if (b2i true) = 0 then some (a * b, sE g true B) else some ((0 : Int64), sE g true B))))) = some (if (e || muM a b) = true then 0 else a * b, sE g (e || muM a b) B) := by
    intro v6 v5 h6 e6 e5
    rw [grd_p h6]
    by_cases y : v5 ≤ (1000000000000 : Int64) / v6
    · have : muM a b = false := decide_eq_false (fun q => by
        have := q.2.2
        rw [e6, e5] at this
        exact absurd this (Int64.not_lt.mpr y))
      rw [if_pos y, this, fin false]
    · have : muM a b = true := decide_eq_true ⟨za, zb, by rw [e6, e5]; exact Int64.not_le.mp y⟩
      rw [if_neg y, this, fin true]
  by_cases qb : 0 ≤ b <;> by_cases qa : 0 ≤ a
  · rw [if_pos qb, if_pos qa]; exact key a b za (by rw [if_pos qa]) (by rw [if_pos qb])
  · rw [if_pos qb, if_neg qa]; exact key (-a) b (hn a za) (by rw [if_neg qa]) (by rw [if_pos qb])
  · rw [if_neg qb, if_pos qa]; exact key a (-b) za (by rw [if_pos qa]) (by rw [if_neg qb])
  · rw [if_neg qb, if_neg qa]; exact key (-a) (-b) (hn a za) (by rw [if_neg qa]) (by rw [if_neg qb])
theorem m_compares (kt : Int32) (a b : Int64) : f_X8_compares kt a b = some (cpM kt a b) := by
  unfold f_X8_compares cpM
  simp only [jn_e, lg_cmp_ge, lg_cmp_le, lg_cmp_gt, lg_cmp_lt, lg_cmp_eq]
  by_cases q5 : kt = 5
  · rw [if_pos q5, if_pos q5]
    by_cases y : b ≤ a
    · rw [if_pos y, decide_eq_false (Int64.not_lt.mpr y)]
    · rw [if_neg y, decide_eq_true (Int64.not_le.mp y)]
  rw [if_neg q5, if_neg q5]
  by_cases q6 : kt = 6
  · rw [if_pos q6, if_pos q6]
    by_cases y : b < a
    · rw [if_pos y, decide_eq_false (Int64.not_le.mpr y)]
    · rw [if_neg y, decide_eq_true (Int64.not_lt.mp y)]
  rw [if_neg q6, if_neg q6]
  by_cases q7 : kt = 7
  · rw [if_pos q7, if_pos q7]
    by_cases y : a = b
    · rw [if_neg (fun q => q y), decide_eq_true y]
    · rw [if_pos y, decide_eq_false y]
  rw [if_neg q7, if_neg q7]
  by_cases q8 : kt = 8
  · rw [if_pos q8, if_pos q8]
    by_cases y : a = b
    · rw [if_pos y, decide_eq_false (fun q => q y)]
    · rw [if_neg y, decide_eq_true y]
  rw [if_neg q8, if_neg q8]
  by_cases q9 : kt = 9
  · rw [if_pos q9, if_pos q9]
    by_cases y : a < b
    · rw [if_pos y, decide_eq_false (Int64.not_le.mpr y)]
    · rw [if_neg y, decide_eq_true (Int64.not_lt.mp y)]
  rw [if_neg q9, if_neg q9]
  by_cases y : a ≤ b
  · rw [if_pos y, decide_eq_false (Int64.not_lt.mpr y)]
  · rw [if_neg y, decide_eq_true (Int64.not_le.mp y)]
theorem m_valueOf {i : Nat} (hi : i < 128) {kt pt ot : Int32} (ek : gA g 8 0 16 i = kt) (ep : gA g 8 0 17 i = pt) (eo : gA g 8 0 18 i = ot) (h1 : kt = 1 → inb pt 7) (h2 : ¬ kt = 0 → ¬ kt = 1 → inb pt 64) (h3 : ¬ kt = 0 → ¬ kt = 1 → ¬ kt = 2 → inb ot 64) : f_X8_valueOf (sE g e B) (nI i) = some ((vlM kt pt ot (B 8 0 21) (B 8 0 22) e).1, sE g (vlM kt pt ot (B 8 0 21) (B 8 0 22) e).2 B) := by
  have ib := inb_n (j := i) (n := 128) hi (by omega)
  unfold f_X8_valueOf vlM
  simp only [grd_p ib, clN (show i < 2 ^ 31 by omega), sE_A, sE_B, ek, ep, eo, m_bounded, m_times, m_compares, bd2_s, bind_s, jn_e, lt_e, lg_cmp_ge, lg_cmp_le, lg_cmp_gt, lg_cmp_lt, lg_cmp_eq, sE_e, sE_sZ]
  by_cases q0 : kt = 0
  · rw [if_neg (fun q => q q0), if_pos q0]
  rw [if_pos q0, if_neg q0]
  by_cases q1 : kt = 1
  · rw [if_neg (fun q => q q1), if_pos q1, grd_p (h1 q1)]
  rw [if_pos q1, if_neg q1, grd_p (h2 q0 q1)]
  by_cases q2 : kt = 2
  · rw [if_neg (fun q => q q2), if_pos q2]
    by_cases y : B 8 0 22 pt.toNatClampNeg = 0
    · rw [if_neg (fun q => q y), if_pos y]
    · rw [if_pos y, if_neg y]
  rw [if_pos q2, if_neg q2, grd_p (h3 q0 q1 q2)]
  by_cases q3 : kt = 3
  · rw [if_pos q3, if_pos q3]
    by_cases y : B 8 0 22 pt.toNatClampNeg = 0
    · rw [if_pos y, if_neg (fun q => q.1 y)]
    rw [if_neg y]
    by_cases w : B 8 0 22 ot.toNatClampNeg = 0
    · rw [if_pos w, if_neg (fun q => q.2 w)]
    · rw [if_neg w, if_pos ⟨y, w⟩]
  rw [if_neg q3, if_neg q3]
  by_cases q4 : kt = 4
  · rw [if_pos q4, if_pos q4]
    by_cases y : B 8 0 22 pt.toNatClampNeg = 0
    · rw [if_neg (fun q => q y)]
      by_cases w : B 8 0 22 ot.toNatClampNeg = 0
      · rw [if_pos w, if_neg (fun q => q.elim (fun q => q y) (fun q => q w))]
      · rw [if_neg w, if_pos (Or.inr w)]
    · rw [if_pos y, if_pos (Or.inl y)]
  rw [if_neg q4, if_neg q4]
  by_cases q11 : kt = 11
  · rw [if_pos q11, if_pos q11]
  rw [if_neg q11, if_neg q11]
  by_cases q12 : kt = 12
  · rw [if_pos q12, if_pos q12]
  rw [if_neg q12, if_neg q12]
  by_cases q13 : kt = 13
  · rw [if_pos q13, if_pos q13]
  rw [if_neg q13, if_neg q13]
  by_cases q14 : kt = 14
  · rw [if_pos q14, if_pos q14]
    cases e with
    | true => rw [if_pos (show ¬ b2i true = 0 by decide), if_neg (show ¬ b2i true = 0 by decide)]; rfl
    | false =>
      rw [if_neg (show ¬ ¬ b2i false = 0 by decide)]
      by_cases w : B 8 0 22 ot.toNatClampNeg = 0
      · rw [if_neg (fun q => q w), if_neg (show ¬ b2i true = 0 by decide), decide_eq_true w]; rfl
      · rw [if_pos w, if_pos (show b2i false = 0 from rfl), grd_p w, decide_eq_false w]; rfl
  rw [if_neg q14, if_neg q14]
  cases cpM kt (B 8 0 22 pt.toNatClampNeg) (B 8 0 22 ot.toNatClampNeg) with
  | true => rw [if_neg (show ¬ b2i true = 0 by decide), if_pos rfl]
  | false => rw [if_pos (show b2i false = 0 from rfl), if_neg (fun q => Bool.noConfusion q)]
end Value
