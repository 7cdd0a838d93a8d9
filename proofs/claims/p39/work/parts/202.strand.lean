-- PURE: what a strand does in an hour, in numbers; and that the class does it
abbrev Txt : Type := (Nat → Nat → Int32) × (Nat → Int32) × (Nat → (Nat → Int64) → Int64)
def nSt (T : Txt) : Nat := (T.2.1 11).toNatClampNeg
def nCr (T : Txt) : Nat := (T.2.1 12).toNatClampNeg
def nFi (T : Txt) : Nat := (T.2.1 13).toNatClampNeg
def nTi (T : Txt) : Nat := (T.2.1 14).toNatClampNeg
def TOK (T : Txt) : Prop := (T.2.1 11 = nI (nSt T) ∧ nSt T ≤ 8) ∧ (T.2.1 12 = nI (nCr T) ∧ nCr T ≤ 4) ∧ (T.2.1 13 = nI (nFi T) ∧ nFi T ≤ 6) ∧ (T.2.1 14 = nI (nTi T) ∧ nTi T ≤ 4) ∧ (∀ f, f < nFi T → ∃ c, c < nCr T ∧ T.1 5 f = nI c) ∧ (∀ k nm nm', (∀ i, i < 7 → nm i = nm' i) → T.2.2 k nm = T.2.2 k nm')
def txt (h : Hp) (t : Nat) : Txt := (gA h 5 t, gI h 5 t, lawM (gA h 0 t))
def CK (h : Hp) (o t : Nat) : Prop := gO h 3 o 10 = some t ∧ TOK (txt h t) ∧ LOK (gA h 0 t)
def erM : Int64 := -9223372036854775808
def pwM (v : Int64) (most : Int32) : Int32 := if v < 0 then 0 else if most.toInt64 < v then most else v.toInt32
def sumM (f : Nat → Int32) : Nat → Int32
  | 0 => 0
  | n + 1 => sumM f n + f n
/-- the stripe on which most lies, of those that may serve: which, how much -/
def scM (T : Txt) (S : Str) (c : Int32) : Nat → Int32 × Int32
  | 0 => (-2, 0)
  | j + 1 => if (scM T S c j).2 < S.1 0 j ∧ (¬ S.2 14 = 1 ∨ S.1 1 j = c) then (nI j, S.1 0 j) else scM T S c j
theorem scM_s (T : Txt) (S : Str) (c : Int32) (j : Nat) : scM T S c (j + 1) = if (scM T S c j).2 < S.1 0 j ∧ (¬ S.2 14 = 1 ∨ S.1 1 j = c) then (nI j, S.1 0 j) else scM T S c j := rfl
def srcM (T : Txt) (S : Str) (c : Int32) (toFork : Bool) : Int32 :=
  if S.2 14 = 2 ∧ 0 < S.2 12 ∧ toFork = false then -3
  else if (scM T S c (nSt T)).1 = -2 ∧ 0 < S.2 12 ∧ toFork = false then -3 else (scM T S c (nSt T)).1
def hrM (S : Str) : Int32 := S.2 11 - S.2 11 / 24 * 24
/-- the names' values for a place, of a croft or of none (-1) -/
def nmP (S : Str) (lying c : Int32) : Nat → Int64
  | 0 => lying.toInt64
  | 1 => if c = -1 then 0 else (S.1 2 c.toNatClampNeg).toInt64
  | 2 => if c = -1 then 0 else (S.1 3 c.toNatClampNeg).toInt64
  | 3 => (hrM S).toInt64
  | _ => 0
def nmF (T : Txt) (S : Str) (f : Nat) : Nat → Int64
  | 0 => 0
  | 1 => (S.1 2 (T.1 5 f).toNatClampNeg).toInt64
  | 2 => (S.1 3 (T.1 5 f).toNatClampNeg).toInt64
  | 3 => (hrM S).toInt64
  | 4 => (S.1 9 f).toInt64
  | 5 => (T.1 6 f).toInt64
  | _ => (T.1 7 f).toInt64
def worM (T : Txt) (S : Str) (f : Nat) : Int32 := pwM (if T.2.2 3 (nmF T S f) = erM then (T.1 6 f - S.1 9 f).toInt64 else T.2.2 3 (nmF T S f)) 99
def loadM (T : Txt) (S : Str) (c : Nat) (there : Int32) : Int32 :=
  let v := pwM (if T.2.2 0 (nmP S there (nI c)) = erM then (5 * S.1 2 c - S.1 3 c).toInt64 else T.2.2 0 (nmP S there (nI c))) 99
  if there < v then there else v
def tideM (T : Txt) (x : Int32) : Bool := (List.range (nTi T)).any fun i => decide (T.1 8 i = x)
section Class
variable {N : Nat} {h : Hp} {o t : Nat} {S : Str} {B : Scr}
theorem cl_sum (hN : 1000 ≤ N) (g : Hp) (c w a n : Nat) (hn : n ≤ (ak c a).2) (hk : (ak c a).2 < 1000) : f_X3_sum N g c w a (nI n) = some (sumM (gA g c w a) n) := by
  unfold f_X3_sum
  have key := iter_inv (bot := fun _ _ => none) (b := f_X3_sum_4 g c w a (nI n)) (fun m r => ∀ j, j ≤ n → n < m + j → r (sumM (gA g c w a) j) (nI j) = some (sumM (gA g c w a) n)) (fun j _ _ => by omega) (fun m r ih j hj hm => by
    unfold f_X3_sum_4
    simp only [jn_e, lt_e]
    by_cases z : n = j
    · subst z
      rw [if_pos (leN (Nat.le_refl _) (by omega))]
    · have h2 : ¬ Int32.ofNat (ak c a).2 ≤ nI j := nleN (a := (ak c a).2) (by omega) (by omega)
      simp only [if_neg (nleN (show j < n by omega) (show n < 2 ^ 31 by omega)), if_neg h2, grd_p (inb_n (show j < (ak c a).2 by omega) (show (ak c a).2 < 2 ^ 31 by omega)), clN (show j < 2 ^ 31 by omega), nI_1]
      exact ih (j + 1) (by omega) (by omega)) N 0 (by omega) (by omega)
  exact key
theorem cl_putWithin (v : Int64) (m : Int32) : f_X3_putWithin v m = some (pwM v m) := by
  unfold f_X3_putWithin pwM
  simp only [jn_e, lg_cmp_ge, lg_cmp_le]
  by_cases z : 0 ≤ v
  · rw [if_pos z, if_neg (Int64.not_lt.mpr z)]
    by_cases w : v ≤ m.toInt64
    · rw [if_pos w, if_neg (Int64.not_lt.mpr w)]
    · rw [if_neg w, if_pos (Int64.not_le.mp w), Int32.toInt32_toInt64]
  · rw [if_neg z, if_pos (Int64.not_le.mp z)]
    rfl
theorem cl_sourceOf (hN : 1000 ≤ N) (C : CK h o t) (c : Int32) (b : Bool) : f_X3_sourceOf N (M3 h o S B) o c b = some (srcM (txt h t) S c b) := by
  obtain ⟨ho, ⟨⟨hs, hs8⟩, -⟩, -⟩ := C
  have loop : ∀ (v1 : Bool), iter (fun _ _ _ => none) (f_X3_sourceOf_42 (M3 h o S B) o c v1) N (-2) 0 0 = some (if (scM (txt h t) S c (nSt (txt h t))).1 = -2 ∧ v1 = true then -3 else (scM (txt h t) S c (nSt (txt h t))).1) := by
    intro v1
    refine iter_inv (bot := fun _ _ _ => none) (b := f_X3_sourceOf_42 (M3 h o S B) o c v1) (fun m r => ∀ j, j ≤ nSt (txt h t) → nSt (txt h t) < m + j → r (scM (txt h t) S c j).1 (scM (txt h t) S c j).2 (nI j) = some (if (scM (txt h t) S c (nSt (txt h t))).1 = -2 ∧ v1 = true then -3 else (scM (txt h t) S c (nSt (txt h t))).1)) (fun j _ _ => by omega) (fun m r ih j hj hm => ?_) N 0 (by omega) (by omega)
    unfold f_X3_sourceOf_42
    have hs' : gI h 5 t 11 = nI (nSt (txt h t)) := hs
    simp only [jn_e, lt_e, M3_O, ho, onO_s, M3_I5, M3_I3, M3_A3, hs', b2i0]
    by_cases z : nSt (txt h t) = j
    · subst z
      rw [if_pos (leN (Nat.le_refl _) (by omega))]
      by_cases w : (scM (txt h t) S c (nSt (txt h t))).1 = -2
      · rw [if_neg (fun q => q w)]
        cases v1
        · rw [if_pos rfl, if_neg (fun q => Bool.noConfusion q.2)]
        · rw [if_neg (fun q => Bool.noConfusion q), if_pos ⟨w, rfl⟩]
      · rw [if_pos w, if_neg (fun q => w q.1)]
    · simp only [if_neg (nleN (show j < nSt (txt h t) by omega) (show nSt (txt h t) < 2 ^ 31 by omega)), grd_p (inb_n (show j < 8 by omega) (show 8 < 2 ^ 31 by omega)), clN (show j < 2 ^ 31 by omega), nI_1]
      have nx := ih (j + 1) (by omega) (by omega)
      rw [scM_s] at nx
      by_cases w : S.1 0 j ≤ (scM (txt h t) S c j).2
      · rw [if_neg (fun q => absurd q.1 (Int32.not_lt.mpr w))] at nx
        rw [if_pos w]
        exact nx
      · rw [if_neg w]
        by_cases u : S.2 14 = 1
        · rw [if_neg (fun q => q u)]
          by_cases y : S.1 1 j = c
          · rw [if_pos ⟨Int32.not_le.mp w, Or.inr y⟩] at nx
            rw [if_neg (fun q => q y)]
            exact nx
          · rw [if_neg (fun q => q.2.elim (fun z => z u) y)] at nx
            rw [if_pos y]
            exact nx
        · rw [if_pos ⟨Int32.not_le.mp w, Or.inl u⟩] at nx
          rw [if_pos u]
          exact nx
  unfold f_X3_sourceOf srcM
  simp only [jn_e, M3_I3, loop, nb2i0, b2i0]
  by_cases z : S.2 12 ≤ 0
  · have z' : ¬ 0 < S.2 12 := Int32.not_lt.mpr z
    simp [z, z']
  · have z' : 0 < S.2 12 := Int32.not_le.mp z
    cases b <;> simp [z, z']
    by_cases w : S.2 14 = 2 <;> simp [w]
theorem cl_hasTide (hN : 1000 ≤ N) (g : Hp) (t : Nat) (hT : TOK (txt g t)) (x : Int32) : f_X5_hasTide N g t x = some (tideM (txt g t) x) := by
  obtain ⟨-, -, -, ⟨hs, hs4⟩, -⟩ := hT
  have hs' : gI g 5 t 14 = nI (nTi (txt g t)) := hs
  unfold f_X5_hasTide tideM
  have key := iter_inv (bot := fun _ => none) (b := f_X5_hasTide_2 g t x) (fun m r => ∀ j, j ≤ nTi (txt g t) → nTi (txt g t) < m + j → r (nI j) = some ((List.range' j (nTi (txt g t) - j)).any fun i => decide (gA g 5 t 8 i = x))) (fun j _ _ => by omega) (fun m r ih j hj hm => by
    unfold f_X5_hasTide_2
    simp only [lt_e, hs']
    by_cases z : nTi (txt g t) = j
    · rw [z, if_pos (leN (Nat.le_refl _) (by omega)), Nat.sub_self]
      rfl
    · simp only [if_neg (nleN (show j < nTi (txt g t) by omega) (show nTi (txt g t) < 2 ^ 31 by omega)), grd_p (inb_n (show j < 4 by omega) (show 4 < 2 ^ 31 by omega)), clN (show j < 2 ^ 31 by omega), nI_1]
      obtain ⟨u, hu⟩ : ∃ u, nTi (txt g t) - j = u + 1 := ⟨nTi (txt g t) - j - 1, by omega⟩
      rw [hu, List.range'_succ, List.any_cons]
      by_cases w : gA g 5 t 8 j = x
      · rw [if_neg (fun q => q w), decide_eq_true w, Bool.true_or]
      · rw [if_pos w, decide_eq_false w, Bool.false_or, ih (j + 1) (by omega) (by omega)]
        rw [show nTi (txt g t) - (j + 1) = u by omega]) N 0 (by omega) (by omega)
  rw [show (0 : Int32) = nI 0 from rfl, key, Nat.sub_zero, List.range_eq_range']
  rfl
end Class

