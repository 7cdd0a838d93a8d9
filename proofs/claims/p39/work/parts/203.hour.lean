-- PURE: an hour
/-- the field of greatest worth: which, how much -/
def bfM (T : Txt) (S : Str) (c : Int32) : Nat → Int32 × Int32
  | 0 => (-1, -1)
  | j + 1 => if T.1 5 j = c ∧ (bfM T S c j).2 < worM T S j then (nI j, worM T S j) else bfM T S c j
theorem bfM_s (T : Txt) (S : Str) (c : Int32) (j : Nat) : bfM T S c (j + 1) = if T.1 5 j = c ∧ (bfM T S c j).2 < worM T S j then (nI j, worM T S j) else bfM T S c j := rfl
def lessM (S : Str) (w n : Int32) : Str := if w = -3 then upI S 12 (S.2 12 - n) else upA S 0 w.toNatClampNeg (S.1 0 w.toNatClampNeg - n)
def thereM (S : Str) (w : Int32) : Int32 := if w = -3 then S.2 12 else S.1 0 w.toNatClampNeg
def gotM (S : Str) (f c : Nat) (w n : Int32) : Str := upA (upA S 9 f (S.1 9 f + n)) 6 c ((upA S 9 f (S.1 9 f + n)).1 6 c + w * n)
def cartM (T : Txt) (S : Str) (c : Nat) : Str :=
  if srcM T S (nI c) false = -2 then S
  else if (bfM T S (nI c) (nFi T)).1 = -1 then S
  else gotM (lessM S (srcM T S (nI c) false) (loadM T S c (thereM S (srcM T S (nI c) false)))) (bfM T S (nI c) (nFi T)).1.toNatClampNeg c (bfM T S (nI c) (nFi T)).2 (loadM T S c (thereM S (srcM T S (nI c) false)))
def tonsM (T : Txt) (S : Str) (c : Nat) (lie : Int32) : Int32 :=
  let m := if T.2.2 1 (nmP S lie (nI c)) = erM then 8 else pwM (T.2.2 1 (nmP S lie (nI c))) 99
  if lie < m then lie else m
def forkS (S : Str) (i c : Nat) (n : Int32) : Str :=
  upA (upI (upA S 0 i (S.1 0 i - n)) 12 (S.2 12 + n)) 7 c (S.1 7 c + n)
def forkM (T : Txt) (S : Str) (c : Nat) : Str :=
  if 0 ≤ srcM T S (nI c) true then forkS S (srcM T S (nI c) true).toNatClampNeg c (tonsM T S c (S.1 0 (srcM T S (nI c) true).toNatClampNeg)) else S
def goneM (T : Txt) (S : Str) (lie : Int32) : Int32 := if T.2.2 2 (nmP S lie (-1)) = erM then lie / 2 else pwM (T.2.2 2 (nmP S lie (-1))) lie
def ebM (T : Txt) (S : Str) : Nat → Str
  | 0 => S
  | j + 1 => upI (upA (ebM T S j) 0 j ((ebM T S j).1 0 j - goneM T (ebM T S j) ((ebM T S j).1 0 j))) 13 ((ebM T S j).2 13 + goneM T (ebM T S j) ((ebM T S j).1 0 j))
theorem ebM_s (T : Txt) (S : Str) (j : Nat) : ebM T S (j + 1) = upI (upA (ebM T S j) 0 j ((ebM T S j).1 0 j - goneM T (ebM T S j) ((ebM T S j).1 0 j))) 13 ((ebM T S j).2 13 + goneM T (ebM T S j) ((ebM T S j).1 0 j)) := rfl
def doesM (T : Txt) (S : Str) (c : Nat) : Int32 := if S.1 5 c = 0 then (if S.2 14 = 2 ∧ 0 < sumM (S.1 0) (nSt T) then 2 else 1) else S.1 5 c
def actM (T : Txt) (S : Str) (c : Nat) : Str := if doesM T S c = 1 then cartM T S c else if doesM T S c = 2 then forkM T S c else S
def crM (T : Txt) (S : Str) : Nat → Str
  | 0 => S
  | c + 1 => if (crM T S c).2 11 < (crM T S c).1 4 c then crM T S c else actM T (crM T S c) c
def tdM (T : Txt) (S : Str) : Str := if ¬ S.2 16 = 0 ∧ tideM T (hrM S) = true then ebM T S (nSt T) else S
def passM (T : Txt) (S : Str) : Str := upI (tdM T (crM T S (nCr T))) 11 ((tdM T (crM T S (nCr T))).2 11 + 1)
def passN (T : Txt) (S : Str) : Nat → Str
  | 0 => S
  | n + 1 => passM T (passN T S n)
def drwM (S : Str) : Str := upI S 15 ((((S.2 15).toInt64 * (1103515245 : Int64)) + (12345 : Int64)) &&& (2147483647 : Int64)).toInt32
def blM (T : Txt) (S : Str) : Nat → Str
  | 0 => S
  | j + 1 => upA (blM T S j) 0 j (if 9999 < (blM T S j).1 0 j + T.2.1 18 then 9999 else (blM T S j).1 0 j + T.2.1 18)
def galeM (T : Txt) (S : Str) : Str :=
  if T.2.1 17 ≤ 0 then S else if T.2.1 17 ≤ (drwM S).2 15 / 65536 - (drwM S).2 15 / 65536 / 100 * 100 then drwM S else blM T (drwM S) (nSt T)
def passG (T : Txt) (S : Str) : Nat → Str
  | 0 => S
  | n + 1 => passM T (galeM T (passG T S n))
section Class
variable {N : Nat} {h : Hp} {o t : Nat} {S : Str} {B : Scr}
theorem z7 : (0 : Int32).toNatClampNeg = 0 ∧ (1 : Int32).toNatClampNeg = 1 ∧ (2 : Int32).toNatClampNeg = 2 ∧ (3 : Int32).toNatClampNeg = 3 ∧ (4 : Int32).toNatClampNeg = 4 ∧ (5 : Int32).toNatClampNeg = 5 ∧ (6 : Int32).toNatClampNeg = 6 := by decide
theorem i7 : inb 0 7 ∧ inb 1 7 ∧ inb 2 7 ∧ inb 3 7 ∧ inb 4 7 ∧ inb 5 7 ∧ inb 6 7 := by decide
theorem lt7 {P : Nat → Prop} (h0 : P 0) (h1 : P 1) (h2 : P 2) (h3 : P 3) (h4 : P 4) (h5 : P 5) (h6 : P 6) : ∀ i, i < 7 → P i
  | 0, _ => h0 | 1, _ => h1 | 2, _ => h2 | 3, _ => h3 | 4, _ => h4 | 5, _ => h5 | 6, _ => h6
  | n + 7, h => absurd h (by omega)
theorem cl_namePlace (C : CK h o t) (lying c : Int32) (hc : c = -1 ∨ ∃ k, k < 4 ∧ c = nI k) : ∃ B', f_X3_namePlace (M3 h o S B) o lying c = some (M3 h o S B') ∧ ∀ i, i < 7 → B' 0 t 4 i = nmP S lying c i := by
  obtain ⟨ho, -⟩ := C
  unfold f_X3_namePlace
  simp only [jn_e, lt_e, M3_O, ho, onO_s, z7, grd_p i7.1, grd_p i7.2.1, grd_p i7.2.2.1, grd_p i7.2.2.2.1, grd_p i7.2.2.2.2.1, grd_p i7.2.2.2.2.2.1, grd_p i7.2.2.2.2.2.2, M3_sB, M3_I3, M3_A3]
  rcases hc with rfl | ⟨k, hk, rfl⟩
  · simp only [if_neg (fun q => q rfl : ¬ ¬ (-1 : Int32) = -1)]
    refine ⟨_, rfl, ?_⟩
    refine lt7 ?_ ?_ ?_ ?_ ?_ ?_ ?_ <;> simp [at3_s, vp_updL, nmP, hrM]
  · have hne : ¬ nI k = -1 := fun q => by
      have := congrArg Int32.toInt q
      rw [nI_toInt (by omega)] at this
      have e : (-1 : Int32).toInt = -1 := rfl
      omega
    simp only [if_pos hne, grd_p (inb_n hk (show 4 < 2 ^ 31 by omega)), clN (show k < 2 ^ 31 by omega)]
    refine ⟨_, rfl, ?_⟩
    refine lt7 ?_ ?_ ?_ ?_ ?_ ?_ ?_ <;> simp [at3_s, vp_updL, nmP, hrM, hne, clN (show k < 2 ^ 31 by omega)]
theorem cl_nameField (C : CK h o t) {f : Nat} (hf : f < nFi (txt h t)) : ∃ B', f_X3_nameField (M3 h o S B) o (nI f) = some (M3 h o S B') ∧ ∀ i, i < 7 → B' 0 t 4 i = nmF (txt h t) S f i := by
  obtain ⟨ho, ⟨-, ⟨-, hc4⟩, ⟨-, hf6⟩, -, hfc, -⟩, -⟩ := C
  obtain ⟨k, hk, hk2⟩ := hfc f hf
  have hk3 : gA h 5 t 5 f = nI k := hk2
  unfold f_X3_nameField
  simp only [lt_e, M3_O, ho, onO_s, z7, grd_p i7.1, grd_p i7.2.1, grd_p i7.2.2.1, grd_p i7.2.2.2.1, grd_p i7.2.2.2.2.1, grd_p i7.2.2.2.2.2.1, grd_p i7.2.2.2.2.2.2, M3_sB, M3_I3, M3_A3, M3_A5, clN (show f < 2 ^ 31 by omega), hk3, clN (show k < 2 ^ 31 by omega), grd_p (inb_n (show k < 4 by omega) (show 4 < 2 ^ 31 by omega)), grd_p (inb_n (show f < 6 by omega) (show 6 < 2 ^ 31 by omega))]
  refine ⟨_, rfl, ?_⟩
  refine lt7 ?_ ?_ ?_ ?_ ?_ ?_ ?_ <;> simp [at3_s, vp_updL, nmF, hrM, txt, hk3, clN (show k < 2 ^ 31 by omega)]
/-- a law asked behind names that are laid -/
theorem cl_law (hN : 1000 ≤ N) (C : CK h o t) {k : Nat} (hk : k < 4) {nm : Nat → Int64} (hB : ∀ i, i < 7 → B 0 t 4 i = nm i) : ∃ B', f_X0_value N (M3 h o S B) t (nI k) = some ((txt h t).2.2 k nm, M3 h o S B') := by
  obtain ⟨-, -, hL⟩ := C
  obtain ⟨B', e⟩ := cl_value hN (M3 h o S B) t hk (by rw [show gA (M3 h o S B) 0 t = gA h 0 t from funext fun k => M3_A0 h o S B t k]; exact hL)
  refine ⟨B', ?_⟩
  rw [e, show gA (M3 h o S B) 0 t = gA h 0 t from funext fun k => M3_A0 h o S B t k]
  show some (lawM (gA h 0 t) k (B 0 t 4), _) = some (lawM (gA h 0 t) k nm, _)
  rw [lawM_congr (gA h 0 t) k hB]
  rfl
theorem cl_worthOf (hN : 1000 ≤ N) (C : CK h o t) {f : Nat} (hf : f < nFi (txt h t)) : ∃ B', f_X3_worthOf N (M3 h o S B) o (nI f) = some (worM (txt h t) S f, M3 h o S B') := by
  have hf6 := C.2.1.2.2.1.2
  obtain ⟨B1, e1, n1⟩ := cl_nameField (S := S) (B := B) C hf
  obtain ⟨B2, e2⟩ := cl_law (S := S) hN C (k := 3) (by decide) n1
  refine ⟨B2, ?_⟩
  unfold f_X3_worthOf
  have e2' : f_X0_value N (M3 h o S B1) t 3 = some ((txt h t).2.2 3 (nmF (txt h t) S f), M3 h o S B2) := e2
  simp only [jn_e, e1, bind_s, M3_O, C.1, onO_s, e2', bd2_s, cl_putWithin, lg_cmp_eq, M3_A3, M3_A5, clN (show f < 2 ^ 31 by omega), grd_p (inb_n (show f < 6 by omega) (show 6 < 2 ^ 31 by omega))]
  unfold worM
  by_cases z : (txt h t).2.2 3 (nmF (txt h t) S f) = erM
  · have z' : ¬ ¬ (txt h t).2.2 3 (nmF (txt h t) S f) = -9223372036854775808 := fun q => q z
    rw [if_neg z', if_pos z]
    rfl
  · have z' : ¬ (txt h t).2.2 3 (nmF (txt h t) S f) = -9223372036854775808 := z
    rw [if_pos z', if_neg z]
theorem cl_loadOf (hN : 1000 ≤ N) (C : CK h o t) {c : Nat} (hc : c < 4) (there : Int32) : ∃ B', f_X3_loadOf N (M3 h o S B) o (nI c) there = some (loadM (txt h t) S c there, M3 h o S B') := by
  obtain ⟨B1, e1, n1⟩ := cl_namePlace (S := S) (B := B) C there (nI c) (Or.inr ⟨c, hc, rfl⟩)
  obtain ⟨B2, e2⟩ := cl_law (S := S) hN C (k := 0) (by decide) n1
  refine ⟨B2, ?_⟩
  unfold f_X3_loadOf
  have e2' : f_X0_value N (M3 h o S B1) t 0 = some ((txt h t).2.2 0 (nmP S there (nI c)), M3 h o S B2) := e2
  simp only [jn_e, lt_e, e1, bind_s, M3_O, C.1, onO_s, e2', bd2_s, cl_putWithin, lg_cmp_eq, M3_A3, clN (show c < 2 ^ 31 by omega), grd_p (inb_n hc (show 4 < 2 ^ 31 by omega))]
  unfold loadM
  by_cases z : (txt h t).2.2 0 (nmP S there (nI c)) = erM
  · have z' : ¬ ¬ (txt h t).2.2 0 (nmP S there (nI c)) = -9223372036854775808 := fun q => q z
    rw [if_neg z', if_pos z]
  · have z' : ¬ (txt h t).2.2 0 (nmP S there (nI c)) = -9223372036854775808 := z
    rw [if_pos z', if_neg z]
theorem scM_rng (T : Txt) (S : Str) (c : Int32) : ∀ n, (scM T S c n).1 = -2 ∨ ∃ j, j < n ∧ (scM T S c n).1 = nI j
  | 0 => Or.inl rfl
  | n + 1 => by
    rw [scM_s]
    by_cases z : (scM T S c n).2 < S.1 0 n ∧ (¬ S.2 14 = 1 ∨ S.1 1 n = c)
    · rw [if_pos z]; exact Or.inr ⟨n, Nat.lt_succ_self n, rfl⟩
    · rw [if_neg z]
      rcases scM_rng T S c n with e | ⟨j, hj, e⟩
      · exact Or.inl e
      · exact Or.inr ⟨j, by omega, e⟩
theorem srcM_rng (T : Txt) (S : Str) (c : Int32) (b : Bool) : srcM T S c b = -2 ∨ (b = false ∧ srcM T S c b = -3) ∨ ∃ j, j < nSt T ∧ srcM T S c b = nI j := by
  unfold srcM
  by_cases z : S.2 14 = 2 ∧ 0 < S.2 12 ∧ b = false
  · rw [if_pos z]; exact Or.inr (Or.inl ⟨z.2.2, rfl⟩)
  rw [if_neg z]
  by_cases w : (scM T S c (nSt T)).1 = -2 ∧ 0 < S.2 12 ∧ b = false
  · rw [if_pos w]; exact Or.inr (Or.inl ⟨w.2.2, rfl⟩)
  rw [if_neg w]
  rcases scM_rng T S c (nSt T) with e | q
  · exact Or.inl e
  · exact Or.inr (Or.inr q)
theorem bfM_rng (T : Txt) (S : Str) (c : Int32) : ∀ n, (bfM T S c n).1 = -1 ∨ ∃ j, j < n ∧ (bfM T S c n).1 = nI j
  | 0 => Or.inl rfl
  | n + 1 => by
    rw [bfM_s]
    by_cases z : T.1 5 n = c ∧ (bfM T S c n).2 < worM T S n
    · rw [if_pos z]; exact Or.inr ⟨n, Nat.lt_succ_self n, rfl⟩
    · rw [if_neg z]
      rcases bfM_rng T S c n with e | ⟨j, hj, e⟩
      · exact Or.inl e
      · exact Or.inr ⟨j, by omega, e⟩
theorem nI_ne_neg {j : Nat} (hj : j < 2 ^ 31) {x : Int32} (hx : x.toInt < 0) : ¬ nI j = x := fun q => by
  have := congrArg Int32.toInt q
  rw [nI_toInt hj] at this
  omega
end Class

