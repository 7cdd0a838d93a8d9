-- PURE: see, strike, known, by both
def szN (X : Xs) : Nat := (X.2 1).toNatClampNeg
def seX (X : Xs) (k w o : Int32) : Xs := (fun j => if j = 3 then upd (X.1 3) (szN X) k else if j = 4 then upd (X.1 4) (szN X) w else if j = 5 then upd (X.1 5) (szN X) o else X.1 j, fun j => if j = 1 then nI (szN X + 1) else X.2 j)
def seeQ (X : Xs) (w o : Int32) : Bool := decide (1 ≤ w ∧ w ≤ 99) && decide (0 ≤ o ∧ o ≤ 9999) && decide (szN X < 24)
def stkQ (X : Xs) (o : Int32) : Bool := decide (0 ≤ o ∧ o < X.2 1) && decide (szN X < 24)
def knoQ (X : Xs) (n : Int32) : Bool := decide (-1 ≤ n ∧ n ≤ X.2 1)
theorem sz_x {X : Xs} (x : SX X) : szN X ≤ 24 ∧ X.2 1 = nI (szN X) := by
  obtain ⟨z, h1, h2, -⟩ := x
  have : szN X = z := by unfold szN; rw [h2, clN (by omega)]
  rw [this]
  exact ⟨h1, h2⟩
theorem A2_at (g : Hp) (k i : Nat) (v : Int32) (j : Nat) : gA (sA g 2 0 k i v) 2 0 j = if j = k then upd (gA g 2 0 k) i v else gA g 2 0 j := by
  show at3 g.2.2.2.1 2 0 k (upd (gA g 2 0 k) i v) 2 0 j = _
  unfold at3
  by_cases z : j = k
  · rw [if_pos z, if_pos ⟨rfl, rfl, z⟩]
  · rw [if_neg z, if_neg (fun q => z q.2.2)]
    rfl
theorem I2_at (g : Hp) (k : Nat) (v : Int32) (j : Nat) : gI (sI g 2 0 k v) 2 0 j = if j = k then v else gI g 2 0 j := by
  show at3 g.1 2 0 k v 2 0 j = _
  unfold at3
  by_cases z : j = k
  · rw [if_pos z, if_pos ⟨rfl, rfl, z⟩]
  · rw [if_neg z, if_neg (fun q => z q.2.2)]
    rfl
section SeenOp
variable {N : Nat} {h g : Hp} {t : Nat} {T : Txt} {S I : Str} {X : Xs}
theorem cl_seenAdd (r : RC h t T S I X) (x : SX X) (k w o : Int32) : ∃ g, f_X2_add h k w o = some (if szN X < 24 then nI (szN X) else -1, g) ∧ RC g t T S I (if szN X < 24 then seX X k w o else X) ∧ K8 h g := by
  obtain ⟨s1, s2⟩ := sz_x x
  have ex0 := r.2.2.2.1
  have e4 : gI h 2 0 4 = nI (szN X) := by rw [← s2, ← ex0]; rfl
  unfold f_X2_add
  rw [e4]
  by_cases y : szN X < 24
  rotate_left
  · rw [if_neg (show ¬ nI (szN X) < 24 from Int32.not_lt.mpr (leN (a := 24) (by omega) (by omega))), if_neg y, if_neg y]
    exact ⟨h, rfl, r, K8.rf h⟩
  rw [if_pos (show nI (szN X) < 24 from Int32.not_le.mp (nleN (a := 24) y (by omega))), if_pos y, if_pos y]
  have ib : inb (nI (szN X)) 24 := inb_n y (by omega)
  have a1 : gI (sA h 2 0 0 (szN X) k) 2 0 4 = nI (szN X) := e4
  have a2 : gI (sA (sA h 2 0 0 (szN X) k) 2 0 1 (szN X) w) 2 0 4 = nI (szN X) := e4
  have a3 : gI (sA (sA (sA h 2 0 0 (szN X) k) 2 0 1 (szN X) w) 2 0 2 (szN X) o) 2 0 4 = nI (szN X) := e4
  have em : nI (szN X + 1) - 1 = nI (szN X) := by rw [show (1 : Int32) = nI 1 from rfl, nI_sub (by omega)]; rfl
  rw [grd_p ib, lt_e, clN (show szN X < 2 ^ 31 by omega), a1, grd_p ib, lt_e, clN (show szN X < 2 ^ 31 by omega), a2, grd_p ib, lt_e, clN (show szN X < 2 ^ 31 by omega), lt_e, a3, nI_1, I2_at, if_pos rfl, em]
  refine ⟨_, rfl, r.nx (((Nx.a h 2 0 0 _ _ (by decide)).tr (Nx.a _ 2 0 1 _ _ (by decide))).tr ((Nx.a _ 2 0 2 _ _ (by decide)).tr (Nx.i _ 2 0 4 _ (by decide)))) (Prod.ext ?_ (fun8 (fun j hj => ?_) (fun _ => rfl) (fun j => ?_))) id, ((K8.a h 2 0 0 _ _ (by decide)).tr (K8.a _ 2 0 1 _ _ (by decide))).tr ((K8.a _ 2 0 2 _ _ (by decide)).tr (K8.i _ 2 0 4 _ (by decide)))⟩
  · have x3 : gA h 2 0 0 = X.1 3 := by rw [← ex0]; rfl
    have x4 : gA h 2 0 1 = X.1 4 := by rw [← ex0]; rfl
    have x5 : gA h 2 0 2 = X.1 5 := by rw [← ex0]; rfl
    funext j
    show (ex (sI (sA (sA (sA h 2 0 0 (szN X) k) 2 0 1 (szN X) w) 2 0 2 (szN X) o) 2 0 4 (nI (szN X + 1))) t).1 j = if j = 3 then upd (X.1 3) (szN X) k else if j = 4 then upd (X.1 4) (szN X) w else if j = 5 then upd (X.1 5) (szN X) o else X.1 j
    have eX : X.1 j = (ex h t).1 j := by rw [ex0]
    by_cases j3 : j = 3
    · rw [if_pos j3, j3, ← x3]
      show gA (sA (sA (sA h 2 0 0 (szN X) k) 2 0 1 (szN X) w) 2 0 2 (szN X) o) 2 0 0 = _
      rw [A2_at, if_neg (by decide), A2_at, if_neg (by decide), A2_at, if_pos rfl]
    by_cases j4 : j = 4
    · rw [if_neg j3, if_pos j4, j4, ← x4]
      show gA (sA (sA (sA h 2 0 0 (szN X) k) 2 0 1 (szN X) w) 2 0 2 (szN X) o) 2 0 1 = _
      rw [A2_at, if_neg (by decide), A2_at, if_pos rfl, A2_at, if_neg (by decide)]
    by_cases j5 : j = 5
    · rw [if_neg j3, if_neg j4, if_pos j5, j5, ← x5]
      show gA (sA (sA (sA h 2 0 0 (szN X) k) 2 0 1 (szN X) w) 2 0 2 (szN X) o) 2 0 2 = _
      rw [A2_at, if_pos rfl, A2_at, if_neg (by decide), A2_at, if_neg (by decide)]
    rw [if_neg j3, if_neg j4, if_neg j5, eX]
    by_cases j0 : j = 0
    · rw [j0]; rfl
    by_cases j1 : j = 1
    · rw [j1]; rfl
    by_cases j2 : j = 2
    · rw [j2]; rfl
    by_cases j6 : j = 6
    · rw [j6]; rfl
    · obtain ⟨i, rfl⟩ : ∃ i, j = i + 7 := ⟨j - 7, by omega⟩
      rfl
  · show (ex (sI (sA (sA (sA h 2 0 0 (szN X) k) 2 0 1 (szN X) w) 2 0 2 (szN X) o) 2 0 4 (nI (szN X + 1))) t).2 j = if j = 1 then nI (szN X + 1) else X.2 j
    rw [← ex0]
    rcases (show j = 0 ∨ j = 1 ∨ j = 2 ∨ j = 3 ∨ j = 4 ∨ j = 5 ∨ j = 6 ∨ j = 7 by omega) with rfl | rfl | rfl | rfl | rfl | rfl | rfl | rfl <;> rfl
  · show X.2 (j + 8) = X.2 7
    rw [← ex0]; rfl
theorem cl_see (r : RC h t T S I X) (x : SX X) (w o : Int32) (b : Bool) : ∃ g, f_X7_see h w o b = some (if seeQ X w o = true then nI (szN X) else -1, g) ∧ RC g t T S I (if seeQ X w o = true then seX X (if b = true then 0 else 1) w o else X) ∧ K8 h g := by
  have no : seeQ X w o = false → ∃ g, some ((-1 : Int32), h) = some (if seeQ X w o = true then nI (szN X) else -1, g) ∧ RC g t T S I (if seeQ X w o = true then seX X (if b = true then 0 else 1) w o else X) ∧ K8 h g := fun q => by
    rw [q, if_neg (fun w => Bool.noConfusion w), if_neg (fun w => Bool.noConfusion w)]
    exact ⟨h, rfl, r, K8.rf h⟩
  unfold f_X7_see
  simp only [jn_e, cl_isIn, bind_s]
  by_cases y : 1 ≤ w ∧ w ≤ 99
  rotate_left
  · rw [decide_eq_false y, if_pos (show b2i false = 0 from rfl)]; exact no (by unfold seeQ; rw [decide_eq_false y]; rfl)
  rw [decide_eq_true y, if_neg (show ¬ b2i true = 0 by decide)]
  by_cases v : 0 ≤ o ∧ o ≤ 9999
  rotate_left
  · rw [decide_eq_false v, if_neg (show ¬ ¬ b2i false = 0 by decide)]; exact no (by unfold seeQ; rw [decide_eq_false v, Bool.and_false]; rfl)
  rw [decide_eq_true v, if_pos (show ¬ b2i true = 0 by decide)]
  have eq : seeQ X w o = decide (szN X < 24) := by unfold seeQ; rw [decide_eq_true y, decide_eq_true v]; rfl
  have main : ∀ k : Int32, ∃ g, (bd2 (f_X2_add h k w o) fun v5 h4 => some (v5, h4)) = some (if seeQ X w o = true then nI (szN X) else -1, g) ∧ RC g t T S I (if seeQ X w o = true then seX X k w o else X) ∧ K8 h g := fun k => by
    obtain ⟨g1, e1, r1, k1⟩ := cl_seenAdd r x k w o
    rw [e1, bd2_s, eq]
    by_cases u : szN X < 24
    · rw [if_pos u] at r1
      rw [decide_eq_true u, if_pos u, if_pos rfl, if_pos rfl]
      exact ⟨g1, rfl, r1, k1⟩
    · rw [if_neg u] at r1
      rw [decide_eq_false u, if_neg u, if_neg (fun w => Bool.noConfusion w), if_neg (fun w => Bool.noConfusion w)]
      exact ⟨g1, rfl, r1, k1⟩
  cases b with
  | true => rw [if_neg (show ¬ b2i true = 0 by decide), if_pos (show true = true from rfl)]; exact main 0
  | false => rw [if_pos (show b2i false = 0 from rfl), if_neg (show ¬ false = true from fun q => Bool.noConfusion q)]; exact main 1
theorem cl_strike (r : RC h t T S I X) (x : SX X) (o : Int32) : ∃ g, f_X7_strike h o = some (if stkQ X o = true then nI (szN X) else -1, g) ∧ RC g t T S I (if stkQ X o = true then seX X 2 0 o else X) ∧ K8 h g := by
  obtain ⟨s1, s2⟩ := sz_x x
  have e4 : gI h 2 0 4 = X.2 1 := by rw [← r.2.2.2.1]; rfl
  have lt1 : (o ≤ X.2 1 - 1) ↔ o < X.2 1 := by
    have z1 : (1 : Int32).toInt = 1 := rfl
    have e : (X.2 1 - 1).toInt = (X.2 1).toInt - 1 := by rw [sub_toInt (by rw [s2, nI_toInt (by omega)]; omega), z1]
    rw [Int32.le_iff_toInt_le, Int32.lt_iff_toInt_lt, e]
    omega
  unfold f_X7_strike
  rw [e4, cl_isIn, bind_s]
  by_cases y : 0 ≤ o ∧ o ≤ X.2 1 - 1
  rotate_left
  · have q : stkQ X o = false := by unfold stkQ; rw [decide_eq_false (fun q => y ⟨q.1, lt1.mpr q.2⟩)]; rfl
    rw [decide_eq_false y, if_neg (show ¬ ¬ b2i false = 0 by decide), q, if_neg (fun w => Bool.noConfusion w), if_neg (fun w => Bool.noConfusion w)]
    exact ⟨h, rfl, r, K8.rf h⟩
  have eq : stkQ X o = decide (szN X < 24) := by unfold stkQ; rw [decide_eq_true ⟨y.1, lt1.mp y.2⟩]; rfl
  obtain ⟨g1, e1, r1, k1⟩ := cl_seenAdd r x 2 0 o
  rw [decide_eq_true y, if_pos (show ¬ b2i true = 0 by decide), e1, bd2_s, eq]
  by_cases u : szN X < 24
  · rw [if_pos u] at r1
    rw [decide_eq_true u, if_pos u, if_pos rfl, if_pos rfl]
    exact ⟨g1, rfl, r1, k1⟩
  · rw [if_neg u] at r1
    rw [decide_eq_false u, if_neg u, if_neg (fun w => Bool.noConfusion w), if_neg (fun w => Bool.noConfusion w)]
    exact ⟨g1, rfl, r1, k1⟩
theorem cl_knownOp (r : RC h t T S I X) (n : Int32) : ∃ g, f_X7_known h n = some (knoQ X n, g) ∧ RC g t T S I (if knoQ X n = true then uX2 X 2 n else X) ∧ K8 h g := by
  have e4 : gI h 2 0 4 = X.2 1 := by rw [← r.2.2.2.1]; rfl
  unfold f_X7_known
  rw [e4, cl_isIn, bind_s]
  have eq : decide (-1 ≤ n ∧ n ≤ X.2 1) = knoQ X n := rfl
  rw [eq]
  cases q : knoQ X n with
  | false => rw [if_neg (show ¬ ¬ b2i false = 0 by decide), if_neg (fun w => Bool.noConfusion w)]; exact ⟨h, rfl, r, K8.rf h⟩
  | true =>
    rw [if_pos (show ¬ b2i true = 0 by decide), if_pos rfl, lt_e]
    refine ⟨_, rfl, r.nx (Nx.i h 2 0 5 n (by decide)) (ex_u2 h _ t 2 n X r.2.2.2.1 (by omega) rfl (fun j hj => ?_)) id, K8.i h 2 0 5 n (by decide)⟩
    rcases (show j = 0 ∨ j = 1 ∨ j = 2 ∨ j = 3 ∨ j = 4 ∨ j = 5 ∨ j = 6 ∨ j = 7 by omega) with rfl | rfl | rfl | rfl | rfl | rfl | rfl | rfl <;> rfl
end SeenOp

