-- PURE: when one came, by the class
/-- the start with one coming at an hour -/
def cmwS (T : Txt) (c s : Nat) : Str := upA (bgM T) 4 c (nI s)
/-- the first t hours agree -/
def caM (T : Txt) (X : Xs) (c s : Nat) : Nat → Bool
  | 0 => true
  | t + 1 => caM T X c s t && agM X (nI (t + 1)) ((passN T (cmwS T c s) (t + 1)).2 12) (kzM X)
theorem caM_s (T : Txt) (X : Xs) (c s t : Nat) : caM T X c s (t + 1) = (caM T X c s t && agM X (nI (t + 1)) ((passN T (cmwS T c s) (t + 1)).2 12) (kzM X)) := rfl
theorem caM_f (T : Txt) (X : Xs) (c s : Nat) {t : Nat} (h : caM T X c s t = false) : ∀ n, caM T X c s (t + n) = false
  | 0 => h
  | n + 1 => by rw [show t + (n + 1) = (t + n) + 1 from rfl, caM_s, caM_f T X c s h n, Bool.false_and]
def lsN (X : Xs) : Nat := (lhM X (kzM X)).toNatClampNeg
def bitM (T : Txt) (X : Xs) (c : Nat) : Nat → Int32
  | 0 => 0
  | s + 1 => if caM T X c s (lsN X) = true then bitM T X c s ||| ((1 : Int32) <<< (nI s &&& 31)) else bitM T X c s
theorem bitM_s (T : Txt) (X : Xs) (c s : Nat) : bitM T X c (s + 1) = if caM T X c s (lsN X) = true then bitM T X c s ||| ((1 : Int32) <<< (nI s &&& 31)) else bitM T X c s := rfl
def camM (T : Txt) (X : Xs) (c : Int32) : Int32 := if inC T c = true then bitM T X c.toNatClampNeg 24 else -1
theorem lh_x {X : Xs} (x : SX X) : ∀ k, k ≤ kzM X → ∃ q, q ≤ 99 ∧ lhM X k = nI q
  | 0, _ => ⟨0, by omega, rfl⟩
  | k + 1, h => by
    rw [lhM_s]
    by_cases z : ctM X k = true ∧ lhM X k < X.1 4 k
    · rw [if_pos z]
      rcases kz_lt x (show k < kzM X by omega) with ⟨-, e, -⟩ | ⟨-, q, -, hq, e⟩
      · exact ⟨0, by omega, e⟩
      · exact ⟨q, hq, e⟩
    · rw [if_neg z]; exact lh_x x k (by omega)
theorem ls_x {X : Xs} (x : SX X) : lsN X ≤ 99 ∧ lhM X (kzM X) = nI (lsN X) := by
  obtain ⟨q, hq, e⟩ := lh_x x (kzM X) (Nat.le_refl _)
  have : lsN X = q := by unfold lsN; rw [e, clN (by omega)]
  rw [this]
  exact ⟨hq, e⟩
section Came
variable {N : Nat} {h g : Hp} {t : Nat} {T : Txt} {S I : Str} {X : Xs}
theorem SK.fo {g g' : Hp} {o : Nat} (k : SK g X) (f : Fo o g g') : SK g' X := fun u hu => by
  have : gA g' 2 0 3 = gA g 2 0 3 := (f.1 2 0 3 (by omega)).2
  unfold gY
  rw [this]
  exact k u hu
theorem cl_agreesWith (hN : 1000 ≤ N) (s0 : Sd g 0 t T (bgM T)) (sc : SC g X) (x : SX X) (sk : SK g X) {c s : Nat} (hc : c < nCr T) : ∃ g', f_X7_agreesWithSeen N g (nI c) (nI s) = some (caM T X c s (lsN X), g') ∧ Fr g g' ∧ SK g' X := by
  have hc4 := s0.2.2.2.1.2.1.2
  obtain ⟨h99, el⟩ := ls_x x
  obtain ⟨g1, e1, c1, d1⟩ := s0.copyC (o := 3) (by decide) rfl (by decide)
  have k1 : SK g1 X := fun u hu => by
    have hz' : gI g 3 0 16 = 0 ∨ gI g 3 0 16 = 1 := by
      have : gI g 3 0 16 = (bgM T).2 16 := s0.2.2.2.2.2.2.2 16 (by omega) (by omega)
      rw [this]; exact Or.inr rfl
    obtain ⟨S', e', -⟩ := cl_copy g (o := 3) (p := 0) (by decide) s0.1 hz'
    have e1' := e1
    rw [e'] at e1'
    cases e1'
    unfold gY
    rw [M3_A _ _ _ _ 2 0 3 (by decide)]
    exact sk u hu
  obtain ⟨f2, d2⟩ := d1.row 4 c (nI s)
  have k2 := k1.fo f2
  have sc2 := (sc.fr c1.1).fr (f2.fr (by decide))
  unfold f_X7_agreesWithSeen
  rw [grd_p (show inb 0 7 by decide), lt_e, show 3 + (0 : Int32).toNatClampNeg = 3 from rfl, e1, bind_s, grd_p (inb_n (show c < 4 by omega) (by omega)), lt_e, clN (show c < 2 ^ 31 by omega), cl_lastHour hN sc2 x k2, bind_s, el]
  refine iter_inv (bot := fun _ _ => none) (b := f_X7_agreesWithSeen_34 N 3 (nI (lsN X))) (fun m r => ∀ j g', j ≤ lsN X → lsN X < m + j → Fo 3 (sA g1 3 3 4 c (nI s)) g' → Sd g' 3 t T (passN T (cmwS T c s) j) → caM T X c s j = true → ∃ g'', r (nI (j + 1)) g' = some (caM T X c s (lsN X), g'') ∧ Fr g g'' ∧ SK g'' X) (fun j _ _ _ => by omega) (fun m r ih j g' hj hm f d w => ?_) N 0 _ (by omega) (by omega) (Fo.rf _ _) d2 rfl
  unfold f_X7_agreesWithSeen_34
  by_cases z : lsN X = j
  · rw [z, if_pos (show nI j < nI (j + 1) from Int32.not_le.mp (nleN (by omega) (by omega))), w]
    exact ⟨g', rfl, c1.1.tr ((f2.tr f).fr (by decide)), k2.fo f⟩
  · rw [if_neg (show ¬ nI (lsN X) < nI (j + 1) from Int32.not_lt.mpr (leN (by omega) (by omega)))]
    obtain ⟨g3, e3, f3, d3⟩ := d.hour hN
    have e12 : gI g3 3 3 12 = (passN T (cmwS T c s) (j + 1)).2 12 := d3.2.2.2.2.2.2.2 12 (by omega) (by omega)
    have sc3 := sc2.fr ((f.tr f3).fr (by decide))
    have k3 := k2.fo (f.tr f3)
    rw [e3, bind_s, e12, cl_agrees hN sc3 x k3, bind_s]
    have st := caM_s T X c s j
    rw [w, Bool.true_and] at st
    cases ha : agM X (nI (j + 1)) ((passN T (cmwS T c s) (j + 1)).2 12) (kzM X) with
    | true =>
      rw [if_pos (show ¬ b2i true = 0 by decide), lt_e, nI_1]
      exact ih (j + 1) g3 (by omega) (by omega) (f.tr f3) d3 (st.trans ha)
    | false =>
      rw [if_neg (show ¬ ¬ b2i false = 0 by decide)]
      have := caM_f T X c s (st.trans ha) (lsN X - (j + 1))
      rw [show j + 1 + (lsN X - (j + 1)) = lsN X by omega] at this
      rw [this]
      exact ⟨g3, rfl, c1.1.tr ((f2.tr (f.tr f3)).fr (by decide)), k3⟩
theorem cl_came (hN : 1000 ≤ N) (r : RC h t T S I X) (x : SX X) (c : Int32) : ∃ g, f_X7_came N h c = some (camM T X c, g) ∧ Fr h g := by
  have hT := r.1.2.2.2.2.1
  have hc4 := hT.2.1.2
  unfold f_X7_came camM
  rw [cl_isCroft r.1.2.1 r.1.2.2.2.1 c, bind_s]
  cases hc : inC T c with
  | false => rw [if_neg (show ¬ ¬ b2i false = 0 by decide), if_neg (fun q => Bool.noConfusion q)]; exact ⟨h, rfl, Fr.rf h⟩
  | true =>
    rw [if_pos (show ¬ b2i true = 0 by decide), if_pos (show true = true from rfl)]
    obtain ⟨i, hi, rfl⟩ := inC_of hT hc
    obtain ⟨g1, e1, f1, k1⟩ := cl_sift hN r.seen x
    rw [e1, bind_s, clN (show i < 2 ^ 31 by omega)]
    refine iter_inv (bot := fun _ _ _ => none) (b := f_X7_came_21 N (nI i)) (fun m q => ∀ s g, s ≤ 24 → 24 < m + s → Fr h g → SK g X → ∃ g', q (bitM T X i s) (nI s) g = some (bitM T X i 24, g') ∧ Fr h g') (fun s _ _ _ => by omega) (fun m q ih s g hs hm f k => ?_) N 0 g1 (by omega) (by omega) f1.fr k1
    unfold f_X7_came_21
    by_cases z : s = 24
    · subst z
      rw [if_pos (show (24 : Int32) ≤ nI 24 by decide)]
      exact ⟨g, rfl, f⟩
    · rw [if_neg (show ¬ (24 : Int32) ≤ nI s from nleN (a := 24) (show s < 24 by omega) (by omega))]
      have r' := f.rc r
      obtain ⟨g2, e2, f2, k2⟩ := cl_agreesWith hN r'.sd0 r'.seen x k (s := s) hi
      rw [e2, bd2_s]
      simp only [jn_e, lt_e, nI_1]
      have nx := ih (s + 1) g2 (by omega) (by omega) (f.tr f2) k2
      rw [bitM_s] at nx
      cases hb : caM T X i s (lsN X) with
      | false =>
        rw [hb, if_neg (fun q => Bool.noConfusion q)] at nx
        rw [if_pos (show b2i false = 0 from rfl)]; exact nx
      | true =>
        rw [hb, if_pos rfl] at nx
        rw [if_neg (show ¬ b2i true = 0 by decide)]; exact nx
end Came

