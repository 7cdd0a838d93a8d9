-- PURE: when one came, by the reference: the answer
theorem TX.f8 {g g' : Hp} {T : Txt} (x : TX g T) (f : F8 g g') : TX g' T := by
  unfold TX
  rw [f.2.2.2.1 4 (by decide), f.2.2.2.1 5 (by decide), f.2.2.2.1 6 (by decide), f.2.2.2.1 7 (by decide), f.2.2.2.1 8 (by decide), f.2.2.2.1 3 (by decide), f.2.2.2.1 1 (by decide), f.2.2.2.1 13 (by decide), f.2.2.2.1 14 (by decide), f.2.2.2.1 15 (by decide), f.2.2.2.1 16 (by decide), f.2.2.2.1 17 (by decide), f.2.2.2.1 18 (by decide)]
  exact x
theorem Y8_at (g : Hp) (i : Nat) (b : Bool) (u : Nat) : gY (sY g 8 0 38 i b) 8 0 38 u = if u = i then b else gY g 8 0 38 u := by
  unfold gY sY
  rw [A_at]
  by_cases w : u = i
  · rw [if_pos ⟨rfl, w⟩, if_pos w]; exact Z_b b
  · rw [if_neg (fun q => w q.2), if_neg w]
theorem F8.y38 (g : Hp) (i : Nat) (b : Bool) : F8 g (sY g 8 0 38 i b) := F8.a g (b2i b) (by decide) (fun _ q => absurd q (by decide))
theorem Plain.k {g g' : Hp} (p : Plain g) (e : ∀ k, k ≠ 49 → gI g' 8 0 k = gI g 8 0 k) : Plain g' := by
  obtain ⟨p1, p2, p3, p4⟩ := p
  unfold Plain gZ at *
  rw [e 63 (by decide), e 64 (by decide), e 65 (by decide), e 66 (by decide)]
  exact ⟨p1, p2, p3, p4⟩
section Came
variable {N : Nat} {g : Hp} {T : Txt} {S : Str} {X : Xs}
/-- what the search keeps -/
def CamJ (g0 : Hp) (X : Xs) (g : Hp) : Prop := F8 g0 g ∧ CnS g X ∧ Plain g
theorem m_cameT (hN : 1000 ≤ N) (r : R8a g T S) (x : TX g T) (sr : SR g X) (sx : SX X) (K0 : SOK T 0 (bgM T)) {c s : Nat} (hc : c < nCr T) (hs : s < 24) (r152 : Int32 → Int32 → Hp → Option (Int32 × Hp)) (R : Int32 × Hp → Prop)
    (out : ∀ h, CamJ g X h → ∃ y, r152 (bitM T X c (s + 1)) (nI (s + 1)) h = some y ∧ R y) {h : Hp} (j : CamJ g X h) (so : So h 1 (T.2.1 16) T (cmwS T c s)) : ∃ y, iter (fun _ _ _ => none) (f_X8_came_180 N (nI (lsN X)) r152 (bitM T X c s) (nI s)) N true 1 h = some y ∧ R y := by
  have hT := r.1
  obtain ⟨h99, el⟩ := ls_x sx
  have KP : ∀ k, k ≤ 200 → SOK T 0 (passN T (cmwS T c s) k) := fun k hk => (passN_hour hT (K0.come (j := c) (v := nI s)) (show ((bgM T).2 11).toInt ≤ 4000000 by show (0 : Int32).toInt ≤ _; decide) k (by omega)).1
  refine iter_inv (bot := fun _ _ _ => none) (b := f_X8_came_180 N (nI (lsN X)) r152 (bitM T X c s) (nI s)) (fun m q => ∀ k h, k ≤ lsN X → lsN X < m + k → CamJ g X h → So h 1 (T.2.1 16) T (passN T (cmwS T c s) k) → ∃ y, q (caM T X c s k) (nI (k + 1)) h = some y ∧ R y) (fun k _ _ _ => by omega) (fun m q ih k h hk hm j so => ?_) N 0 h (by omega) (by omega) j so
  unfold f_X8_came_180
  have st := bitM_s T X c s
  -- the bit told
  have fin : caM T X c s k = caM T X c s (lsN X) → ∃ y, (if (b2i (caM T X c s k)) = 0 then r152 (bitM T X c s ||| 0) (nI (s + 1)) h else r152 (bitM T X c s ||| ((1 : Int32) <<< (nI s &&& 31))) (nI (s + 1)) h) = some y ∧ R y := by
    intro e
    have o := out h j
    rw [st, ← e] at o
    cases hb : caM T X c s k with
    | false =>
      rw [hb, if_neg (fun q => Bool.noConfusion q)] at o
      rw [if_pos (show b2i false = 0 from rfl), Int32.or_zero]; exact o
    | true =>
      rw [hb, if_pos rfl] at o
      rw [if_neg (show ¬ b2i true = 0 by decide)]; exact o
  simp only [jn_e, lt_e, nI_1]
  by_cases z : lsN X = k
  · rw [z, if_pos (show nI k < nI (k + 1) from Int32.not_le.mp (nleN (by omega) (by omega)))]
    exact fin (by rw [z])
  · rw [if_neg (show ¬ nI (lsN X) < nI (k + 1) from Int32.not_lt.mpr (leN (by omega) (by omega)))]
    by_cases y : caM T X c s k = false
    · rw [if_pos (show b2i (caM T X c s k) = 0 by rw [y]; rfl)]
      have := caM_f T X c s y (lsN X - k)
      rw [show k + (lsN X - k) = lsN X by omega] at this
      exact fin (y.trans this.symm)
    · have y' : caM T X c s k = true := by
        cases hb : caM T X c s k with
        | false => exact absurd hb y
        | true => rfl
      rw [if_neg (show ¬ b2i (caM T X c s k) = 0 by rw [y']; decide), grd_p (show inb 1 10 by decide)]
      have e31 : gA h 8 0 3 (1 : Int32).toNatClampNeg = T.2.1 16 := (x.f8 j.1).2.2.2.1
      obtain ⟨g2, e2, f2, s2⟩ := so.hour hN (by decide) (KP k (by omega))
      have e2' : f_X8_goOn N h 1 (T.2.1 16) = some g2 := e2
      have i2 : ∀ k, k ≠ 49 → gI g2 8 0 k = gI h 8 0 k := fun k hk => by
        obtain ⟨S1, e, B, rfl⟩ := f2
        exact M8_I h 1 S1 e B k hk
      have a2 : gA g2 8 0 38 = gA h 8 0 38 := by
        obtain ⟨S1, e, B, rfl⟩ := f2
        rw [M8_A, arr8_n 1 S1 _ (by omega)]
      have j2 : CamJ g X g2 := ⟨j.1.tr f2.f8, j.2.1.k a2, j.2.2.k i2⟩
      have e12 : gA g2 8 0 31 1 = (passN T (cmwS T c s) (k + 1)).2 12 := s2.2.2.2.1.2.2.2 12 (by omega) (by omega)
      rw [e31, e2', bind_s, m_isSo hN (sr.f8 j2.1) sx j2.2.1 (by omega) (by omega), bind_s, e12]
      have cs := caM_s T X c s k
      rw [y', Bool.true_and] at cs
      rw [← cs]
      exact ih (k + 1) g2 (by omega) (by omega) j2 s2
theorem m_cameS (hN : 1000 ≤ N) (r : R8a g T S) (x : TX g T) (sr : SR g X) (sx : SX X) (K0 : SOK T 0 (bgM T)) {c : Nat} (hc : c < nCr T) {h : Hp} (j : CamJ g X h) : ∃ g', iter (fun _ _ _ => none) (f_X8_came_152 N (nI c) (nI (lsN X))) N 0 0 h = some (bitM T X c 24, g') ∧ F8 g g' ∧ gZ g' 8 0 64 = false := by
  have hT := r.1
  have hc4 := hT.2.1.2
  refine (iter_inv (bot := fun _ _ _ => none) (b := f_X8_came_152 N (nI c) (nI (lsN X))) (fun m q => ∀ s h, s ≤ 24 → 24 < m + s → CamJ g X h → ∃ y, q (bitM T X c s) (nI s) h = some y ∧ (y.1 = bitM T X c 24 ∧ F8 g y.2 ∧ gZ y.2 8 0 64 = false)) (fun s _ _ _ => by omega) (fun m q ih s h hs hm j => ?_) N 0 h (by omega) (by omega) j).elim (fun y hy => ⟨y.2, by rw [← hy.2.1]; exact hy.1, hy.2.2⟩)
  unfold f_X8_came_152
  by_cases z : s = 24
  · subst z
    rw [if_pos (show (24 : Int32) ≤ nI 24 by decide)]
    exact ⟨_, rfl, rfl, j.1, j.2.2.2.1⟩
  · rw [if_neg (show ¬ (24 : Int32) ≤ nI s from nleN (a := 24) (show s < 24 by omega) (by omega))]
    obtain ⟨h1, e1, f1⟩ := m_atFirst hN (b := 1) (by decide) h
    have e1' : f_X8_atFirst N h 1 = some h1 := e1
    have p1 : Plain h1 := j.2.2.k (fun k _ => f1.1.2.1 k)
    have F1 := f1.1.f8
    have rh := r.f8 j.1
    have so : So h1 1 (T.2.1 16) T (bgM T) := So.first (by decide) hT r.2.1 rh.2.2.1 (F1.mt rh.2.2.1) (x.f8 j.1) f1 p1 (F1.2.2.1.2.2 rh.2.2.2.2)
    obtain ⟨f2, s2⟩ := so.come1 ⟨p1.2.2.1, p1.2.2.2⟩ (j := c) (nI s) (by omega)
    have hc4' : (4 : Int32) + nI c = nI (4 + c) := nI_add 4 c
    rw [e1', bind_s, hc4', grd_p (inb_n (show 4 + c < 8 by omega) (by omega)), lt_e, clN (show 4 + c < 2 ^ 31 by omega)]
    refine m_cameT hN r x sr sx K0 hc (by omega) q _ (fun h' j' => ih (s + 1) h' (by omega) (by omega) j') ⟨j.1.tr (F1.tr f2), (j.2.1.k (f1.1.2.2.2.1 38 (by omega))).k ?_, p1⟩ s2
    funext u
    rw [A_at, if_neg (fun q => absurd q.1 (by decide))]
theorem m_cameL (hN : 1000 ≤ N) (r : R8a g T S) (x : TX g T) (sr : SR g X) (sx : SX X) (K0 : SOK T 0 (bgM T)) {c : Nat} (hc : c < nCr T) {h : Hp} (f : F8 g h) (k : CnS h X) : ∃ g', iter (fun _ _ => none) (f_X8_came_95 N (nI c) h) N 0 0 = some (bitM T X c 24, g') ∧ F8 g g' ∧ gZ g' 8 0 64 = false := by
  have hK := kz_le sx
  have hz := kz_z sx
  have srh := sr.f8 f
  obtain ⟨h99, el⟩ := ls_x sx
  refine iter_inv (bot := fun _ _ => none) (b := f_X8_came_95 N (nI c) h) (fun m q => ∀ j, j ≤ kzM X → kzM X < m + j → ∃ g', q (lhM X j) (nI j) = some (bitM T X c 24, g') ∧ F8 g g' ∧ gZ g' 8 0 64 = false) (fun j _ _ => by omega) (fun m q ih j hj hm => ?_) N 0 (by omega) (by omega)
  unfold f_X8_came_95
  rw [m_knownBy srh sx, bind_s]
  by_cases z : kzM X = j
  · rw [← z, if_pos (leN (Nat.le_refl _) (by omega))]
    obtain ⟨h1, e1, f1, p1, a1⟩ := m_plainTried h
    rw [e1, bind_s, el]
    exact m_cameS hN r x sr sx K0 hc ⟨f.tr f1, k.k (a1 38), p1⟩
  · have nx := ih (j + 1) (by omega) (by omega)
    rw [lhM_s] at nx
    have e0 : (3 : Int32) * nI j = nI (3 * j) := nI_mulN 3 j
    rw [if_neg (nleN (show j < kzM X by omega) (by omega))]
    simp only [jn_e, lt_e, nI_1, e0, grd_p (inb_n (show j < 24 by omega) (show 24 < 2 ^ 31 by omega)), grd_p (inb_n (show 3 * j < 72 by omega) (show 72 < 2 ^ 31 by omega)), clN (show j < 2 ^ 31 by omega), clN (show 3 * j < 2 ^ 31 by omega), k j (by omega)]
    obtain ⟨r1, r2⟩ := srh.2.2 j (by omega)
    have ec : ctM X j = (decide (¬ X.1 3 j = 2) && !(skM X j)) := rfl
    cases hk : skM X j with
    | true =>
      rw [hk, Bool.not_true, Bool.and_false] at ec
      rw [ec, if_neg (fun q => Bool.noConfusion q.1)] at nx
      rw [if_pos (show b2i (!true) = 0 from rfl)]; exact nx
    | false =>
      rw [hk, Bool.not_false, Bool.and_true] at ec
      rw [if_neg (show ¬ b2i (!false) = 0 by decide)]
      obtain ⟨p, hp, ep⟩ := lh_x sx j (by omega)
      by_cases v : X.1 3 j = 2
      · rw [ec, decide_eq_false (fun q => q v), if_neg (fun q => Bool.noConfusion q.1)] at nx
        rw [(r1 v).1, if_pos (show (-1 : Int32) ≤ lhM X j by rw [ep]; exact Int32.le_trans (by decide) (leN (a := 0) (Nat.zero_le p) (by omega)))]; exact nx
      · rw [ec, decide_eq_true v] at nx
        rw [(r2 v).1]
        by_cases y : lhM X j < X.1 4 j
        · rw [if_pos ⟨rfl, y⟩] at nx
          rw [if_neg (Int32.not_le.mpr y)]; exact nx
        · rw [if_neg (fun q => y q.2)] at nx
          rw [if_pos (Int32.not_lt.mp y)]; exact nx
theorem m_came (hN : 1000 ≤ N) (r : R8a g T S) (x : TX g T) (sr : SR g X) (sx : SX X) (K0 : SOK T 0 (bgM T)) (p64 : gZ g 8 0 64 = false) (c : Int32) : ∃ g', f_X8_came N g c = some (camM T X c, g') ∧ F8 g g' ∧ gZ g' 8 0 64 = false := by
  have f0 : F8 g (sI g 8 0 2 0) := F8.i g 0 (by decide)
  have r0 := r.f8 f0
  have hT := r.1
  have hc4 := hT.2.1.2
  have hK := kz_le sx
  have hz := kz_z sx
  unfold f_X8_came camM
  rw [lt_e, m_isCroft r0.2.2.1.2.1 c, bind_s]
  cases hc : inC T c with
  | false => rw [if_neg (show ¬ ¬ b2i false = 0 by decide), if_neg (fun q => Bool.noConfusion q)]; exact ⟨_, rfl, f0, p64⟩
  | true =>
    rw [if_pos (show ¬ b2i true = 0 by decide), if_pos (show true = true from rfl)]
    obtain ⟨i, hi, rfl⟩ := inC_of hT hc
    rw [clN (show i < 2 ^ 31 by omega)]
    -- from the last one back
    have back : ∀ h, F8 g h → (∀ k, k < kzM X → gY h 8 0 38 k = true) → ∃ g', iter (fun _ _ => none) (f_X8_came_47 N (nI i)) N (vI (kzM X)) h = some (bitM T X i 24, g') ∧ F8 g g' ∧ gZ g' 8 0 64 = false := by
      intro h f w
      refine iter_inv (bot := fun _ _ => none) (b := f_X8_came_47 N (nI i)) (fun m q => ∀ a v h, a + v = kzM X → v < m → F8 g h → (∀ k, k < kzM X → gY h 8 0 38 k = !(stM X (kzM X) a k)) → ∃ g', q (vI v) h = some (bitM T X i 24, g') ∧ F8 g g' ∧ gZ g' 8 0 64 = false) (fun a v _ _ hv => absurd hv (Nat.not_lt_zero _)) (fun m q ih a v h ha hv f w => ?_) N 0 (kzM X) h (Nat.zero_add _) (by omega) f w
      unfold f_X8_came_47
      cases v with
      | zero =>
        rw [if_pos (show vI 0 < 0 by decide)]
        refine m_cameL hN r x sr sx K0 hi f (fun k hk => ?_)
        rw [w k hk, show a = kzM X by omega]
        rfl
      | succ v =>
        have hv24 : v < 24 := by omega
        have ek : kzM X - 1 - a = v := by omega
        have srh := sr.f8 f
        have e0 : (3 : Int32) * nI v = nI (3 * v) := nI_mulN 3 v
        have e1 : nI (3 * v) + 1 = nI (3 * v + 1) := nI_1 _
        have st := stM_s X (kzM X) a
        rw [ek] at st
        obtain ⟨r1, r2⟩ := srh.2.2 v (by omega)
        rw [vI_s, if_neg (show ¬ nI v < 0 from Int32.not_lt.mpr (leN (a := 0) (by omega) (by omega)))]
        simp only [jn_e, lt_e, vI_n, e0, e1, grd_p (inb_n hv24 (show 24 < 2 ^ 31 by omega)), grd_p (inb_n (show 3 * v < 72 by omega) (show 72 < 2 ^ 31 by omega)), grd_p (inb_n (show 3 * v + 1 < 72 by omega) (show 72 < 2 ^ 31 by omega)), clN (show v < 2 ^ 31 by omega), clN (show 3 * v < 2 ^ 31 by omega), clN (show 3 * v + 1 < 2 ^ 31 by omega), w v (by omega)]
        cases hb : stM X (kzM X) a v with
        | true =>
          rw [if_neg (fun q => by rw [hb] at q; exact Bool.noConfusion q.2)] at st
          rw [if_pos (show b2i (!true) = 0 from rfl)]
          exact ih (a + 1) v h (by omega) (by omega) f (by rw [st]; exact w)
        | false =>
          rw [if_neg (show ¬ b2i (!false) = 0 by decide)]
          by_cases y : X.1 3 v = 2
          · rw [if_pos ⟨y, hb⟩] at st
            rw [(r1 y).1, if_neg (show ¬ (0 : Int32) ≤ -1 by decide), (r1 y).2]
            rcases kz_lt sx (show v < kzM X by omega) with ⟨-, -, j, hj, ej⟩ | ⟨q, -⟩
            · rw [ej, grd_p (inb_n (show j < 24 by omega) (by omega))]
              simp only [clN (show j < 2 ^ 31 by omega)]
              rw [ej, clN (show j < 2 ^ 31 by omega)] at st
              refine ih (a + 1) v _ (by omega) (by omega) (f.tr (F8.y38 h j false)) (fun u hu => ?_)
              rw [Y8_at, st]
              show _ = !(if u = j then true else stM X (kzM X) a u)
              by_cases z : u = j
              · rw [if_pos z, if_pos z]; rfl
              · rw [if_neg z, if_neg z]; exact w u hu
            · exfalso
              rw [y] at q
              rcases q with q | q <;> exact absurd q (by decide)
          · rw [if_neg (fun q => y q.1)] at st
            rcases kz_lt sx (show v < kzM X by omega) with ⟨q, -⟩ | ⟨-, q, -, hq, eq⟩
            · exact absurd q y
            · rw [(r2 y).1, eq, if_pos (show (0 : Int32) ≤ nI q from leN (a := 0) (Nat.zero_le q) (by omega))]
              exact ih (a + 1) v h (by omega) (by omega) f (by rw [st]; exact w)
    refine iter_inv (bot := fun _ _ => none) (b := f_X8_came_19 N (nI i)) (fun m q => ∀ j h, j ≤ kzM X → kzM X < m + j → F8 g h → (∀ k, k < j → gY h 8 0 38 k = true) → ∃ g', q (nI j) h = some (bitM T X i 24, g') ∧ F8 g g' ∧ gZ g' 8 0 64 = false) (fun j _ _ _ => by omega) (fun m q ih j h hj hm f w => ?_) N 0 _ (by omega) (by omega) f0 (fun k hk => absurd hk (Nat.not_lt_zero _))
    unfold f_X8_came_19
    rw [m_knownBy (sr.f8 f) sx, bind_s]
    by_cases z : kzM X = j
    · rw [← z, if_pos (leN (Nat.le_refl _) (by omega)), bind_s, lt_e, vI_m]
      rw [← z] at w
      exact back h f w
    · rw [if_neg (nleN (show j < kzM X by omega) (by omega)), grd_p (inb_n (show j < 24 by omega) (by omega)), lt_e, lt_e, nI_1, clN (show j < 2 ^ 31 by omega)]
      refine ih (j + 1) _ (by omega) (by omega) (f.tr (F8.y38 h j true)) (fun u hu => ?_)
      rw [Y8_at]
      by_cases y : u = j
      · rw [if_pos y]
      · rw [if_neg y]; exact w u (by omega)
end Came
