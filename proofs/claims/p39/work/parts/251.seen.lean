-- PURE: what was seen, by the class
/-- rows of seen: each is told at least, less, or strikes an earlier one -/
def SX (X : Xs) : Prop := ∃ z : Nat, z ≤ 24 ∧ X.2 1 = nI z ∧ (X.2 2 = -1 ∨ ∃ k, k ≤ z ∧ X.2 2 = nI k) ∧ ∀ k, k < z → (X.1 3 k = 2 ∧ X.1 4 k = 0 ∧ ∃ j, j < k ∧ X.1 5 k = nI j) ∨ ((X.1 3 k = 0 ∨ X.1 3 k = 1) ∧ ∃ q, 1 ≤ q ∧ q ≤ 99 ∧ X.1 4 k = nI q)
def kzM (X : Xs) : Nat := if X.2 2 = -1 then (X.2 1).toNatClampNeg else (X.2 2).toNatClampNeg
/-- which are struck, when the last i of the K known are looked at -/
def stM (X : Xs) (K : Nat) : Nat → Nat → Bool
  | 0 => fun _ => false
  | i + 1 => if X.1 3 (K - 1 - i) = 2 ∧ stM X K i (K - 1 - i) = false then (fun u => if u = (X.1 5 (K - 1 - i)).toNatClampNeg then true else stM X K i u) else stM X K i
theorem stM_s (X : Xs) (K i : Nat) : stM X K (i + 1) = if X.1 3 (K - 1 - i) = 2 ∧ stM X K i (K - 1 - i) = false then (fun u => if u = (X.1 5 (K - 1 - i)).toNatClampNeg then true else stM X K i u) else stM X K i := rfl
def skM (X : Xs) : Nat → Bool := stM X (kzM X) (kzM X)
def ctM (X : Xs) (k : Nat) : Bool := decide (¬ X.1 3 k = 2) && !(skM X k)
def lhM (X : Xs) : Nat → Int32
  | 0 => 0
  | k + 1 => if ctM X k = true ∧ lhM X k < X.1 4 k then X.1 4 k else lhM X k
/-- agrees with the first n -/
def agM (X : Xs) (hour heap : Int32) : Nat → Bool
  | 0 => true
  | k + 1 => agM X hour heap k && !(ctM X k && decide (X.1 4 k = hour) && !(decide (X.1 5 k ≤ heap) == decide (X.1 3 k = 0)))
theorem lhM_s (X : Xs) (k : Nat) : lhM X (k + 1) = if ctM X k = true ∧ lhM X k < X.1 4 k then X.1 4 k else lhM X k := rfl
theorem agM_s (X : Xs) (hour heap : Int32) (k : Nat) : agM X hour heap (k + 1) = (agM X hour heap k && !(ctM X k && decide (X.1 4 k = hour) && !(decide (X.1 5 k ≤ heap) == decide (X.1 3 k = 0)))) := rfl
theorem agM_f (X : Xs) (hour heap : Int32) {k : Nat} (h : agM X hour heap k = false) : ∀ n, agM X hour heap (k + n) = false
  | 0 => h
  | n + 1 => by rw [show k + (n + 1) = (k + n) + 1 from rfl, agM_s, agM_f X hour heap h n, Bool.false_and]
theorem kz_le {X : Xs} (s : SX X) : kzM X ≤ 24 := by
  obtain ⟨z, h1, h2, h3, -⟩ := s
  unfold kzM
  rcases h3 with q | ⟨k, hk, q⟩
  · rw [if_pos q, h2, clN (by omega)]; exact h1
  · rw [if_neg (by rw [q]; exact nI_ne_neg (by omega) (by decide)), q, clN (by omega)]; omega
theorem kz_lt {X : Xs} (s : SX X) {k : Nat} (hk : k < kzM X) : (X.1 3 k = 2 ∧ X.1 4 k = 0 ∧ ∃ j, j < k ∧ X.1 5 k = nI j) ∨ ((X.1 3 k = 0 ∨ X.1 3 k = 1) ∧ ∃ q, 1 ≤ q ∧ q ≤ 99 ∧ X.1 4 k = nI q) := by
  obtain ⟨z, h1, h2, h3, h4⟩ := s
  refine h4 k ?_
  unfold kzM at hk
  rcases h3 with q | ⟨j, hj, q⟩
  · rw [if_pos q, h2, clN (by omega)] at hk; exact hk
  · rw [if_neg (by rw [q]; exact nI_ne_neg (by omega) (by decide)), q, clN (by omega)] at hk; omega
/-- the class's rows of seen hold what X tells -/
def SC (h : Hp) (X : Xs) : Prop := gA h 2 0 0 = X.1 3 ∧ gA h 2 0 1 = X.1 4 ∧ gA h 2 0 2 = X.1 5 ∧ gI h 2 0 4 = X.2 1 ∧ gI h 2 0 5 = X.2 2
theorem RC.seen {h : Hp} {t : Nat} {T : Txt} {S I : Str} {X : Xs} (r : RC h t T S I X) : SC h X := by
  have e := r.2.2.2.1
  rw [← e]
  exact ⟨rfl, rfl, rfl, rfl, rfl⟩
theorem SC.fr {h g : Hp} {X : Xs} (s : SC h X) (f : Fr h g) : SC g X := by
  obtain ⟨a, b, c, d, e⟩ := s
  exact ⟨(f.2 2 0 0 (by decide) (Or.inl (by decide)) (fun _ => by decide)).trans a, (f.2 2 0 1 (by decide) (Or.inl (by decide)) (fun _ => by decide)).trans b, (f.2 2 0 2 (by decide) (Or.inl (by decide)) (fun _ => by decide)).trans c, (f.1 2 0 4 (Or.inl (by decide))).1.trans d, (f.1 2 0 5 (Or.inl (by decide))).1.trans e⟩
section Seen
variable {N : Nat} {h g : Hp} {X : Xs}
theorem cl_known (s : SC g X) (x : SX X) : f_X2_knownSize g = some (nI (kzM X)) := by
  obtain ⟨-, -, -, d, e⟩ := s
  obtain ⟨z, h1, h2, h3, -⟩ := x
  unfold f_X2_knownSize kzM
  simp only [jn_e, d, e]
  rcases h3 with q | ⟨k, hk, q⟩
  · rw [if_neg (fun w => w q), if_pos q, h2, clN (by omega)]
  · rw [if_pos (by rw [q]; exact nI_ne_neg (by omega) (by decide)), if_neg (by rw [q]; exact nI_ne_neg (by omega) (by decide)), q, clN (by omega)]
/-- nothing changed but what is struck -/
def T3 (h g : Hp) : Prop := (∀ c o k, gI g c o k = gI h c o k ∧ gL g c o k = gL h c o k ∧ gO g c o k = gO h c o k) ∧ ∀ c o k, ¬ (c = 2 ∧ o = 0 ∧ k = 3) → gA g c o k = gA h c o k
theorem T3.rf (h : Hp) : T3 h h := ⟨fun _ _ _ => ⟨rfl, rfl, rfl⟩, fun _ _ _ _ => rfl⟩
theorem T3.tr {h h' h'' : Hp} (a : T3 h h') (b : T3 h' h'') : T3 h h'' := ⟨fun c o k => ⟨(b.1 c o k).1.trans (a.1 c o k).1, (b.1 c o k).2.1.trans (a.1 c o k).2.1, (b.1 c o k).2.2.trans (a.1 c o k).2.2⟩, fun c o k q => (b.2 c o k q).trans (a.2 c o k q)⟩
theorem T3.y (h : Hp) (i : Nat) (b : Bool) : T3 h (sY h 2 0 3 i b) := ⟨fun _ _ _ => ⟨rfl, rfl, rfl⟩, fun _ _ _ q => if_neg q⟩
theorem T3.fr {h g : Hp} (a : T3 h g) : Fr h g := ⟨fun c o k _ => a.1 c o k, fun c o k _ _ q => a.2 c o k (fun z => q z.1 z.2.2)⟩
theorem T3.sd {h g : Hp} (a : T3 h g) {o t : Nat} {T : Txt} {S : Str} (s : Sd h o t T S) : Sd g o t T S := by
  obtain ⟨s1, s2, s3, s4, s5⟩ := s
  refine ⟨(a.1 3 o 10).2.2.trans s1, (a.fr.tx t).trans s2, ?_, s4, ?_⟩
  · rw [show gA g 0 t = gA h 0 t from funext fun k => a.2 0 t k (by omega)]; exact s3
  · rw [show vw g o = vw h o from Prod.ext (funext fun k => a.2 3 o k (by omega)) (funext fun k => (a.1 3 o k).1)]; exact s5
theorem Y_at (g : Hp) (i : Nat) (b : Bool) (u : Nat) : gY (sY g 2 0 3 i b) 2 0 3 u = if u = i then b else gY g 2 0 3 u := by
  show decide (¬ at3 g.2.2.2.1 2 0 3 (upd (gA g 2 0 3) i (b2i b)) 2 0 3 u = 0) = _
  rw [at3_s]
  by_cases w : u = i
  · rw [if_pos w, w, upd_s]; exact Z_b b
  · rw [if_neg w, upd_n _ _ w]; rfl
theorem cl_sift (hN : 1000 ≤ N) (s : SC h X) (x : SX X) : ∃ g, f_X2_sift N h = some g ∧ T3 h g ∧ ∀ u, u < 24 → gY g 2 0 3 u = skM X u := by
  have hK := kz_le x
  have back : ∀ g, T3 h g → (∀ u, u < 24 → gY g 2 0 3 u = false) → ∃ g', iter (fun _ _ => none) f_X2_sift_28 N (vI (kzM X)) g = some g' ∧ T3 h g' ∧ ∀ u, u < 24 → gY g' 2 0 3 u = skM X u := by
    intro g f w
    refine iter_inv (bot := fun _ _ => none) (b := f_X2_sift_28) (fun m r => ∀ i v g, i + v = kzM X → v < m → T3 h g → (∀ u, u < 24 → gY g 2 0 3 u = stM X (kzM X) i u) → ∃ g', r (vI v) g = some g' ∧ T3 h g' ∧ ∀ u, u < 24 → gY g' 2 0 3 u = skM X u) (fun i v _ _ hv => absurd hv (Nat.not_lt_zero _)) (fun m r ih i v g hi hv f w => ?_) N 0 (kzM X) g (Nat.zero_add _) (by omega) f w
    unfold f_X2_sift_28
    cases v with
    | zero =>
      rw [if_pos (show vI 0 < 0 by decide)]
      refine ⟨g, rfl, f, fun u hu => ?_⟩
      rw [w u hu]
      have : i = kzM X := by omega
      rw [this]; rfl
    | succ v =>
      have hv24 : v < 24 := by omega
      have ek : kzM X - 1 - i = v := by omega
      have e0 : gA g 2 0 0 = X.1 3 := (f.2 2 0 0 (by omega)).trans s.1
      have e2 : gA g 2 0 2 = X.1 5 := (f.2 2 0 2 (by omega)).trans s.2.2.1
      rw [vI_s, if_neg (show ¬ nI v < 0 from Int32.not_lt.mpr (leN (a := 0) (by omega) (by omega))), grd_p (inb_n hv24 (by omega))]
      simp only [jn_e, lt_e, clN (show v < 2 ^ 31 by omega), vI_n, e0, e2, grd_p (inb_n hv24 (show 24 < 2 ^ 31 by omega)), w v hv24]
      have st := stM_s X (kzM X) i
      rw [ek] at st
      by_cases y : X.1 3 v = 2
      · rw [if_neg (fun q => q y)]
        cases hb : stM X (kzM X) i v with
        | true =>
          rw [if_pos (show ¬ b2i true = 0 by decide)]
          rw [if_neg (fun q => by rw [hb] at q; exact Bool.noConfusion q.2)] at st
          exact ih (i + 1) v g (by omega) (by omega) f (by rw [st]; exact w)
        | false =>
          rw [if_neg (show ¬ ¬ b2i false = 0 by decide)]
          rw [if_pos ⟨y, hb⟩] at st
          rcases kz_lt x (show v < kzM X by omega) with ⟨-, -, j, hj, ej⟩ | ⟨q, -⟩
          · rw [ej, grd_p (inb_n (show j < 24 by omega) (by omega))]
            simp only [clN (show j < 2 ^ 31 by omega)]
            rw [ej, clN (show j < 2 ^ 31 by omega)] at st
            refine ih (i + 1) v _ (by omega) (by omega) (f.tr (T3.y g j true)) (fun u hu => ?_)
            rw [Y_at, st]
            show _ = if u = j then true else stM X (kzM X) i u
            by_cases z : u = j
            · rw [if_pos z, if_pos z]
            · rw [if_neg z, if_neg z]; exact w u hu
          · exfalso
            rw [y] at q
            rcases q with q | q <;> exact absurd q (by decide)
      · rw [if_pos y]
        rw [if_neg (fun q => y q.1)] at st
        exact ih (i + 1) v g (by omega) (by omega) f (by rw [st]; exact w)
  unfold f_X2_sift
  refine iter_inv (bot := fun _ _ => none) (b := f_X2_sift_2 N) (fun m r => ∀ j g, j ≤ 24 → 24 < m + j → T3 h g → (∀ u, u < j → gY g 2 0 3 u = false) → ∃ g', r (nI j) g = some g' ∧ T3 h g' ∧ ∀ u, u < 24 → gY g' 2 0 3 u = skM X u) (fun j _ _ _ => by omega) (fun m r ih j g hj hm f w => ?_) N 0 h (by omega) (by omega) (T3.rf h) (fun u hu => absurd hu (Nat.not_lt_zero _))
  unfold f_X2_sift_2
  by_cases z : j = 24
  · subst z
    rw [if_pos (show (24 : Int32) ≤ nI 24 by decide), cl_known (s.fr f.fr) x, bind_s, lt_e, vI_m]
    exact back g f w
  · rw [if_neg (show ¬ (24 : Int32) ≤ nI j from nleN (a := 24) (show j < 24 by omega) (by omega)), grd_p (inb_n (show j < 24 by omega) (by omega)), lt_e, lt_e, nI_1, clN (show j < 2 ^ 31 by omega)]
    refine ih (j + 1) _ (by omega) (by omega) (f.tr (T3.y g j false)) (fun u hu => ?_)
    rw [Y_at]
    by_cases y : u = j
    · rw [if_pos y]
    · rw [if_neg y]; exact w u (by omega)
/-- struck rows lie as sifted -/
def SK (g : Hp) (X : Xs) : Prop := ∀ u, u < 24 → gY g 2 0 3 u = skM X u
theorem cl_counts (s : SC g X) (k : SK g X) {i : Nat} (hi : i < 24) : f_X2_counts g (nI i) = some (ctM X i) := by
  unfold f_X2_counts ctM
  simp only [jn_e, clN (show i < 2 ^ 31 by omega), grd_p (inb_n hi (show 24 < 2 ^ 31 by omega)), s.1, k i hi]
  by_cases z : X.1 3 i = 2
  · rw [if_pos z, decide_eq_false (fun q => q z)]; rfl
  · rw [if_neg z, decide_eq_true z]
    cases skM X i <;> rfl
theorem cl_lastHour (hN : 1000 ≤ N) (s : SC g X) (x : SX X) (k : SK g X) : f_X2_lastHour N g = some (lhM X (kzM X)) := by
  have hK := kz_le x
  unfold f_X2_lastHour
  refine iter_inv (bot := fun _ _ => none) (b := f_X2_lastHour_4 g) (fun m r => ∀ j, j ≤ kzM X → kzM X < m + j → r (lhM X j) (nI j) = some (lhM X (kzM X))) (fun j _ _ => by omega) (fun m r ih j hj hm => ?_) N 0 (by omega) (by omega)
  unfold f_X2_lastHour_4
  rw [cl_known s x, bind_s]
  by_cases z : kzM X = j
  · rw [z, if_pos (leN (Nat.le_refl _) (by omega))]
  · have nx := ih (j + 1) (by omega) (by omega)
    rw [lhM_s] at nx
    rw [if_neg (nleN (show j < kzM X by omega) (by omega)), cl_counts s k (show j < 24 by omega), bind_s]
    simp only [jn_e, lt_e, nI_1, grd_p (inb_n (show j < 24 by omega) (show 24 < 2 ^ 31 by omega)), clN (show j < 2 ^ 31 by omega), s.2.1]
    cases hc : ctM X j with
    | false =>
      rw [hc, if_neg (fun q => Bool.noConfusion q.1)] at nx
      rw [if_pos (show b2i false = 0 from rfl)]; exact nx
    | true =>
      rw [if_neg (show ¬ b2i true = 0 by decide)]
      rw [hc] at nx
      by_cases y : lhM X j < X.1 4 j
      · rw [if_pos ⟨rfl, y⟩] at nx
        rw [if_pos y]; exact nx
      · rw [if_neg (fun q => y q.2)] at nx
        rw [if_neg y]; exact nx
theorem cl_agrees (hN : 1000 ≤ N) (s : SC g X) (x : SX X) (k : SK g X) (hour heap : Int32) : f_X2_agrees N g hour heap = some (agM X hour heap (kzM X)) := by
  have hK := kz_le x
  unfold f_X2_agrees
  refine iter_inv (bot := fun _ => none) (b := f_X2_agrees_2 g hour heap) (fun m r => ∀ j, j ≤ kzM X → kzM X < m + j → agM X hour heap j = true → r (nI j) = some (agM X hour heap (kzM X))) (fun j _ _ => by omega) (fun m r ih j hj hm w => ?_) N 0 (by omega) (by omega) rfl
  unfold f_X2_agrees_2
  rw [cl_known s x, bind_s]
  by_cases z : kzM X = j
  · rw [z, if_pos (leN (Nat.le_refl _) (by omega)), w]
  · have yes : agM X hour heap (j + 1) = true → r (nI (j + 1)) = some (agM X hour heap (kzM X)) := ih (j + 1) (by omega) (by omega)
    have no : agM X hour heap (j + 1) = false → agM X hour heap (kzM X) = false := fun q => by
      have := agM_f X hour heap q (kzM X - (j + 1))
      rw [show j + 1 + (kzM X - (j + 1)) = kzM X by omega] at this
      exact this
    rw [agM_s, w, Bool.true_and] at yes no
    rw [if_neg (nleN (show j < kzM X by omega) (by omega)), cl_counts s k (show j < 24 by omega), bind_s]
    simp only [jn_e, lt_e, nI_1, grd_p (inb_n (show j < 24 by omega) (show 24 < 2 ^ 31 by omega)), clN (show j < 2 ^ 31 by omega), s.1, s.2.1, s.2.2.1]
    cases hc : ctM X j with
    | false => rw [if_pos (show b2i false = 0 from rfl)]; exact yes (by rw [hc]; rfl)
    | true =>
      rw [if_neg (show ¬ b2i true = 0 by decide)]
      rw [hc, Bool.true_and] at yes no
      by_cases y : X.1 4 j = hour
      rotate_left
      · rw [if_pos y]; exact yes (by rw [decide_eq_false y]; rfl)
      rw [if_neg (fun q => q y)]
      rw [decide_eq_true y, Bool.true_and] at yes no
      by_cases v : heap < X.1 5 j <;> by_cases u : X.1 3 j = 0
      · rw [if_pos v, if_neg (fun q => q u), if_neg (show ¬ b2i false = b2i true by decide), no (by rw [decide_eq_false (Int32.not_le.mpr v), decide_eq_true u]; rfl)]
      · rw [if_pos v, if_pos u, if_pos trivial]; exact yes (by rw [decide_eq_false (Int32.not_le.mpr v), decide_eq_false u]; rfl)
      · rw [if_neg v, if_neg (fun q => q u), if_pos trivial]; exact yes (by rw [decide_eq_true (Int32.not_lt.mp v), decide_eq_true u]; rfl)
      · rw [if_neg v, if_pos u, if_neg (show ¬ b2i true = b2i false by decide), no (by rw [decide_eq_true (Int32.not_lt.mp v), decide_eq_false u]; rfl)]
end Seen

