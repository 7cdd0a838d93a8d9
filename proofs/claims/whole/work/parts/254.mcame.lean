-- PURE: when one came, by the reference
/-- half b counts as S, whatever was drawn -/
def So (g : Hp) (b : Nat) (ru : Int32) (T : Txt) (S : Str) : Prop := TOK T ∧ TR T ∧ MT g T ∧ Sq T (upI (v8 g b ru) 15 (S.2 15)) S ∧ N49 g
theorem arr8_15 (b : Nat) (S : Str) (v : Int32) (A : Nat → Nat → Int32) : arr8 b (upI S 15 v) A = arr8 b S A := by
  funext k
  by_cases k23 : k = 23
  · subst k23; rw [arr8_23, arr8_23]; rfl
  by_cases k28 : k = 28
  · subst k28; rw [arr8_28, arr8_28]; rfl
  by_cases k29 : k = 29
  · subst k29; rw [arr8_29, arr8_29]; rfl
  by_cases k30 : k = 30
  · subst k30; rw [arr8_30, arr8_30]; rfl
  by_cases k31 : k = 31
  · subst k31; rw [arr8_31, arr8_31]; rfl
  by_cases k32 : k = 32
  · subst k32; rw [arr8_32, arr8_32]; rfl
  by_cases k33 : k = 33
  · subst k33; rw [arr8_33, arr8_33]; rfl
  · rw [arr8_n b _ _ (by omega), arr8_n b _ _ (by omega)]
theorem M8_15 (g : Hp) (b : Nat) (S : Str) (v : Int32) (e : Bool) (B : Scr) : M8 g b (upI S 15 v) e B = M8 g b S e B := by
  unfold M8
  rw [arr8_15]
theorem upI_upI (S : Str) (k : Nat) (v w : Int32) : upI (upI S k v) k w = upI S k w := Prod.ext rfl (funext fun j => by
  show (if j = k then w else if j = k then v else S.2 j) = if j = k then w else S.2 j
  by_cases z : j = k
  · rw [if_pos z, if_pos z]
  · rw [if_neg z, if_neg z, if_neg z])
theorem upI_self (S : Str) (k : Nat) : upI S k (S.2 k) = S := Prod.ext rfl (funext fun j => by
  show (if j = k then S.2 k else S.2 j) = S.2 j
  by_cases z : j = k
  · rw [if_pos z, z]
  · rw [if_neg z])
section Came
variable {N : Nat} {g : Hp} {b : Nat} {ru : Int32} {T : Txt} {S : Str} {X : Xs}
theorem So.hour (hN : 1000 ≤ N) (hb : b < 2) (s : So g b ru T S) (K : SOK T 0 S) : ∃ g', f_X8_goOn N g (nI b) ru = some g' ∧ G8 b g g' ∧ So g' b ru T (passM T S) := by
  obtain ⟨hT, R, X, q, h49⟩ := s
  have V : MV g b ru (upI (v8 g b ru) 15 (S.2 15)) := v8_MV g b ru
  obtain ⟨e', B', e⟩ := m_goOn (e := gZ g 8 0 49) (B := g.2.2.2.2) hN hb hT X V R (K.sq q.sy)
  rw [M8_15, M8_v8 g b ru h49] at e
  have sm := passM_same T (upI (v8 g b ru) 15 (S.2 15))
  have c15 : (passM T (upI (v8 g b ru) 15 (S.2 15))).2 15 = S.2 15 := by rw [sm.2.2, upI_i]
  have c1 : SameC (v8 g b ru) (upI (passM T (upI (v8 g b ru) 15 (S.2 15))) 15 ((v8 g b ru).2 15)) := by
    obtain ⟨c1, c2, c3, c4, c5, c6, c7⟩ := sm.1
    exact ⟨c1, c2, c3, c4, c5, c6, c7⟩
  have y := v8_M8 (g := g) (e := e') (B := B') hT c1 (upI_i _ _ _)
  rw [M8_15] at y
  have y2 := y.upI 15 (S.2 15)
  rw [upI_upI] at y2
  have y3 : upI (passM T (upI (v8 g b ru) 15 (S.2 15))) 15 (S.2 15) = passM T (upI (v8 g b ru) 15 (S.2 15)) := by
    have := upI_self (passM T (upI (v8 g b ru) 15 (S.2 15))) 15
    rw [c15] at this
    exact this
  rw [y3] at y2
  refine ⟨_, e, ⟨_, _, _, rfl⟩, hT, R, M8_mt X, ?_, ?_⟩
  · rw [(passM_same T S).2.2]
    exact y2.tr (passM_sq q hT)
  · unfold N49
    rw [M8_E]
    show at3 g.1 8 0 49 (b2i e') 8 0 49 = b2i e'
    exact at3_s _ _ _ _ _
theorem So.come1 (s : So g 1 ru T S) (p : gZ g 8 0 65 = false ∧ gI g 8 0 66 = -1) {j : Nat} (v : Int32) (hj : j < 4) : F8 g (sA g 8 0 26 (4 + j) v) ∧ So (sA g 8 0 26 (4 + j) v) 1 ru T (upA S 4 j v) := by
  have f : F8 g (sA g 8 0 26 (4 + j) v) := F8.a g v (by decide) (fun _ _ => by rw [h4x 26 (by omega) (by omega)]; omega)
  obtain ⟨hT, R, X, q, h49⟩ := s
  have hc4 := hT.2.1.2
  refine ⟨f, hT, R, f.mt X, Sq.tr ?_ (q.upA 4 j v), h49⟩
  refine ⟨fun s _ => ⟨rfl, rfl⟩, fun c hc => ⟨rfl, rfl, ?_, rfl, rfl, rfl⟩, fun i _ => rfl, fun k _ _ => rfl⟩
  rw [upA_at]
  have ne : ¬ nI c = gI g 8 0 66 := by rw [p.2]; exact nI_ne_neg (by omega) (by decide)
  have nz : ¬ gZ g 8 0 65 = true := by rw [p.1]; exact fun q => Bool.noConfusion q
  show (if nI c = gI g 8 0 66 then (2147483647 : Int32) else if gZ g 8 0 65 = true then 0 else gA (sA g 8 0 26 (4 + j) v) 8 0 26 (4 * 1 + c)) = if c = j then v else (if nI c = gI g 8 0 66 then (2147483647 : Int32) else if gZ g 8 0 65 = true then 0 else gA g 8 0 26 (4 * 1 + c))
  rw [if_neg ne, if_neg nz, if_neg ne, if_neg nz, A_at]
  by_cases z : c = j
  · rw [if_pos z, if_pos ⟨rfl, by omega⟩]
  · rw [if_neg z, if_neg (by omega)]
theorem So.first {g' : Hp} (hb : b < 2) (hT : TOK T) (R : TR T) (m : MT g T) (m' : MT g' T) (x : TX g T) (f : FinA b g g') (p : Plain g') (n : N49 g') : So g' b (T.2.1 16) T (bgM T) := by
  obtain ⟨a, ⟨l1, l2, l3⟩, l4, l5, l6⟩ := f
  obtain ⟨p1, p2, p3, p4⟩ := p
  obtain ⟨x1, x2, x3, x4, x5⟩ := x
  have h8 := hT.1.2
  have hc4 := hT.2.1.2
  have hf6 := hT.2.2.1.2
  refine ⟨hT, R, m', ⟨fun s hs => ⟨?_, ?_⟩, fun c hc => ⟨?_, ?_, ?_, ?_, ?_, ?_⟩, fun i hi => ?_, fun k k1 k2 => ?_⟩, n⟩
  · exact (l1 s (by omega)).1.trans (x1 s hs)
  · refine (l1 s (by omega)).2.trans ?_
    show lotV g s = if T.2.1 12 ≤ 0 then -1 else nI s - nI s / T.2.1 12 * T.2.1 12
    unfold lotV
    rw [← m.2.1]
    by_cases z : T.2.1 12 = 0
    · rw [if_pos z, if_pos (by rw [z]; decide)]
    · rw [if_neg z, if_neg (fun q => z ((cr_pos hT).2.mpr ((cr_pos hT).1.mp q)))]
  · exact (l2 c (by omega)).1.trans (x2 c hc).2.1
  · show (if gZ g' 8 0 64 = true then 0 else gA g' 8 0 7 c) = T.1 3 c
    rw [p2, if_neg (fun q => Bool.noConfusion q), a.2.2.2.1 7 (by omega)]
    exact (x2 c hc).2.2.1
  · show (if nI c = gI g' 8 0 66 then (2147483647 : Int32) else if gZ g' 8 0 65 = true then 0 else gA g' 8 0 26 (4 * b + c)) = T.1 4 c
    rw [p4, if_neg (nI_ne_neg (by omega) (by decide)), p3, if_neg (fun q => Bool.noConfusion q)]
    exact (l2 c (by omega)).2.1.trans (x2 c hc).2.2.2
  · exact (l2 c (by omega)).2.2.1
  · exact (l2 c (by omega)).2.2.2.1
  · exact (l2 c (by omega)).2.2.2.2
  · exact l3 i (by omega)
  · rcases (show k = 11 ∨ k = 12 ∨ k = 13 ∨ k = 14 ∨ k = 15 ∨ k = 16 by omega) with rfl | rfl | rfl | rfl | rfl | rfl
    · exact l6
    · exact l4.trans x3
    · exact l5
    · rfl
    · rfl
    · show (if gZ g' 8 0 63 = true then (0 : Int32) else 1) = 1
      rw [p1, if_neg (fun q => Bool.noConfusion q)]
/-- the reference's rows of seen say what X says -/
def SR (g : Hp) (X : Xs) : Prop := gI g 8 0 72 = X.2 1 ∧ gI g 8 0 73 = X.2 2 ∧ ∀ k, k < (X.2 1).toNatClampNeg → (X.1 3 k = 2 → gA g 8 0 37 (3 * k) = -1 ∧ gA g 8 0 37 (3 * k + 1) = X.1 5 k) ∧ (¬ X.1 3 k = 2 → gA g 8 0 37 (3 * k) = X.1 4 k ∧ gA g 8 0 37 (3 * k + 1) = X.1 5 k ∧ gA g 8 0 37 (3 * k + 2) = if X.1 3 k = 0 then 1 else 0)
theorem SR.f8 {g' : Hp} (s : SR g X) (f : F8 g g') : SR g' X := by
  unfold SR
  rw [f.2.1 72 (by decide), f.2.1 73 (by decide), f.2.2.2.1 37 (by decide)]
  exact s
theorem kz_z {X : Xs} (x : SX X) : kzM X ≤ (X.2 1).toNatClampNeg := by
  obtain ⟨z, h1, h2, h3, -⟩ := x
  unfold kzM
  rcases h3 with q | ⟨k, hk, q⟩
  · rw [if_pos q]; omega
  · rw [if_neg (by rw [q]; exact nI_ne_neg (by omega) (by decide)), q, h2, clN (by omega), clN (by omega)]; exact hk
theorem m_knownBy (s : SR g X) (x : SX X) : f_X8_knownBy g = some (nI (kzM X)) := by
  obtain ⟨d, e, -⟩ := s
  obtain ⟨z, h1, h2, h3, -⟩ := x
  unfold f_X8_knownBy kzM
  simp only [jn_e, d, e]
  rcases h3 with q | ⟨k, hk, q⟩
  · rw [q, if_neg (by decide), if_pos rfl, h2, clN (by omega)]
  · rw [q, if_pos (show (0 : Int32) ≤ nI k from leN (a := 0) (by omega) (by omega)), if_neg (nI_ne_neg (by omega) (by decide)), clN (by omega)]
/-- counts lie as sifted -/
def CnS (g : Hp) (X : Xs) : Prop := ∀ k, k < kzM X → gY g 8 0 38 k = !(skM X k)
theorem CnS.k {g' : Hp} (c : CnS g X) (e : gA g' 8 0 38 = gA g 8 0 38) : CnS g' X := fun k hk => by
  unfold gY
  rw [e]
  exact c k hk
theorem m_isSo (hN : 1000 ≤ N) (s : SR g X) (x : SX X) (k : CnS g X) {u : Nat} (hu : 1 ≤ u) (hu9 : u < 1000) : f_X8_isSo N g (nI u) = some (agM X (nI u) (gA g 8 0 31 1) (kzM X)) := by
  have hK := kz_le x
  have hz := kz_z x
  unfold f_X8_isSo
  refine iter_inv (bot := fun _ => none) (b := f_X8_isSo_2 g (nI u)) (fun m r => ∀ j, j ≤ kzM X → kzM X < m + j → agM X (nI u) (gA g 8 0 31 1) j = true → r (nI j) = some (agM X (nI u) (gA g 8 0 31 1) (kzM X))) (fun j _ _ => by omega) (fun m r ih j hj hm w => ?_) N 0 (by omega) (by omega) rfl
  unfold f_X8_isSo_2
  rw [m_knownBy s x, bind_s]
  by_cases z : kzM X = j
  · rw [z, if_pos (leN (Nat.le_refl _) (by omega)), w]
  · have yes : agM X (nI u) (gA g 8 0 31 1) (j + 1) = true → r (nI (j + 1)) = some (agM X (nI u) (gA g 8 0 31 1) (kzM X)) := ih (j + 1) (by omega) (by omega)
    have no : agM X (nI u) (gA g 8 0 31 1) (j + 1) = false → agM X (nI u) (gA g 8 0 31 1) (kzM X) = false := fun q => by
      have := agM_f X (nI u) (gA g 8 0 31 1) q (kzM X - (j + 1))
      rw [show j + 1 + (kzM X - (j + 1)) = kzM X by omega] at this
      exact this
    rw [agM_s, w, Bool.true_and] at yes no
    have e0 : (3 : Int32) * nI j = nI (3 * j) := nI_mulN 3 j
    have e1 : nI (3 * j) + 1 = nI (3 * j + 1) := nI_1 _
    have e2 : nI (3 * j) + 2 = nI (3 * j + 2) := nI_add (3 * j) 2
    rw [if_neg (nleN (show j < kzM X by omega) (by omega))]
    simp only [jn_e, lt_e, nI_1, e0, e2, grd_p (inb_n (show j < 24 by omega) (show 24 < 2 ^ 31 by omega)), grd_p (inb_n (show 3 * j < 72 by omega) (show 72 < 2 ^ 31 by omega)), grd_p (inb_n (show 3 * j + 1 < 72 by omega) (show 72 < 2 ^ 31 by omega)), grd_p (inb_n (show 3 * j + 2 < 72 by omega) (show 72 < 2 ^ 31 by omega)), grd_p (show inb 1 2 by decide), show (1 : Int32).toNatClampNeg = 1 from rfl, clN (show j < 2 ^ 31 by omega), clN (show 3 * j < 2 ^ 31 by omega), clN (show 3 * j + 1 < 2 ^ 31 by omega), clN (show 3 * j + 2 < 2 ^ 31 by omega), k j (by omega)]
    obtain ⟨r1, r2⟩ := s.2.2 j (by omega)
    have ec : ctM X j = (decide (¬ X.1 3 j = 2) && !(skM X j)) := rfl
    cases hk : skM X j with
    | true =>
      rw [hk, Bool.not_true, Bool.and_false] at ec
      rw [ec] at yes
      rw [if_pos (show b2i (!true) = 0 from rfl)]; exact yes rfl
    | false =>
      rw [hk, Bool.not_false, Bool.and_true] at ec
      rw [if_neg (show ¬ b2i (!false) = 0 by decide)]
      by_cases v : X.1 3 j = 2
      · rw [(r1 v).1, if_neg (show ¬ (-1 : Int32) = nI u from fun q => nI_ne_neg (by omega) (by decide) q.symm)]
        rw [ec, decide_eq_false (fun q => q v)] at yes
        exact yes rfl
      obtain ⟨a0, a1, a2⟩ := r2 v
      rw [ec, decide_eq_true v, Bool.true_and] at yes no
      rw [a0, a1, a2]
      by_cases y : X.1 4 j = nI u
      rotate_left
      · rw [if_neg y]; exact yes (by rw [decide_eq_false y]; rfl)
      rw [if_pos y]
      rw [decide_eq_true y, Bool.true_and] at yes no
      by_cases v : gA g 8 0 31 1 < X.1 5 j <;> by_cases u : X.1 3 j = 0
      · rw [if_pos v, if_pos u, if_neg (show ¬ ¬ (1 : Int32) = 1 from fun q => q rfl), if_neg (show ¬ b2i false = b2i true by decide), no (by rw [decide_eq_false (Int32.not_le.mpr v), decide_eq_true u]; rfl)]
      · rw [if_pos v, if_neg u, if_pos (show ¬ (0 : Int32) = 1 by decide), if_pos trivial]; exact yes (by rw [decide_eq_false (Int32.not_le.mpr v), decide_eq_false u]; rfl)
      · rw [if_neg v, if_pos u, if_neg (show ¬ ¬ (1 : Int32) = 1 from fun q => q rfl), if_pos trivial]; exact yes (by rw [decide_eq_true (Int32.not_lt.mp v), decide_eq_true u]; rfl)
      · rw [if_neg v, if_neg u, if_pos (show ¬ (0 : Int32) = 1 by decide), if_neg (show ¬ b2i true = b2i false by decide), no (by rw [decide_eq_true (Int32.not_lt.mp v), decide_eq_false u]; rfl)]
end Came
