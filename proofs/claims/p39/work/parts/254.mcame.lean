-- PURE: when one came, by the reference
/-- half b counts as S, whatever was drawn -/
def So (g : Hp) (b : Nat) (ru : Int32) (T : Txt) (S : Str) : Prop := TOK T ∧ TR T ∧ MT g T ∧ Sq T (upI (v8 g b ru) 15 (S.2 15)) S ∧ N49 g
theorem arr8_15 (b : Nat) (S : Str) (v : Int32) (A : Nat → Nat → Int32) : arr8 b (upI S 15 v) A = arr8 b S A := by
  funext k
  by_cases k23 : k = 23
  · subst k23; rw [arr8_23, arr8_23]; rfl
  by_cases k28 : k = 28
  · subst k28; rw [arr8_28, arr8_28]; rfl
  by_cases k29 : k = 29
  · subst k29; rw [arr8_29, arr8_29]; rfl
  by_cases k30 : k = 30
  · subst k30; rw [arr8_30, arr8_30]; rfl
  by_cases k31 : k = 31
  · subst k31; rw [arr8_31, arr8_31]; rfl
  by_cases k32 : k = 32
  · subst k32; rw [arr8_32, arr8_32]; rfl
  by_cases k33 : k = 33
  · subst k33; rw [arr8_33, arr8_33]; rfl
  · rw [arr8_n b _ _ (by omega), arr8_n b _ _ (by omega)]
theorem M8_15 (g : Hp) (b : Nat) (S : Str) (v : Int32) (e : Bool) (B : Scr) : M8 g b (upI S 15 v) e B = M8 g b S e B := by
  unfold M8
  rw [arr8_15]
theorem upI_upI (S : Str) (k : Nat) (v w : Int32) : upI (upI S k v) k w = upI S k w := Prod.ext rfl (funext fun j => by
  show (if j = k then w else if j = k then v else S.2 j) = if j = k then w else S.2 j
  by_cases z : j = k
  · rw [if_pos z, if_pos z]
  · rw [if_neg z, if_neg z, if_neg z])
theorem upI_self (S : Str) (k : Nat) : upI S k (S.2 k) = S := Prod.ext rfl (funext fun j => by
  show (if j = k then S.2 k else S.2 j) = S.2 j
  by_cases z : j = k
  · rw [if_pos z, z]
  · rw [if_neg z])
section Came
variable {N : Nat} {g : Hp} {b : Nat} {ru : Int32} {T : Txt} {S : Str} {X : Xs}
theorem So.hour (hN : 1000 ≤ N) (hb : b < 2) (s : So g b ru T S) (K : SOK T 0 S) : ∃ g', f_X8_goOn N g (nI b) ru = some g' ∧ G8 b g g' ∧ So g' b ru T (passM T S) := by
  obtain ⟨hT, R, X, q, h49⟩ := s
  have V : MV g b ru (upI (v8 g b ru) 15 (S.2 15)) := v8_MV g b ru
  obtain ⟨e', B', e⟩ := m_goOn (e := gZ g 8 0 49) (B := g.2.2.2.2) hN hb hT X V R (K.sq q.sy)
  rw [M8_15, M8_v8 g b ru h49] at e
  have sm := passM_same T (upI (v8 g b ru) 15 (S.2 15))
  have c15 : (passM T (upI (v8 g b ru) 15 (S.2 15))).2 15 = S.2 15 := by rw [sm.2.2, upI_i]
  have c1 : SameC (v8 g b ru) (upI (passM T (upI (v8 g b ru) 15 (S.2 15))) 15 ((v8 g b ru).2 15)) := by
    obtain ⟨c1, c2, c3, c4, c5, c6, c7⟩ := sm.1
    exact ⟨c1, c2, c3, c4, c5, c6, c7⟩
  have y := v8_M8 (g := g) (e := e') (B := B') hT c1 (upI_i _ _ _)
  rw [M8_15] at y
  have y2 := y.upI 15 (S.2 15)
  rw [upI_upI] at y2
  have y3 : upI (passM T (upI (v8 g b ru) 15 (S.2 15))) 15 (S.2 15) = passM T (upI (v8 g b ru) 15 (S.2 15)) := by
    have := upI_self (passM T (upI (v8 g b ru) 15 (S.2 15))) 15
    rw [c15] at this
    exact this
  rw [y3] at y2
  refine ⟨_, e, ⟨_, _, _, rfl⟩, hT, R, M8_mt X, ?_, ?_⟩
  · rw [(passM_same T S).2.2]
    exact y2.tr (passM_sq q hT)
  · unfold N49
    rw [M8_E]
    show at3 g.1 8 0 49 (b2i e') 8 0 49 = b2i e'
    exact at3_s _ _ _ _ _
/-- the reference's rows of seen say what X says -/
def SR (g : Hp) (X : Xs) : Prop := gI g 8 0 72 = X.2 1 ∧ gI g 8 0 73 = X.2 2 ∧ ∀ k, k < (X.2 1).toNatClampNeg → (X.1 3 k = 2 → gA g 8 0 37 (3 * k) = -1 ∧ gA g 8 0 37 (3 * k + 1) = X.1 5 k) ∧ (¬ X.1 3 k = 2 → gA g 8 0 37 (3 * k) = X.1 4 k ∧ gA g 8 0 37 (3 * k + 1) = X.1 5 k ∧ gA g 8 0 37 (3 * k + 2) = if X.1 3 k = 0 then 1 else 0)
/-- counts lie as sifted -/
def CnS (g : Hp) (X : Xs) : Prop := ∀ k, k < kzM X → gY g 8 0 38 k = !(skM X k)
theorem CnS.k {g' : Hp} (c : CnS g X) (e : gA g' 8 0 38 = gA g 8 0 38) : CnS g' X := fun k hk => by
  unfold gY
  rw [e]
  exact c k hk
end Came

