-- PURE: undo's rows
theorem mvM_sq {T : Txt} {S S' : Str} (q : Sq T S S') {a b : Nat} (ha : a < nCr T) (hb : b < nCr T) : Sq T (mvM S a b) (mvM S' a b) := by
  have ea := (q.2.1 a ha).1
  have eb := (q.2.1 b hb).1
  have q1 := q.upA 2 a (S.1 2 a - 1)
  have ev : (upA S 2 a (S.1 2 a - 1)).1 2 b = (upA S' 2 a (S.1 2 a - 1)).1 2 b := (q1.2.1 b hb).1
  unfold mvM
  rw [← ea, ← ev]
  exact q1.upA 2 b _
theorem unM_sq {T : Txt} {S S' : Str} (hT : TOK T) (q : Sq T S S') {k w o : Int32} (v : VE T k w o) : Sq T (unM S k w o) (unM S' k w o) := by
  have hc4 := hT.2.1.2
  unfold unM
  rcases v with ⟨v0, -⟩ | v0 | ⟨v0, -⟩ | ⟨v0, c, d, hc, hd, rfl, rfl⟩
  · rw [v0, if_pos rfl, if_pos rfl]; exact q.upA 5 _ _
  · rw [v0, if_neg (show ¬ (1 : Int32) = 0 by decide), if_pos rfl, if_neg (show ¬ (1 : Int32) = 0 by decide), if_pos rfl]; exact q.upI 14 _
  · rw [v0, if_neg (show ¬ (2 : Int32) = 0 by decide), if_neg (show ¬ (2 : Int32) = 1 by decide), if_pos rfl, if_neg (show ¬ (2 : Int32) = 0 by decide), if_neg (show ¬ (2 : Int32) = 1 by decide), if_pos rfl]; exact q.upA 1 _ _
  · rw [v0, if_neg (show ¬ (3 : Int32) = 0 by decide), if_neg (show ¬ (3 : Int32) = 1 by decide), if_neg (show ¬ (3 : Int32) = 2 by decide), if_neg (show ¬ (3 : Int32) = 0 by decide), if_neg (show ¬ (3 : Int32) = 1 by decide), if_neg (show ¬ (3 : Int32) = 2 by decide), clN (show c < 2 ^ 31 by omega), clN (show d < 2 ^ 31 by omega)]
    exact mvM_sq q hd hc
theorem SN_sq {T : Txt} {S S' : Str} {A : Nat → Int32} {i : Nat} (s : SN T A i S) (q : Sq T S S') : SN T A i S' :=
  ⟨fun c hc => ⟨(s.1 c hc).1.trans (q.2.1 c hc).2.2.2.1, (s.1 c hc).2.trans (q.2.1 c hc).1⟩, fun u hu => (s.2.1 u hu).trans (q.1 u hu).2, s.2.2.trans (q.2.2.2 14 (by omega) (by omega))⟩
theorem SN_cg {T : Txt} (hT : TOK T) {S : Str} {A A' : Nat → Int32} {i i' : Nat} (s : SN T A i S) (e : ∀ j, j < 17 → A' (i' + j) = A (i + j)) : SN T A' i' S := by
  have hc4 := hT.2.1.2
  have h8 := hT.1.2
  refine ⟨fun c hc => ⟨(e c (by omega)).trans (s.1 c hc).1, ?_⟩, fun u hu => ?_, (e 16 (by omega)).trans s.2.2⟩
  · rw [Nat.add_assoc]
    refine (e (4 + c) (by omega)).trans ?_
    rw [← Nat.add_assoc]
    exact (s.1 c hc).2
  · rw [Nat.add_assoc]
    refine (e (8 + u) (by omega)).trans ?_
    rw [← Nat.add_assoc]
    exact s.2.1 u hu
theorem C5.sq {T : Txt} {S S' : Str} (c : C5 T S) (q : Sq T S S') : C5 T S' := fun i hi => by rw [← (q.2.1 i hi).1]; exact c i hi
theorem UR_sq {T : Txt} (hT : TOK T) {E : Nat → Nat → Int32} {A : Nat → Int32} : ∀ n (S S' : Str), UR T E A n S → Sq T S S' → UR T E A n S'
  | 0, _, _, _, _ => trivial
  | n + 1, S, S', ⟨a, b, c, d, e⟩, q => by
    have q' := unM_sq hT q a
    exact ⟨a, SN_sq b q', c.sq q', d.sq q', UR_sq hT n _ _ e q'⟩
theorem UR_cg {T : Txt} (hT : TOK T) {E E' : Nat → Nat → Int32} {A A' : Nat → Int32} {s : Nat} : ∀ n (S : Str), UR T E A (n + s) S → (∀ k j, k < 3 → j < n → E' k j = E k (j + s)) → (∀ j i, j < n → i < 17 → A' (17 * j + i) = A (17 * (j + s) + i)) → UR T E' A' n S
  | 0, _, _, _, _ => trivial
  | n + 1, S, u, he, ha => by
    rw [show n + 1 + s = (n + s) + 1 by omega] at u
    obtain ⟨a, b, c, d, e⟩ := u
    have e0 := he 0 n (by omega) (by omega)
    have e1 := he 1 n (by omega) (by omega)
    have e2 := he 2 n (by omega) (by omega)
    unfold UR
    rw [e0, e1, e2]
    exact ⟨a, SN_cg hT b (fun j hj => ha n j (by omega) hj), c, d, UR_cg hT n _ e (fun k j hk hj => he k j hk (by omega)) (fun j i hj hi => ha j i (by omega) hi)⟩
theorem cp1_at (f : Nat → Int32) {j : Nat} (h : j < 19) : va_cpy f f 1 0 19 j = f (j + 1) := by
  unfold va_cpy
  rw [if_pos ⟨by omega, by omega⟩, Nat.sub_zero, Nat.add_comm]
/-- a change remembered -/
theorem UR_add {T : Txt} (hT : TOK T) {X : Xs} {S S' : Str} {A A' : Nat → Int32} {k w o : Int32} (u : UX X) (r : UR T X.1 A (X.2 0).toNatClampNeg S) (v : VE T k w o) (q : Sq T (unM S' k w o) S) (K : SOK T 0 S) (c : C5 T S)
    (a1 : (X.2 0).toNatClampNeg < 20 → (∀ j, j < 17 * (X.2 0).toNatClampNeg → A' j = A j) ∧ SN T A' (17 * (X.2 0).toNatClampNeg) S)
    (a2 : (X.2 0).toNatClampNeg = 20 → (∀ j, j < 323 → A' j = A (j + 17)) ∧ SN T A' 323 S) : UR T (adX X k w o).1 A' ((adX X k w o).2 0).toNatClampNeg S' := by
  obtain ⟨z, hz, e0⟩ := u
  have ez : (X.2 0).toNatClampNeg = z := by rw [e0, clN (by omega)]
  rw [ez] at r a1 a2
  have en : ((adX X k w o).2 0).toNatClampNeg = if z < 20 then z + 1 else 20 := by
    show (nI (if (X.2 0).toNatClampNeg < 20 then (X.2 0).toNatClampNeg + 1 else 20)).toNatClampNeg = _
    rw [ez]
    by_cases y : z < 20
    · rw [if_pos y, clN (by omega)]
    · rw [if_neg y]; rfl
  have x0 : (adX X k w o).1 0 = adR (X.1 0) z k := by show adR (X.1 0) (X.2 0).toNatClampNeg k = _; rw [ez]
  have x1 : (adX X k w o).1 1 = adR (X.1 1) z w := by show adR (X.1 1) (X.2 0).toNatClampNeg w = _; rw [ez]
  have x2 : (adX X k w o).1 2 = adR (X.1 2) z o := by show adR (X.1 2) (X.2 0).toNatClampNeg o = _; rw [ez]
  rw [en]
  by_cases y : z < 20
  · rw [if_pos y]
    have d : ∀ (f : Nat → Int32) v, adR f z v = upd f z v := fun f v => if_pos y
    unfold UR
    rw [x0, x1, x2, d, d, d, upd_s, upd_s, upd_s]
    obtain ⟨b1, b2⟩ := a1 y
    refine ⟨v, SN_sq b2 q.sy, K.sq q.sy, c.sq q.sy, UR_sq hT z _ _ (UR_cg hT (s := 0) z S r (fun i j hi hj => ?_) (fun j i hj hi => b1 (17 * j + i) (by omega))) q.sy⟩
    rcases (show i = 0 ∨ i = 1 ∨ i = 2 by omega) with rfl | rfl | rfl
    · rw [x0, d, upd_n _ _ (by omega)]; rfl
    · rw [x1, d, upd_n _ _ (by omega)]; rfl
    · rw [x2, d, upd_n _ _ (by omega)]; rfl
  · rw [if_neg y]
    have z20 : z = 20 := by omega
    subst z20
    have d : ∀ (f : Nat → Int32) v, adR f 20 v = upd (va_cpy f f 1 0 19) 19 v := fun f v => if_neg y
    show UR T (adX X k w o).1 A' (19 + 1) S'
    unfold UR
    rw [x0, x1, x2, d, d, d, upd_s, upd_s, upd_s]
    obtain ⟨b1, b2⟩ := a2 rfl
    refine ⟨v, SN_sq b2 q.sy, K.sq q.sy, c.sq q.sy, UR_sq hT 19 _ _ (UR_cg hT (s := 1) 19 S r (fun i j hi hj => ?_) (fun j i hj hi => ?_)) q.sy⟩
    · rcases (show i = 0 ∨ i = 1 ∨ i = 2 by omega) with rfl | rfl | rfl
      · rw [x0, d, upd_n _ _ (by omega), cp1_at _ hj]
      · rw [x1, d, upd_n _ _ (by omega), cp1_at _ hj]
      · rw [x2, d, upd_n _ _ (by omega), cp1_at _ hj]
    · rw [b1 (17 * j + i) (by omega)]
      congr 1
      omega
/-- nothing changed but one row of the reference -/
def PA (a : Nat) (g g' : Hp) : Prop := K7 g g' ∧ (∀ k, gI g' 8 0 k = gI g 8 0 k) ∧ (∀ k, gL g' 8 0 k = gL g 8 0 k) ∧ ∀ k, k ≠ a → gA g' 8 0 k = gA g 8 0 k
theorem PA.rf (a : Nat) (g : Hp) : PA a g g := ⟨K7.rf g, fun _ => rfl, fun _ => rfl, fun _ _ => rfl⟩
theorem PA.tr {a : Nat} {g g' g'' : Hp} (x : PA a g g') (y : PA a g' g'') : PA a g g'' := ⟨x.1.tr y.1, fun k => (y.2.1 k).trans (x.2.1 k), fun k => (y.2.2.1 k).trans (x.2.2.1 k), fun k q => (y.2.2.2 k q).trans (x.2.2.2 k q)⟩
theorem PA.a (a i : Nat) (g : Hp) (v : Int32) : PA a g (sA g 8 0 a i v) := ⟨K7.a g a i v, fun _ => rfl, fun _ => rfl, fun k hk => funext fun u => by rw [A_at, if_neg (fun q => hk q.1)]⟩
section Put
variable {N : Nat} {g : Hp} {T : Txt} {S : Str}
/-- a row put: what lies in it -/
def PutR (g g' : Hp) (a i : Nat) : Prop := PA a g g' ∧ (∀ j, ¬ (i ≤ j ∧ j < i + 17) → gA g' 8 0 a j = gA g 8 0 a j) ∧ (∀ c, c < 4 → gA g' 8 0 a (i + c) = gA g 8 0 27 c ∧ gA g' 8 0 a (i + 4 + c) = gA g 8 0 25 c) ∧ (∀ s, s < 8 → gA g' 8 0 a (i + 8 + s) = gA g 8 0 24 s) ∧ gA g' 8 0 a (i + 16) = gI g 8 0 61
theorem m_put (hN : 1000 ≤ N) (g : Hp) {a i : Nat} (ha : a = 39 ∨ a = 40) (hi : i + 17 ≤ (ak 8 a).2) (h9 : (ak 8 a).2 < 1000) : ∃ g', f_X8_put N g 8 0 a (nI i) = some g' ∧ PutR g g' a i := by
  have ib : ∀ j, j < 17 → inb (nI (i + j)) (ak 8 a).2 := fun j hj => inb_n (show i + j < (ak 8 a).2 by omega) (by omega)
  unfold f_X8_put
  refine iter_inv (bot := fun _ _ => none) (b := f_X8_put_2 N 8 0 a (nI i)) (fun m r => ∀ c g1, c ≤ 4 → 4 < m + c → PA a g g1 → (∀ j, ¬ (i ≤ j ∧ j < i + 17) → gA g1 8 0 a j = gA g 8 0 a j) → (∀ j, j < c → gA g1 8 0 a (i + j) = gA g 8 0 27 j ∧ gA g1 8 0 a (i + 4 + j) = gA g 8 0 25 j) → ∃ g', r (nI c) g1 = some g' ∧ PutR g g' a i) (fun c _ _ _ => by omega) (fun m r ih c g1 hc hm f o w => ?_) N 0 g (by omega) (by omega) (PA.rf a g) (fun _ _ => rfl) (fun j hj => absurd hj (Nat.not_lt_zero _))
  unfold f_X8_put_2
  by_cases z : c = 4
  · subst z
    rw [if_pos (show (4 : Int32) ≤ nI 4 by decide)]
    refine iter_inv (bot := fun _ _ => none) (b := f_X8_put_39 8 0 a (nI i)) (fun m r => ∀ s g2, s ≤ 8 → 8 < m + s → PA a g g2 → (∀ j, ¬ (i ≤ j ∧ j < i + 17) → gA g2 8 0 a j = gA g 8 0 a j) → (∀ j, j < 4 → gA g2 8 0 a (i + j) = gA g 8 0 27 j ∧ gA g2 8 0 a (i + 4 + j) = gA g 8 0 25 j) → (∀ j, j < s → gA g2 8 0 a (i + 8 + j) = gA g 8 0 24 j) → ∃ g', r (nI s) g2 = some g' ∧ PutR g g' a i) (fun c _ _ _ => by omega) (fun m r ih s g2 hs hm f o w w2 => ?_) N 0 g1 (by omega) (by omega) f o w (fun j hj => absurd hj (Nat.not_lt_zero _))
    unfold f_X8_put_39
    by_cases y : s = 8
    · subst y
      have e16 : nI i + 16 = nI (i + 16) := nI_add i 16
      rw [if_pos (show (8 : Int32) ≤ nI 8 by decide), e16, grd_p (ib 16 (by omega)), lt_e, clN (show i + 16 < 2 ^ 31 by omega), f.2.1 61]
      refine ⟨_, rfl, f.tr (PA.a a _ g2 _), fun j hj => ?_, fun c hc => ?_, fun c hc => ?_, ?_⟩
      · rw [A_at, if_neg (fun q => hj (by omega))]; exact o j hj
      · rw [A_at, if_neg (fun q => by omega), A_at, if_neg (fun q => by omega)]; exact w c hc
      · rw [A_at, if_neg (fun q => by omega)]; exact w2 c hc
      · rw [A_at, if_pos ⟨rfl, rfl⟩]
    · have e8 : nI i + 8 + nI s = nI (i + 8 + s) := by rw [show (8 : Int32) = nI 8 from rfl, nI_add, nI_add]
      have e24 : gA g2 8 0 24 s = gA g 8 0 24 s := by rw [f.2.2.2 24 (by omega)]
      rw [if_neg (show ¬ (8 : Int32) ≤ nI s from nleN (a := 8) (show s < 8 by omega) (by omega)), grd_p (inb_n (show s < 16 by omega) (by omega)), e8, grd_p (by rw [Nat.add_assoc]; exact ib (8 + s) (by omega)), lt_e, lt_e, nI_1, clN (show s < 2 ^ 31 by omega), clN (show i + 8 + s < 2 ^ 31 by omega), e24]
      refine ih (s + 1) _ (by omega) (by omega) (f.tr (PA.a a _ g2 _)) (fun j hj => ?_) (fun c hc => ?_) (fun c hc => ?_)
      · rw [A_at, if_neg (fun q => hj (by omega))]; exact o j hj
      · rw [A_at, if_neg (fun q => by omega), A_at, if_neg (fun q => by omega)]; exact w c hc
      · rw [A_at]
        by_cases v : c = s
        · rw [if_pos ⟨rfl, by omega⟩, v]
        · rw [if_neg (fun q => by omega)]; exact w2 c (by omega)
  · have e0 : nI i + nI c = nI (i + c) := nI_add i c
    have e4 : nI i + 4 + nI c = nI (i + 4 + c) := by rw [show (4 : Int32) = nI 4 from rfl, nI_add, nI_add]
    have e27 : gA g1 8 0 27 c = gA g 8 0 27 c := by rw [f.2.2.2 27 (by omega)]
    have e25 : gA (sA g1 8 0 a (i + c) (gA g 8 0 27 c)) 8 0 25 c = gA g 8 0 25 c := by rw [A_at, if_neg (fun q => by omega), f.2.2.2 25 (by omega)]
    rw [if_neg (show ¬ (4 : Int32) ≤ nI c from nleN (a := 4) (show c < 4 by omega) (by omega)), grd_p (inb_n (show c < 8 by omega) (by omega)), e0, grd_p (ib c (by omega)), lt_e, grd_p (inb_n (show c < 8 by omega) (by omega)), e4, grd_p (by rw [Nat.add_assoc]; exact ib (4 + c) (by omega)), lt_e, lt_e, nI_1, clN (show c < 2 ^ 31 by omega), clN (show i + c < 2 ^ 31 by omega), clN (show i + 4 + c < 2 ^ 31 by omega), e27, e25]
    refine ih (c + 1) _ (by omega) (by omega) (f.tr ((PA.a a _ g1 _).tr (PA.a a _ _ _))) (fun j hj => ?_) (fun j hj => ?_)
    · rw [A_at, if_neg (fun q => hj (by omega)), A_at, if_neg (fun q => hj (by omega))]; exact o j hj
    · rw [A_at, if_neg (fun q => by omega), A_at, A_at]
      by_cases v : j = c
      · rw [if_pos ⟨rfl, by omega⟩, if_pos ⟨rfl, by omega⟩, v]; exact ⟨rfl, rfl⟩
      · rw [if_neg (fun q => by omega), if_neg (fun q => by omega), A_at, if_neg (fun q => by omega)]; exact w j (by omega)
theorem PutR.sn {g g' : Hp} {a i : Nat} (p : PutR g g' a i) (r : R8a g T S) : SN T (gA g' 8 0 a) i S := by
  have hc4 := r.1.2.1.2
  have h8 := r.1.1.2
  obtain ⟨-, -, p1, p2, p3⟩ := p
  refine ⟨fun c hc => ?_, fun s hs => (p2 s (by omega)).trans (r.lies hs).2, p3.trans r.rule⟩
  obtain ⟨b2, b3, b4, b5, b6, b7⟩ := r.row hc
  exact ⟨(p1 c (by omega)).1.trans b5, (p1 c (by omega)).2.trans b2⟩
end Put
