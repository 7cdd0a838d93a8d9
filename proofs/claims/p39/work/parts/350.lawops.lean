-- PURE: the class's state as the law knows it: a closed text, a strand, what was seen
/-- beside the strand: nothing on the tape; undo's rows; what was seen, as X0 tells -/
def XR (X X0 : Xs) : Prop := SPL (X.1 7) ∧ X.2 3 = 0 ∧ UX X ∧ X.2 1 = X0.2 1 ∧ X.2 2 = X0.2 2 ∧ ∀ k, k < (X0.2 1).toNatClampNeg → X.1 3 k = X0.1 3 k ∧ X.1 4 k = X0.1 4 k ∧ X.1 5 k = X0.1 5 k
/-- nothing seen -/
def X00 : Xs := (fun _ _ => 0, fun j => if j = 2 then -1 else 0)
theorem sx00 : SX X00 := ⟨0, by omega, by decide, Or.inl (by decide), fun k hk => absurd hk (Nat.not_lt_zero _)⟩
def LQ (h : Hp) (D : DT) (S : Str) (X0 : Xs) : Prop := ∃ t T I X, RC h t T S I X ∧ Tq T (T0 D) ∧ Tb T (T0 D) ∧ TR T ∧ XR X X0
section XRs
variable {X X0 : Xs}
theorem XR.sx (x : XR X X0) (s : SX X0) : SX X := by
  obtain ⟨-, -, -, e1, e2, e3⟩ := x
  obtain ⟨z, h1, h2, h3, h4⟩ := s
  have hz : (X0.2 1).toNatClampNeg = z := by rw [h2, clN (by omega)]
  rw [hz] at e3
  refine ⟨z, h1, e1.trans h2, ?_, fun k hk => ?_⟩
  · rw [e2]; exact h3
  · obtain ⟨a, b, c⟩ := e3 k hk
    rw [a, b, c]; exact h4 k hk
theorem XR.kz (x : XR X X0) : kzM X = kzM X0 := by unfold kzM; rw [x.2.2.2.1, x.2.2.2.2.1]
theorem kz_cnt (s : SX X0) : kzM X0 ≤ (X0.2 1).toNatClampNeg := by
  obtain ⟨z, h1, h2, h3, h4⟩ := s
  unfold kzM
  rcases h3 with q | ⟨k, hk, q⟩
  · rw [if_pos q]; exact Nat.le_refl _
  · rw [if_neg (by rw [q]; exact nI_ne_neg (by omega) (by decide)), q, h2, clN (by omega), clN (by omega)]; exact hk
theorem XR.rw_ (x : XR X X0) (s : SX X0) {k : Nat} (hk : k < kzM X0) : X.1 3 k = X0.1 3 k ∧ X.1 4 k = X0.1 4 k ∧ X.1 5 k = X0.1 5 k := x.2.2.2.2.2 k (Nat.lt_of_lt_of_le hk (kz_cnt s))
theorem XR.stM_ (x : XR X X0) (s : SX X0) : ∀ i, i ≤ kzM X0 → stM X (kzM X0) i = stM X0 (kzM X0) i
  | 0, _ => rfl
  | i + 1, h => by
    obtain ⟨a, b, c⟩ := x.rw_ s (show kzM X0 - 1 - i < kzM X0 by omega)
    rw [stM_s, stM_s, XR.stM_ x s i (by omega), a, c]
theorem XR.ct (x : XR X X0) (s : SX X0) {k : Nat} (hk : k < kzM X0) : ctM X k = ctM X0 k := by
  unfold ctM skM
  rw [x.kz, x.stM_ s _ (Nat.le_refl _), (x.rw_ s hk).1]
theorem XR.lh (x : XR X X0) (s : SX X0) : ∀ k, k ≤ kzM X0 → lhM X k = lhM X0 k
  | 0, _ => rfl
  | k + 1, h => by rw [lhM_s, lhM_s, XR.lh x s k (by omega), x.ct s (by omega), (x.rw_ s (show k < kzM X0 by omega)).2.1]
theorem XR.ls (x : XR X X0) (s : SX X0) : lsN X = lsN X0 := by unfold lsN; rw [x.kz, x.lh s _ (Nat.le_refl _)]
theorem XR.ag (x : XR X X0) (s : SX X0) (a b : Int32) : ∀ k, k ≤ kzM X0 → agM X a b k = agM X0 a b k
  | 0, _ => rfl
  | k + 1, h => by
    obtain ⟨p, q, r⟩ := x.rw_ s (show k < kzM X0 by omega)
    rw [agM_s, agM_s, XR.ag x s a b k (by omega), x.ct s (by omega), p, q, r]
theorem XR.ca (x : XR X X0) (s : SX X0) (T : Txt) (c u : Nat) : ∀ t, caM T X c u t = caM T X0 c u t
  | 0 => rfl
  | t + 1 => by rw [caM_s, caM_s, XR.ca x s T c u t, x.kz, x.ag s _ _ _ (Nat.le_refl _)]
theorem XR.bit (x : XR X X0) (s : SX X0) (T : Txt) (c : Nat) : ∀ u, bitM T X c u = bitM T X0 c u
  | 0 => rfl
  | u + 1 => by rw [bitM_s, bitM_s, XR.bit x s T c u, x.ls s, x.ca s]
theorem XR.cam (x : XR X X0) (s : SX X0) (T : Txt) (c : Int32) : camM T X c = camM T X0 c := by unfold camM; rw [x.bit s]
theorem XR.u0 (x : XR X X0) : XR (uX2 X 0 0) X0 := ⟨x.1, x.2.1, ⟨0, by omega, rfl⟩, x.2.2.2.1, x.2.2.2.2.1, x.2.2.2.2.2⟩
theorem XR.ad (x : XR X X0) (k w o : Int32) : XR (adX X k w o) X0 := by
  obtain ⟨x1, x2, ⟨z, hz, e⟩, x3⟩ := x
  exact ⟨x1, x2, ⟨if z < 20 then z + 1 else 20, by split <;> omega, by
    show nI (if (X.2 0).toNatClampNeg < 20 then (X.2 0).toNatClampNeg + 1 else 20) = _
    rw [e, clN (by omega)]⟩, x3⟩
theorem XR.se (x : XR X X0) (k w o : Int32) (hz : szN X0 < 24) : XR (seX X k w o) (seX X0 k w o) := by
  have es : szN X = szN X0 := by unfold szN; rw [x.2.2.2.1]
  obtain ⟨x1, x2, x3, x4, x5, x6⟩ := x
  refine ⟨x1, x2, x3, ?_, x5, fun i hi => ?_⟩
  · show nI (szN X + 1) = nI (szN X0 + 1)
    rw [es]
  · have hi : i < (nI (szN X0 + 1)).toNatClampNeg := hi
    rw [clN (by omega)] at hi
    show upd (X.1 3) (szN X) k i = upd (X0.1 3) (szN X0) k i ∧ upd (X.1 4) (szN X) w i = upd (X0.1 4) (szN X0) w i ∧ upd (X.1 5) (szN X) o i = upd (X0.1 5) (szN X0) o i
    rw [es]
    by_cases y : i = szN X0
    · rw [y, up_p, up_p, up_p, up_p, up_p, up_p]; exact ⟨rfl, rfl, rfl⟩
    · rw [up_n y, up_n y, up_n y, up_n y, up_n y, up_n y]
      exact x6 i (show i < szN X0 by omega)
theorem XR.kn (x : XR X X0) (n : Int32) : XR (uX2 X 2 n) (uX2 X0 2 n) := ⟨x.1, x.2.1, x.2.2.1, x.2.2.2.1, rfl, x.2.2.2.2.2⟩
end XRs
theorem Tq.sok {T T9 : Txt} (q : Tq T T9) {n : Nat} {S : Str} (k : SOK T9 n S) : SOK T n S := by
  unfold SOK at k ⊢
  rw [q.st, q.cr, q.fi]
  exact k
section LOps
variable {N : Nat} {h : Hp} {D : DT} {S : Str} {X0 : Xs}
theorem LQ.sq (s : LQ h D S X0) {S' : Str} (q : Sq (T0 D) S S') : LQ h D S' X0 := by
  obtain ⟨t, T, I, X, r, a, b, c, d⟩ := s
  have q' : Sq T S S' := by
    unfold Sq at q ⊢
    rw [a.st, a.cr, a.fi]
    exact q
  exact ⟨t, T, I, X, ⟨r.1, ⟨r.2.1.1, r.2.1.2.tr q'⟩, r.2.2⟩, a, b, c, d⟩
theorem o_go (hN : 1000 ≤ N) (s : LQ h D S X0) (n : Int32) : ∃ g, f_X7_go N h n = some (goA (T0 D) S n, g) ∧ LQ g D (goS (T0 D) S n) X0 := by
  obtain ⟨t, T, I, X, r, a, b, c, d⟩ := s
  obtain ⟨g, e1, e2, -⟩ := cl_go hN r n
  rw [(a.go S n).1] at e1
  rw [(a.go S n).2] at e2
  refine ⟨g, e1, t, T, I, _, e2, a, b, c, ?_⟩
  unfold goX
  split
  · exact d.u0
  · exact d
theorem o_table (hN : 1000 ≤ N) (s : LQ h D S X0) (hz : S.2 16 = 1) (p1 p2 p3 : Int32) : ∃ g, f_X7_table N h p1 p2 p3 = some (if (0 ≤ p1 ∧ p1 ≤ 2) ∧ 0 ≤ p2 ∧ p2 ≤ 99 then tabM (T0 D) S p1 p2.toNatClampNeg p3 else -1, g) ∧ LQ g D S X0 := by
  obtain ⟨t, T, I, X, r, a, b, c, d⟩ := s
  obtain ⟨g, e1, e2⟩ := cl_table hN r hz p1 p2 p3
  rw [a.tab] at e1
  exact ⟨g, e1, t, T, I, X, e2.rc r, a, b, c, d⟩
theorem o_field (hN : 1000 ≤ N) (s : LQ h D S X0) (hD : TOK (T0 D)) (f w : Int32) : ∃ g, f_X7_field N h f w = some (fldM (T0 D) S f w, g) ∧ LQ g D S X0 := by
  obtain ⟨t, T, I, X, r, a, b, c, d⟩ := s
  obtain ⟨g, e1, e2, -⟩ := cl_field hN r f w
  rw [a.fld hD] at e1
  exact ⟨g, e1, t, T, I, X, e2, a, b, c, d⟩
theorem o_croft (hN : 1000 ≤ N) (s : LQ h D S X0) (c w : Int32) : f_X7_croft N h c w = some (crfM (T0 D) S c w) := by
  obtain ⟨t, T, I, X, r, a, b, c9, d⟩ := s
  rw [cl_croft hN r, a.crf]
theorem o_count (hN : 1000 ≤ N) (s : LQ h D S X0) (sx : SX X0) (w : Int32) (hw : ∀ T X X', couM T S X w = couM T S X' w) : f_X7_count N h w = some (couM (T0 D) S X00 w) := by
  obtain ⟨t, T, I, X, r, a, b, c9, d⟩ := s
  rw [cl_count hN r (d.sx sx), a.cou, hw _ X X00]
theorem o_source (hN : 1000 ≤ N) (s : LQ h D S X0) (c w : Int32) : f_X7_source N h c w = some (souM (T0 D) S c w) := by
  obtain ⟨t, T, I, X, r, a, b, c9, d⟩ := s
  rw [cl_source hN r, a.sou]
theorem o_unlike (hN : 1000 ≤ N) (s : LQ h D S X0) : ∃ g, f_X7_unlike N h = some (spM (lotF (T0 D) S) (nCr (T0 D)), g) ∧ LQ g D S X0 := by
  obtain ⟨t, T, I, X, r, a, b, c, d⟩ := s
  obtain ⟨g, e1, e2⟩ := cl_unlike hN r
  rw [a.unl] at e1
  exact ⟨g, e1, t, T, I, X, e2.rc r, a, b, c, d⟩
theorem o_swap (hN : 1000 ≤ N) (s : LQ h D S X0) (hz : S.2 16 = 1) (w : Int32) : ∃ g, f_X7_swap N h w = some (swpM (T0 D) S w, g) ∧ LQ g D S X0 := by
  obtain ⟨t, T, I, X, r, a, b, c, d⟩ := s
  obtain ⟨g, e1, e2⟩ := cl_swap hN r hz w
  rw [a.swp] at e1
  exact ⟨g, e1, t, T, I, X, e2.rc r, a, b, c, d⟩
theorem o_plan (hN : 1000 ≤ N) (s : LQ h D S X0) (hz : S.2 16 = 1) (K : SOK (T0 D) 0 S) (hh : (S.2 11).toInt ≤ 4000000) (c9 n : Int32) : ∃ g, f_X7_plan N h c9 n = some (plnM (T0 D) S c9 n, g) ∧ LQ g D S X0 := by
  obtain ⟨t, T, I, X, r, a, b, c, d⟩ := s
  obtain ⟨g, e1, e2⟩ := cl_plan hN r hz (a.sok K) hh c9 n
  rw [a.pln] at e1
  exact ⟨g, e1, t, T, I, X, e2.rc r, a, b, c, d⟩
theorem o_planned (hN : 1000 ≤ N) (s : LQ h D S X0) (hz : S.2 16 = 1) (K : SOK (T0 D) 0 S) (hh : (S.2 11).toInt ≤ 4000000) (c9 n p : Int32) : ∃ g, f_X7_planned N h c9 n p = some (pldM (T0 D) S c9 n p, g) ∧ LQ g D S X0 := by
  obtain ⟨t, T, I, X, r, a, b, c, d⟩ := s
  obtain ⟨g, e1, e2⟩ := cl_planned hN r hz (a.sok K) hh c9 n p
  rw [a.pld] at e1
  exact ⟨g, e1, t, T, I, X, e2.rc r, a, b, c, d⟩
theorem o_tried (hN : 1000 ≤ N) (s : LQ h D S X0) (hz : S.2 16 = 1) (w c9 n : Int32) : ∃ g, f_X7_tried N h w c9 n = some (tri (T0 D) S w c9 n, g) ∧ LQ g D S X0 := by
  obtain ⟨t, T, I, X, r, a, b, c, d⟩ := s
  obtain ⟨g, e1, e2⟩ := cl_tried hN r hz w c9 n
  rw [a.tri_] at e1
  exact ⟨g, e1, t, T, I, X, e2.rc r, a, b, c, d⟩
theorem o_lending (hN : 1000 ≤ N) (s : LQ h D S X0) (hz : S.2 16 = 1) (x y n w : Int32) : ∃ g, f_X7_lending N h x y n w = some (lnd (T0 D) S x y n w, g) ∧ LQ g D S X0 := by
  obtain ⟨t, T, I, X, r, a, b, c, d⟩ := s
  obtain ⟨g, e1, e2⟩ := cl_lending hN r hz x y n w
  rw [a.lnd_] at e1
  exact ⟨g, e1, t, T, I, X, e2.rc r, a, b, c, d⟩
theorem o_turns (hN : 1000 ≤ N) (s : LQ h D S X0) (hz : S.2 16 = 1) (K : SOK (T0 D) 0 S) (h9 : (S.2 11).toInt ≤ 9999) (n : Int32) : ∃ g, f_X7_turns N h n = some (trsM (T0 D) S n, g) ∧ LQ g D S X0 := by
  obtain ⟨t, T, I, X, r, a, b, c, d⟩ := s
  obtain ⟨g, e1, e2⟩ := cl_turns hN r hz (a.sok K) h9 n
  rw [a.trs] at e1
  exact ⟨g, e1, t, T, I, X, e2.rc r, a, b, c, d⟩
theorem o_turn (hN : 1000 ≤ N) (s : LQ h D S X0) (hz : S.2 16 = 1) (K : SOK (T0 D) 0 S) (h9 : (S.2 11).toInt ≤ 9999) (n p : Int32) : ∃ g, f_X7_turn N h n p = some (trnM (T0 D) S n p, g) ∧ LQ g D S X0 := by
  obtain ⟨t, T, I, X, r, a, b, c, d⟩ := s
  obtain ⟨g, e1, e2⟩ := cl_turn hN r hz (a.sok K) h9 n p
  rw [a.trn] at e1
  exact ⟨g, e1, t, T, I, X, e2.rc r, a, b, c, d⟩
theorem o_rests (hN : 1000 ≤ N) (s : LQ h D S X0) (hz : S.2 16 = 1) (x y n : Int32) : ∃ g, f_X7_rests N h x y n = some (rssM (T0 D) S x y n, g) ∧ LQ g D S X0 := by
  obtain ⟨t, T, I, X, r, a, b, c, d⟩ := s
  obtain ⟨g, e1, e2⟩ := cl_rests hN r hz x y n
  rw [a.rss] at e1
  exact ⟨g, e1, t, T, I, X, e2.rc r, a, b, c, d⟩
theorem o_rest (hN : 1000 ≤ N) (s : LQ h D S X0) (hz : S.2 16 = 1) (x y n p : Int32) : ∃ g, f_X7_rest N h x y n p = some (rstM (T0 D) S x y n p, g) ∧ LQ g D S X0 := by
  obtain ⟨t, T, I, X, r, a, b, c, d⟩ := s
  obtain ⟨g, e1, e2⟩ := cl_rest hN r hz x y n p
  rw [a.rst] at e1
  exact ⟨g, e1, t, T, I, X, e2.rc r, a, b, c, d⟩
theorem o_odds (hN : 1000 ≤ N) (s : LQ h D S X0) (k w : Int32) : f_X7_odds N h k w = some (oddM (T0 D) k w) := by
  obtain ⟨t, T, I, X, r, a, b, c, d⟩ := s
  rw [cl_odds hN r c, a.odd]
theorem o_came (hN : 1000 ≤ N) (s : LQ h D S X0) (hD : TOK (T0 D)) (sx : SX X0) (c9 : Int32) : ∃ g, f_X7_came N h c9 = some (camM (T0 D) X0 c9, g) ∧ LQ g D S X0 := by
  obtain ⟨t, T, I, X, r, a, b, c, d⟩ := s
  obtain ⟨g, e1, e2⟩ := cl_came hN r (d.sx sx) c9
  rw [a.cam b hD, d.cam sx] at e1
  exact ⟨g, e1, t, T, I, X, e2.rc r, a, b, c, d⟩
theorem o_chance (hN : 1000 ≤ N) (s : LQ h D S X0) (hz : S.2 16 = 1) (sd n c9 bd : Int32) : ∃ g, f_X7_chance N h sd n c9 bd = some (chaM (T0 D) S sd n c9 bd, g) ∧ LQ g D S X0 := by
  obtain ⟨t, T, I, X, r, a, b, c, d⟩ := s
  obtain ⟨g, e1, e2⟩ := cl_chance hN r hz sd n c9 bd
  rw [a.cha] at e1
  exact ⟨g, e1, t, T, I, X, e2.rc r, a, b, c, d⟩
theorem o_act (s : LQ h D S X0) (c9 x : Int32) : ∃ g, f_X7_act h c9 x = some (actQ (T0 D) S c9 x, g) ∧ LQ g D (if actQ (T0 D) S c9 x = true then upA S 5 c9.toNatClampNeg x else S) X0 := by
  obtain ⟨t, T, I, X, r, a, b, c, d⟩ := s
  obtain ⟨g, e1, e2, -⟩ := cl_act r d.2.2.1 c9 x
  rw [a.actQ_] at e1 e2
  refine ⟨g, e1, t, T, I, _, e2, a, b, c, ?_⟩
  split
  · exact d.ad _ _ _
  · exact d
theorem o_lot (s : LQ h D S X0) (x c9 : Int32) : ∃ g, f_X7_lot h x c9 = some (lotQ (T0 D) S x c9, g) ∧ LQ g D (if lotQ (T0 D) S x c9 = true then upA S 1 x.toNatClampNeg c9 else S) X0 := by
  obtain ⟨t, T, I, X, r, a, b, c, d⟩ := s
  obtain ⟨g, e1, e2, -⟩ := cl_lot r d.2.2.1 x c9
  rw [a.lotQ_] at e1 e2
  refine ⟨g, e1, t, T, I, _, e2, a, b, c, ?_⟩
  split
  · exact d.ad _ _ _
  · exact d
theorem o_lend (s : LQ h D S X0) (x y : Int32) : ∃ g, f_X7_lend h x y = some (lenM (T0 D) S x y, g) ∧ LQ g D (if lenM (T0 D) S x y = true then mvM S x.toNatClampNeg y.toNatClampNeg else S) X0 := by
  obtain ⟨t, T, I, X, r, a, b, c, d⟩ := s
  obtain ⟨g, e1, e2, -⟩ := cl_lend r d.2.2.1 x y
  rw [a.len] at e1 e2
  refine ⟨g, e1, t, T, I, _, e2, a, b, c, ?_⟩
  split
  · exact d.ad _ _ _
  · exact d
theorem o_rule (s : LQ h D S X0) (x : Int32) : ∃ g, f_X7_rule h x = some (rulQ S x, g) ∧ LQ g D (if rulQ S x = true then upI S 14 x else S) X0 := by
  obtain ⟨t, T, I, X, r, a, b, c, d⟩ := s
  obtain ⟨g, e1, e2, -⟩ := cl_rule r d.2.2.1 x
  refine ⟨g, e1, t, T, I, _, e2, a, b, c, ?_⟩
  split
  · exact d.ad _ _ _
  · exact d
theorem o_see (s : LQ h D S X0) (sx : SX X0) (w o : Int32) (bb : Bool) (q : seeQ X0 w o = true) : ∃ g, f_X7_see h w o bb = some (nI (szN X0), g) ∧ LQ g D S (seX X0 (if bb = true then 0 else 1) w o) := by
  obtain ⟨t, T, I, X, r, a, b, c, d⟩ := s
  obtain ⟨g, e1, e2, -⟩ := cl_see r (d.sx sx) w o bb
  have es : szN X = szN X0 := by unfold szN; rw [d.2.2.2.1]
  have eq : seeQ X w o = seeQ X0 w o := by unfold seeQ; rw [es]
  rw [eq, if_pos q] at e1 e2
  rw [es] at e1
  have hz : szN X0 < 24 := by
    unfold seeQ at q
    rw [Bool.and_eq_true, Bool.and_eq_true] at q
    exact of_decide_eq_true q.2
  exact ⟨g, e1, t, T, I, _, e2, a, b, c, d.se _ _ _ hz⟩
theorem o_strike (s : LQ h D S X0) (sx : SX X0) (o : Int32) (q : stkQ X0 o = true) : ∃ g, f_X7_strike h o = some (nI (szN X0), g) ∧ LQ g D S (seX X0 2 0 o) := by
  obtain ⟨t, T, I, X, r, a, b, c, d⟩ := s
  obtain ⟨g, e1, e2, -⟩ := cl_strike r (d.sx sx) o
  have es : szN X = szN X0 := by unfold szN; rw [d.2.2.2.1]
  have eq : stkQ X o = stkQ X0 o := by unfold stkQ; rw [es, d.2.2.2.1]
  rw [eq, if_pos q] at e1 e2
  rw [es] at e1
  have hz : szN X0 < 24 := by
    unfold stkQ at q
    rw [Bool.and_eq_true] at q
    exact of_decide_eq_true q.2
  exact ⟨g, e1, t, T, I, _, e2, a, b, c, d.se _ _ _ hz⟩
theorem o_known (s : LQ h D S X0) (n : Int32) (q : knoQ X0 n = true) : ∃ g, f_X7_known h n = some (true, g) ∧ LQ g D S (uX2 X0 2 n) := by
  obtain ⟨t, T, I, X, r, a, b, c, d⟩ := s
  obtain ⟨g, e1, e2, -⟩ := cl_knownOp r n
  have eq : knoQ X n = knoQ X0 n := by unfold knoQ; rw [d.2.2.2.1]
  rw [eq, if_pos q] at e2
  rw [eq, q] at e1
  exact ⟨g, e1, t, T, I, _, e2, a, b, c, d.kn n⟩
end LOps
