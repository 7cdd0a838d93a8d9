-- PURE: a sign that joins read by both
theorem dropR_head (r : Nat) : ∀ W : Wtg, dropR r W = [] ∨ ∃ e w, dropR r W = e :: w ∧ rkN e.2 < r
  | [] => Or.inl rfl
  | e :: w => by
    show (if r ≤ rkN e.2 then dropR r w else e :: w) = [] ∨ ∃ e' w', (if r ≤ rkN e.2 then dropR r w else e :: w) = e' :: w' ∧ rkN e'.2 < r
    by_cases z : r ≤ rkN e.2
    · rw [if_pos z]; exact dropR_head r w
    · rw [if_neg z]; exact Or.inr ⟨e, w, rfl, by omega⟩
theorem join_bin {kn kt : Int32} (h : bin2 kn kt) : f_X1_joins kn = some true := by
  rcases h with ⟨rfl, rfl⟩ | ⟨rfl, rfl⟩ | ⟨rfl, rfl⟩ | ⟨rfl, rfl⟩ | ⟨rfl, rfl⟩ | ⟨rfl, rfl⟩ | ⟨rfl, rfl⟩ | ⟨rfl, rfl⟩ | ⟨rfl, rfl⟩ | ⟨rfl, rfl⟩ | ⟨rfl, rfl⟩ | ⟨rfl, rfl⟩ <;> decide
theorem join_key : ∀ k, k < 26 → ¬ k = 16 → ¬ k = 17 → f_X1_joins (nI (256 + cwd k)) = some false := by decide
section Join
variable {N : Nat} {h h' g g' : Hp} {u n p z0 z o : Nat} {W : Wtg} {H : List Nat} {st : Nat → List Nat}
/-- which sign the reference takes it for -/
theorem m_joinKind {ck cn cl : Int32} (tk : TKR ck cn cl (gI g 8 0 8) (gI g 8 0 9)) : ∃ kt : Int32, (∀ {α : Type} (J : Int32 → Option α), ((f_X8_isKey g 16).bind fun v2 => jn J fun (j147 : Int32 → Option α) => if (b2i v2) = 0 then ((f_X8_isKey g 17).bind fun v22 => if (b2i v22) = 0 then (if ¬ (gI g 8 0 8) = 5 then ((f_X8_isSign g 43).bind fun v23 => if (b2i v23) = 0 then ((f_X8_isSign g 45).bind fun v24 => if (b2i v24) = 0 then ((f_X8_isSign g 42).bind fun v25 => if (b2i v25) = 0 then ((f_X8_isSign g 47).bind fun v26 => if (b2i v26) = 0 then j147 0 else j147 14) else j147 13) else j147 12) else j147 11) else j147 (5 + (gI g 8 0 9))) else j147 4) else j147 3) = J kt) ∧ ((bin2 ck kt ∧ f_X1_joins ck = some true) ∨ (kt = 0 ∧ f_X1_joins ck = some false)) := by
  have bt : ¬ b2i true = 0 := by decide
  have bf : b2i false = 0 := rfl
  simp only [jn_e, m_isKey, m_isSg, bind_s]
  have yes : ∀ {kt : Int32}, bin2 ck kt → (bin2 ck kt ∧ f_X1_joins ck = some true) ∨ (kt = 0 ∧ f_X1_joins ck = some false) := fun q => Or.inl ⟨q, join_bin q⟩
  have not5 : ∀ {mk mw : Int32}, gI g 8 0 8 = mk → gI g 8 0 9 = mw → ¬ mk = 5 → ¬ (mk = 1 ∧ (mw = 16 ∨ mw = 17)) → ¬ (mk = 4 ∧ (mw = 43 ∨ mw = 45 ∨ mw = 42 ∨ mw = 47)) → f_X1_joins ck = some false → ∃ kt : Int32, (∀ {α : Type} (J : Int32 → Option α), (if (b2i (decide (gI g 8 0 8 = 1 ∧ gI g 8 0 9 = 16))) = 0 then (if (b2i (decide (gI g 8 0 8 = 1 ∧ gI g 8 0 9 = 17))) = 0 then (if ¬ (gI g 8 0 8) = 5 then (if (b2i (decide (gI g 8 0 8 = 4 ∧ gI g 8 0 9 = 43))) = 0 then (if (b2i (decide (gI g 8 0 8 = 4 ∧ gI g 8 0 9 = 45))) = 0 then (if (b2i (decide (gI g 8 0 8 = 4 ∧ gI g 8 0 9 = 42))) = 0 then (if (b2i (decide (gI g 8 0 8 = 4 ∧ gI g 8 0 9 = 47))) = 0 then J 0 else J 14) else J 13) else J 12) else J 11) else J (5 + (gI g 8 0 9))) else J 4) else J 3) = J kt) ∧ ((bin2 ck kt ∧ f_X1_joins ck = some true) ∨ (kt = 0 ∧ f_X1_joins ck = some false)) := fun {mk mw} a b c d e f => by
    refine ⟨0, fun J => ?_, Or.inr ⟨rfl, f⟩⟩
    rw [a, b, decide_eq_false (fun q => d ⟨q.1, Or.inl q.2⟩), if_pos bf, decide_eq_false (fun q => d ⟨q.1, Or.inr q.2⟩), if_pos bf, if_pos c, decide_eq_false (fun q => e ⟨q.1, Or.inl q.2⟩), if_pos bf, decide_eq_false (fun q => e ⟨q.1, Or.inr (Or.inl q.2)⟩), if_pos bf, decide_eq_false (fun q => e ⟨q.1, Or.inr (Or.inr (Or.inl q.2))⟩), if_pos bf, decide_eq_false (fun q => e ⟨q.1, Or.inr (Or.inr (Or.inr q.2))⟩), if_pos bf]
  obtain ⟨mk, e8⟩ : ∃ mk, gI g 8 0 8 = mk := ⟨_, rfl⟩
  obtain ⟨mw, e9⟩ : ∃ mw, gI g 8 0 9 = mw := ⟨_, rfl⟩
  rw [e8, e9] at tk
  rcases tk with ⟨rfl, rfl⟩ | ⟨rfl, t⟩ | ⟨rfl, rfl, t⟩ | ⟨rfl, rfl, t⟩ | ⟨rfl, rfl, t⟩ | ⟨rfl, t⟩ | ⟨rfl, k, hk, rfl, rfl⟩
  · exact not5 e8 e9 (by decide) (fun q => absurd q.1 (by decide)) (fun q => absurd q.1 (by decide)) (by decide)
  · rcases t with rfl | ⟨rfl, rfl⟩
    · exact not5 e8 e9 (by decide) (fun q => absurd q.1 (by decide)) (fun q => absurd q.1 (by decide)) (by decide)
    · exact not5 e8 e9 (by decide) (fun q => absurd q.1 (by decide)) (by decide) (by decide)
  · exact not5 e8 e9 (by decide) (fun q => absurd q.1 (by decide)) (fun q => absurd q.1 (by decide)) (by decide)
  · exact not5 e8 e9 (by decide) (fun q => absurd q.1 (by decide)) (fun q => absurd q.1 (by decide)) (by decide)
  · rcases t with rfl | rfl | rfl | rfl | rfl | rfl | rfl
    · exact not5 e8 e9 (by decide) (fun q => absurd q.1 (by decide)) (by decide) (by decide)
    · exact not5 e8 e9 (by decide) (fun q => absurd q.1 (by decide)) (by decide) (by decide)
    · exact not5 e8 e9 (by decide) (fun q => absurd q.1 (by decide)) (by decide) (by decide)
    · exact ⟨11, fun J => by rw [e8, e9]; rfl, yes (by unfold bin2; decide)⟩
    · exact ⟨12, fun J => by rw [e8, e9]; rfl, yes (by unfold bin2; decide)⟩
    · exact ⟨13, fun J => by rw [e8, e9]; rfl, yes (by unfold bin2; decide)⟩
    · exact ⟨14, fun J => by rw [e8, e9]; rfl, yes (by unfold bin2; decide)⟩
  · rcases t with ⟨rfl, rfl⟩ | ⟨rfl, rfl⟩ | ⟨rfl, rfl⟩ | ⟨rfl, rfl⟩ | ⟨rfl, rfl⟩ | ⟨rfl, rfl⟩
    · exact ⟨5, fun J => by rw [e8, e9]; rfl, yes (by unfold bin2; decide)⟩
    · exact ⟨6, fun J => by rw [e8, e9]; rfl, yes (by unfold bin2; decide)⟩
    · exact ⟨7, fun J => by rw [e8, e9]; rfl, yes (by unfold bin2; decide)⟩
    · exact ⟨8, fun J => by rw [e8, e9]; rfl, yes (by unfold bin2; decide)⟩
    · exact ⟨9, fun J => by rw [e8, e9]; rfl, yes (by unfold bin2; decide)⟩
    · exact ⟨10, fun J => by rw [e8, e9]; rfl, yes (by unfold bin2; decide)⟩
  · by_cases k16 : k = 16
    · subst k16
      exact ⟨3, fun J => by rw [e8, e9]; rfl, yes (by unfold bin2; decide)⟩
    by_cases k17 : k = 17
    · subst k17
      exact ⟨4, fun J => by rw [e8, e9]; rfl, yes (by unfold bin2; decide)⟩
    refine not5 e8 e9 (by decide) (fun q => ?_) (fun q => absurd q.1 (by decide)) (join_key k hk k16 k17)
    rcases q.2 with q | q
    · exact k16 (nI_inj (j := 16) (by omega) (by omega) q)
    · exact k17 (nI_inj (j := 17) (by omega) (by omega) q)
theorem LQ.bs (q : LQ u z0 h g W H st z o) (m : ND h g W H z0 z) (r : REF u h) : BS u z0 h g W H st z := q.1.bs r.2 m.2.2.1 (by have := q.2.1.2.2.2; have := q.2.1.2.2.1; have := q.1.2.2.2.2.2; omega) m.2.2.2.1 m.2.2.2.2
theorem join_go (hN : 1000 ≤ N) (l : LX n h g p) (r : REF u h) (ft : FT h g) (q : LQ u z0 h g W H st z o) (m : ND h g W H z0 z) {kt ck : Int32} (bk : bin2 ck kt) (ek : gI h 4 0 6 = ck) {hx : Hp} (F : NW u z0 h hx) (k : KH u h hx) (x9 : gI hx 1 0 9 = nI o) (x10 : gI hx 1 0 10 = nI (z + npC W + 1)) (xa : ∀ i, i < o → gA hx 1 0 1 i = gA h 1 0 1 i) {r1 r2 : Nat} (sam : Sam r1 r2 W) (h2 : 1 ≤ r2) (xo : gA hx 1 0 1 o = b2i (cmpd ((ck, kt) :: dropR r2 W))) (lt : z + npC W < 64) (mn : Bool) (em : mn = true → rkN kt ≤ 2) : ∃ h4 g6, f_X1_putWaiting N hx (nI r1) = some h4 ∧ f_X8_bind N g (nI r2) = some g6 ∧ gO h4 1 0 2 = some 0 ∧ gI h4 4 0 6 = ck ∧ gI h4 1 0 8 = nI (dropR r2 W).length ∧ (dropR r2 W).length < 72 ∧ gI g6 8 0 41 = nI (dropR r2 W).length ∧ gI g6 8 0 44 = nI (z + npC W) ∧ WLs (gA h4 1 0 0) (gA g6 8 0 19) (dropR r2 W) ∧ OB u n z0 h g p ((f_X4_advance N (sZ (sZ (sI (sA h4 1 0 0 (dropR r2 W).length ck) 1 0 8 (nI ((dropR r2 W).length + 1))) 1 0 11 true) 1 0 12 mn)).bind fun h9 => some (true, h9)) ((f_X8_token N (sZ (sZ (sI (sA (sI g6 8 0 44 (nI (z + npC W + 1))) 8 0 19 (dropR r2 W).length kt) 8 0 41 (nI ((dropR r2 W).length + 1))) 8 0 45 true) 8 0 46 mn)).bind fun h9 => some (true, h9)) := by
  obtain ⟨b1, b2, b3, b4⟩ := bin_rank bk
  have bs := q.bs m r
  have bsx : BS u z0 hx g W H st z := (bs.co.cg k (KG.rf g)).bs (r.up F.1.1).2 m.2.2.1 bs.2.2.2.2.2.2.2.1 m.2.2.2.1 m.2.2.2.2
  obtain ⟨c0, ⟨o1, o2, o3, o4⟩, ⟨k1, k2⟩, cm1, cm2⟩ := q
  have zz := c0.2.2.2.1.1
  have wl : W.length < 1000 := by omega
  obtain ⟨h4, g6, H', st', z', a1, a2, a3, a4, a5, a6, a7⟩ := bind_same hN W hx g H st z r1 r2 bsx sam N N (by omega) (by omega)
  obtain ⟨W2, hW2⟩ : ∃ W2, W2 = dropR r2 W := ⟨_, rfl⟩
  have len := len_drop h2 o4
  have cmd := cm1.drop h2
  rw [← hW2] at a5 a7 len cmd xo ⊢
  have r4 := (r.up F.1.1).up a3.1
  obtain ⟨p1, p2, p3, p4, p5⟩ := a5.co.1
  have l64 : z' + npC W2 ≤ 64 := by omega
  have en := npC_op (kn := ck) W2 b3
  refine ⟨h4, g6, a1, a2, r4.1, ?_, p2, by omega, p4, ?_, a5.2.1, ?_⟩
  · rw [a3.2.2.2.1.2.1, F.2]; exact ek
  · rw [a4.2.1 44 (by omega) (by omega) (by omega)]; exact k2
  refine OB.go (W := (ck, kt) :: W2) (H := H') (st := st') (z := z') (o := o) hN l r ft ((((((F.tr (a3.nw zz)).tr (NW.a u z0 _ 0 _ _)).tr (NW.i u z0 _ 8 _ (by omega))).tr (NW.i u z0 _ 11 _ (by omega))).tr (NW.i u z0 _ 12 _ (by omega)))) (((((((a4.nv zz).tr (NV.i z0 _ 44 _ (by omega))).tr (NV.a z0 _ _ _)).tr (NV.i z0 _ 41 _ (by omega))).tr (NV.i z0 _ 45 _ (by omega))).tr (NV.i z0 _ 46 _ (by omega)))) ⟨?_, ⟨?_, ?_, o3, ?_⟩, ⟨?_, ?_⟩, ?_, ?_⟩ (Or.inl ⟨rfl, rfl, ?_, mn, rfl, rfl, fun e => ?_⟩)
  · exact ((a5.co.cg (KH.rf u h4) (KG.i g6 44 _ (by omega))).push (Or.inr (Or.inr bk)) (by rw [en]; omega)).cg ((KH.i u _ 11 _ (by omega)).tr (KH.i u _ 12 _ (by omega))) ((KG.i _ 45 _ (by omega)).tr (KG.i _ 46 _ (by omega)))
  · show gI h4 1 0 9 = _
    rw [a3.2.1 9 (by omega)]; exact x9
  · show gI g6 8 0 43 = _
    rw [a4.2.1 43 (by omega) (by omega) (by omega)]; exact o2
  · show W2.length + 1 = _
    rw [en]; omega
  · show gI h4 1 0 10 = _
    rw [a3.2.1 10 (by omega), x10, en]; congr 1; omega
  · show nI (z + npC W + 1) = _
    rw [en]; congr 1; omega
  · show CMP (gA h4 1 0 1) ((ck, kt) :: W2) o
    rw [a3.2.2.2.1.2.2.1]
    show (if kt = 0 then ∃ o', o = o' + 1 ∧ gA hx 1 0 1 o' = b2i (cmpd W2) ∧ CMP (gA hx 1 0 1) W2 o' else CMP (gA hx 1 0 1) W2 o)
    rw [if_neg b3]
    exact cmd.cg xa
  · show gA h4 1 0 1 o = _
    rw [a3.2.2.2.1.2.2.1]; exact xo
  · show H'.length = (if kt = 0 then 0 else if kt = 2 then 0 else 1) + bnC W2
    rw [if_neg b3, if_neg b4, a5.2.2.2.2.2.1, Nat.add_comm]
  · have := em e
    rw [cmpd_e, if_neg (by omega), if_neg (by omega)]
end Join
