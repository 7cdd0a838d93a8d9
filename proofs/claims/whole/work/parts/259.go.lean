-- PURE: hours that pass, by both
theorem K7.nx {h g : Hp} (f : K7 h g) : Nx h g := ⟨fun o k => ⟨(f 3 o k (by decide)).1, (f 3 o k (by decide)).2.2.2⟩, fun o k => ⟨(f 5 o k (by decide)).1, (f 5 o k (by decide)).2.2.2⟩, fun o k => (f 0 o k (by decide)).2.2.2, fun c o k q => (f c o k q).2.2.1⟩
theorem K7.rc {h g : Hp} (f : K7 h g) {t : Nat} {T : Txt} {S I : Str} {X : Xs} (r : RC h t T S I X) : RC g t T S I X := by
  refine r.nx f.nx (Eq.trans ?_ r.2.2.2.1) id
  have i : ∀ c o k, c ≠ 8 → gI g c o k = gI h c o k := fun c o k q => (f c o k q).1
  have a : ∀ c o k, c ≠ 8 → gA g c o k = gA h c o k := fun c o k q => (f c o k q).2.2.2
  unfold ex
  rw [a 6 0 0 (by decide), a 6 0 1 (by decide), a 6 0 2 (by decide), a 2 0 0 (by decide), a 2 0 1 (by decide), a 2 0 2 (by decide), a 4 0 0 (by decide), a 4 0 1 (by decide), i 6 0 3 (by decide), i 2 0 4 (by decide), i 2 0 5 (by decide), i 4 0 2 (by decide), i 7 0 16 (by decide), i 7 0 17 (by decide), i 0 t 6 (by decide), i 7 0 15 (by decide)]
theorem K8.arr {g g' : Hp} (f : K8 g g') (k : Nat) : gA g' 8 0 k = gA g 8 0 k := (f k).2.2.2
theorem R8.k8 {g g' : Hp} {T : Txt} {S I : Str} {X : Xs} (r : R8 g T S I X) (f : K8 g g') : R8 g' T S I X := by
  have i : ∀ k, gI g' 8 0 k = gI g 8 0 k := fun k => (f k).1
  have l : ∀ k, gL g' 8 0 k = gL g 8 0 k := fun k => (f k).2.1
  have a : ∀ k, gA g' 8 0 k = gA g 8 0 k := fun k => (f k).2.2.2
  have z : ∀ k, gZ g' 8 0 k = gZ g 8 0 k := fun k => by unfold gZ; rw [i]
  obtain ⟨r1, r2, r3, r4, r5, r6, r7, r8, r9, r10, r11⟩ := r
  refine ⟨?_, ?_, (z 64).trans r3, (l 62).trans r4, ?_, ?_, ?_, ?_, (i 4).trans r9, (i 5).trans r10, (i 16).trans r11⟩
  · obtain ⟨q1, q2, q3, q4, q5⟩ := r1
    have e : b8 g' 0 = b8 g 0 := by unfold b8; simp only [a, i, l]
    exact ⟨q1, q2, q3.arr (fun k _ _ => i k) (fun k _ => a k), by rw [e]; exact q4, by rw [i, z]; exact q5⟩
  · unfold TX; simp only [a]; exact r2
  · unfold SR; rw [i, i, a]; exact r5
  · rw [i, a]; exact r6
  · rw [i]
    refine ⟨r7.1, fun q => ?_⟩
    have := r7.2 q
    unfold IMr
    rw [a, a, a, a, a, i, i, i, l]
    exact this
  · rw [i, a]; exact r8
def goOK (S : Str) (n : Int32) : Prop := 0 ≤ n ∧ n ≤ 99 ∧ S.2 11 + n ≤ 9999
def goQ (S : Str) (n : Int32) : Bool := decide (0 ≤ n ∧ n ≤ 99 ∧ S.2 11 + n ≤ 9999)
def goS (T : Txt) (S : Str) (n : Int32) : Str := if goQ S n = true then passG T S n.toNatClampNeg else S
def goX (S : Str) (X : Xs) (n : Int32) : Xs := if goQ S n = true ∧ 0 < n then uX2 X 0 0 else X
def goA (T : Txt) (S : Str) (n : Int32) : Int32 := if goQ S n = true then (passG T S n.toNatClampNeg).2 11 else -1
theorem goQ_of {S : Str} {n : Int32} (h : goQ S n = true) : ∃ k, k ≤ 99 ∧ n = nI k ∧ S.2 11 + nI k ≤ 9999 := by
  obtain ⟨a, b, c⟩ := of_decide_eq_true h
  obtain ⟨k, hk, rfl⟩ := rngN (a := n) (m := 99) (by omega) a b
  exact ⟨k, hk, rfl, c⟩
theorem passG_same (T : Txt) (S : Str) : ∀ n, (∀ k, k = 1 ∨ k = 2 ∨ k = 3 ∨ k = 4 ∨ k = 5 → (passG T S n).1 k = S.1 k)
  | 0, _, _ => rfl
  | n + 1, k, hk => by
    obtain ⟨c1, c2, c3, c4, c5, -⟩ := (passM_same T (galeM T (passG T S n))).1
    have a : (passM T (galeM T (passG T S n))).1 k = (galeM T (passG T S n)).1 k := by
      rcases hk with rfl | rfl | rfl | rfl | rfl
      · exact c1
      · exact c2
      · exact c3
      · exact c4
      · exact c5
    rw [passG_s, a, (galeM_i T _).2 k (by omega)]
    exact passG_same T S n k hk
theorem GOK.gale {T : Txt} {S : Str} (G : GOK T S) : GOK T (galeM T S) := fun c hc => by
  rw [(galeM_i T S).2 6 (by decide), (galeM_i T S).1 11 (by decide)]
  exact G c hc
theorem passG_gok {T : Txt} {S : Str} (hT : TOK T) (R : TR T) (K : SOK T 0 S) (G : GOK T S) (h9 : (S.2 11).toInt ≤ 9999) : ∀ n : Nat, n ≤ 1000 → GOK T (passG T S n)
  | 0, _ => G
  | n + 1, h => by
    obtain ⟨a, b, -⟩ := passG_ok hT R K (by omega) n (by omega)
    rw [passG_s]
    exact (passG_gok hT R K G h9 n (by omega)).gale.pass (a.gale R) hT (by rw [(galeM_i T _).1 11 (by decide)]; omega)
theorem go_hour {T : Txt} {S : Str} {n : Int32} (hT : TOK T) (R : TR T) (s : SI T S) : SI T (goS T S n) := by
  unfold goS
  by_cases z : goQ S n = true
  · rw [if_pos z]
    obtain ⟨k, hk, rfl, hb⟩ := goQ_of z
    obtain ⟨K, c5, G, h9, hz, hc⟩ := s
    have h0 := K.2.2.2.1
    obtain ⟨a, b, -, d⟩ := passG_ok hT R K (show (S.2 11).toInt ≤ 4000000 by omega) k (by omega)
    have hb' := Int32.le_iff_toInt_le.mp hb
    have z9 : (9999 : Int32).toInt = 9999 := rfl
    rw [add_toInt (by rw [nI_toInt (by omega)]; omega), nI_toInt (by omega)] at hb'
    rw [clN (show k < 2 ^ 31 by omega)]
    have sm := passG_same T S k
    exact ⟨a, fun c h => by rw [sm 2 (by omega)]; exact c5 c h, passG_gok hT R K G h9 k (by omega), by rw [b]; omega, d.trans hz, fun c h => by rw [sm 3 (by omega), sm 4 (by omega)]; exact hc c h⟩
  · rw [if_neg z]; exact s
theorem go_PI {T : Txt} {S I : Str} {X : Xs} (n : Int32) (p : PI T S I X) : PI T (goS T S n) I (goX S X n) := by
  obtain ⟨p1, p2, p3, p4, p5, p6, p7, p8, p9⟩ := p
  unfold goX
  by_cases z : goQ S n = true ∧ 0 < n
  · rw [if_pos z]
    exact ⟨p1, p2, p3, go_hour p1 p2 p4, p5, p6, p7, ⟨0, by omega, rfl⟩, p9⟩
  · rw [if_neg z]
    exact ⟨p1, p2, p3, go_hour p1 p2 p4, p5, p6, p7, p8, p9⟩
section Go
variable {N : Nat} {h g : Hp} {t : Nat} {T : Txt} {S I : Str} {X : Xs}
theorem ex_u2 (h g : Hp) (t k : Nat) (v : Int32) (X : Xs) (e : ex h t = X) (hk : k < 7) (ha : (ex g t).1 = (ex h t).1) (hi : ∀ j, j < 8 → (ex g t).2 j = if j = k then v else (ex h t).2 j) : ex g t = uX2 X k v := by
  subst e
  refine Prod.ext ha (fun8 hi (fun _ => rfl) (fun j => ?_))
  show (if j + 8 = k then v else (ex h t).2 (j + 8)) = if 7 = k then v else (ex h t).2 7
  rw [if_neg (by omega), if_neg (by omega)]
  rfl
theorem RC.u60 (r : RC h t T S I X) (v : Int32) : RC (sI h 6 0 3 v) t T S I (uX2 X 0 v) := by
  refine r.nx (Nx.i h 6 0 3 v (by decide)) (ex_u2 h _ t 0 v X r.2.2.2.1 (by omega) rfl (fun j hj => ?_)) id
  rcases (show j = 0 ∨ j = 1 ∨ j = 2 ∨ j = 3 ∨ j = 4 ∨ j = 5 ∨ j = 6 ∨ j = 7 by omega) with rfl | rfl | rfl | rfl | rfl | rfl | rfl | rfl <;> rfl
theorem K8.i (h : Hp) (c o k : Nat) (v : Int32) (hc : c ≠ 8) : K8 h (sI h c o k v) := fun j => ⟨if_neg (fun q => hc q.1.symm), rfl, rfl, rfl⟩
theorem K8.a (h : Hp) (c o k i : Nat) (v : Int32) (hc : c ≠ 8) : K8 h (sA h c o k i v) := fun j => ⟨rfl, rfl, rfl, if_neg (fun q => hc q.1.symm)⟩
theorem K8.af (h : Hp) (c o k : Nat) (f : Nat → Int32) (hc : c ≠ 8) : K8 h (sAf h c o k f) := fun j => ⟨rfl, rfl, rfl, if_neg (fun q => hc q.1.symm)⟩
theorem K8.rf (h : Hp) : K8 h h := fun _ => ⟨rfl, rfl, rfl, rfl⟩
theorem K8.tr {h g k : Hp} (a : K8 h g) (b : K8 g k) : K8 h k := fun j => ⟨(b j).1.trans (a j).1, (b j).2.1.trans (a j).2.1, (b j).2.2.1.trans (a j).2.2.1, (b j).2.2.2.trans (a j).2.2.2⟩
theorem Fo.k8 {o : Nat} (f : Fo o h g) : K8 h g := fun j => ⟨(f.1 8 0 j (by omega)).1, (f.2 8 0 j).1, (f.2 8 0 j).2, (f.1 8 0 j (by omega)).2⟩
theorem cl_go (hN : 1000 ≤ N) (r : RC h t T S I X) (n : Int32) : ∃ g, f_X7_go N h n = some (goA T S n, g) ∧ RC g t T (goS T S n) I (goX S X n) ∧ K8 h g := by
  have e11 : gI h 3 1 11 = S.2 11 := r.sd.2.2.2.2.2.2.2 11 (by omega) (by omega)
  have nope : ¬ goQ S n = true → goA T S n = -1 ∧ goS T S n = S ∧ goX S X n = X := fun q => by
    unfold goA goS goX
    rw [if_neg q, if_neg q, if_neg (fun w => q w.1)]
    exact ⟨rfl, rfl, rfl⟩
  unfold f_X7_go
  simp only [jn_e, lt_e, e11]
  by_cases z0 : n < 0
  · obtain ⟨q1, q2, q3⟩ := nope (fun q => absurd (of_decide_eq_true q).1 (Int32.not_le.mpr z0))
    rw [if_pos z0, q1, q2, q3]
    exact ⟨h, rfl, r, K8.rf h⟩
  rw [if_neg z0]
  by_cases z1 : 99 < n
  · obtain ⟨q1, q2, q3⟩ := nope (fun q => absurd (of_decide_eq_true q).2.1 (Int32.not_le.mpr z1))
    rw [if_pos z1, q1, q2, q3]
    exact ⟨h, rfl, r, K8.rf h⟩
  rw [if_neg z1]
  by_cases z2 : S.2 11 + n ≤ 9999
  rotate_left
  · obtain ⟨q1, q2, q3⟩ := nope (fun q => z2 (of_decide_eq_true q).2.2)
    rw [if_neg z2, q1, q2, q3]
    exact ⟨h, rfl, r, K8.rf h⟩
  have zq : goQ S n = true := decide_eq_true ⟨Int32.not_lt.mp z0, Int32.not_lt.mp z1, z2⟩
  obtain ⟨k, hk, rfl, -⟩ := goQ_of zq
  rw [if_pos z2]
  have main : ∀ h1 X1, RC h1 t T S I X1 → K8 h h1 → ∃ g, ((f_X3_passHoursWithGales N h1 1 (nI k)).bind fun h2 => some ((gI h2 3 1 11), h2)) = some ((passG T S k).2 11, g) ∧ RC g t T (passG T S k) I X1 ∧ K8 h g := fun h1 X1 r1 k1 => by
    obtain ⟨g2, e2, f2, d2⟩ := r1.sd.gales hN (n := k) (by omega)
    have a11 : gI g2 3 1 11 = (passG T S k).2 11 := d2.2.2.2.2.2.2.2 11 (by omega) (by omega)
    rw [e2, bind_s, a11]
    exact ⟨g2, rfl, r1.set1 f2 d2, k1.tr f2.k8⟩
  unfold goA goS goX
  rw [if_pos zq, if_pos zq, clN (show k < 2 ^ 31 by omega)]
  by_cases w : nI k ≤ 0
  · rw [if_pos w, if_neg (fun q => absurd q.2 (Int32.not_lt.mpr w))]
    exact main h X r (K8.rf h)
  · rw [if_neg w, if_pos ⟨zq, Int32.not_le.mp w⟩]
    exact main _ _ (r.u60 0) (K8.i h 6 0 3 0 (by decide))
/-- what hours change of the reference -/
def H0 (g g' : Hp) : Prop := K7 g g' ∧ (∀ k, k ≠ 49 → gI g' 8 0 k = gI g 8 0 k) ∧ (∀ k, k ≠ 62 → gL g' 8 0 k = gL g 8 0 k) ∧ (N49 g → N49 g') ∧ ∀ k, (k < 23 ∨ 33 < k) → gA g' 8 0 k = gA g 8 0 k
theorem H0.rf (g : Hp) : H0 g g := ⟨K7.rf g, fun _ _ => rfl, fun _ _ => rfl, id, fun _ _ => rfl⟩
theorem H0.tr {g g' g'' : Hp} (a : H0 g g') (b : H0 g' g'') : H0 g g'' := ⟨a.1.tr b.1, fun k q => (b.2.1 k q).trans (a.2.1 k q), fun k q => (b.2.2.1 k q).trans (a.2.2.1 k q), fun q => b.2.2.2.1 (a.2.2.2.1 q), fun k q => (b.2.2.2.2 k q).trans (a.2.2.2.2 k q)⟩
theorem Gf.h0 {b : Nat} {g g' : Hp} (f : Gf b g g') : H0 g g' := ⟨f.1, fun k _ => f.2.1 k, f.2.2.1, f.n49, fun k hk => funext fun i => f.2.2.2 k i (fun q => by omega)⟩
theorem G8.h0 {b : Nat} {g g' : Hp} (f : G8 b g g') : H0 g g' := by
  obtain ⟨S1, e, B, rfl⟩ := f
  refine ⟨?_, fun k hk => M8_I g b S1 e B k hk, fun _ _ => rfl, fun _ => ?_, fun k hk => by rw [M8_A, arr8_n b S1 _ (by omega)]⟩
  · intro c o k hc
    exact ⟨if_neg (fun q => hc q.1), rfl, rfl, if_neg (fun q => hc q.1)⟩
  · unfold N49
    rw [M8_E]
    show at3 g.1 8 0 49 (b2i e) 8 0 49 = b2i e
    exact at3_s _ _ _ _ _
theorem R8a.back {ru : Int32} (s : Sm g 0 ru T S) (p : Plain g) (e : gI g 8 0 61 = ru) : R8a g T S := by
  obtain ⟨hT, R, X, q, h49⟩ := s
  refine ⟨hT, R, X, Sq.tr ?_ (((v8_b8 hT p 0 ru).sy).tr q), h49⟩
  have : (b8 g 0).2 14 = ru := by rw [b8_14]; exact e
  rw [← this, upI_self]
  exact Sq.rf T _
theorem m_go (hN : 1000 ≤ N) (r : R8 g T S I X) (p : PI T S I X) (n : Int32) : ∃ g', f_X8_go N g n = some (goA T S n, g') ∧ R8 g' T (goS T S n) I (goX S X n) ∧ K7 g g' := by
  obtain ⟨p1, p2, p3, p4, p5, p6, p7, p8, p9⟩ := p
  have f0 : F8 g (sI g 8 0 2 0) := F8.i g 0 (by decide)
  have r0 := r.f8 f0 r.2.2.1
  have nope : ¬ goQ S n = true → goA T S n = -1 ∧ goS T S n = S ∧ goX S X n = X := fun q => by
    unfold goA goS goX
    rw [if_neg q, if_neg q, if_neg (fun w => q w.1)]
    exact ⟨rfl, rfl, rfl⟩
  have e11 : gA (sI g 8 0 2 0) 8 0 33 0 = S.2 11 := r0.1.hour
  unfold f_X8_go
  simp only [jn_e, lt_e, m_isIn, bind_s, b2i0, decide_eq_false_iff_not, z7.1, grd_p (show inb 0 2 by decide), e11]
  by_cases z0 : 0 ≤ n ∧ n ≤ 99
  rotate_left
  · obtain ⟨q1, q2, q3⟩ := nope (fun q => z0 ⟨(of_decide_eq_true q).1, (of_decide_eq_true q).2.1⟩)
    rw [if_pos z0, q1, q2, q3]
    exact ⟨_, rfl, r0, f0.1⟩
  rw [if_neg (fun q => q z0)]
  by_cases z2 : S.2 11 + n ≤ 9999
  rotate_left
  · obtain ⟨q1, q2, q3⟩ := nope (fun q => z2 (of_decide_eq_true q).2.2)
    rw [if_neg z2, q1, q2, q3]
    exact ⟨_, rfl, r0, f0.1⟩
  have zq : goQ S n = true := decide_eq_true ⟨z0.1, z0.2, z2⟩
  obtain ⟨k, hk, rfl, -⟩ := goQ_of zq
  rw [if_pos z2]
  obtain ⟨g1, e1, f1, pl1, a1⟩ := m_plainTried (sI g 8 0 2 0)
  have r1 := r0.f8 f1 pl1.2.1
  have hh : (S.2 11).toInt ≤ 4000000 := by have := p4.2.2.2.1; omega
  have s1 : Sg g1 0 (S.2 14) T S := ⟨by
    have := Sm.of (ru := S.2 14) r1.1 pl1
    rw [upI_self] at this
    exact this, r1.2.2.2.1⟩
  rw [e1, bind_s]
  unfold goA goS goX
  rw [if_pos zq, if_pos zq, clN (show k < 2 ^ 31 by omega)]
  refine (iter_inv (bot := fun _ _ => none) (b := f_X8_go_37 N (nI k)) (fun m q => ∀ j h, j ≤ k → k < m + j → H0 g1 h → Sg h 0 (S.2 14) T (passG T S j) → ∃ y, q (nI j) h = some y ∧ (y.1 = (passG T S k).2 11 ∧ R8 y.2 T (passG T S k) I (if goQ S (nI k) = true ∧ 0 < nI k then uX2 X 0 0 else X) ∧ K7 g y.2)) (fun j _ _ _ => by omega) (fun m q ih j h hj hm f s => ?_) N 0 g1 (by omega) (by omega) (H0.rf g1) s1).elim (fun y hy => ⟨y.2, by rw [← hy.2.1]; exact hy.1, hy.2.2⟩)
  have pl : Plain h := pl1.k f.2.1
  have e61 : gI h 8 0 61 = S.2 14 := (f.2.1 61 (by decide)).trans r1.1.rule
  unfold f_X8_go_37
  by_cases z : k = j
  · subst z
    rw [if_pos (leN (Nat.le_refl _) (by omega))]
    have ra := R8a.back s.1 pl e61
    -- the rest of the state
    have fin : ∀ v X', gI g1 8 0 76 = X.2 0 → X'.2 0 = v → (∀ j, j ≠ 0 → X'.2 j = X.2 j) → X'.1 = X.1 → UR T X'.1 (gA g1 8 0 39) (X'.2 0).toNatClampNeg (passG T S k) → R8 (sI h 8 0 76 v) T (passG T S k) I X' ∧ K7 g (sI h 8 0 76 v) := by
      intro v X' u1 u2 u3 u4 u5
      obtain ⟨q1, q2, q3, q4, q5, q6, q7, q8, q9, q10, q11⟩ := r1
      have ii : ∀ j, j ≠ 49 → j ≠ 76 → gI (sI h 8 0 76 v) 8 0 j = gI g1 8 0 j := fun j h1 h2 => by rw [I_at, if_neg h2]; exact f.2.1 j h1
      have aa : ∀ j, (j < 23 ∨ 33 < j) → gA (sI h 8 0 76 v) 8 0 j = gA g1 8 0 j := fun j hj => f.2.2.2.2 j hj
      refine ⟨⟨?_, ?_, ?_, ?_, ?_, ?_, ?_, ?_, ?_, ?_, ?_⟩, ?_⟩
      · obtain ⟨w1, w2, w3, w4, w5⟩ := ra
        have eb : b8 (sI h 8 0 76 v) 0 = b8 h 0 := by
          have i61 : gI (sI h 8 0 76 v) 8 0 61 = gI h 8 0 61 := by rw [I_at, if_neg (by decide)]
          unfold b8
          rw [i61]
          rfl
        refine ⟨w1, w2, w3.arr (fun j h1 h2 => by rw [I_at, if_neg (by omega)]) (fun _ _ => rfl), by rw [eb]; exact w4, ?_⟩
        unfold gZ at w5 ⊢
        rw [I_at, if_neg (by decide)]
        exact w5
      · unfold TX; rw [aa 4 (by omega), aa 5 (by omega), aa 6 (by omega), aa 7 (by omega), aa 8 (by omega), aa 3 (by omega), aa 1 (by omega), aa 13 (by omega), aa 14 (by omega), aa 15 (by omega), aa 16 (by omega), aa 17 (by omega), aa 18 (by omega)]; exact q2
      · unfold gZ; rw [ii 64 (by decide) (by decide)]; exact q3
      · exact s.2
      · unfold SR
        rw [ii 72 (by decide) (by decide), ii 73 (by decide) (by decide), aa 37 (by omega), u3 1 (by decide), u3 2 (by decide), u4]
        exact q5
      · rw [I_at, if_pos rfl, aa 39 (by omega)]
        exact ⟨u2.symm, u5⟩
      · rw [ii 78 (by decide) (by decide), u3 7 (by decide)]
        refine ⟨q7.1, fun w => ?_⟩
        have := q7.2 w
        unfold IMr
        rw [aa 40 (by omega), aa 41 (by omega), aa 42 (by omega), aa 43 (by omega), aa 44 (by omega), ii 84 (by decide) (by decide), ii 85 (by decide) (by decide), ii 86 (by decide) (by decide), show gL (sI h 8 0 76 v) 8 0 87 = gL g1 8 0 87 from f.2.2.1 87 (by decide)]
        exact this
      · rw [ii 1 (by decide) (by decide), aa 0 (by omega), u3 3 (by decide), u4]; exact q8
      · rw [ii 4 (by decide) (by decide), u3 4 (by decide)]; exact q9
      · rw [ii 5 (by decide) (by decide), u3 5 (by decide)]; exact q10
      · rw [ii 16 (by decide) (by decide), u3 6 (by decide)]; exact q11
      · exact ((f0.1.tr f1.1).tr f.1).tr (K7.i h 76 v)
    have a33 : gA h 8 0 33 0 = (passG T S k).2 11 := ra.hour
    simp only [jn_e, lt_e, z7.1, grd_p (show inb 0 2 by decide)]
    have u76 : gI g1 8 0 76 = X.2 0 := r1.2.2.2.2.2.1.1
    by_cases w : nI k ≤ 0
    · rw [if_pos w, if_neg (fun q => absurd q.2 (Int32.not_lt.mpr w))]
      have k0 : k = 0 := by
        refine Decidable.byContradiction fun w' => ?_
        exact nleN (b := 0) (show 0 < k by omega) (by omega) w
      subst k0
      obtain ⟨x1, x2⟩ := fin (gI h 8 0 76) X u76 (((f.2.1 76 (by decide)).trans u76).symm) (fun _ _ => rfl) rfl r1.2.2.2.2.2.1.2
      exact ⟨_, rfl, a33, x1, x2⟩
    · rw [if_neg w, if_pos ⟨zq, Int32.not_le.mp w⟩]
      obtain ⟨x1, x2⟩ := fin 0 (uX2 X 0 0) u76 rfl (fun j hj => if_neg hj) rfl trivial
      exact ⟨_, rfl, a33, x1, x2⟩
  · rw [if_neg (nleN (show j < k by omega) (show k < 2 ^ 31 by omega))]
    obtain ⟨h1, e1, f1, s1⟩ := m_gale hN (by decide) s
    have e1' : f_X8_gale N h 0 = some h1 := e1
    obtain ⟨h2, e2, f2, s2⟩ := s1.hour hN (by decide) ((passG_ok p1 p2 p4.1 hh j (by omega)).1.gale p2)
    have e2' : f_X8_goOn N h1 0 (S.2 14) = some h2 := e2
    rw [e1', bind_s, f1.2.1, e61, e2', bind_s, lt_e, nI_1]
    exact ih (j + 1) h2 (by omega) (by omega) (f.tr (f1.h0.tr f2.h0)) s2
end Go
