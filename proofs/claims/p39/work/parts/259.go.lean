def goQ (S : Str) (n : Int32) : Bool := decide (0 ≤ n ∧ n ≤ 99 ∧ S.2 11 + n ≤ 9999)
def goS (T : Txt) (S : Str) (n : Int32) : Str := if goQ S n = true then passG T S n.toNatClampNeg else S
def goX (S : Str) (X : Xs) (n : Int32) : Xs := if goQ S n = true ∧ 0 < n then uX2 X 0 0 else X
def goA (T : Txt) (S : Str) (n : Int32) : Int32 := if goQ S n = true then (passG T S n.toNatClampNeg).2 11 else -1
theorem goQ_of {S : Str} {n : Int32} (h : goQ S n = true) : ∃ k, k ≤ 99 ∧ n = nI k ∧ S.2 11 + nI k ≤ 9999 := by
  obtain ⟨a, b, c⟩ := of_decide_eq_true h
  obtain ⟨k, hk, rfl⟩ := rngN (a := n) (m := 99) (by omega) a b
  exact ⟨k, hk, rfl, c⟩
section Go
variable {N : Nat} {h g : Hp} {t : Nat} {T : Txt} {S I : Str} {X : Xs}
theorem ex_u2 (h g : Hp) (t k : Nat) (v : Int32) (X : Xs) (e : ex h t = X) (hk : k < 7) (ha : (ex g t).1 = (ex h t).1) (hi : ∀ j, j < 8 → (ex g t).2 j = if j = k then v else (ex h t).2 j) : ex g t = uX2 X k v := by
  subst e
  refine Prod.ext ha (fun8 hi (fun _ => rfl) (fun j => ?_))
  show (if j + 8 = k then v else (ex h t).2 (j + 8)) = if 7 = k then v else (ex h t).2 7
  rw [if_neg (by omega), if_neg (by omega)]
  rfl
theorem RC.u60 (r : RC h t T S I X) (v : Int32) : RC (sI h 6 0 3 v) t T S I (uX2 X 0 v) := by
  refine r.nx (Nx.i h 6 0 3 v (by decide)) (ex_u2 h _ t 0 v X r.2.2.2.1 (by omega) rfl (fun j hj => ?_)) id
  rcases (show j = 0 ∨ j = 1 ∨ j = 2 ∨ j = 3 ∨ j = 4 ∨ j = 5 ∨ j = 6 ∨ j = 7 by omega) with rfl | rfl | rfl | rfl | rfl | rfl | rfl | rfl <;> rfl
theorem K8.i (h : Hp) (c o k : Nat) (v : Int32) (hc : c ≠ 8) : K8 h (sI h c o k v) := fun j => ⟨if_neg (fun q => hc q.1.symm), rfl, rfl, rfl⟩
theorem K8.a (h : Hp) (c o k i : Nat) (v : Int32) (hc : c ≠ 8) : K8 h (sA h c o k i v) := fun j => ⟨rfl, rfl, rfl, if_neg (fun q => hc q.1.symm)⟩
theorem K8.af (h : Hp) (c o k : Nat) (f : Nat → Int32) (hc : c ≠ 8) : K8 h (sAf h c o k f) := fun j => ⟨rfl, rfl, rfl, if_neg (fun q => hc q.1.symm)⟩
theorem K8.rf (h : Hp) : K8 h h := fun _ => ⟨rfl, rfl, rfl, rfl⟩
theorem K8.tr {h g k : Hp} (a : K8 h g) (b : K8 g k) : K8 h k := fun j => ⟨(b j).1.trans (a j).1, (b j).2.1.trans (a j).2.1, (b j).2.2.1.trans (a j).2.2.1, (b j).2.2.2.trans (a j).2.2.2⟩
theorem Fo.k8 {o : Nat} (f : Fo o h g) : K8 h g := fun j => ⟨(f.1 8 0 j (by omega)).1, (f.2 8 0 j).1, (f.2 8 0 j).2, (f.1 8 0 j (by omega)).2⟩
theorem cl_go (hN : 1000 ≤ N) (r : RC h t T S I X) (n : Int32) : ∃ g, f_X7_go N h n = some (goA T S n, g) ∧ RC g t T (goS T S n) I (goX S X n) ∧ K8 h g := by
  have e11 : gI h 3 1 11 = S.2 11 := r.sd.2.2.2.2.2.2.2 11 (by omega) (by omega)
  have nope : ¬ goQ S n = true → goA T S n = -1 ∧ goS T S n = S ∧ goX S X n = X := fun q => by
    unfold goA goS goX
    rw [if_neg q, if_neg q, if_neg (fun w => q w.1)]
    exact ⟨rfl, rfl, rfl⟩
  unfold f_X7_go
  simp only [jn_e, lt_e, e11]
  by_cases z0 : n < 0
  · obtain ⟨q1, q2, q3⟩ := nope (fun q => absurd (of_decide_eq_true q).1 (Int32.not_le.mpr z0))
    rw [if_pos z0, q1, q2, q3]
    exact ⟨h, rfl, r, K8.rf h⟩
  rw [if_neg z0]
  by_cases z1 : 99 < n
  · obtain ⟨q1, q2, q3⟩ := nope (fun q => absurd (of_decide_eq_true q).2.1 (Int32.not_le.mpr z1))
    rw [if_pos z1, q1, q2, q3]
    exact ⟨h, rfl, r, K8.rf h⟩
  rw [if_neg z1]
  by_cases z2 : S.2 11 + n ≤ 9999
  rotate_left
  · obtain ⟨q1, q2, q3⟩ := nope (fun q => z2 (of_decide_eq_true q).2.2)
    rw [if_neg z2, q1, q2, q3]
    exact ⟨h, rfl, r, K8.rf h⟩
  have zq : goQ S n = true := decide_eq_true ⟨Int32.not_lt.mp z0, Int32.not_lt.mp z1, z2⟩
  obtain ⟨k, hk, rfl, -⟩ := goQ_of zq
  rw [if_pos z2]
  have main : ∀ h1 X1, RC h1 t T S I X1 → K8 h h1 → ∃ g, ((f_X3_passHoursWithGales N h1 1 (nI k)).bind fun h2 => some ((gI h2 3 1 11), h2)) = some ((passG T S k).2 11, g) ∧ RC g t T (passG T S k) I X1 ∧ K8 h g := fun h1 X1 r1 k1 => by
    obtain ⟨g2, e2, f2, d2⟩ := r1.sd.gales hN (n := k) (by omega)
    have a11 : gI g2 3 1 11 = (passG T S k).2 11 := d2.2.2.2.2.2.2.2 11 (by omega) (by omega)
    rw [e2, bind_s, a11]
    exact ⟨g2, rfl, r1.set1 f2 d2, k1.tr f2.k8⟩
  unfold goA goS goX
  rw [if_pos zq, if_pos zq, clN (show k < 2 ^ 31 by omega)]
  by_cases w : nI k ≤ 0
  · rw [if_pos w, if_neg (fun q => absurd q.2 (Int32.not_lt.mpr w))]
    exact main h X r (K8.rf h)
  · rw [if_neg w, if_pos ⟨zq, Int32.not_le.mp w⟩]
    exact main _ _ (r.u60 0) (K8.i h 6 0 3 0 (by decide))
end Go

