-- PURE: the whole state, by both
def HC (T : Txt) (S : Str) : Prop := ∀ c, c < nCr T → S.1 3 c = T.1 3 c ∧ S.1 4 c = T.1 4 c
def C5 (T : Txt) (S : Str) : Prop := ∀ c, c < nCr T → (S.1 2 c).toInt ≤ 5
def SI (T : Txt) (S : Str) : Prop := SOK T 0 S ∧ C5 T S ∧ GOK T S ∧ (S.2 11).toInt ≤ 9999 ∧ S.2 16 = 1 ∧ HC T S
/-- the real strand alone changed -/
theorem RC.set1 {h g : Hp} {t : Nat} {T : Txt} {S S' I : Str} {X : Xs} (r : RC h t T S I X) (f : Fo 1 h g) (s : Sd g 1 t T S') : RC g t T S' I X := by
  obtain ⟨⟨k1, k2, k3, k4, k5, k6⟩, r2, r3, r4, r5⟩ := r
  have c : ∀ {o : Nat} {Q : Str}, ¬ o = 1 → CSt h o t T Q → CSt g o t T Q := fun ho q => by
    have := f.sd ho (⟨q.1, k4, k6, k5, q.2⟩ : Sd h _ t T _)
    exact ⟨this.1, this.2.2.2.2⟩
  have e : ex g t = ex h t := by
    have i : ∀ c o k, c ≠ 3 → gI g c o k = gI h c o k := fun c o k q => (f.1 c o k (fun z => q z.1)).1
    have a : ∀ c o k, c ≠ 3 → gA g c o k = gA h c o k := fun c o k q => (f.1 c o k (fun z => q z.1)).2
    unfold ex
    rw [a 6 0 0 (by decide), a 6 0 1 (by decide), a 6 0 2 (by decide), a 2 0 0 (by decide), a 2 0 1 (by decide), a 2 0 2 (by decide), a 4 0 0 (by decide), a 4 0 1 (by decide), i 6 0 3 (by decide), i 2 0 4 (by decide), i 2 0 5 (by decide), i 4 0 2 (by decide), i 7 0 16 (by decide), i 7 0 17 (by decide), i 0 t 6 (by decide), i 7 0 15 (by decide)]
  exact ⟨⟨k1, (f.2 7 0 13).2.trans k2, (f.2 7 0 14).2.trans k3, s.2.1, k5, s.2.2.1⟩, ⟨s.1, s.2.2.2.2⟩, c (by decide) r3, e.trans r4, fun q => c (by decide) (r5 q)⟩
/-- nothing of strands, of what is told and of laws' rows changed -/
def Nx (h g : Hp) : Prop := (∀ o k, gI g 3 o k = gI h 3 o k ∧ gA g 3 o k = gA h 3 o k) ∧ (∀ o k, gI g 5 o k = gI h 5 o k ∧ gA g 5 o k = gA h 5 o k) ∧ (∀ o k, gA g 0 o k = gA h 0 o k) ∧ ∀ c o k, c ≠ 8 → gO g c o k = gO h c o k
theorem Nx.tr {h g k : Hp} (a : Nx h g) (b : Nx g k) : Nx h k := ⟨fun o i => ⟨(b.1 o i).1.trans (a.1 o i).1, (b.1 o i).2.trans (a.1 o i).2⟩, fun o i => ⟨(b.2.1 o i).1.trans (a.2.1 o i).1, (b.2.1 o i).2.trans (a.2.1 o i).2⟩, fun o i => (b.2.2.1 o i).trans (a.2.2.1 o i), fun c o i q => (b.2.2.2 c o i q).trans (a.2.2.2 c o i q)⟩
theorem Nx.i (h : Hp) (c o k : Nat) (v : Int32) (hc : c ≠ 3 ∧ c ≠ 5) : Nx h (sI h c o k v) := ⟨fun _ _ => ⟨if_neg (fun q => hc.1 q.1.symm), rfl⟩, fun _ _ => ⟨if_neg (fun q => hc.2 q.1.symm), rfl⟩, fun _ _ => rfl, fun _ _ _ _ => rfl⟩
theorem Nx.a (h : Hp) (c o k i : Nat) (v : Int32) (hc : c ≠ 3 ∧ c ≠ 5 ∧ c ≠ 0) : Nx h (sA h c o k i v) := ⟨fun _ _ => ⟨rfl, if_neg (fun q => hc.1 q.1.symm)⟩, fun _ _ => ⟨rfl, if_neg (fun q => hc.2.1 q.1.symm)⟩, fun _ _ => if_neg (fun q => hc.2.2 q.1.symm), fun _ _ _ _ => rfl⟩
theorem Nx.af (h : Hp) (c o k : Nat) (f : Nat → Int32) (hc : c ≠ 3 ∧ c ≠ 5 ∧ c ≠ 0) : Nx h (sAf h c o k f) := ⟨fun _ _ => ⟨rfl, if_neg (fun q => hc.1 q.1.symm)⟩, fun _ _ => ⟨rfl, if_neg (fun q => hc.2.1 q.1.symm)⟩, fun _ _ => if_neg (fun q => hc.2.2 q.1.symm), fun _ _ _ _ => rfl⟩
theorem Nx.sd {h g : Hp} (f : Nx h g) {o t : Nat} {T : Txt} {S : Str} (s : Sd h o t T S) : Sd g o t T S := by
  obtain ⟨s1, s2, s3, s4, s5⟩ := s
  have e0 : gA g 0 t = gA h 0 t := funext fun k => f.2.2.1 t k
  refine ⟨(f.2.2.2 3 o 10 (by decide)).trans s1, ?_, by rw [e0]; exact s3, s4, ?_⟩
  · unfold txt at s2 ⊢
    rw [e0, show gA g 5 t = gA h 5 t from funext fun k => (f.2.1 t k).2, show gI g 5 t = gI h 5 t from funext fun k => (f.2.1 t k).1]
    exact s2
  · rw [show vw g o = vw h o from Prod.ext (funext fun k => (f.1 o k).2) (funext fun k => (f.1 o k).1)]; exact s5
theorem RC.nx {h g : Hp} {t : Nat} {T : Txt} {S I : Str} {X X' : Xs} (r : RC h t T S I X) (f : Nx h g) (e : ex g t = X') (e7 : ¬ X'.2 7 = 0 → ¬ X.2 7 = 0) : RC g t T S I X' := by
  have s1 := f.sd r.sd
  obtain ⟨⟨k1, k2, k3, k4, k5, k6⟩, r2, r3, r4, r5⟩ := r
  have c : ∀ {o : Nat} {Q : Str}, CSt h o t T Q → CSt g o t T Q := fun q => by
    have := f.sd (⟨q.1, k4, k6, k5, q.2⟩ : Sd h _ t T _)
    exact ⟨this.1, this.2.2.2.2⟩
  exact ⟨⟨k1, (f.2.2.2 7 0 13 (by decide)).trans k2, (f.2.2.2 7 0 14 (by decide)).trans k3, s1.2.1, k5, s1.2.2.1⟩, c r2, c r3, e, fun q => c (r5 (e7 q))⟩
def uX2 (X : Xs) (k : Nat) (v : Int32) : Xs := (X.1, fun j => if j = k then v else X.2 j)
/-- eight numbers -/
theorem fun8 {f g : Nat → Int32} (h : ∀ k, k < 8 → f k = g k) (hf : ∀ k, f (k + 8) = f 7) (hg : ∀ k, g (k + 8) = g 7) : f = g := funext fun k => by
  by_cases z : k < 8
  · exact h k z
  · obtain ⟨j, rfl⟩ : ∃ j, k = j + 8 := ⟨k - 8, by omega⟩
    rw [hf, hg]; exact h 7 (by omega)

