-- PURE: images, by the class
/-- strand o copied from p; nothing else changed -/
theorem Sd.copyA {h : Hp} {o p t : Nat} {T : Txt} {S : Str} (s : Sd h p t T S) (hp : ¬ p = o) (hz : S.2 16 = 1) : ∃ g, f_X3_copy h o p = some g ∧ (∀ c o' k, ¬ (c = 3 ∧ o' = o) → gI g c o' k = gI h c o' k ∧ gA g c o' k = gA h c o' k ∧ gO g c o' k = gO h c o' k) ∧ (∀ c o' k, gL g c o' k = gL h c o' k) ∧ Sd g o t T S ∧ ∀ q, ¬ q = o → ∀ S', Sd h q t T S' → Sd g q t T S' := by
  obtain ⟨s1, s2, s3, s4, s5⟩ := s
  have hz' : gI h 3 p 16 = 0 ∨ gI h 3 p 16 = 1 := by
    have : gI h 3 p 16 = S.2 16 := s5.2.2.2 16 (by omega) (by omega)
    rw [this]; exact Or.inr hz
  obtain ⟨S', e, c⟩ := cl_copy h hp s1 hz'
  have tx : txt (M3 (sO h 3 o 10 t) o S' h.2.2.2.2) t = T := by rw [txt_M3]; exact s2
  have lw : gA (M3 (sO h 3 o 10 t) o S' h.2.2.2.2) 0 t = gA h 0 t := funext fun k => M3_A0 _ _ _ _ t k
  refine ⟨_, e, fun c o' k q => ⟨if_neg q, if_neg q, ?_⟩, fun _ _ _ => rfl, ⟨?_, tx, by rw [lw]; exact s3, s4, ?_⟩, ?_⟩
  · show at3 h.2.2.1 3 o 10 (some t) c o' k = h.2.2.1 c o' k
    unfold at3
    rw [if_neg (fun z => q ⟨z.1, z.2.1⟩)]
  · show at3 h.2.2.1 3 o 10 (some t) 3 o 10 = some t
    exact at3_s _ _ _ _ _
  · rw [vw_M3]; exact (Cp.sq s4 c).tr s5
  · intro q hq S2 s
    obtain ⟨u1, u2, u3, u4, u5⟩ := s
    refine ⟨?_, by rw [txt_M3]; exact u2, by rw [lw]; exact u3, u4, ?_⟩
    · show at3 h.2.2.1 3 o 10 (some t) 3 q 10 = some t
      unfold at3
      rw [if_neg (fun z => hq z.2.1)]
      exact u1
    · rw [show vw (M3 (sO h 3 o 10 t) o S' h.2.2.2.2) q = vw h q from Prod.ext (funext fun k => M3_Ap (sO h 3 o 10 t) S' h.2.2.2.2 k hq) (funext fun k => M3_Ip (sO h 3 o 10 t) S' h.2.2.2.2 k hq)]
      exact u5
def uX7 (X : Xs) (v : Int32) : Xs := (X.1, fun j => if 7 ≤ j then v else X.2 j)
section Image
variable {N : Nat} {h g : Hp} {t : Nat} {T : Txt} {S I : Str} {X : Xs}
theorem ex_oth {o : Nat} (f : ∀ c o' k, ¬ (c = 3 ∧ o' = o) → gI g c o' k = gI h c o' k ∧ gA g c o' k = gA h c o' k ∧ gO g c o' k = gO h c o' k) (t : Nat) : ex g t = ex h t := by
  have i : ∀ c o k, c ≠ 3 → gI g c o k = gI h c o k := fun c o k q => (f c o k (fun z => q z.1)).1
  have a : ∀ c o k, c ≠ 3 → gA g c o k = gA h c o k := fun c o k q => (f c o k (fun z => q z.1)).2.1
  unfold ex
  rw [a 6 0 0 (by decide), a 6 0 1 (by decide), a 6 0 2 (by decide), a 2 0 0 (by decide), a 2 0 1 (by decide), a 2 0 2 (by decide), a 4 0 0 (by decide), a 4 0 1 (by decide), i 6 0 3 (by decide), i 2 0 4 (by decide), i 2 0 5 (by decide), i 4 0 2 (by decide), i 7 0 16 (by decide), i 7 0 17 (by decide), i 0 t 6 (by decide), i 7 0 15 (by decide)]
theorem cl_keep (r : RC h t T S I X) (hz : S.2 16 = 1) : ∃ g, f_X7_keep h = some (S.2 11, g) ∧ RC g t T S S (uX7 X 1) ∧ K8 h g := by
  obtain ⟨g1, e1, f1, l1, d1, k1⟩ := r.sd.copyA (o := 2) (by decide) hz
  have n1 := k1 1 (by decide) S r.sd
  have n0 := k1 0 (by decide) (bgM T) r.sd0
  have e11 : gI (sZ g1 7 0 15 true) 3 1 11 = S.2 11 := n1.2.2.2.2.2.2.2 11 (by omega) (by omega)
  have nx : Nx g1 (sZ g1 7 0 15 true) := Nx.i g1 7 0 15 (b2i true) (by decide)
  have s1 := nx.sd n1
  have s0 := nx.sd n0
  have s2 := nx.sd d1
  unfold f_X7_keep
  rw [e1, bind_s, lt_e, e11]
  refine ⟨_, rfl, ⟨⟨r.1.1, (f1 7 0 13 (by omega)).2.2.trans r.1.2.1, (f1 7 0 14 (by omega)).2.2.trans r.1.2.2.1, s1.2.1, r.1.2.2.2.2.1, s1.2.2.1⟩, ⟨s1.1, s1.2.2.2.2⟩, ⟨s0.1, s0.2.2.2.2⟩, ?_, fun _ => ⟨s2.1, s2.2.2.2.2⟩⟩, ?_⟩
  · have e := (ex_oth f1 t).trans r.2.2.2.1
    refine Prod.ext ?_ (fun8 (fun j hj => ?_) (fun _ => rfl) (fun j => ?_))
    · rw [← e]; rfl
    · show (ex (sZ g1 7 0 15 true) t).2 j = if 7 ≤ j then 1 else X.2 j
      rw [← e]
      rcases (show j = 0 ∨ j = 1 ∨ j = 2 ∨ j = 3 ∨ j = 4 ∨ j = 5 ∨ j = 6 ∨ j = 7 by omega) with rfl | rfl | rfl | rfl | rfl | rfl | rfl | rfl <;> rfl
    · show (if 7 ≤ j + 8 then 1 else X.2 (j + 8)) = if 7 ≤ 7 then 1 else X.2 7
      rw [if_pos (by omega), if_pos (by omega)]
  · intro k
    exact ⟨((K8.i g1 7 0 15 (b2i true) (by decide)) k).1.trans (f1 8 0 k (by omega)).1, l1 8 0 k, (f1 8 0 k (by omega)).2.2, (f1 8 0 k (by omega)).2.1⟩
theorem cl_back (r : RC h t T S I X) (hzI : ¬ X.2 7 = 0 → I.2 16 = 1) : ∃ g, f_X7_back h = some (if ¬ X.2 7 = 0 then I.2 11 else -1, g) ∧ RC g t T (if ¬ X.2 7 = 0 then I else S) I (if ¬ X.2 7 = 0 then uX2 X 0 0 else X) ∧ K8 h g := by
  have e15 : gI h 7 0 15 = X.2 7 := by rw [← r.2.2.2.1]; rfl
  have z15 : gZ h 7 0 15 = decide (¬ X.2 7 = 0) := by unfold gZ; rw [e15]
  unfold f_X7_back
  rw [z15]
  by_cases q : X.2 7 = 0
  · rw [decide_eq_false (fun w => w q), if_neg (show ¬ ¬ b2i false = 0 by decide), if_neg (fun w => w q), if_neg (fun w => w q), if_neg (fun w => w q)]
    exact ⟨h, rfl, r, K8.rf h⟩
  · rw [decide_eq_true q, if_pos (show ¬ b2i true = 0 by decide), if_pos q, if_pos q, if_pos q]
    have sI2 : Sd h 2 t T I := ⟨(r.2.2.2.2 q).1, r.1.2.2.2.1, r.1.2.2.2.2.2, r.1.2.2.2.2.1, (r.2.2.2.2 q).2⟩
    obtain ⟨g1, e1, f1, l1, d1, k1⟩ := sI2.copyA (o := 1) (by decide) (hzI q)
    have n0 := k1 0 (by decide) (bgM T) r.sd0
    have n2 := k1 2 (by decide) I sI2
    have r1 : RC g1 t T I I X := ⟨⟨r.1.1, (f1 7 0 13 (by omega)).2.2.trans r.1.2.1, (f1 7 0 14 (by omega)).2.2.trans r.1.2.2.1, d1.2.1, r.1.2.2.2.2.1, d1.2.2.1⟩, ⟨d1.1, d1.2.2.2.2⟩, ⟨n0.1, n0.2.2.2.2⟩, (ex_oth f1 t).trans r.2.2.2.1, fun _ => ⟨n2.1, n2.2.2.2.2⟩⟩
    have e11 : gI (sI g1 6 0 3 0) 3 1 11 = I.2 11 := d1.2.2.2.2.2.2.2 11 (by omega) (by omega)
    rw [e1, bind_s, lt_e, e11]
    refine ⟨_, rfl, r1.u60 0, fun k => ⟨((K8.i g1 6 0 3 0 (by decide)) k).1.trans (f1 8 0 k (by omega)).1, l1 8 0 k, (f1 8 0 k (by omega)).2.2, (f1 8 0 k (by omega)).2.1⟩⟩
end Image
