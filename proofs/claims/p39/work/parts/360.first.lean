-- the law's first text: its loop's hours
def D1 (L C H W : Nat) : DT := ([L], [(33554432, C, H, 0)], [(0, W, 0)], [], (0, 0, 0, 0, 0, 3), none)
/-- the strand: what lies, what was got, what was gained, the hour -/
def E1 (C H l g w k : Nat) : Str := (fun a i => if i = 0 then (if a = 0 then nI l else if a = 2 then nI C else if a = 3 then nI H else if a = 6 then nI w else if a = 9 then nI g else 0) else 0, fun j => if j = 11 then nI k else if j = 16 then 1 else 0)
def nCart (C H l : Nat) : Nat := if 5 * C - H < l then 5 * C - H else l
section First
variable {L C H W l g w k : Nat}
theorem n_1 (L C H W : Nat) : nSt (T0 (D1 L C H W)) = 1 ∧ nCr (T0 (D1 L C H W)) = 1 ∧ nFi (T0 (D1 L C H W)) = 1 ∧ nTi (T0 (D1 L C H W)) = 0 := ⟨clN (a := 1) (by omega), clN (a := 1) (by omega), clN (a := 1) (by omega), clN (a := 0) (by omega)⟩
theorem wor_1 (hW : W < 100) (hg : g < 300) : worM (T0 (D1 L C H W)) (E1 C H l g w k) 0 = nI (W - g) := pw_W ⟨W, hW⟩ ⟨g, hg⟩
theorem load_1 (hC : C < 6) (hH : H < 10) (hl : l < 300) : loadM (T0 (D1 L C H W)) (E1 C H l g w k) 0 (nI l) = nI (nCart C H l) := by
  have e : loadM (T0 (D1 L C H W)) (E1 C H l g w k) 0 (nI l) = if nI l < pwM ((5 * nI C - nI H).toInt64) 99 then nI l else pwM ((5 * nI C - nI H).toInt64) 99 := rfl
  have e2 : pwM ((5 * nI C - nI H).toInt64) 99 = nI (5 * C - H) := pw_C ⟨C, hC⟩ ⟨H, hH⟩
  rw [e, e2]
  unfold nCart
  by_cases z : l < 5 * C - H
  · rw [if_pos (nI_lt z (by omega)), if_neg (by omega)]
  · rw [if_neg (nI_nlt (Nat.le_of_not_lt z) (by omega))]
    by_cases y : 5 * C - H < l
    · rw [if_pos y]
    · rw [if_neg y]
      congr 1
      omega
theorem cr_1 (hk : k < 100) : crM (T0 (D1 L C H W)) (E1 C H l g w k) 1 = cartM (T0 (D1 L C H W)) (E1 C H l g w k) 0 := by
  show (if nI k < 0 then E1 C H l g w k else actM (T0 (D1 L C H W)) (E1 C H l g w k) 0) = _
  rw [if_neg (show ¬ nI k < 0 from Int32.not_lt.mpr (leN (a := 0) (Nat.zero_le _) (by omega)))]
  have d : doesM (T0 (D1 L C H W)) (E1 C H l g w k) 0 = 1 := by
    unfold doesM
    rw [if_pos (show (E1 C H l g w k).1 5 0 = 0 from rfl), if_neg (fun q => absurd q.1 (show ¬ (0 : Int32) = 2 by decide))]
  unfold actM
  rw [if_pos d]
theorem src_1 (b : Bool) (hl : l < 300) : srcM (T0 (D1 L C H W)) (E1 C H l g w k) (nI 0) b = if l = 0 then -2 else nI 0 := by
  have e1 : nSt (T0 (D1 L C H W)) = 1 := (n_1 L C H W).1
  have e : scM (T0 (D1 L C H W)) (E1 C H l g w k) (nI 0) 1 = if l = 0 then (-2, 0) else (nI 0, nI l) := by
    show (if (scM (T0 (D1 L C H W)) (E1 C H l g w k) (nI 0) 0).2 < (E1 C H l g w k).1 0 0 ∧ (¬ (E1 C H l g w k).2 14 = 1 ∨ (E1 C H l g w k).1 1 0 = nI 0) then (nI 0, (E1 C H l g w k).1 0 0) else scM (T0 (D1 L C H W)) (E1 C H l g w k) (nI 0) 0) = _
    have q0 : (E1 C H l g w k).1 0 0 = nI l := rfl
    have q1 : (scM (T0 (D1 L C H W)) (E1 C H l g w k) (nI 0) 0).2 = nI 0 := rfl
    rw [q0, q1]
    by_cases z : l = 0
    · rw [if_pos z, if_neg (fun q => absurd q.1 (by rw [z]; decide))]
      rfl
    · rw [if_neg z, if_pos ⟨nI_lt (a := 0) (by omega) (by omega), Or.inl (show ¬ (0 : Int32) = 1 by decide)⟩]
  unfold srcM
  rw [e1, e, if_neg (fun q => absurd q.1 (show ¬ (0 : Int32) = 2 by decide)), if_neg (fun q => absurd q.2.1 (show ¬ (0 : Int32) < 0 by decide))]
  by_cases z : l = 0
  · rw [if_pos z, if_pos z]
  · rw [if_neg z, if_neg z]
theorem pass_1 (hC : C < 6) (hH : H < 10) (hW : W < 100) (hl : l < 300) (hg : g < 300) (hw : w < 100000) (hk : k < 100) : Sq (T0 (D1 L C H W)) (passM (T0 (D1 L C H W)) (E1 C H l g w k)) (E1 C H (l - nCart C H l) (g + nCart C H l) (w + nCart C H l * (W - g)) (k + 1)) := by
  obtain ⟨n1, n2, n3, n4⟩ := n_1 L C H W
  obtain ⟨T, hT⟩ : ∃ T, T = T0 (D1 L C H W) := ⟨_, rfl⟩
  obtain ⟨E, hE⟩ : ∃ E, E = E1 C H l g w k := ⟨_, rfl⟩
  have td : ∀ S, tdM T S = S := fun S => by
    unfold tdM tideM
    rw [hT, n4]
    exact if_neg (fun q => absurd q.2 (by simp))
  have c1 : crM T E (nCr T) = cartM T E 0 := by rw [hT, n2, hE]; exact cr_1 hk
  have nl : nCart C H l ≤ l := by unfold nCart; split <;> omega
  have p0 : passM T E = upI (cartM T E 0) 11 ((cartM T E 0).2 11 + 1) := by unfold passM; rw [c1, td]
  rw [← hT, ← hE, p0]
  have s1 : srcM T E (nI 0) false = if l = 0 then -2 else nI 0 := by rw [hT, hE]; exact src_1 false hl
  by_cases z : l = 0
  · rw [if_pos z] at s1
    have c2 : cartM T E 0 = E := by unfold cartM; rw [if_pos s1]
    have n0 : nCart C H l = 0 := by omega
    rw [c2, n0, Nat.zero_mul, Nat.add_zero, Nat.add_zero, Nat.sub_zero, hE]
    refine ⟨fun s hs => ⟨rfl, rfl⟩, fun c hc => ⟨rfl, rfl, rfl, rfl, rfl, rfl⟩, fun f hf => rfl, fun j a b => ?_⟩
    rcases (show j = 11 ∨ j = 12 ∨ j = 13 ∨ j = 14 ∨ j = 15 ∨ j = 16 by omega) with rfl | rfl | rfl | rfl | rfl | rfl
    · exact nI_1 k
    · rfl
    · rfl
    · rfl
    · rfl
    · rfl
  · rw [if_neg z] at s1
    have th : thereM E (nI 0) = nI l := by rw [hE]; rfl
    have ld : loadM T E 0 (nI l) = nI (nCart C H l) := by rw [hT, hE]; exact load_1 hC hH hl
    have bf : bfM T E (nI 0) (nFi T) = (nI 0, nI (W - g)) := by
      rw [hT, n3, hE]
      show (if nI 0 = nI 0 ∧ (-1 : Int32) < worM (T0 (D1 L C H W)) (E1 C H l g w k) 0 then (nI 0, worM (T0 (D1 L C H W)) (E1 C H l g w k) 0) else (-1, -1)) = _
      rw [wor_1 hW hg, if_pos ⟨rfl, Int32.lt_of_lt_of_le (by decide) (leN (a := 0) (Nat.zero_le _) (by omega))⟩]
    have c2 : cartM T E 0 = gotM (lessM E (nI 0) (nI (nCart C H l))) 0 0 (nI (W - g)) (nI (nCart C H l)) := by
      unfold cartM
      rw [s1, th, ld, bf, if_neg (show ¬ nI 0 = (-2 : Int32) by decide), if_neg (show ¬ nI 0 = (-1 : Int32) by decide)]
      rfl
    rw [c2, hE]
    have e0 : nI l - nI (nCart C H l) = nI (l - nCart C H l) := nI_sub nl
    have e6 : nI w + nI (W - g) * nI (nCart C H l) = nI (w + nCart C H l * (W - g)) := by rw [nI_mulN, nI_add, Nat.mul_comm]
    have e9 : nI g + nI (nCart C H l) = nI (g + nCart C H l) := nI_add _ _
    refine ⟨fun s hs => ?_, fun c hc => ?_, fun f hf => ?_, fun j a b => ?_⟩
    · rw [hT, n1] at hs
      have : s = 0 := by omega
      subst this
      exact ⟨e0, rfl⟩
    · rw [hT, n2] at hc
      have : c = 0 := by omega
      subst this
      exact ⟨rfl, rfl, rfl, rfl, e6, rfl⟩
    · rw [hT, n3] at hf
      have : f = 0 := by omega
      subst this
      exact e9
    · rcases (show j = 11 ∨ j = 12 ∨ j = 13 ∨ j = 14 ∨ j = 15 ∨ j = 16 by omega) with rfl | rfl | rfl | rfl | rfl | rfl
      · exact nI_1 k
      · rfl
      · rfl
      · rfl
      · rfl
      · rfl
end First
