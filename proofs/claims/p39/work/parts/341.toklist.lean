-- PURE: tokens of a text that lies as a list
/-- from p on the tape's text is l, and no more -/
def Lp (f : Nat → Int32) (n p : Nat) (l : List Int32) : Prop := p + l.length = n ∧ ∀ i, i < l.length → f (p + i) = l.getD i 0
theorem Lp.hd {f : Nat → Int32} {n p : Nat} {b : Int32} {l : List Int32} (h : Lp f n p (b :: l)) : f p = b := h.2 0 (Nat.succ_pos _)
theorem Lp.tl {f : Nat → Int32} {n p : Nat} {b : Int32} {l : List Int32} (h : Lp f n p (b :: l)) : Lp f n (p + 1) l := ⟨by have := h.1; rw [List.length_cons] at this; omega, fun i hi => by
  have := h.2 (i + 1) (Nat.succ_lt_succ hi)
  rw [show p + 1 + i = p + (i + 1) by omega, this]
  rfl⟩
theorem Lp.run (P : Int32 → Bool) {f : Nat → Int32} {n : Nat} : ∀ (l : List Int32) (p : Nat), Lp f n p l → rnE P f (n - p) p = p + (l.takeWhile P).length ∧ Lp f n (p + (l.takeWhile P).length) (l.dropWhile P)
  | [], p, h => by
    have e : n - p = 0 := by have := h.1; simp at this; omega
    rw [e]
    exact ⟨rfl, h⟩
  | b :: l, p, h => by
    have e : n - p = (n - (p + 1)) + 1 := by have := h.1; rw [List.length_cons] at this; omega
    rw [e, rnE_s, h.hd]
    by_cases z : P b = true
    · obtain ⟨r1, r2⟩ := Lp.run P l (p + 1) h.tl
      rw [if_pos z, r1, List.takeWhile_cons_of_pos z, List.dropWhile_cons_of_pos z, List.length_cons]
      refine ⟨by omega, ?_⟩
      rw [show p + ((l.takeWhile P).length + 1) = p + 1 + (l.takeWhile P).length by omega]
      exact r2
    · rw [if_neg z, List.takeWhile_cons_of_neg (by simpa using z), List.dropWhile_cons_of_neg (by simpa using z)]
      exact ⟨rfl, h⟩
theorem Lp.lst (P : Int32 → Bool) {f : Nat → Int32} {n : Nat} : ∀ (l : List Int32) (p : Nat), Lp f n p l → lst f (l.takeWhile P).length p = (l.takeWhile P).map (·.toNatClampNeg)
  | [], _, _ => rfl
  | b :: l, p, h => by
    by_cases z : P b = true
    · rw [List.takeWhile_cons_of_pos z, List.length_cons, List.map_cons]
      show (f p).toNatClampNeg :: _ = _
      rw [h.hd, Lp.lst P l (p + 1) h.tl]
    · rw [List.takeWhile_cons_of_neg (by simpa using z)]; rfl
def nuL : List Int32 → Int32 → Int32
  | [], v => v
  | c :: l, v => if isD c = true then nuL l (if 1000000 < (v * 10 + c) - 48 then 1000000 else (v * 10 + c) - 48) else v
theorem Lp.num {f : Nat → Int32} {n : Nat} : ∀ (l : List Int32) (p : Nat) (v : Int32), Lp f n p l → cnV f (n - p) p v = nuL l v
  | [], p, v, h => by
    have e : n - p = 0 := by have := h.1; simp at this; omega
    rw [e]; rfl
  | b :: l, p, v, h => by
    have e : n - p = (n - (p + 1)) + 1 := by have := h.1; rw [List.length_cons] at this; omega
    rw [e, cnV_s, h.hd, nuL]
    by_cases z : isD b = true
    · rw [if_pos z, if_pos z]; exact Lp.num l (p + 1) _ h.tl
    · rw [if_neg z, if_neg z]
def wdK (w : List Nat) : Int32 := match (List.range 26).find? (fun k => wrdL.getD k [] == w) with
  | some k => nI (256 + cwd k)
  | none => 3
/-- a token: kind, number, letters, what is behind it -/
def tkS : List Int32 → Int32 × Int32 × Int32 × List Int32
  | [] => (0, 0, 0, [])
  | b :: r => if isL b = true then (if 6 < ((b :: r).takeWhile isL).length then (1, 0, 0, (b :: r).dropWhile isL) else (wdK (((b :: r).takeWhile isL).map (·.toNatClampNeg)), 0, nI (pckL (((b :: r).takeWhile isL).map (·.toNatClampNeg)) 6), (b :: r).dropWhile isL))
    else if isD b = true then (2, nuL (b :: r) 0, 0, (b :: r).dropWhile isD)
    else (sgC b (r.headD 0), 0, 0, (b :: r).drop (sgL b (r.headD 0)))
theorem tkS_c (b : Int32) (r : List Int32) : tkS (b :: r) = if isL b = true then (if 6 < ((b :: r).takeWhile isL).length then (1, 0, 0, (b :: r).dropWhile isL) else (wdK (((b :: r).takeWhile isL).map (·.toNatClampNeg)), 0, nI (pckL (((b :: r).takeWhile isL).map (·.toNatClampNeg)) 6), (b :: r).dropWhile isL)) else if isD b = true then (2, nuL (b :: r) 0, 0, (b :: r).dropWhile isD) else (sgC b (r.headD 0), 0, 0, (b :: r).drop (sgL b (r.headD 0))) := rfl
theorem wrd_inj : ∀ i, i < 26 → ∀ j, j < 26 → wrdL.getD i [] = wrdL.getD j [] → i = j := by decide
def tkK (l : List Int32) : Int32 × Int32 × Int32 × List Int32 := tkS (l.dropWhile isSp)
theorem wdK_of {w : List Nat} {ck : Int32} (h : (∃ k, IsW w k ∧ ck = nI (256 + cwd k)) ∨ ((∀ k, ¬ IsW w k) ∧ ck = 3)) : ck = wdK w := by
  unfold wdK
  cases hf : (List.range 26).find? (fun k => wrdL.getD k [] == w) with
  | some k =>
    have h1 := List.find?_some hf
    have hk : k < 26 := List.mem_range.mp (List.mem_of_find?_eq_some hf)
    have hw : IsW w k := ⟨hk, by simpa using h1⟩
    rcases h with ⟨j, hj, e⟩ | ⟨hn, -⟩
    · have : j = k := wrd_inj j hj.1 k hk (hj.2.trans hw.2.symm)
      rw [e, this]
    · exact absurd hw (hn k)
  | none =>
    rcases h with ⟨j, hj, -⟩ | ⟨-, e⟩
    · have := List.find?_eq_none.mp hf j (List.mem_range.mpr hj.1)
      simp only [beq_iff_eq] at this
      exact absurd hj.2 this
    · exact e
theorem Lp.drop {f : Nat → Int32} {n p : Nat} {l : List Int32} (h : Lp f n p l) (k : Nat) (hk : k ≤ l.length) : Lp f n (p + k) (l.drop k) := ⟨by have := h.1; rw [List.length_drop]; omega, fun i hi => by
  rw [List.length_drop] at hi
  rw [Nat.add_assoc, h.2 (k + i) (by omega), List.getD_eq_getElem?_getD, List.getD_eq_getElem?_getD, List.getElem?_drop]⟩
theorem tk_of {f : Nat → Int32} {n p p' : Nat} {ck cn cl : Int32} {l : List Int32} (h : Lp f n p l) (o : OC f n (rnE isSp f (n - p) p) p' ck cn cl) : ck = (tkK l).1 ∧ (ck = 2 → cn = (tkK l).2.1) ∧ (6 < ck → cl = (tkK l).2.2.1 ∨ ck < 256) ∧ (ck = 3 → cl = (tkK l).2.2.1) ∧ Lp f n p' (tkK l).2.2.2 := by
  obtain ⟨r1, r2⟩ := h.run isSp
  rw [r1] at o
  generalize p + (l.takeWhile isSp).length = a at o r2
  unfold tkK
  generalize l.dropWhile isSp = s at r2 ⊢
  cases s with
  | nil =>
    have ha : a = n := by have := r2.1; simpa using this
    subst ha
    rcases o with ⟨-, e2, e3⟩ | ⟨z, -⟩ | ⟨z, -⟩ | ⟨z, -⟩
    · rw [e2, e3]
      exact ⟨rfl, fun z => absurd z (by decide), fun z => absurd z (by decide), fun z => absurd z (by decide), r2⟩
    · exact absurd z (Nat.lt_irrefl _)
    · exact absurd z (Nat.lt_irrefl _)
    · exact absurd z (Nat.lt_irrefl _)
  | cons b r =>
    have han : a < n := by have := r2.1; rw [List.length_cons] at this; omega
    have hb := r2.hd
    rcases o with ⟨z, -⟩ | ⟨-, hL, hp, hk⟩ | ⟨-, hL, hD, hp, hk, hv⟩ | ⟨-, hL, hD, hp, hk⟩
    · exact absurd z (Nat.ne_of_lt han)
    · rw [hb] at hL
      obtain ⟨q1, q2⟩ := r2.run isL
      have q3 := Lp.lst isL _ _ r2
      have hlen : p' - a = ((b :: r).takeWhile isL).length := by rw [hp, q1]; omega
      rw [hlen, q3] at hk
      rw [q1] at hp
      rw [tkS_c, if_pos hL]
      rcases hk with ⟨h6, e⟩ | ⟨h6, e1, e2⟩
      · rw [if_pos h6, e]
        exact ⟨rfl, fun z => absurd z (by decide), fun z => absurd z (by decide), fun z => absurd z (by decide), by rw [hp]; exact q2⟩
      · rw [if_neg (by omega)]
        have ew := wdK_of e2
        refine ⟨ew, fun z => ?_, fun _ => Or.inl e1, fun _ => e1, by rw [hp]; exact q2⟩
        exfalso
        rcases e2 with ⟨k, hw, e⟩ | ⟨-, e⟩
        · rw [e] at z
          have hc : cwd k < 200 := by have := hw.1; unfold cwd; split <;> (try split) <;> (try split) <;> omega
          have := (nI_eq (a := 256 + cwd k) (b := 2) (by omega) (by decide)).mp z
          omega
        · rw [e] at z; exact absurd z (by decide)
    · rw [hb] at hL hD
      obtain ⟨q1, q2⟩ := r2.run isD
      rw [tkS_c, if_neg (by rw [hL]; decide), if_pos hD, hk, hp, q1]
      exact ⟨rfl, fun _ => hv.trans (Lp.num _ _ _ r2), fun z => absurd z (by decide), fun z => absurd z (by decide), q2⟩
    · rw [hb] at hL hD hp hk
      have hn : nxB f n a = r.headD 0 := by
        unfold nxB
        cases r with
        | nil => rw [if_neg (by have := r2.1; simp at this; omega)]; rfl
        | cons c r => rw [if_pos (by have := r2.1; simp at this; omega)]; exact r2.tl.hd
      rw [hn] at hp hk
      rw [tkS_c, if_neg (by rw [hL]; decide), if_neg (by rw [hD]; decide)]
      refine ⟨hk, fun z => ?_, fun z => ?_, fun z => ?_, ?_⟩
      · exfalso
        rw [hk] at z
        revert z
        unfold sgC
        split
        · decide
        split
        · decide
        split
        · decide
        split
        · rename_i hs
          intro z
          rw [z] at hs
          exact absurd hs (by decide)
        · decide
      · refine Or.inr ?_
        rw [hk]
        unfold sgC
        split
        · decide
        split
        · decide
        split
        · decide
        split
        · rename_i hs
          unfold isS at hs
          rcases of_decide_eq_true hs with e | e | e | e | e | e | e | e | e | e <;> rw [e] <;> decide
        · decide
      · exfalso
        rw [hk] at z
        revert z
        unfold sgC
        split
        · decide
        split
        · decide
        split
        · decide
        split
        · rename_i hs
          intro z
          rw [z] at hs
          exact absurd hs (by decide)
        · decide
      · rw [hp]
        refine r2.drop _ ?_
        unfold sgL
        split
        · rename_i h2
          cases r with
          | nil => exact absurd h2 (by
              unfold twoS
              intro z
              rcases of_decide_eq_true z with ⟨-, z⟩ | ⟨-, z⟩ | ⟨-, z⟩ <;> exact absurd z (by decide))
          | cons c r => simp
        · simp
