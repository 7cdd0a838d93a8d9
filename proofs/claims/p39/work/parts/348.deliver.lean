-- PURE: a text taken by the class, told in lists
def DOK (D : DT) : Prop := (D.1.length ≤ 8 ∧ ∀ x ∈ D.1, x ≤ 999) ∧ (D.2.1.length ≤ 4 ∧ ∀ x ∈ D.2.1, x.2.1 ≤ 5 ∧ x.2.2.1 ≤ 9 ∧ x.2.2.2 ≤ 99) ∧ (D.2.2.1.length ≤ 6 ∧ ∀ x ∈ D.2.2.1, x.1 < D.2.1.length ∧ x.2.1 ≤ 99 ∧ x.2.2 ≤ 9) ∧ (D.2.2.2.1.length ≤ 4 ∧ ∀ x ∈ D.2.2.2.1, x ≤ 23) ∧ (D.2.2.2.2.1.1 ≤ 999 ∧ D.2.2.2.2.1.2.1 ≤ 2 ∧ D.2.2.2.2.1.2.2.1 ≤ 100 ∧ D.2.2.2.2.1.2.2.2.1 ≤ 99) ∧ ∀ v, D.2.2.2.2.2 = some v → v ≤ 9999
def lawD (w : Option Nat) : Nat → (Nat → Int64) → Int64 := fun k _ => match w with
  | none => erM
  | some v => if k = 3 then (nI v).toInt64 else erM
def T0 (D : DT) : Txt := (dA D, dI D, lawD D.2.2.2.2.2)
theorem gd_mem {α : Type} {l : List α} {i : Nat} (h : i < l.length) (d : α) : l.getD i d ∈ l := by
  rw [List.getD_eq_getElem?_getD, List.getElem?_eq_getElem h]
  exact List.getElem_mem h
theorem lawM_un {A : Nat → Nat → Int32} {k : Nat} (e2 : A 2 k = 0) (e3 : A 3 k = 0) : lawM A k = fun _ => erM := funext fun _ => by
  unfold lawM
  rw [e2, e3, if_neg (by decide)]
  rfl
theorem lawM_nu {A : Nat → Nat → Int32} {v : Nat} (hv : v ≤ 9999) (e0 : A 0 0 = 2) (e1 : A 1 0 = nI v) (e2 : A 2 3 = 0) (e3 : A 3 3 = 1) : lawM A 3 = fun _ => (nI v).toInt64 := funext fun nm => by
  unfold lawM
  rw [e2, e3, if_pos (by decide)]
  show evC (A 0) (A 1) nm (0 + 1) 0 0 (fun _ => 0) = _
  rw [evC, e0, e1]
  have : stC 2 (nI v) nm 0 (fun _ => 0) = some (0, (nI v).toInt64) := rfl
  rw [this]
  have b : ¬ (1000000000000 < (nI v).toInt64 ∨ (nI v).toInt64 < -1000000000000) := by
    have t : (nI v).toInt64.toInt = v := by rw [Int32.toInt_toInt64, nI_toInt (by omega)]
    intro q
    rcases q with q | q
    · rw [Int64.lt_iff_toInt_lt, t] at q
      have : (1000000000000 : Int64).toInt = 1000000000000 := by decide
      omega
    · rw [Int64.lt_iff_toInt_lt, t] at q
      have : (-1000000000000 : Int64).toInt = -1000000000000 := by decide
      omega
  show (if _ then _ else _) = _
  rw [if_neg b]
  rfl
section Deliver
variable {N u n t p : Nat} {h g : Hp} {l : List Int32} {D : DT} {T : Txt} {S I : Str} {X : Xs}
theorem pd_td (k : DOK D) (d : PD u g D) : ∃ ri ra o7, TDd (gI g 5 u) (gA g 5 u) ri ra o7 := by
  obtain ⟨⟨s1, s2⟩, ⟨c1, c2⟩, ⟨f1, f2⟩, ⟨t1, t2⟩, ⟨q1, q2, q3, q4⟩, -⟩ := k
  obtain ⟨⟨d1, d2, d3, d4, d5⟩, -, -⟩ := d
  refine ⟨fun k => if k = 17 then nI D.1.length else if k = 18 then nI D.2.1.length else if k = 19 then nI D.2.2.1.length else nI D.2.2.2.1.length, fun k j => match k with
    | 4 => dA D 0 (j - 8)
    | 5 => dA D 1 (j - 4)
    | 6 => dA D 2 (j - 4)
    | 7 => dA D 3 (j - 4)
    | 8 => dA D 4 (j - 4)
    | 9 => dA D 5 (j - 6)
    | 10 => dA D 6 (j - 6)
    | 11 => dA D 7 (j - 6)
    | 12 => dA D 8 (j - 4)
    | 3 => dI D (j + 10)
    | _ => 0, nI 0, D.1.length, D.2.1.length, D.2.2.1.length, D.2.2.2.1.length, ⟨s1, d1 11 (by omega) (by omega), rfl, fun i hi => ?_⟩, ⟨c1, d1 12 (by omega) (by omega), rfl, fun i hi => ?_⟩, ⟨f1, d1 13 (by omega) (by omega), rfl, fun i hi => ?_⟩, ⟨t1, d1 14 (by omega) (by omega), rfl, fun i hi => ?_⟩, ⟨?_, ?_, ?_, ?_, ?_⟩, ⟨fun _ => false, rfl, fun i _ => rfl⟩⟩
  · refine ⟨D.1.getD i 0, s2 _ (gd_mem hi 0), d2 i hi, ?_⟩
    show dA D 0 (8 + i - 8) = _
    rw [Nat.add_sub_cancel_left]; rfl
  · obtain ⟨e1, e2, e3, e4⟩ := d3 i hi
    have m := c2 _ (gd_mem hi dN)
    have x : 4 + i - 4 = i := Nat.add_sub_cancel_left 4 i
    refine ⟨?_, ⟨_, m.1, e2, ?_⟩, ⟨_, m.2.1, e3, ?_⟩, ⟨_, m.2.2, e4, ?_⟩⟩
    · show _ = dA D 1 (4 + i - 4)
      rw [x]; exact e1
    · show dA D 2 (4 + i - 4) = _
      rw [x]; rfl
    · show dA D 3 (4 + i - 4) = _
      rw [x]; rfl
    · show dA D 4 (4 + i - 4) = _
      rw [x]; rfl
  · obtain ⟨e1, e2, e3⟩ := d4 i hi
    have m := f2 _ (gd_mem hi dF)
    have x : 6 + i - 6 = i := Nat.add_sub_cancel_left 6 i
    refine ⟨⟨_, m.1, e1, ?_⟩, ⟨_, m.2.1, e2, ?_⟩, ⟨_, m.2.2, e3, ?_⟩⟩
    · show dA D 5 (6 + i - 6) = _
      rw [x]; rfl
    · show dA D 6 (6 + i - 6) = _
      rw [x]; rfl
    · show dA D 7 (6 + i - 6) = _
      rw [x]; rfl
  · have m := t2 _ (gd_mem hi 0)
    refine ⟨_, m, d5 i hi, ?_⟩
    show dA D 8 (4 + i - 4) = _
    rw [Nat.add_sub_cancel_left]; rfl
  · exact ⟨_, q1, d1 15 (by omega) (by omega), rfl⟩
  · exact ⟨_, q2, d1 16 (by omega) (by omega), rfl⟩
  · exact ⟨_, q3, d1 17 (by omega) (by omega), rfl⟩
  · exact ⟨_, q4, d1 18 (by omega) (by omega), rfl⟩
  · exact ⟨0, by omega, d1 19 (by omega) (by omega), rfl⟩
theorem T0_n (D : DT) (k : DOK D) : nSt (T0 D) = D.1.length ∧ nCr (T0 D) = D.2.1.length ∧ nFi (T0 D) = D.2.2.1.length ∧ nTi (T0 D) = D.2.2.2.1.length := by
  obtain ⟨⟨s1, -⟩, ⟨c1, -⟩, ⟨f1, -⟩, ⟨t1, -⟩, -⟩ := k
  exact ⟨clN (show D.1.length < 2 ^ 31 by omega), clN (show D.2.1.length < 2 ^ 31 by omega), clN (show D.2.2.1.length < 2 ^ 31 by omega), clN (show D.2.2.2.1.length < 2 ^ 31 by omega)⟩
theorem pd_tq (k : DOK D) (d : PD u g D) : Tq (txt g u) (T0 D) ∧ Tb (txt g u) (T0 D) ∧ LOK (gA g 0 u) := by
  obtain ⟨n1, n2, n3, n4⟩ := T0_n D k
  have kv := k.2.2.2.2.2
  obtain ⟨⟨d1, d2, d3, d4, d5⟩, -, pl⟩ := d
  refine ⟨⟨fun k a b => d1 k (by omega) b, fun f hf => ?_, fun i hi => ?_, fun k hk => ?_⟩, ⟨fun s hs => ?_, fun c hc => ?_⟩, fun k hk => ?_⟩
  · rw [n3] at hf
    exact d4 f hf
  · rw [n4] at hi
    exact d5 i hi
  · show lawM (gA g 0 u) k = lawD D.2.2.2.2.2 k
    unfold PL at pl
    cases hw : D.2.2.2.2.2 with
    | none =>
      rw [hw] at pl
      rw [lawM_un (pl.2.2 k hk).1 (pl.2.2 k hk).2]; rfl
    | some v =>
      rw [hw] at pl
      obtain ⟨p1, p2, p3, p4, p5⟩ := pl
      by_cases w : k = 3
      · subst w
        rw [lawM_nu (kv v hw) p1 p2 (p3 3 hk) p4]; rfl
      · rw [lawM_un (p3 k hk) (p5 k (by omega))]
        funext nm
        show _ = if k = 3 then _ else erM
        rw [if_neg w]
  · rw [n1] at hs
    exact d2 s hs
  · rw [n2] at hc
    exact (d3 c hc).2
  · unfold PL at pl
    cases hw : D.2.2.2.2.2 with
    | none =>
      rw [hw] at pl
      exact ⟨0, 0, (pl.2.2 k hk).1, (pl.2.2 k hk).2, by omega, by omega⟩
    | some v =>
      rw [hw] at pl
      obtain ⟨p1, p2, p3, p4, p5⟩ := pl
      by_cases w : k = 3
      · subst w
        exact ⟨0, 1, p3 3 hk, p4, by omega, by omega⟩
      · exact ⟨0, 0, p3 k hk, p5 k (by omega), by omega, by omega⟩
/-- a text of n bytes, held by the tape, taken -/
theorem cl_take (hN : 1000 ≤ N) (r : RC h t T S I X) (hn : n ≤ 700) (e3 : X.2 3 = nI p) (hp : n ≤ p) (p7 : p ≤ 700) (sp : SPL (X.1 7)) (lp : Lp (X.1 6) n 0 l) (e : pL 20 l D0 = some D) (k : DOK D) : ∃ g T' X', f_X7_text N h (nI n) = some (nI (qLn D), g) ∧ RC g (1 - t) T' (bgM T') I X' ∧ Tq T' (T0 D) ∧ Tb T' (T0 D) ∧ TOK T' ∧ TR T' ∧ SI T' (bgM T') ∧ X'.1 = X.1 ∧ X'.2 0 = 0 ∧ X'.2 1 = 0 ∧ X'.2 2 = -1 ∧ X'.2 3 = 0 ∧ X'.2 7 = 0 := by
  have xa : gA h 4 0 0 = X.1 6 := by rw [← r.2.2.2.1]; rfl
  have xb : gA h 4 0 1 = X.1 7 := by rw [← r.2.2.2.1]; rfl
  obtain ⟨h2, a1, a2, a3⟩ := reads_all (u := 1 - t) (D' := D) hN hn (by rw [xb]; exact sp) (by rw [xa]; exact lp) e
  obtain ⟨ri, ra, o7, td⟩ := pd_td k a3
  obtain ⟨ok, tr, si⟩ := td_ok td
  obtain ⟨tq, tb, lk⟩ := pd_tq k a3
  obtain ⟨g, b1, b2, -⟩ := cl_textY hN r hn e3 hp p7 a1 a2 ok lk
  rw [a3.1.1 10 (by omega) (by omega)] at b1
  exact ⟨g, _, _, b1, b2, tq, tb, ok, tr, si, rfl, rfl, rfl, rfl, rfl, rfl⟩
end Deliver
