-- the law's first text: what the class answers in its loop
section First2
variable {L C H W l g w k : Nat}
theorem dk_1 (hL : L < 300) (hC : C < 6) (hH : H < 10) (hW : W < 100) : DOK (D1 L C H W) := by
  refine ⟨⟨by show 1 ≤ 8; omega, fun x hx => ?_⟩, ⟨by show 1 ≤ 4; omega, fun x hx => ?_⟩, ⟨by show 1 ≤ 6; omega, fun x hx => ?_⟩, ⟨by show 0 ≤ 4; omega, fun x hx => by cases hx⟩, ⟨by show 0 ≤ 999; omega, by show 0 ≤ 2; omega, by show 0 ≤ 100; omega, by show 0 ≤ 99; omega⟩, fun v hv => by cases hv⟩
  · have : x = L := List.mem_singleton.mp hx
    omega
  · have : x = (33554432, C, H, 0) := List.mem_singleton.mp hx
    subst this
    exact ⟨by show C ≤ 5; omega, by show H ≤ 9; omega, by show 0 ≤ 99; omega⟩
  · have : x = (0, W, 0) := List.mem_singleton.mp hx
    subst this
    exact ⟨by show 0 < 1; omega, by show W ≤ 99; omega, by show 0 ≤ 9; omega⟩
theorem E1_a (C H l g w k a : Nat) : (E1 C H l g w k).1 a 0 = if a = 0 then nI l else if a = 2 then nI C else if a = 3 then nI H else if a = 6 then nI w else if a = 9 then nI g else 0 := by
  show (if (0 : Nat) = 0 then (if a = 0 then nI l else if a = 2 then nI C else if a = 3 then nI H else if a = 6 then nI w else if a = 9 then nI g else 0) else 0) = _
  rw [if_pos rfl]
theorem bg_1st (L C H W : Nat) : Sq (T0 (D1 L C H W)) (bgM (T0 (D1 L C H W))) (E1 C H L 0 0 0) := by
  obtain ⟨n1, n2, n3, n4⟩ := n_1 L C H W
  obtain ⟨b0, b2, b3, b4, b5, b6, b7, b9⟩ := bg_a (T0 (D1 L C H W)) 0
  refine ⟨fun s hs => ?_, fun c hc => ?_, fun f hf => ?_, fun j a b => ?_⟩
  · rw [n1] at hs
    have : s = 0 := by omega
    subst this
    refine ⟨?_, ?_⟩
    · rw [b0, E1_a, if_pos rfl]; rfl
    · rw [E1_a, if_neg (by decide), if_neg (by decide), if_neg (by decide), if_neg (by decide), if_neg (by decide)]
      show (if (nI 1 : Int32) ≤ 0 then (-1 : Int32) else nI 0 - nI 0 / nI 1 * nI 1) = 0
      decide
  · rw [n2] at hc
    have : c = 0 := by omega
    subst this
    refine ⟨?_, ?_, ?_, ?_, ?_, ?_⟩
    · rw [b2, E1_a, if_neg (by decide), if_pos rfl]; rfl
    · rw [b3, E1_a, if_neg (by decide), if_neg (by decide), if_pos rfl]; rfl
    · rw [b4, E1_a, if_neg (by decide), if_neg (by decide), if_neg (by decide), if_neg (by decide), if_neg (by decide)]; rfl
    · rw [b5, E1_a, if_neg (by decide), if_neg (by decide), if_neg (by decide), if_neg (by decide), if_neg (by decide)]
    · rw [b6, E1_a, if_neg (by decide), if_neg (by decide), if_neg (by decide), if_pos rfl]; rfl
    · rw [b7, E1_a, if_neg (by decide), if_neg (by decide), if_neg (by decide), if_neg (by decide), if_neg (by decide)]
  · rw [n3] at hf
    have : f = 0 := by omega
    subst this
    rw [b9, E1_a, if_neg (by decide), if_neg (by decide), if_neg (by decide), if_neg (by decide), if_pos rfl]; rfl
  · rcases (show j = 11 ∨ j = 12 ∨ j = 13 ∨ j = 14 ∨ j = 15 ∨ j = 16 by omega) with rfl | rfl | rfl | rfl | rfl | rfl <;> rfl
theorem rl_1 (L C H W l g w k : Nat) : Sq (T0 (D1 L C H W)) (rlM (E1 C H l g w k) (nI 0)) (E1 C H l g w k) := by
  obtain ⟨n1, n2, n3, n4⟩ := n_1 L C H W
  refine ⟨fun s hs => ⟨rfl, rfl⟩, fun c hc => ?_, fun f hf => rfl, fun j a b => ?_⟩
  · rw [n2] at hc
    have : c = 0 := by omega
    subst this
    exact ⟨rfl, rfl, rfl, rfl, rfl, rfl⟩
  · rcases (show j = 11 ∨ j = 12 ∨ j = 13 ∨ j = 14 ∨ j = 15 ∨ j = 16 by omega) with rfl | rfl | rfl | rfl | rfl | rfl <;> rfl
theorem tab_1 (hL : L < 300) (hC : C < 6) (hH : H < 10) (hW : W < 100) (hl : l < 300) (hg : g < 300) (hw : w < 100000) (hk : k < 100) : tabM (T0 (D1 L C H W)) (E1 C H l g w k) (nI 0) (nI 1 : Int32).toNatClampNeg (nI 0) = nI (nCart C H l) := by
  have hT := tok_of _ (dk_1 hL hC hH hW)
  obtain ⟨n1, n2, n3, n4⟩ := n_1 L C H W
  have q := (passM_sq (rl_1 L C H W l g w k) hT).tr (pass_1 (L := L) hC hH hW hl hg hw hk)
  have e9 := q.2.2.1 0 (by rw [n3]; omega)
  have e : tabM (T0 (D1 L C H W)) (E1 C H l g w k) (nI 0) (nI 1 : Int32).toNatClampNeg (nI 0) = sumM ((passM (T0 (D1 L C H W)) (rlM (E1 C H l g w k) (nI 0))).1 9) (nFi (T0 (D1 L C H W))) - sumM ((E1 C H l g w k).1 9) (nFi (T0 (D1 L C H W))) := by
    rw [clN (a := 1) (by omega)]
    exact if_pos rfl
  rw [e, n3]
  show (0 + (passM _ _).1 9 0) - (0 + nI g) = _
  rw [e9]
  show (0 + nI (g + nCart C H l)) - (0 + nI g) = _
  rw [show (0 : Int32) = nI 0 from rfl, nI_add, nI_add, nI_sub (by omega)]
  congr 1
  omega
theorem ga_1 (L C H W l g w k : Nat) : galeM (T0 (D1 L C H W)) (E1 C H l g w k) = E1 C H l g w k := if_pos (show (nI 0 : Int32) ≤ 0 by decide)
theorem go_1 (hL : L < 300) (hC : C < 6) (hH : H < 10) (hW : W < 100) (hl : l < 300) (hg : g < 300) (hw : w < 100000) (hk : k < 100) : goA (T0 (D1 L C H W)) (E1 C H l g w k) (nI 1) = nI (k + 1) ∧ Sq (T0 (D1 L C H W)) (goS (T0 (D1 L C H W)) (E1 C H l g w k) (nI 1)) (E1 C H (l - nCart C H l) (g + nCart C H l) (w + nCart C H l * (W - g)) (k + 1)) := by
  have q := pass_1 (L := L) hC hH hW hl hg hw hk
  have gq : goQ (E1 C H l g w k) (nI 1) = true := decide_eq_true ⟨by decide, by decide, by
    show nI k + nI 1 ≤ 9999
    rw [nI_add]
    exact leN (b := 9999) (by omega) (by omega)⟩
  have pg : passG (T0 (D1 L C H W)) (E1 C H l g w k) (nI 1 : Int32).toNatClampNeg = passM (T0 (D1 L C H W)) (E1 C H l g w k) := by
    rw [clN (a := 1) (by omega)]
    show passM _ (galeM _ (E1 C H l g w k)) = _
    rw [ga_1]
  unfold goA goS
  rw [gq, if_pos rfl, if_pos rfl, pg]
  exact ⟨q.2.2.2 11 (by omega) (by omega), q⟩
theorem fld_13 (L C H W l g w k : Nat) : fldM (T0 (D1 L C H W)) (E1 C H l g w k) (nI 0) (nI 3) = nI g := rfl
theorem fld_14 (L C H l w k : Nat) (hW : W < 100) (hg : g < 300) : fldM (T0 (D1 L C H W)) (E1 C H l g w k) (nI 0) (nI 4) = nI (W - g) := (show fldM (T0 (D1 L C H W)) (E1 C H l g w k) (nI 0) (nI 4) = worM (T0 (D1 L C H W)) (E1 C H l g w k) 0 from rfl).trans (wor_1 hW hg)
theorem crf_14 (L C H W l g w k : Nat) : crfM (T0 (D1 L C H W)) (E1 C H l g w k) (nI 0) (nI 4) = nI w := rfl
theorem cou_10 (L C H W l g w k : Nat) : couM (T0 (D1 L C H W)) (E1 C H l g w k) X00 (nI 10) = nI w := by
  show sumM ((E1 C H l g w k).1 6) 1 = _
  show 0 + nI w = _
  rw [show (0 : Int32) = nI 0 from rfl, nI_add, Nat.zero_add]
theorem cou_8 (L C H W l g w k : Nat) : couM (T0 (D1 L C H W)) (E1 C H l g w k) X00 (nI 8) = nI 0 := rfl
end First2
/-- tokens of a list text, by what it begins with -/
theorem tkK_sp (l : List Int32) : tkK (32 :: l) = tkK l := by
  unfold tkK
  rw [List.dropWhile_cons_of_pos (by decide)]
theorem not_sp {b : Int32} (h : isL b = true ∨ isD b = true) : isSp b = false := by
  unfold isSp
  refine decide_eq_false (fun q => ?_)
  rcases q with rfl | rfl
  · rcases h with h | h <;> exact absurd h (by decide)
  · rcases h with h | h <;> exact absurd h (by decide)
theorem L_notD {b : Int32} (h : isL b = true) : isD b = false := by
  obtain ⟨h1, h2⟩ := of_decide_eq_true h
  exact decide_eq_false fun q => absurd (Int32.le_trans h1 q.2) (by decide)
theorem D_notL {b : Int32} (h : isD b = true) : isL b = false := by
  obtain ⟨h1, h2⟩ := of_decide_eq_true h
  exact decide_eq_false fun q => absurd (Int32.le_trans q.1 h2) (by decide)
theorem tw_app {P : Int32 → Bool} : ∀ (w : List Int32) (c : Int32) (r : List Int32), (∀ x ∈ w, P x = true) → P c = false → (w ++ c :: r).takeWhile P = w ∧ (w ++ c :: r).dropWhile P = c :: r
  | [], c, r, _, hc => ⟨List.takeWhile_cons_of_neg (by rw [hc]; decide), List.dropWhile_cons_of_neg (by rw [hc]; decide)⟩
  | a :: w, c, r, hw, hc => by
    obtain ⟨e1, e2⟩ := tw_app w c r (fun x hx => hw x (List.mem_cons_of_mem _ hx)) hc
    have ha := hw a List.mem_cons_self
    rw [List.cons_append, List.takeWhile_cons_of_pos ha, List.dropWhile_cons_of_pos ha, e1, e2]
    exact ⟨rfl, rfl⟩
theorem tkK_word {w : List Int32} {c : Int32} {r : List Int32} (hw : ∀ x ∈ w, isL x = true) (hn : w ≠ []) (h6 : w.length ≤ 6) (hc : isL c = false) : tkK (w ++ c :: r) = (wdK (w.map (·.toNatClampNeg)), 0, nI (pckL (w.map (·.toNatClampNeg)) 6), c :: r) := by
  obtain ⟨e1, e2⟩ := tw_app w c r hw hc
  cases w with
  | nil => exact absurd rfl hn
  | cons a w =>
    have ha := hw a List.mem_cons_self
    unfold tkK
    rw [List.cons_append, List.dropWhile_cons_of_neg (by rw [not_sp (Or.inl ha)]; decide), tkS_c, if_pos ha, ← List.cons_append, e1, e2, if_neg (by omega)]
theorem nuL_app : ∀ (w : List Int32) (c : Int32) (r : List Int32) (v : Int32), (∀ x ∈ w, isD x = true) → isD c = false → nuL (w ++ c :: r) v = nuL w v
  | [], c, r, v, _, hc => by
    show (if isD c = true then _ else v) = v
    rw [if_neg (by rw [hc]; decide)]
  | a :: w, c, r, v, hw, hc => by
    have ha := hw a List.mem_cons_self
    show (if isD a = true then nuL (w ++ c :: r) _ else v) = (if isD a = true then nuL w _ else v)
    rw [if_pos ha, if_pos ha, nuL_app w c r _ (fun x hx => hw x (List.mem_cons_of_mem _ hx)) hc]
theorem dg_ok : ∀ v : Fin 1000, (dgL v).all isD = true ∧ nuL (dgL v) 0 = nI v ∧ dgL v ≠ [] := by decide +kernel
theorem tkK_num {v : Nat} {c : Int32} {r : List Int32} (hv : v < 1000) (hc : isD c = false) : tkK (dgL v ++ c :: r) = (2, nI v, 0, c :: r) := by
  obtain ⟨h1, h2, h3⟩ := dg_ok ⟨v, hv⟩
  have hw : ∀ x ∈ dgL v, isD x = true := List.all_eq_true.mp h1
  have e2 := (tw_app (dgL v) c r hw hc).2
  have e3 : nuL (dgL v ++ c :: r) 0 = nI v := (nuL_app _ c r 0 hw hc).trans h2
  cases hd : dgL v with
  | nil => exact absurd hd h3
  | cons a w =>
    rw [hd] at hw e2 e3
    have ha := hw a List.mem_cons_self
    unfold tkK
    rw [List.cons_append, List.dropWhile_cons_of_neg (by rw [not_sp (Or.inr ha)]; decide), tkS_c, if_neg (by rw [D_notL ha]; decide), if_pos ha, ← List.cons_append, e2, e3]
theorem tkK_semi (r : List Int32) : tkK (59 :: r) = (59, 0, 0, r) := by
  unfold tkK
  rw [List.dropWhile_cons_of_neg (by decide), tkS_c, if_neg (by decide), if_neg (by decide)]
  have e1 : ∀ t, sgC 59 t = 59 := fun t => by
    unfold sgC
    rw [if_neg (fun q => absurd q.1 (by decide)), if_neg (fun q => absurd q.1 (by decide)), if_neg (fun q => absurd q.1 (by decide)), if_pos (by decide)]
  have e2 : ∀ t, sgL 59 t = 1 := fun t => by
    unfold sgL twoS
    rw [if_neg]
    intro q
    rcases of_decide_eq_true q with q | q | q <;> exact absurd q.1 (by decide)
  rw [e1, e2]
  rfl
theorem numP_n {m v : Nat} {c : Int32} {r : List Int32} (hv : v < 1000) (hm : v ≤ m) (hc : isD c = false) : numP m (32 :: (dgL v ++ c :: r)) = some (v, c :: r) := by
  have e : tkK (32 :: (dgL v ++ c :: r)) = (2, nI v, 0, c :: r) := (tkK_sp _).trans (tkK_num hv hc)
  unfold numP
  rw [e]
  have ev : (nI v).toNatClampNeg = v := clN (by omega)
  show (if (2 : Int32) = 2 ∧ nI v = nI (nI v).toNatClampNeg ∧ (nI v).toNatClampNeg ≤ m then some ((nI v).toNatClampNeg, c :: r) else none) = _
  rw [ev, if_pos ⟨rfl, rfl, hm⟩]
theorem pL_step {k : Nat} {l l' : List Int32} {D D' : DT} (h0 : ¬ (tkK l).1 = 0) (hl : liP l D = some (l', D')) (hs : (tkK l').1 = 59) : pL (k + 1) l D = pL k (tkK l').2.2.2 (lnS D') := by
  rw [pL_s, if_neg h0, hl]
  show (if (tkK l').1 = 59 then _ else none) = _
  rw [if_pos hs]
