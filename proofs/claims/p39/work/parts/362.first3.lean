-- the law's first text, parsed
def tx1 (L C H W : Nat) : List Int32 := (((((((([] ++ cst 0) ++ dgL L) ++ cst 1) ++ dgL C) ++ cst 2) ++ dgL H) ++ cst 3) ++ dgL W) ++ cst 4
def wSt : List Int32 := [115, 116, 114, 105, 112, 101]
def wCr : List Int32 := [99, 114, 111, 102, 116]
def wFi : List Int32 := [102, 105, 101, 108, 100]
def r3_ (W : Nat) : List Int32 := wFi ++ 32 :: ([97] ++ 32 :: (dgL W ++ 32 :: (dgL 0 ++ 59 :: [])))
def r2_ (C H W : Nat) : List Int32 := wCr ++ 32 :: ([97] ++ 32 :: (dgL C ++ 32 :: (dgL H ++ 32 :: (dgL 0 ++ 59 :: r3_ W))))
theorem tx1_e (L C H W : Nat) : tx1 L C H W = wSt ++ 32 :: (dgL L ++ 59 :: r2_ C H W) := by
  have e0 : cst 0 = wSt ++ [32] := rfl
  have e1 : cst 1 = 59 :: (wCr ++ 32 :: ([97] ++ [32])) := rfl
  have e2 : cst 2 = [32] := rfl
  have e3 : cst 3 = 32 :: (dgL 0 ++ 59 :: (wFi ++ 32 :: ([97] ++ [32]))) := rfl
  have e4 : cst 4 = 32 :: (dgL 0 ++ 59 :: []) := rfl
  unfold tx1 r2_ r3_
  rw [e0, e1, e2, e3, e4]
  simp only [List.nil_append, List.append_assoc, List.cons_append]
theorem tk_a (r : List Int32) : tkK (32 :: ([97] ++ 32 :: r)) = (3, 0, nI 33554432, 32 :: r) := by
  rw [tkK_sp, tkK_word (w := [97]) (c := 32) (r := r) (by decide) (by decide) (by decide) (by decide)]
  have e1 : wdK (List.map (fun x => x.toNatClampNeg) [(97 : Int32)]) = 3 := by decide +kernel
  have e2 : nI (pckL (List.map (fun x => x.toNatClampNeg) [(97 : Int32)]) 6) = nI 33554432 := by decide +kernel
  rw [e1, e2]
theorem tk_st (r : List Int32) : (tkK (wSt ++ 32 :: r)).1 = 256 ∧ (tkK (wSt ++ 32 :: r)).2.2.2 = 32 :: r := by
  rw [tkK_word (w := wSt) (c := 32) (r := r) (by decide) (by decide) (by decide) (by decide)]
  exact ⟨show wdK (List.map (fun x => x.toNatClampNeg) wSt) = 256 by decide +kernel, rfl⟩
theorem tk_cr (r : List Int32) : (tkK (wCr ++ 32 :: r)).1 = 257 ∧ (tkK (wCr ++ 32 :: r)).2.2.2 = 32 :: r := by
  rw [tkK_word (w := wCr) (c := 32) (r := r) (by decide) (by decide) (by decide) (by decide)]
  exact ⟨show wdK (List.map (fun x => x.toNatClampNeg) wCr) = 257 by decide +kernel, rfl⟩
theorem tk_fi (r : List Int32) : (tkK (wFi ++ 32 :: r)).1 = 258 ∧ (tkK (wFi ++ 32 :: r)).2.2.2 = 32 :: r := by
  rw [tkK_word (w := wFi) (c := 32) (r := r) (by decide) (by decide) (by decide) (by decide)]
  exact ⟨show wdK (List.map (fun x => x.toNatClampNeg) wFi) = 258 by decide +kernel, rfl⟩
theorem li_st {L : Nat} (hL : L < 300) (r : List Int32) : liP (wSt ++ 32 :: (dgL L ++ 59 :: r)) D0 = some (59 :: r, ([L], [], [], [], (0, 0, 0, 0, 0, 0), none)) := by
  obtain ⟨a, b⟩ := tk_st (dgL L ++ 59 :: r)
  unfold liP
  rw [if_pos a]
  unfold stP
  rw [b, numP_n (by omega) (by omega) (by decide), if_pos (show D0.1.length < 8 by decide)]
  rfl
theorem li_cr {C H : Nat} (hC : C < 6) (hH : H < 10) (L : Nat) (r : List Int32) : liP (wCr ++ 32 :: ([97] ++ 32 :: (dgL C ++ 32 :: (dgL H ++ 32 :: (dgL 0 ++ 59 :: r))))) ([L], [], [], [], (0, 0, 0, 0, 0, 1), none) = some (59 :: r, ([L], [(33554432, C, H, 0)], [], [], (0, 0, 0, 0, 0, 1), none)) := by
  obtain ⟨a, b⟩ := tk_cr ([97] ++ 32 :: (dgL C ++ 32 :: (dgL H ++ 32 :: (dgL 0 ++ 59 :: r))))
  unfold liP
  rw [if_neg (by rw [a]; decide), if_pos a]
  unfold crP
  rw [b, tk_a]
  simp only []
  rw [numP_n (v := C) (by omega) (by omega) (by decide)]
  simp only [Option.bind_some]
  rw [numP_n (v := H) (by omega) (by omega) (by decide)]
  simp only [Option.bind_some]
  rw [numP_n (v := 0) (by omega) (by omega) (by decide)]
  simp only [Option.bind_some]
  rw [if_pos ⟨by decide, trivial, rfl⟩]
  rfl
theorem li_fi {W : Nat} (hW : W < 100) (L C H : Nat) (r : List Int32) : liP (wFi ++ 32 :: ([97] ++ 32 :: (dgL W ++ 32 :: (dgL 0 ++ 59 :: r)))) ([L], [(33554432, C, H, 0)], [], [], (0, 0, 0, 0, 0, 2), none) = some (59 :: r, ([L], [(33554432, C, H, 0)], [(0, W, 0)], [], (0, 0, 0, 0, 0, 2), none)) := by
  obtain ⟨a, b⟩ := tk_fi ([97] ++ 32 :: (dgL W ++ 32 :: (dgL 0 ++ 59 :: r)))
  have i0 : idC [(33554432, C, H, 0)] (nI 33554432) 0 = nI 0 := if_pos rfl
  unfold liP
  rw [if_neg (by rw [a]; decide), if_neg (by rw [a]; decide), if_pos a]
  unfold fiP
  rw [b, tk_a]
  simp only [i0]
  rw [numP_n (v := W) (by omega) (by omega) (by decide)]
  simp only [Option.bind_some]
  rw [numP_n (v := 0) (by omega) (by omega) (by decide)]
  simp only [Option.bind_some]
  rw [if_pos (by show 1 ≤ 4; omega), if_pos ⟨by decide, trivial, by decide, by decide⟩]
  rfl
theorem dp_1 {L C H W : Nat} (hL : L < 300) (hC : C < 6) (hH : H < 10) (hW : W < 100) : pL 20 (tx1 L C H W) D0 = some (D1 L C H W) := by
  rw [tx1_e]
  rw [pL_step (by rw [(tk_st _).1]; decide) (li_st hL _) (by rw [tkK_semi]), tkK_semi]
  show pL 19 (r2_ C H W) ([L], [], [], [], (0, 0, 0, 0, 0, 1), none) = _
  unfold r2_
  rw [pL_step (by rw [(tk_cr _).1]; decide) (li_cr hC hH L _) (by rw [tkK_semi]), tkK_semi]
  show pL 18 (r3_ W) ([L], [(33554432, C, H, 0)], [], [], (0, 0, 0, 0, 0, 2), none) = _
  unfold r3_
  rw [pL_step (by rw [(tk_fi _).1]; decide) (li_fi hW L C H _) (by rw [tkK_semi]), tkK_semi]
  rfl
theorem tx1_by {L C H W : Nat} (hL : L < 300) (hC : C < 6) (hH : H < 10) (hW : W < 100) : (tx1 L C H W).length ≤ 60 ∧ ∀ x ∈ tx1 L C H W, x = nI x.toNatClampNeg ∧ x.toNatClampNeg < 128 := by
  have g : ∀ v : Fin 1000, (dgL v).length ≤ 3 ∧ ∀ x ∈ dgL v, x = nI x.toNatClampNeg ∧ x.toNatClampNeg < 128 := by decide +kernel
  have c : ∀ i : Fin 5, ∀ x ∈ cst i, x = nI x.toNatClampNeg ∧ x.toNatClampNeg < 128 := fun i => (cst_by i.1 (Nat.lt_trans i.2 (by decide))).2
  obtain ⟨l1, m1⟩ := g ⟨L, by omega⟩
  obtain ⟨l2, m2⟩ := g ⟨C, by omega⟩
  obtain ⟨l3, m3⟩ := g ⟨H, by omega⟩
  obtain ⟨l4, m4⟩ := g ⟨W, by omega⟩
  unfold tx1
  refine ⟨?_, fun x hx => ?_⟩
  · simp only [List.length_append]
    have e0 : (cst 0).length = 7 := rfl
    have e1 : (cst 1).length = 9 := rfl
    have e2 : (cst 2).length = 1 := rfl
    have e3 : (cst 3).length = 11 := rfl
    have e4 : (cst 4).length = 3 := rfl
    have l1 : (dgL L).length ≤ 3 := l1
    have l2 : (dgL C).length ≤ 3 := l2
    have l3 : (dgL H).length ≤ 3 := l3
    have l4 : (dgL W).length ≤ 3 := l4
    rw [e0, e1, e2, e3, e4, List.length_nil]
    omega
  · simp only [List.mem_append] at hx
    rcases hx with (((((((((h | h) | h) | h) | h) | h) | h) | h) | h) | h)
    · cases h
    · exact c 0 x h
    · exact m1 x h
    · exact c 1 x h
    · exact m2 x h
    · exact c 2 x h
    · exact m3 x h
    · exact c 3 x h
    · exact m4 x h
    · exact c 4 x h
