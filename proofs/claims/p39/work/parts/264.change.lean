-- PURE: changes by call, by the class
def adR (r : Nat → Int32) (z : Nat) (v : Int32) : Nat → Int32 := if z < 20 then upd r z v else upd (va_cpy r r 1 0 19) 19 v
def adX (X : Xs) (k w o : Int32) : Xs := (fun j => if j = 0 then adR (X.1 0) (X.2 0).toNatClampNeg k else if j = 1 then adR (X.1 1) (X.2 0).toNatClampNeg w else if j = 2 then adR (X.1 2) (X.2 0).toNatClampNeg o else X.1 j, fun j => if j = 0 then nI (if (X.2 0).toNatClampNeg < 20 then (X.2 0).toNatClampNeg + 1 else 20) else X.2 j)
def UX (X : Xs) : Prop := ∃ z : Nat, z ≤ 20 ∧ X.2 0 = nI z
theorem A6_at (g : Hp) (k i : Nat) (v : Int32) (j : Nat) : gA (sA g 6 0 k i v) 6 0 j = if j = k then upd (gA g 6 0 k) i v else gA g 6 0 j := by
  show at3 g.2.2.2.1 6 0 k (upd (gA g 6 0 k) i v) 6 0 j = _
  unfold at3
  by_cases z : j = k
  · rw [if_pos z, if_pos ⟨rfl, rfl, z⟩]
  · rw [if_neg z, if_neg (fun q => z q.2.2)]
    rfl
theorem Af6_at (g : Hp) (k : Nat) (f : Nat → Int32) (j : Nat) : gA (sAf g 6 0 k f) 6 0 j = if j = k then f else gA g 6 0 j := by
  show at3 g.2.2.2.1 6 0 k f 6 0 j = _
  unfold at3
  by_cases z : j = k
  · rw [if_pos z, if_pos ⟨rfl, rfl, z⟩]
  · rw [if_neg z, if_neg (fun q => z q.2.2)]
    rfl
theorem I6_at (g : Hp) (k : Nat) (v : Int32) (j : Nat) : gI (sI g 6 0 k v) 6 0 j = if j = k then v else gI g 6 0 j := by
  show at3 g.1 6 0 k v 6 0 j = _
  unfold at3
  by_cases z : j = k
  · rw [if_pos z, if_pos ⟨rfl, rfl, z⟩]
  · rw [if_neg z, if_neg (fun q => z q.2.2)]
    rfl
section Change
variable {N : Nat} {h g : Hp} {t : Nat} {T : Txt} {S I : Str} {X : Xs}
/-- put at the end of undo's rows -/
theorem add_put (h : Hp) (z : Nat) (hz : z < 20) (e3 : gI h 6 0 3 = nI z) (k w o : Int32) : ∃ g, (grd (inb (gI h 6 0 3) 20) <| lt_ (sA h 6 0 0 (gI h 6 0 3).toNatClampNeg k) fun h2 => grd (inb (gI h2 6 0 3) 20) <| lt_ (sA h2 6 0 1 (gI h2 6 0 3).toNatClampNeg w) fun h3 => grd (inb (gI h3 6 0 3) 20) <| lt_ (sA h3 6 0 2 (gI h3 6 0 3).toNatClampNeg o) fun h4 => lt_ (sI h4 6 0 3 ((gI h4 6 0 3) + 1)) fun h5 => some h5) = some g ∧ Nx h g ∧ K8 h g ∧ (∀ c o k, ¬ (c = 6) → gI g c o k = gI h c o k ∧ gA g c o k = gA h c o k) ∧ gA g 6 0 0 = upd (gA h 6 0 0) z k ∧ gA g 6 0 1 = upd (gA h 6 0 1) z w ∧ gA g 6 0 2 = upd (gA h 6 0 2) z o ∧ gI g 6 0 3 = nI (z + 1) := by
  have a1 : gI (sA h 6 0 0 z k) 6 0 3 = nI z := e3
  have a2 : gI (sA (sA h 6 0 0 z k) 6 0 1 z w) 6 0 3 = nI z := e3
  have a3 : gI (sA (sA (sA h 6 0 0 z k) 6 0 1 z w) 6 0 2 z o) 6 0 3 = nI z := e3
  have ib : inb (nI z) 20 := inb_n hz (by omega)
  rw [e3, grd_p ib, lt_e, clN (show z < 2 ^ 31 by omega), a1, grd_p ib, lt_e, clN (show z < 2 ^ 31 by omega), a2, grd_p ib, lt_e, clN (show z < 2 ^ 31 by omega), lt_e, a3, nI_1]
  refine ⟨_, rfl, ((Nx.a h 6 0 0 z k (by decide)).tr (Nx.a _ 6 0 1 z w (by decide))).tr ((Nx.a _ 6 0 2 z o (by decide)).tr (Nx.i _ 6 0 3 _ (by decide))), ((K8.a h 6 0 0 z k (by decide)).tr (K8.a _ 6 0 1 z w (by decide))).tr ((K8.a _ 6 0 2 z o (by decide)).tr (K8.i _ 6 0 3 _ (by decide))), fun c o k hc => ⟨if_neg (fun q => hc q.1), ?_⟩, ?_, ?_, ?_, ?_⟩
  · exact (if_neg (fun q => hc q.1)).trans ((if_neg (fun q => hc q.1)).trans (if_neg (fun q => hc q.1)))
  · show gA (sA (sA (sA h 6 0 0 z k) 6 0 1 z w) 6 0 2 z o) 6 0 0 = _
    rw [A6_at, if_neg (by decide), A6_at, if_neg (by decide), A6_at, if_pos rfl]
  · show gA (sA (sA (sA h 6 0 0 z k) 6 0 1 z w) 6 0 2 z o) 6 0 1 = _
    rw [A6_at, if_neg (by decide), A6_at, if_pos rfl, A6_at, if_neg (by decide)]
  · show gA (sA (sA (sA h 6 0 0 z k) 6 0 1 z w) 6 0 2 z o) 6 0 2 = _
    rw [A6_at, if_pos rfl, A6_at, if_neg (by decide), A6_at, if_neg (by decide)]
  · rw [I6_at, if_pos rfl]
theorem cl_add (r : RC h t T S I X) (u : UX X) (k w o : Int32) : ∃ g, f_X6_add h k w o = some g ∧ Nx h g ∧ RC g t T S I (adX X k w o) ∧ K8 h g := by
  obtain ⟨z, hz, e0⟩ := u
  have ex0 := r.2.2.2.1
  have e3 : gI h 6 0 3 = nI z := by rw [← e0, ← ex0]; rfl
  have x0 : gA h 6 0 0 = X.1 0 := by rw [← ex0]; rfl
  have x1 : gA h 6 0 1 = X.1 1 := by rw [← ex0]; rfl
  have x2 : gA h 6 0 2 = X.1 2 := by rw [← ex0]; rfl
  -- the memory at the end
  have fin : ∀ g, Nx h g → (∀ c o k, ¬ (c = 6) → gI g c o k = gI h c o k ∧ gA g c o k = gA h c o k) → gA g 6 0 0 = adR (X.1 0) z k → gA g 6 0 1 = adR (X.1 1) z w → gA g 6 0 2 = adR (X.1 2) z o → gI g 6 0 3 = nI (if z < 20 then z + 1 else 20) → RC g t T S I (adX X k w o) := by
    intro g n q a0 a1 a2 a3
    refine r.nx n (Prod.ext ?_ (fun8 ?_ (fun _ => rfl) (fun j => ?_))) id
    · funext j
      unfold adX
      rw [e0, clN (show z < 2 ^ 31 by omega)]
      show (ex g t).1 j = if j = 0 then adR (X.1 0) z k else if j = 1 then adR (X.1 1) z w else if j = 2 then adR (X.1 2) z o else X.1 j
      have eX : X.1 j = (ex h t).1 j := by rw [ex0]
      by_cases j0 : j = 0
      · rw [if_pos j0, j0]; exact a0
      by_cases j1 : j = 1
      · rw [if_neg j0, if_pos j1, j1]; exact a1
      by_cases j2 : j = 2
      · rw [if_neg j0, if_neg j1, if_pos j2, j2]; exact a2
      rw [if_neg j0, if_neg j1, if_neg j2, eX]
      by_cases j3 : j = 3
      · rw [j3]; exact funext fun i => congrFun (q 2 0 0 (by decide)).2 i
      by_cases j4 : j = 4
      · rw [j4]; exact funext fun i => congrFun (q 2 0 1 (by decide)).2 i
      by_cases j5 : j = 5
      · rw [j5]; exact funext fun i => congrFun (q 2 0 2 (by decide)).2 i
      by_cases j6 : j = 6
      · rw [j6]; exact (q 4 0 0 (by decide)).2
      · obtain ⟨i, rfl⟩ : ∃ i, j = i + 7 := ⟨j - 7, by omega⟩
        exact (q 4 0 1 (by decide)).2
    · intro j hj
      unfold adX
      rw [e0, clN (show z < 2 ^ 31 by omega)]
      show (ex g t).2 j = if j = 0 then nI (if z < 20 then z + 1 else 20) else X.2 j
      have eX : X.2 j = (ex h t).2 j := by rw [ex0]
      rw [eX]
      rcases (show j = 0 ∨ j = 1 ∨ j = 2 ∨ j = 3 ∨ j = 4 ∨ j = 5 ∨ j = 6 ∨ j = 7 by omega) with rfl | rfl | rfl | rfl | rfl | rfl | rfl | rfl
      · rw [if_pos rfl]; exact a3
      · exact (q 2 0 4 (by decide)).1
      · exact (q 2 0 5 (by decide)).1
      · exact (q 4 0 2 (by decide)).1
      · exact (q 7 0 16 (by decide)).1
      · exact (q 7 0 17 (by decide)).1
      · exact (q 0 t 6 (by decide)).1
      · exact (q 7 0 15 (by decide)).1
    · show X.2 (j + 8) = X.2 7
      rw [← ex0]; rfl
  unfold f_X6_add
  rw [jn_e]
  by_cases y : z < 20
  · rw [if_pos (show gI h 6 0 3 < 20 by rw [e3]; exact Int32.not_le.mp (nleN (a := 20) y (by omega)))]
    obtain ⟨g, e, n, k8, q, a0, a1, a2, a3⟩ := add_put h z y e3 k w o
    refine ⟨g, e, n, fin g n q ?_ ?_ ?_ ?_, k8⟩
    · unfold adR; rw [if_pos y, a0, x0]
    · unfold adR; rw [if_pos y, a1, x1]
    · unfold adR; rw [if_pos y, a2, x2]
    · rw [a3, if_pos y]
  · have z20 : z = 20 := by omega
    subst z20
    rw [if_neg (show ¬ gI h 6 0 3 < 20 by rw [e3]; decide)]
    have gd : ((0 ≤ (1 : Int32) ∧ 0 ≤ (0 : Int32) ∧ 0 ≤ (19 : Int32)) ∧ (1 : Int32).toNatClampNeg + (19 : Int32).toNatClampNeg ≤ 20 ∧ (0 : Int32).toNatClampNeg + (19 : Int32).toNatClampNeg ≤ 20) := by decide
    rw [grd_p gd, lt_e, grd_p gd, lt_e, grd_p gd, lt_e, lt_e, z7.1, show (1 : Int32).toNatClampNeg = 1 from rfl, show (19 : Int32).toNatClampNeg = 19 by decide]
    obtain ⟨g0, hg0⟩ : ∃ g0, g0 = sI (sAf (sAf (sAf h 6 0 0 (va_cpy (gA h 6 0 0) (gA h 6 0 0) 1 0 19)) 6 0 1 (va_cpy (gA (sAf h 6 0 0 (va_cpy (gA h 6 0 0) (gA h 6 0 0) 1 0 19)) 6 0 1) (gA (sAf h 6 0 0 (va_cpy (gA h 6 0 0) (gA h 6 0 0) 1 0 19)) 6 0 1) 1 0 19)) 6 0 2 (va_cpy (gA (sAf (sAf h 6 0 0 (va_cpy (gA h 6 0 0) (gA h 6 0 0) 1 0 19)) 6 0 1 (va_cpy (gA (sAf h 6 0 0 (va_cpy (gA h 6 0 0) (gA h 6 0 0) 1 0 19)) 6 0 1) (gA (sAf h 6 0 0 (va_cpy (gA h 6 0 0) (gA h 6 0 0) 1 0 19)) 6 0 1) 1 0 19)) 6 0 2) (gA (sAf (sAf h 6 0 0 (va_cpy (gA h 6 0 0) (gA h 6 0 0) 1 0 19)) 6 0 1 (va_cpy (gA (sAf h 6 0 0 (va_cpy (gA h 6 0 0) (gA h 6 0 0) 1 0 19)) 6 0 1) (gA (sAf h 6 0 0 (va_cpy (gA h 6 0 0) (gA h 6 0 0) 1 0 19)) 6 0 1) 1 0 19)) 6 0 2) 1 0 19)) 6 0 3 19 := ⟨_, rfl⟩
    rw [← hg0]
    have b3 : gI g0 6 0 3 = nI 19 := by rw [hg0, I6_at, if_pos rfl]; rfl
    have b0 : gA g0 6 0 0 = va_cpy (gA h 6 0 0) (gA h 6 0 0) 1 0 19 := by
      rw [hg0]
      show gA (sAf (sAf (sAf h 6 0 0 _) 6 0 1 _) 6 0 2 _) 6 0 0 = _
      rw [Af6_at, if_neg (by decide), Af6_at, if_neg (by decide), Af6_at, if_pos rfl]
    have b1 : gA g0 6 0 1 = va_cpy (gA h 6 0 1) (gA h 6 0 1) 1 0 19 := by
      rw [hg0]
      show gA (sAf (sAf (sAf h 6 0 0 _) 6 0 1 _) 6 0 2 _) 6 0 1 = _
      rw [Af6_at, if_neg (by decide), Af6_at, if_pos rfl, Af6_at, if_neg (by decide)]
    have b2 : gA g0 6 0 2 = va_cpy (gA h 6 0 2) (gA h 6 0 2) 1 0 19 := by
      rw [hg0]
      show gA (sAf (sAf (sAf h 6 0 0 _) 6 0 1 _) 6 0 2 _) 6 0 2 = _
      rw [Af6_at, if_pos rfl, Af6_at, if_neg (by decide), Af6_at, if_neg (by decide)]
    have n0 : Nx h g0 := by
      rw [hg0]
      exact ((Nx.af h 6 0 0 _ (by decide)).tr (Nx.af _ 6 0 1 _ (by decide))).tr ((Nx.af _ 6 0 2 _ (by decide)).tr (Nx.i _ 6 0 3 _ (by decide)))
    have k0 : K8 h g0 := by
      rw [hg0]
      exact ((K8.af h 6 0 0 _ (by decide)).tr (K8.af _ 6 0 1 _ (by decide))).tr ((K8.af _ 6 0 2 _ (by decide)).tr (K8.i _ 6 0 3 _ (by decide)))
    have q0 : ∀ c o k, ¬ (c = 6) → gI g0 c o k = gI h c o k ∧ gA g0 c o k = gA h c o k := by
      intro c o k hc
      rw [hg0]
      exact ⟨if_neg (fun q => hc q.1), (if_neg (fun q => hc q.1)).trans ((if_neg (fun q => hc q.1)).trans (if_neg (fun q => hc q.1)))⟩
    obtain ⟨g, e, n, k8, q, a0, a1, a2, a3⟩ := add_put g0 19 (by omega) b3 k w o
    refine ⟨g, e, n0.tr n, fin g (n0.tr n) (fun c o k hc => ⟨(q c o k hc).1.trans (q0 c o k hc).1, (q c o k hc).2.trans (q0 c o k hc).2⟩) ?_ ?_ ?_ ?_, k0.tr k8⟩
    · unfold adR; rw [if_neg (by decide), a0, b0, x0]
    · unfold adR; rw [if_neg (by decide), a1, b1, x1]
    · unfold adR; rw [if_neg (by decide), a2, b2, x2]
    · rw [a3, if_neg (by decide)]
end Change

