-- PURE: what is told so far, by both
def upk (F : Nat → Nat → Int32) (k i : Nat) (v : Int32) : Nat → Nat → Int32 := fun k' => if k' = k then upd (F k) i v else F k'
def up1 (f : Nat → Int32) (k : Nat) (v : Int32) : Nat → Int32 := fun j => if j = k then v else f j
theorem fam_a (h : Hp) (c o k i : Nat) (v : Int32) : gA (sA h c o k i v) c o = upk (gA h c o) k i v := funext fun k' => by
  rw [GA]
  unfold upk
  by_cases z : k' = k
  · rw [if_pos z, if_pos ⟨rfl, rfl, z⟩]
  · rw [if_neg z, if_neg (fun q => z q.2.2)]
theorem fam_i (h : Hp) (c o k : Nat) (v : Int32) : gI (sI h c o k v) c o = up1 (gI h c o) k v := funext fun k' => by
  rw [GI]
  unfold up1
  by_cases z : k' = k
  · rw [if_pos z, if_pos ⟨rfl, rfl, z⟩]
  · rw [if_neg z, if_neg (fun q => z q.2.2)]
def Eq9 (m : Nat) (a b : Int32) : Prop := ∃ v : Nat, v ≤ m ∧ a = nI v ∧ b = nI v
def TdS (s : Nat) (a0 b4 : Nat → Int32) : Prop := ∀ i, i < s → Eq9 999 (a0 i) (b4 (8 + i))
def TdC (c : Nat) (ca ra : Nat → Nat → Int32) : Prop := ∀ i, i < c → ca 1 i = ra 5 (4 + i) ∧ Eq9 5 (ca 2 i) (ra 6 (4 + i)) ∧ Eq9 9 (ca 3 i) (ra 7 (4 + i)) ∧ Eq9 99 (ca 4 i) (ra 8 (4 + i))
def TdF (c f : Nat) (ca ra : Nat → Nat → Int32) : Prop := ∀ i, i < f → (∃ j, j < c ∧ ca 5 i = nI j ∧ ra 9 (6 + i) = nI j) ∧ Eq9 99 (ca 6 i) (ra 10 (6 + i)) ∧ Eq9 9 (ca 7 i) (ra 11 (6 + i))
def TdT (t : Nat) (a8 b12 : Nat → Int32) : Prop := ∀ i, i < t → Eq9 23 (a8 i) (b12 (4 + i))
def TdO (ci : Nat → Int32) (b3 : Nat → Int32) : Prop := Eq9 999 (ci 15) (b3 5) ∧ Eq9 2 (ci 16) (b3 6) ∧ Eq9 100 (ci 17) (b3 7) ∧ Eq9 99 (ci 18) (b3 8) ∧ Eq9 99999 (ci 19) (b3 9)
def TdB (o7 : Int32) (b2 : Nat → Int32) : Prop := ∃ b : Nat → Bool, o7 = nI (16 * (b 0).toNat + 32 * (b 1).toNat + 64 * (b 2).toNat + 128 * (b 3).toNat) ∧ ∀ i, i < 4 → b2 i = b2i (b i)
def TDd (ci : Nat → Int32) (ca : Nat → Nat → Int32) (ri : Nat → Int32) (ra : Nat → Nat → Int32) (o7 : Int32) : Prop := ∃ s c f t : Nat, (s ≤ 8 ∧ ci 11 = nI s ∧ ri 17 = nI s ∧ TdS s (ca 0) (ra 4)) ∧ (c ≤ 4 ∧ ci 12 = nI c ∧ ri 18 = nI c ∧ TdC c ca ra) ∧ (f ≤ 6 ∧ ci 13 = nI f ∧ ri 19 = nI f ∧ TdF c f ca ra) ∧ (t ≤ 4 ∧ ci 14 = nI t ∧ ri 20 = nI t ∧ TdT t (ca 8) (ra 12)) ∧ TdO ci (ra 3) ∧ TdB o7 (ra 2)
theorem up_n {f : Nat → Int32} {k i : Nat} {v : Int32} (h : ¬ i = k) : upd f k v i = f i := if_neg h
theorem up_p (f : Nat → Int32) (k : Nat) (v : Int32) : upd f k v k = v := if_pos rfl
theorem td_stripe {ci ri ri' : Nat → Int32} {ca ra : Nat → Nat → Int32} {o7 : Int32} (d : TDd ci ca ri ra o7) {s v : Nat} (hs : ci 11 = nI s) (h8 : s < 8) (hv : v ≤ 999) (e17 : ri' 17 = nI (s + 1)) (e : ∀ k, 18 ≤ k → k ≤ 20 → ri' k = ri k) : TDd (up1 ci 11 (nI (s + 1))) (upk ca 0 s (nI v)) ri' (upk ra 4 (8 + s) (nI v)) o7 := by
  obtain ⟨s', c, f, t, ⟨d1, d2, d3, d4⟩, ⟨c1, c2, c3, c4⟩, ⟨f1, f2, f3, f4⟩, ⟨t1, t2, t3, t4⟩, o, b⟩ := d
  have es : s = s' := nI_inj (by omega) (by omega) (hs.symm.trans d2)
  subst es
  refine ⟨s + 1, c, f, t, ⟨by omega, rfl, e17, fun i hi => ?_⟩, ⟨c1, c2, (e 18 (by omega) (by omega)).trans c3, c4⟩, ⟨f1, f2, (e 19 (by omega) (by omega)).trans f3, f4⟩, ⟨t1, t2, (e 20 (by omega) (by omega)).trans t3, t4⟩, o, b⟩
  show Eq9 999 (upd (ca 0) s (nI v) i) (upd (ra 4) (8 + s) (nI v) (8 + i))
  by_cases z : i = s
  · subst z
    rw [up_p, up_p]
    exact ⟨v, hv, rfl, rfl⟩
  · rw [up_n z, up_n (by omega)]
    exact d4 i (by omega)
theorem td_croft {ci ri ri' : Nat → Int32} {ca ra : Nat → Nat → Int32} {o7 : Int32} (d : TDd ci ca ri ra o7) {c v w x : Nat} {nm : Int32} (hc : ci 12 = nI c) (h4 : c < 4) (hv : v ≤ 5) (hw : w ≤ 9) (hx : x ≤ 99) (e17 : ri' 17 = ri 17) (e18 : ri' 18 = nI (c + 1)) (e : ∀ k, 19 ≤ k → k ≤ 20 → ri' k = ri k) : TDd (up1 ci 12 (nI (c + 1))) (upk (upk (upk (upk ca 1 c nm) 2 c (nI v)) 3 c (nI w)) 4 c (nI x)) ri' (upk (upk (upk (upk ra 5 (4 + c) nm) 6 (4 + c) (nI v)) 7 (4 + c) (nI w)) 8 (4 + c) (nI x)) o7 := by
  obtain ⟨s, c', f, t, ⟨d1, d2, d3, d4⟩, ⟨c1, c2, c3, c4⟩, ⟨f1, f2, f3, f4⟩, ⟨t1, t2, t3, t4⟩, o, b⟩ := d
  have es : c = c' := nI_inj (by omega) (by omega) (hc.symm.trans c2)
  subst es
  refine ⟨s, c + 1, f, t, ⟨d1, d2, e17.trans d3, d4⟩, ⟨by omega, rfl, e18, fun i hi => ?_⟩, ⟨f1, f2, (e 19 (by omega) (by omega)).trans f3, fun i hi => ?_⟩, ⟨t1, t2, (e 20 (by omega) (by omega)).trans t3, t4⟩, o, b⟩
  · show upd (ca 1) c nm i = upd (ra 5) (4 + c) nm (4 + i) ∧ Eq9 5 (upd (ca 2) c (nI v) i) (upd (ra 6) (4 + c) (nI v) (4 + i)) ∧ Eq9 9 (upd (ca 3) c (nI w) i) (upd (ra 7) (4 + c) (nI w) (4 + i)) ∧ Eq9 99 (upd (ca 4) c (nI x) i) (upd (ra 8) (4 + c) (nI x) (4 + i))
    by_cases z : i = c
    · subst z
      simp only [up_p]
      exact ⟨trivial, ⟨v, hv, rfl, rfl⟩, ⟨w, hw, rfl, rfl⟩, ⟨x, hx, rfl, rfl⟩⟩
    · have z4 : ¬ 4 + i = 4 + c := by omega
      simp only [up_n z, up_n z4]
      exact c4 i (by omega)
  · obtain ⟨⟨j, j1, j2, j3⟩, j4, j5⟩ := f4 i hi
    exact ⟨⟨j, by omega, j2, j3⟩, j4, j5⟩
theorem td_field {ci ri ri' : Nat → Int32} {ca ra : Nat → Nat → Int32} {o7 : Int32} (d : TDd ci ca ri ra o7) {c f j v w : Nat} (hc : ci 12 = nI c) (hf : ci 13 = nI f) (hc4 : c ≤ 4) (h6 : f < 6) (hj : j < c) (hv : v ≤ 99) (hw : w ≤ 9) (e17 : ∀ k, 17 ≤ k → k ≤ 18 → ri' k = ri k) (e19 : ri' 19 = nI (f + 1)) (e20 : ri' 20 = ri 20) : TDd (up1 ci 13 (nI (f + 1))) (upk (upk (upk ca 5 f (nI j)) 6 f (nI v)) 7 f (nI w)) ri' (upk (upk (upk ra 9 (6 + f) (nI j)) 10 (6 + f) (nI v)) 11 (6 + f) (nI w)) o7 := by
  obtain ⟨s, c', f', t, ⟨d1, d2, d3, d4⟩, ⟨c1, c2, c3, c4⟩, ⟨f1, f2, f3, f4⟩, ⟨t1, t2, t3, t4⟩, o, b⟩ := d
  have es : c = c' := nI_inj (by omega) (by omega) (hc.symm.trans c2)
  subst es
  have es : f = f' := nI_inj (by omega) (by omega) (hf.symm.trans f2)
  subst es
  refine ⟨s, c, f + 1, t, ⟨d1, d2, (e17 17 (by omega) (by omega)).trans d3, d4⟩, ⟨c1, c2, (e17 18 (by omega) (by omega)).trans c3, c4⟩, ⟨by omega, rfl, e19, fun i hi => ?_⟩, ⟨t1, t2, e20.trans t3, t4⟩, o, b⟩
  show (∃ j', j' < c ∧ upd (ca 5) f (nI j) i = nI j' ∧ upd (ra 9) (6 + f) (nI j) (6 + i) = nI j') ∧ Eq9 99 (upd (ca 6) f (nI v) i) (upd (ra 10) (6 + f) (nI v) (6 + i)) ∧ Eq9 9 (upd (ca 7) f (nI w) i) (upd (ra 11) (6 + f) (nI w) (6 + i))
  by_cases z : i = f
  · subst z
    simp only [up_p]
    exact ⟨⟨j, hj, rfl, rfl⟩, ⟨v, hv, rfl, rfl⟩, ⟨w, hw, rfl, rfl⟩⟩
  · have z4 : ¬ 6 + i = 6 + f := by omega
    simp only [up_n z, up_n z4]
    exact f4 i (by omega)
theorem td_tide {ci ri ri' : Nat → Int32} {ca ra : Nat → Nat → Int32} {o7 : Int32} (d : TDd ci ca ri ra o7) {t v : Nat} (ht : ci 14 = nI t) (h4 : t < 4) (hv : v ≤ 23) (e17 : ∀ k, 17 ≤ k → k ≤ 19 → ri' k = ri k) (e20 : ri' 20 = nI (t + 1)) : TDd (up1 ci 14 (nI (t + 1))) (upk ca 8 t (nI v)) ri' (upk ra 12 (4 + t) (nI v)) o7 := by
  obtain ⟨s, c, f, t', ⟨d1, d2, d3, d4⟩, ⟨c1, c2, c3, c4⟩, ⟨f1, f2, f3, f4⟩, ⟨t1, t2, t3, t4⟩, o, b⟩ := d
  have es : t = t' := nI_inj (by omega) (by omega) (ht.symm.trans t2)
  subst es
  refine ⟨s, c, f, t + 1, ⟨d1, d2, (e17 17 (by omega) (by omega)).trans d3, d4⟩, ⟨c1, c2, (e17 18 (by omega) (by omega)).trans c3, c4⟩, ⟨f1, f2, (e17 19 (by omega) (by omega)).trans f3, f4⟩, ⟨by omega, rfl, e20, fun i hi => ?_⟩, o, b⟩
  show Eq9 23 (upd (ca 8) t (nI v) i) (upd (ra 12) (4 + t) (nI v) (4 + i))
  by_cases z : i = t
  · subst z
    rw [up_p, up_p]
    exact ⟨v, hv, rfl, rfl⟩
  · rw [up_n z, up_n (by omega)]
    exact t4 i (by omega)
/-- other numbers and rows -/
theorem td_cg {ci ci' ri ri' : Nat → Int32} {ca ra ra' : Nat → Nat → Int32} {o7 o7' : Int32} (d : TDd ci ca ri ra o7) (a : ∀ k, 11 ≤ k → k ≤ 14 → ci' k = ci k) (b : ∀ k, 17 ≤ k → k ≤ 20 → ri' k = ri k) (c : ∀ k, 4 ≤ k → k ≤ 12 → ra' k = ra k) (o : TdO ci' (ra' 3)) (q : TdB o7' (ra' 2)) : TDd ci' ca ri' ra' o7' := by
  obtain ⟨s, c', f, t, ⟨d1, d2, d3, d4⟩, ⟨c1, c2, c3, c4⟩, ⟨f1, f2, f3, f4⟩, ⟨t1, t2, t3, t4⟩, -, -⟩ := d
  refine ⟨s, c', f, t, ⟨d1, (a 11 (by omega) (by omega)).trans d2, (b 17 (by omega) (by omega)).trans d3, ?_⟩, ⟨c1, (a 12 (by omega) (by omega)).trans c2, (b 18 (by omega) (by omega)).trans c3, ?_⟩, ⟨f1, (a 13 (by omega) (by omega)).trans f2, (b 19 (by omega) (by omega)).trans f3, ?_⟩, ⟨t1, (a 14 (by omega) (by omega)).trans t2, (b 20 (by omega) (by omega)).trans t3, ?_⟩, o, q⟩
  · rw [c 4 (by omega) (by omega)]; exact d4
  · unfold TdC
    rw [c 5 (by omega) (by omega), c 6 (by omega) (by omega), c 7 (by omega) (by omega), c 8 (by omega) (by omega)]; exact c4
  · unfold TdF
    rw [c 9 (by omega) (by omega), c 10 (by omega) (by omega), c 11 (by omega) (by omega)]; exact f4
  · rw [c 12 (by omega) (by omega)]; exact t4
/-- a line that may be told once -/
theorem tdb_at {o7 : Int32} {b2 : Nat → Int32} (q : TdB o7 b2) : ∀ i, i < 4 → ((o7 &&& ((1 : Int32) <<< (nI (4 + i) &&& 31)) = 0 ∧ b2 i = 0 ∧ TdB (o7 ||| ((1 : Int32) <<< (nI (4 + i) &&& 31))) (upd b2 i 1)) ∨ (¬ o7 &&& ((1 : Int32) <<< (nI (4 + i) &&& 31)) = 0 ∧ ¬ b2 i = 0)) := by
  obtain ⟨b, rfl, hb⟩ := q
  have k : ∀ (b0 b1 b2 b3 : Bool) (i : Fin 4), ((nI (16 * b0.toNat + 32 * b1.toNat + 64 * b2.toNat + 128 * b3.toNat) &&& ((1 : Int32) <<< (nI (4 + i.val) &&& 31)) = 0 ∧ (if i.val = 0 then b0 else if i.val = 1 then b1 else if i.val = 2 then b2 else b3) = false ∧ (nI (16 * b0.toNat + 32 * b1.toNat + 64 * b2.toNat + 128 * b3.toNat) ||| ((1 : Int32) <<< (nI (4 + i.val) &&& 31)) = nI (16 * (b0 || decide (i.val = 0)).toNat + 32 * (b1 || decide (i.val = 1)).toNat + 64 * (b2 || decide (i.val = 2)).toNat + 128 * (b3 || decide (i.val = 3)).toNat))) ∨ (¬ nI (16 * b0.toNat + 32 * b1.toNat + 64 * b2.toNat + 128 * b3.toNat) &&& ((1 : Int32) <<< (nI (4 + i.val) &&& 31)) = 0 ∧ (if i.val = 0 then b0 else if i.val = 1 then b1 else if i.val = 2 then b2 else b3) = true)) := by decide
  intro i hi
  have bi : (if i = 0 then b 0 else if i = 1 then b 1 else if i = 2 then b 2 else b 3) = b i := by
    rcases (show i = 0 ∨ i = 1 ∨ i = 2 ∨ i = 3 by omega) with rfl | rfl | rfl | rfl <;> rfl
  rcases k (b 0) (b 1) (b 2) (b 3) ⟨i, hi⟩ with ⟨k1, k2, k3⟩ | ⟨k1, k2⟩
  · refine Or.inl ⟨k1, ?_, fun j => b j || decide (i = j), k3, fun j hj => ?_⟩
    · rw [hb i hi, ← bi]
      exact congrArg b2i k2
    · by_cases z : j = i
      · subst z
        rw [up_p]
        show 1 = b2i (b j || decide (j = j))
        rw [decide_eq_true rfl, Bool.or_true]; rfl
      · rw [up_n z, hb j hj]
        show _ = b2i (b j || decide (i = j))
        rw [decide_eq_false (fun q => z q.symm), Bool.or_false]
  · refine Or.inr ⟨k1, ?_⟩
    rw [hb i hi, ← bi]
    rw [show (if i = 0 then b 0 else if i = 1 then b 1 else if i = 2 then b 2 else b 3) = true from k2]
    decide
