-- rows of the law's own frame: rows of ints, cells in another order, the class's own calls
abbrev cI (G : Gx) : ClassId := G.2.2.1
theorem D_iff {A : Nat → Prop} {ws : va_W} : va_D A ws ↔ (ws.map (·.1)).Nodup ∧ ∀ q ∈ ws, A q.1 := by
  constructor
  · intro d
    refine ⟨?_, fun q hq => ?_⟩
    · refine List.pairwise_iff_getElem.mpr fun i j hi hj hij e => ?_
      rw [List.length_map] at hi hj
      rw [List.getElem_map, List.getElem_map] at e
      have := d.1 i j _ _ (List.getElem?_eq_getElem hi) (List.getElem?_eq_getElem hj) e
      omega
    · obtain ⟨i, hi⟩ := List.getElem?_of_mem hq
      exact d.2 i q hi
  · intro ⟨n, a⟩
    refine ⟨fun i j x y hi hj e => ?_, fun k q hk => a q (List.mem_of_getElem? hk)⟩
    have hi' : i < (ws.map (·.1)).length := by rw [List.length_map]; exact (List.getElem?_eq_some_iff.mp hi).1
    exact (List.getElem?_inj hi' n).mp (by rw [List.getElem?_map, List.getElem?_map, hi, hj]; exact congrArg some e)
theorem D_perm {A : Nat → Prop} {ws ws2 : va_W} (p : ws.Perm ws2) (d : va_D A ws) : va_D A ws2 := by
  obtain ⟨a, b⟩ := D_iff.mp d
  exact D_iff.mpr ⟨(p.map _).nodup_iff.mp a, fun q hq => b q (p.mem_iff.mpr hq)⟩
theorem P_perm {D : va_G} {cl : List vw_C} {ws ws2 : va_W} {H : Heap} (p : ws.Perm ws2) (d : va_P D cl ws H) : va_P D cl ws2 H := fun k q hk => by
  obtain ⟨i, hi⟩ := List.getElem?_of_mem (p.mem_iff.mpr (List.mem_of_getElem? hk))
  exact d i q hi
section LRow
variable {X : Cx} {Q : State → Prop} {ws ws0 : va_W} {sg : SGt} {dg : Nat × Nat} {cN sN : Nat} {cc : ByteArray} {own : String} {ret : Option FieldType} {rm : Room} {pc : Nat} {lv : List (Nat × Value)} {st : List Value}
theorem Wj_perm {ws2 : va_W} (p : ws.Perm ws2) (K : Wj X Q ws2 cN sN pc lv st) : Wj X Q ws cN sN pc lv st := fun H locs ls a b c d => K H locs ls (P_perm p a) (D_perm p b) c d
/-- a cell made stands behind: brought to the front -/
theorem Wj_front {ex E : va_W} {c : Nat × va_E} (K : Wj X Q ((c :: ex) ++ E) cN sN pc lv st) : Wj X Q ((ex ++ E) ++ [c]) cN sN pc lv st := Wj_perm (by
  have : ((ex ++ E) ++ [c]).Perm ([c] ++ (ex ++ E)) := List.perm_append_comm
  exact this) K
theorem Wj_asc {a b E : va_W} (K : Wj X Q ((a ++ b) ++ E) cN sN pc lv st) : Wj X Q (a ++ (b ++ E)) cN sN pc lv st := by rw [← List.append_assoc]; exact K
theorem Wj_swp {a b : va_W} (K : Wj X Q (a ++ b) cN sN pc lv st) : Wj X Q (b ++ a) cN sN pc lv st := Wj_perm List.perm_append_comm K
theorem Wj_drop {a b : va_W} (K : Wj X Q b cN sN pc lv st) : Wj X Q (a ++ b) cN sN pc lv st := fun H locs ls p d s l => by
  refine K H locs ls (fun k q hk => ?_) ⟨fun i j x y hi hj e => ?_, fun k q hk => ?_⟩ s l
  · exact p (a.length + k) q (by rw [List.getElem?_append_right (Nat.le_add_right _ _), Nat.add_sub_cancel_left]; exact hk)
  · have := d.1 (a.length + i) (a.length + j) x y (by rw [List.getElem?_append_right (Nat.le_add_right _ _), Nat.add_sub_cancel_left]; exact hi) (by rw [List.getElem?_append_right (Nat.le_add_right _ _), Nat.add_sub_cancel_left]; exact hj) e
    omega
  · exact d.2 (a.length + k) q (by rw [List.getElem?_append_right (Nat.le_add_right _ _), Nat.add_sub_cancel_left]; exact hk)
theorem ex_at {ex E : va_W} {k : Nat} {q : Nat × va_E} (h : ex[k]? = some q) : (ex ++ E)[k]? = some q := by rw [List.getElem?_append_left (List.getElem?_eq_some_iff.mp h).1]; exact h
theorem cut_E {ex ws rest E : va_W} (ks : List Nat) (hn : ks.Nodup) (hl : ks.filterMap (fun z => ex[z]?) = ws ++ rest) (hlen : (ws ++ rest).length = ks.length) (hk : ks.length = ex.length) : Cut (ex ++ E) ws (rest ++ E) := by
  obtain ⟨h1, h2, h3⟩ := cut_of ks hn hl hlen
  refine ⟨fun p hp => List.mem_append_left _ (h1 p hp), fun p hp => ?_, fun A d => ?_⟩
  · rcases List.mem_append.mp hp with q | q
    · exact List.mem_append_left _ (h2 p q)
    · exact List.mem_append_right _ q
  · obtain ⟨d1, d2⟩ := D_iff.mp d
    have dE : va_D A ex := by
      refine D_iff.mpr ⟨?_, fun q hq => d2 q (List.mem_append_left _ hq)⟩
      rw [List.map_append] at d1
      exact (List.nodup_append.mp d1).1
    have dW := h3 A dE
    obtain ⟨w1, w2⟩ := D_iff.mp dW
    rw [← List.append_assoc]
    refine D_iff.mpr ⟨?_, fun q hq => ?_⟩
    · rw [List.map_append] at d1 ⊢
      obtain ⟨e1, e2, e3⟩ := List.nodup_append.mp d1
      refine List.nodup_append.mpr ⟨w1, e2, fun a ha b hb => ?_⟩
      obtain ⟨x, hx, rfl⟩ := List.mem_map.mp ha
      refine e3 x.1 (List.mem_map.mpr ⟨x, ?_, rfl⟩) b hb
      rcases List.mem_append.mp hx with q | q
      · exact h1 x q
      · exact h2 x q
    · rcases List.mem_append.mp hq with q' | q'
      · exact w2 q q'
      · exact d2 q (List.mem_append_right _ q')
theorem j_irem (F : Fj X cc own ret rm sg dg ws0) {x y z : Int32} (hd : decode cc pc = .ok (.irem, 1)) (hy : ¬ y = 0) (hz : x - x / y * y = z) (K : Wj X Q ws cN sN (pc + 1) lv (.int z :: st)) : Wj X Q ws cN sN pc lv (.int y :: .int x :: st) := Wj_go (pc2 := pc + 1) (st2 := .int z :: st) (fun _ _ _ e w => lv_irem F.1 F.2.1 hd hy (hz ▸ w)) K
theorem j_ior (F : Fj X cc own ret rm sg dg ws0) {x y z : Int32} (hd : decode cc pc = .ok (.ior, 1)) (hz : x ||| y = z) (K : Wj X Q ws cN sN (pc + 1) lv (.int z :: st)) : Wj X Q ws cN sN pc lv (.int y :: .int x :: st) := Wj_go (pc2 := pc + 1) (st2 := .int z :: st) (fun _ _ _ e w => lv_ior F.1 F.2.1 hd (hz ▸ w)) K
theorem j_dup2 (F : Fj X cc own ret rm sg dg ws0) {v u : Value} (hv : v.category = 1) (hu : u.category = 1) (hd : decode cc pc = .ok (.dup2, 1)) (K : Wj X Q ws cN sN (pc + 1) lv (v :: u :: v :: u :: st)) : Wj X Q ws cN sN pc lv (v :: u :: st) := Wj_go (pc2 := pc + 1) (st2 := v :: u :: v :: u :: st) (fun _ _ _ e w => lv_dup2_11 F.1 F.2.1 hd hv hu w) K
theorem j_iald (F : Fj X cc own ret rm sg dg ws0) {a n : Nat} {f : Nat → Int32} (k : Nat) (he : ws[k]? = some (a, .inl (cI (xG X), n, .inl f))) {i v : Int32} (hin : inb i n) (hv : f i.toNatClampNeg = v) (hd : decode cc pc = .ok (.iaload, 1)) (K : Wj X Q ws cN sN (pc + 1) lv (.int v :: st)) : Wj X Q ws cN sN pc lv (.int i :: .ref a :: st) := by
  obtain ⟨hx, hb, hml, hown, hts, hlk, hr, ⟨hK, -⟩, -⟩ := F
  subst hv
  intro H locs ls p d s9 l
  exact va_iald hx hb hK p k 0 he rfl (inb_vp hin) hd (K H locs ls p d s9 l)
theorem j_iast (F : Fj X cc own ret rm sg dg ws0) {a n : Nat} {f : Nat → Int32} (k : Nat) (he : ws[k]? = some (a, .inl (cI (xG X), n, .inl f))) {i x : Int32} (hin : inb i n) {ws2 : va_W} (h2 : ws.set k (a, .inl (cI (xG X), n, .inl (upd f i.toNatClampNeg x))) = ws2) (hd : decode cc pc = .ok (.iastore, 1)) (K : Wj X Q ws2 cN sN (pc + 1) lv st) : Wj X Q ws cN sN pc lv (.int x :: .int i :: .ref a :: st) := by
  obtain ⟨hx, hb, hml, hown, hts, hlk, hr, ⟨hK, -⟩, -⟩ := F
  subst h2
  intro H locs ls p d s9 l
  exact va_iast hx hb hK p d s9 k 0 he rfl (inb_vp hin) hd fun H1 locs1 a1 a2 a3 => K H1 locs1 ls a1 a2 a3 l
theorem j_newI (F : Fj X cc own ret rm sg dg ws0) (hw : Cond.arrayClass .int ∈ GT) {n : Int32} {N : Nat} (hn : ¬ n < 0) (hN : n.toNatClampNeg = N) (hbytes : N * 4 ≤ 536870912) (hcap : cN + 1 ≤ rm.cells ∧ sN + N ≤ rm.slots) (hd : decode cc pc = .ok (.newarray .int, 2)) (K : ∀ q, Wj X Q (ws ++ [(q, .inl (cI (xG X), N, .inl fun _ => 0))]) (cN + 1) (sN + N) (pc + 2) lv (.ref q :: st)) : Wj X Q ws cN sN pc lv (.int n :: st) := by
  obtain ⟨hx, hb, hml, hown, hts, hlk, hr, ⟨hK, -⟩, hrm, hA, -⟩ := F
  have hrm' : X.1.2.2.2.1 = rm := hrm
  intro H locs ls p d s9 l
  refine va_newaK (atype := .int) hx hb (hts _ hw) rfl hd rfl hn hN hbytes (by rw [hrm']; exact hcap.1) (by rw [hrm']; exact hcap.2) rfl fun H1 cA e1 z1 o1 _ hNm => ?_
  have hid : cA = cI (xG X) := Option.some.inj (hNm.symm.trans (hK.2 0 _ rfl).2)
  subst hid
  have hk : ∀ (k : Nat) (x : Nat × va_E), ws[k]? = some x → H1[x.1]? = H[x.1]? := fun k x hx => o1 x.1 ((p k x hx).lt)
  refine K H.size H1 locs ls ((p.kept hk).app (fun k x hx => ?_)) (d.push p rfl (by rw [hA]; exact Or.inr s9.1)) ⟨Nat.le_trans s9.1 (by omega), fun x h1 h2 => (o1 x (Nat.lt_of_lt_of_le h1 s9.1)).trans (s9.2.1 x h1 h2), s9.2.2⟩ l
  have hz : k < 1 := (List.getElem?_eq_some_iff.mp hx).1
  rw [show k = 0 by omega] at hx
  cases hx
  exact e1
end LRow
/-- the same machine, other counters -/
abbrev xw (X : Cx) (a b : Nat) : Cx := (X.1, X.2.1, X.2.2.1, a, b, xL X)
section Conv
variable {X : Cx} {Q : State → Prop} {ex ws0 : va_W} {sg : SGt} {dg : Nat × Nat} {cN sN : Nat} {cc : ByteArray} {own : String} {ret : Option FieldType} {rm : Room} {pc : Nat} {lv : List (Nat × Value)} {st st0 : List Value} {h : Hp}
theorem Wt_ofj (K : okH h → Wj X Q (ex ++ enc (xG X) h) cN sN pc lv st) : Wt (xw X cN sN) (fun _ : Unit => Q) ex pc lv st h (some ()) := fun H locs ls a b c d e _ _ => K a H locs ls b c d e
theorem Wj_oft (hO : okH h) (K : Wt (xw X cN sN) (fun _ : Unit => Q) ex pc lv st h (some ())) : Wj X Q (ex ++ enc (xG X) h) cN sN pc lv st := fun H locs ls b c d e => K H locs ls hO b c d e () rfl
/-- a call whose answer is known -/
theorem run_known {X : Cx} {Qf : Unit → State → Prop} {β : Type} {res : Option β} {rv : β → Option Value} {hp : β → Hp} {P : β → Prop} {out : β} {v : Value} (r : RunP X ex pc lv st0 st h res rv hp P) (e : res = some out) (hv : rv out = some v) (K : Wt X Qf ex (pc + 3) lv (v :: st) (hp out) (some ())) : Wt X Qf ex pc lv st0 h (some ()) := by
  have := r Unit Qf (fun o => @ite _ (o = out) (Classical.propDecidable _) (some ()) none) (fun o _ => by
    by_cases z : o = out
    · rw [if_pos z, z, hv]; exact K
    · rw [if_neg z]; exact Wt_none)
  rw [e] at this
  have e2 : (some out).bind (fun o => @ite _ (o = out) (Classical.propDecidable _) (some ()) none) = some () := by
    show @ite _ (out = out) (Classical.propDecidable _) (some ()) none = some ()
    exact if_pos rfl
  rw [e2] at this
  exact this
/-- .. of the class, out of the law's frame -/
theorem j_cls {β : Type} {res : Option β} {rv : β → Option Value} {hp : β → Hp} {P : β → Prop} {out : β} {v : Value} (hO : okH h) (r : RunP (xw X cN sN) ex pc lv st0 st h res rv hp P) (e : res = some out) (hv : rv out = some v) (K : okH (hp out) → Wj X Q (ex ++ enc (xG X) (hp out)) cN sN (pc + 3) lv (v :: st)) : Wj X Q (ex ++ enc (xG X) h) cN sN pc lv st0 :=
  Wj_oft hO (run_known (Qf := fun _ => Q) r e hv (Wt_ofj K))
/-- the class's calls want -/
theorem Fj.fx (F : Fj X cc own ret rm sg dg ws0) (hD : Dst (xG X)) (hA : ∀ a, Aw (xG X) a → xA X a) (hc : cN ≤ rm.cells ∧ sN ≤ rm.slots) : Fx (xw X cN sN) cc own ret rm := by
  obtain ⟨f1, f2, f3, f4, f5, f6, f7, f8, f9, -⟩ := F
  exact ⟨f1, f2, f3, f4, f5, f6, f7, f8.1, hD, hA, f9, hc, f8.2.1.2⟩
end Conv
