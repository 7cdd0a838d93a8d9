-- the law's helper that takes a text: its contract, its calls
set_option maxRecDepth 100000 in
theorem c_Ltext (G : Gx) (l : Launch) (sg : SGt) (dg : Nat × Nat) (sz : Nat) {h : Hp} {D : DT} (hA3 : ∀ q, sz ≤ q → sg.2.2.1 q) (hA2 : ∀ p ∈ enc G h, sg.2.2.1 p.1) (hD : Dst G) (hO : okH h) (a : AQ h) (hBY : BY sg) (hlen : sg.2.1.length = sg.1) (hn : sg.1 ≤ 200) (e9 : pL 20 sg.2.1 D0 = some D) (k9 : DOK D) : Jc G l yL_text cL_text 5 (some .int) rm_Lt [.ref (adr G 7 0 0), .ref sg.2.2.2.1] sg dg sz (enc G h) (PT G D) 10 50 := by
  refine jc_of (by decide +kernel) (Nat.le_of_ble_eq_true rfl) (D_iff.mp (Dst_D hD h)).1 hA3 hA2 fun X hl hG hL F hnm => ?_
  subst hl
  subst hG
  have hAw : ∀ a, Aw (xG X) a → xA X a := fun a ⟨q, hq, e⟩ => by
    have hA := F.2.2.2.2.2.2.2.2.2.1
    rw [hA]
    left
    have : a ∈ (enc (xG X) h).map (·.1) := by
      rw [enc_map]
      exact List.mem_map.mpr ⟨q, hq, e.symm⟩
    obtain ⟨p, hp, e2⟩ := List.mem_map.mp this
    exact ⟨p, hp, e2⟩
  refine j_iconst F (v := nI 0) dL_text_0 (by decide) ?_
  refine j_istore_n F [(2, .int (nI 0)), (0, .ref (adr (xG X) 7 0 0)), (1, .ref sg.2.2.2.1)] rfl dL_text_1 rfl (by rw [hL]; decide) ?_
  exact t_outer F hL hBY hlen hn e9 k9 hD hAw 10 0 h (by omega) (by omega) hO (a.f0 _ _)
section LText
variable {X : Cx} {Q : State → Prop} {ex : va_W} {sg : SGt} {dg : Nat × Nat} {cN sN : Nat} {cc : ByteArray} {own : String} {ret : Option FieldType} {rm : Room} {pc : Nat} {lv : List (Nat × Value)} {st : List Value} {h : Hp} {D : DT}
theorem cut_enc (ex E : va_W) : Cut (ex ++ E) E ex := ⟨fun p hp => List.mem_append_right _ hp, fun p hp => List.mem_append_left _ hp, fun _ d => D_perm List.perm_append_comm d⟩
/-- a constant's text taken -/
theorem l_text (F : Fj X cc own ret rm sg dg []) {i : Nat} (f : JS own i yL_text cL_text 5 (some .int) 2) (hDst : Dst (xG X)) (hO : okH h) (a : AQ h) (hBY : BY sg) (hlen : sg.2.1.length = sg.1) (hn : sg.1 ≤ 200) (e9 : pL 20 sg.2.1 D0 = some D) (k9 : DOK D) (hR : 10 ≤ rm.frames ∧ 224 ≤ rm.locals) (hcat : (st.map fun v => v.category).sum ≤ 8) (hcap : cN + 10 ≤ rm.cells ∧ sN + 50 ≤ rm.slots) (hd : decode cc pc = .ok (.invokestatic i, 3)) (K : ∀ g, okH g → LQ g D (bgM (T0 D)) X00 → Wj X Q (ex ++ enc (xG X) g) (cN + 10) (sN + 50) (pc + 3) lv (.int (nI (qLn D)) :: st)) : Wj X Q (ex ++ enc (xG X) h) cN sN pc lv (.ref sg.2.2.2.1 :: .ref (adr (xG X) 7 0 0) :: st) := by
  refine j_S F f (cut_enc _ _) (fun m h1 h2 => c_Ltext (xG X) X.1.2.1 sg dg m h1 h2 hDst hO a hBY hlen hn e9 k9) (As := [.ref (adr (xG X) 7 0 0), .ref sg.2.2.2.1]) rfl rfl ⟨⟨rfl, rfl⟩, by show 9 + 1 ≤ _; omega, by show 8 + (5 + 11) + 200 ≤ _; omega⟩ hcat hcap hd fun r w hp => ?_
  obtain ⟨g, rfl, rfl, o1, o2⟩ := hp
  exact Wj_swp (K g o1 o2)
/-- a text made: its string and its bytes lie among the cells -/
theorem sk_made {s u : Nat} {t : List Int32} {f2 : Nat → Int32} {x y : Int32} {H : Heap} {A' : Nat → Prop} {U : State} {args : Array Value} (hts : ∀ w ∈ GT, w.before args U = true) (hK : va_K (xG X).2.1 vwCl (tys (xG X)) U) (h1 : va_at (xG X).2.1 vwCl (s, .inr (8, [.ref u, .int (nI 0), .int x, .int y])) H) (h2 : va_at (xG X).2.1 vwCl (u, ba (xG X) t.length f2) H) (hf : ∀ j, j < t.length → f2 j = t.getD j 0) (n1 : ¬ A' s) (n2 : ¬ A' u) (h31 : t.length < 2 ^ 31) : vk_S 1 [t.length] [t] (fun _ => s) (fun _ => u) A' U H := by
  obtain ⟨r, hr, cell, q1, q2, q3, q4⟩ := h1
  have er : r = (RXf 8, TXf 8, nf 8) := Option.some.inj (hr.symm.trans (cl_at 8 (by decide)))
  subst er
  obtain ⟨hS, hfc, kC, hkC, hkind⟩ := hK.1 8 _ (cl_at 8 (by decide))
  have fld : ∀ k, k < nf 8 → ∀ v : Value, ([.ref u, .int (nI 0), .int x, .int y] : List Value)[k]? = some v → va_OF (TXf 8 k).1 (TXf 8 k).2.1 (TXf 8 k).2.2.1 v s A' U H := fun k hk v hv => by
    obtain ⟨cf, kf, fi, f, hi, hsl⟩ := hS k hk
    refine ⟨cf, kf, fi, f, cell, hi, (u_facts hfc hkC (u_lays hts (cl_ws 8 (by decide)) hk) hi).1, q1, (by rw [q3]; exact fun h => nomatch h), ?_, n1⟩
    rw [hsl, q4 k hk]
    simp [vp_V, hv]
  refine ⟨fun i hi => ?_, fun i j hi hj _ => by omega⟩
  have : i = 0 := by omega
  subst this
  refine ⟨⟨cell, q1, by rw [q3]; rfl, by rw [q2]; exact hfc, n1⟩, fld 1 (by decide) _ rfl, fld 0 (by decide) _ rfl, ?_⟩
  have hA := (hK.2 4 _ rfl).1 t.length (fun j => .int (f2 j))
  refine ⟨arrV (cB (xG X)) t.length (fun j => .int (f2 j)), h2, hA, (fun q => nomatch q), ?_, ?_, fun j hj => ?_, n2⟩
  · show t.length ≤ (arrV _ _ _).slots.size
    rw [arrV_size]; exact Nat.le_refl _
  · show (arrV _ _ _).slots.size.toInt32 = _
    rw [arrV_size]; rfl
  · have hj : j < t.length := hj
    show (arrV _ _ _).slots[j]? = _
    rw [arrV_read _ _ hj, hf j hj]; rfl
end LText
