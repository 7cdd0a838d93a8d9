-- a text made in the law's frame, and taken
section LMade
variable {X : Cx} {Q : State → Prop} {E w : va_W} {sg : SGt} {dg : Nat × Nat} {cN sN : Nat} {cc : ByteArray} {own : String} {ret : Option FieldType} {rm : Room} {pc : Nat} {lv : List (Nat × Value)} {st : List Value} {h : Hp} {D : DT} {i b : Nat} {t : List Int32}
theorem cut_pre (w E : va_W) : Cut (w ++ E) w E := ⟨fun _ hp => List.mem_append_left _ hp, fun _ hp => List.mem_append_right _ hp, fun _ d => d⟩
theorem Bw.at0 {G : Gx} (hB : Bw G b t w) (E : va_W) : ∃ fs, (w ++ E)[0]? = some (b, .inr (9, fs)) := by
  obtain ⟨v, m, f, ml, rfl, -⟩ := hB
  exact ⟨_, rfl⟩
theorem b_init (F : Fj X cc own ret rm sg dg []) (f : JI own i yJ4_init_da8c8 cJ4_init_da8c8 1 0) (hR : 3 ≤ rm.frames ∧ 61 ≤ rm.locals) (hcat : (st.map fun v => v.category).sum ≤ 8) (hcap : cN + 1 ≤ rm.cells ∧ sN + 16 ≤ rm.slots) (hd : decode cc pc = .ok (.invokespecial i, 3)) (K : ∀ w, Bw (xG X) b [] w → Wj X Q (w ++ E) (cN + 1) (sN + 16) (pc + 3) lv st) : Wj X Q ([(b, .inr (9, dfl 9))] ++ E) cN sN pc lv (.ref b :: st) :=
  j_I F f (cut_pre _ _) (fun m h1 h2 => c_sbinit (xG X) X.1.2.1 sg dg m b h1 h2) (As := []) rfl rfl ⟨⟨rfl, rfl⟩, by show 2 + 1 ≤ _; omega, by show 8 + (1 + 11) + 41 ≤ _; omega⟩ hcat hcap hd fun r w hp => by
    obtain ⟨rfl, hB⟩ := hp
    exact K w hB
theorem b_S (F : Fj X cc own ret rm sg dg []) (f : JV own i yJ4_append_15ec4 cJ4_append_15ec4 2 (some (.object "java/lang/StringBuilder")) 1) (hB : Bw (xG X) b t w) (hBY : BY sg) (hs : sg.2.1.length = sg.1) (ht : t.length + sg.1 ≤ 70) (hR : 6 ≤ rm.frames ∧ 137 ≤ rm.locals) (hcat : (st.map fun v => v.category).sum ≤ 8) (hcap : cN + 1 ≤ rm.cells ∧ sN + 150 ≤ rm.slots) (hd : decode cc pc = .ok (.invokevirtual i, 3)) (K : ∀ w, Bw (xG X) b (t ++ sg.2.1) w → Wj X Q (w ++ E) (cN + 1) (sN + 150) (pc + 3) lv (.ref b :: st)) : Wj X Q (w ++ E) cN sN pc lv (.ref sg.2.2.2.1 :: .ref b :: st) := by
  obtain ⟨fs, h0⟩ := hB.at0 E
  exact j_V F f (k := 0) h0 (cut_pre _ _) (fun m h1 h2 => c_sbS (xG X) X.1.2.1 sg dg m b t w h1 h2 hB hBY hs ht) (As := [.ref sg.2.2.2.1]) rfl rfl ⟨⟨rfl, rfl⟩, by show 5 + 1 ≤ _; omega, by show 8 + (2 + 11) + 116 ≤ _; omega⟩ hcat hcap hd fun r w hp => by
    obtain ⟨rfl, hB⟩ := hp
    exact K w hB
theorem b_I (F : Fj X cc own ret rm sg dg []) (f : JV own i yJ4_append_bf812 cJ4_append_bf812 2 (some (.object "java/lang/StringBuilder")) 1) {k : Nat} (hB : Bw (xG X) b t w) (hk : k < 1000) (ht : t.length + (dgL k).length ≤ 70) (hR : 6 ≤ rm.frames ∧ 138 ≤ rm.locals) (hcat : (st.map fun v => v.category).sum ≤ 8) (hcap : cN + 1 ≤ rm.cells ∧ sN + 150 ≤ rm.slots) (hd : decode cc pc = .ok (.invokevirtual i, 3)) (K : ∀ w, Bw (xG X) b (t ++ dgL k) w → Wj X Q (w ++ E) (cN + 1) (sN + 150) (pc + 3) lv (.ref b :: st)) : Wj X Q (w ++ E) cN sN pc lv (.int (nI k) :: .ref b :: st) := by
  obtain ⟨fs, h0⟩ := hB.at0 E
  exact j_V F f (k := 0) h0 (cut_pre _ _) (fun m h1 h2 => c_sbI (xG X) X.1.2.1 sg dg m b k t w h1 h2 hB hk ht) (As := [.int (nI k)]) rfl rfl ⟨⟨rfl, rfl⟩, by show 5 + 1 ≤ _; omega, by show 8 + (2 + 11) + 117 ≤ _; omega⟩ hcat hcap hd fun r w hp => by
    obtain ⟨rfl, hB⟩ := hp
    exact K w hB
theorem b_ts (F : Fj X cc own ret rm sg dg []) (f : JV own i yJ4_toString_0e30d cJ4_toString_0e30d 1 (some (.object "java/lang/String")) 0) (hB : Bw (xG X) b t w) (hR : 6 ≤ rm.frames ∧ 151 ≤ rm.locals) (hcat : (st.map fun v => v.category).sum ≤ 8) (hcap : cN + 2 ≤ rm.cells ∧ sN + 154 ≤ rm.slots) (hd : decode cc pc = .ok (.invokevirtual i, 3)) (K : ∀ s u f2, (∀ j, j < t.length → f2 j = t.getD j 0) → Wj X Q ([(s, .inr (8, [.ref u, .int (nI 0), .int 0, .int 0])), (u, ba (xG X) t.length f2)] ++ E) (cN + 2) (sN + 154) (pc + 3) lv (.ref s :: st)) : Wj X Q (w ++ E) cN sN pc lv (.ref b :: st) := by
  obtain ⟨fs, h0⟩ := hB.at0 E
  exact j_V F f (k := 0) h0 (cut_pre _ _) (fun m h1 h2 => c_ts (xG X) X.1.2.1 sg dg m b t w h1 h2 hB) (As := []) rfl rfl ⟨⟨rfl, rfl⟩, by show 5 + 1 ≤ _; omega, by show 8 + (1 + 11) + 131 ≤ _; omega⟩ hcat hcap hd fun r w hp => by
    obtain ⟨s, u, f2, rfl, rfl, h3, -⟩ := hp
    exact K s u f2 h3
/-- the made text taken -/
theorem l_textM (F : Fj X cc own ret rm sg dg []) (f : JS own i yL_text cL_text 5 (some .int) 2) {s u : Nat} {f2 : Nat → Int32} (hDst : Dst (xG X)) (hAw : ∀ a, Aw (xG X) a → xA X a) (hO : okH h) (a : AQ h) (hf : ∀ j, j < t.length → f2 j = t.getD j 0) (hBY : ∀ j, j < t.length → ∃ n : Nat, n < 128 ∧ t.getD j 0 = nI n) (hn : t.length ≤ 200) (e9 : pL 20 t D0 = some D) (k9 : DOK D) (hR : 10 ≤ rm.frames ∧ 224 ≤ rm.locals) (hcat : (st.map fun v => v.category).sum ≤ 8) (hcap : cN + 10 ≤ rm.cells ∧ sN + 50 ≤ rm.slots) (hd : decode cc pc = .ok (.invokestatic i, 3)) (K : ∀ g, okH g → LQ g D (bgM (T0 D)) X00 → Wj X Q (enc (xG X) g) (cN + 10) (sN + 50) (pc + 3) lv (.int (nI (qLn D)) :: st)) : Wj X Q ([(s, .inr (8, [.ref u, .int (nI 0), .int 0, .int 0])), (u, ba (xG X) t.length f2)] ++ enc (xG X) h) cN sN pc lv (.ref s :: .ref (adr (xG X) 7 0 0) :: st) := by
  have F' := F
  obtain ⟨hx, hb, hml, hown, hts, hlk, hr, hJ, hrm, hA, hA2, hA3⟩ := F
  have hrm' : X.1.2.2.2.1 = rm := hrm
  intro H locs ls hP hD hS hl
  have hsz : (xS X).heap.size ≤ H.size := hS.1
  have hPe : va_P (xG X).2.1 vwCl (enc (xG X) h) H := fun k q hq => by
    obtain ⟨j, hj⟩ := List.getElem?_of_mem (List.mem_append_right [(s, .inr (8, [.ref u, .int (nI 0), .int 0, .int 0])), (u, ba (xG X) t.length f2)] (List.mem_of_getElem? hq))
    exact hP j q hj
  have h1 := hP 0 _ rfl
  have h2 := hP 1 _ rfl
  obtain ⟨A', hA'⟩ : ∃ A' : Nat → Prop, A' = fun q => Aw (xG X) q ∨ H.size ≤ q := ⟨_, rfl⟩
  have hAA : ∀ q, A' q → sg.2.2.1 q := fun q hq => by
    rw [hA'] at hq
    rcases hq with z | z
    · exact F'.sub q (hAw q z)
    · exact hA3 q (Nat.le_trans hsz z)
  have nin : ∀ (k : Nat) (e : va_E) (p : Nat), k < 2 → ([(s, .inr (8, [.ref u, .int (nI 0), .int 0, .int 0])), (u, ba (xG X) t.length f2)] ++ enc (xG X) h)[k]? = some (p, e) → ¬ A' p := fun k e p hk he z => by
    rw [hA'] at z
    rcases z with ⟨q, hq, e2⟩ | z
    · have : p ∈ (enc (xG X) h).map (·.1) := by
        rw [enc_map]
        exact List.mem_map.mpr ⟨q, hq, e2.symm⟩
      obtain ⟨p2, hp2, e3⟩ := List.mem_map.mp this
      obtain ⟨j, hj⟩ := List.getElem?_of_mem hp2
      have := hD.1 k (2 + j) (p, e) p2 he (by rw [List.getElem?_append_right (show 2 ≤ 2 + j by omega)]; simpa using hj) e3.symm
      omega
    · have := (hP k _ he).lt
      have : p < H.size := this
      omega
  have hk : ∀ U : State, U.heap = H → (xS X).WarmedH U.vm → JK (xG X) (t.length, t, A', s, u) dg U := fun U hU hW => by
    obtain ⟨⟨j1, j2, j3, ⟨j4, j5⟩, j6, j7⟩, -, -⟩ := F'.pre hS hPe hU hW
    have vs : vk_S 1 [t.length] [t] (fun _ => s) (fun _ => u) A' (xS X) H := sk_made hts hJ.1 h1 h2 hf (nin 0 _ _ (by omega) rfl) (nin 1 _ _ (by omega) rfl) (by omega)
    refine ⟨j1, j2, ⟨?_, va_Z.narrow j3.2.1 hAA, va_Zq.narrow j3.2.2 hAA⟩, ⟨va_Z.narrow j4 hAA, va_T.narrow j5 hAA⟩, va_Z.narrow j6 hAA, va_T.narrow j7 hAA⟩
    rw [hU]
    exact vk_S.moved hW.alike vs
  have hws : ∀ p ∈ enc (xG X) h, A' p.1 := fun p hp => by
    rw [hA']
    left
    have : p.1 ∈ (enc (xG X) h).map (·.1) := List.mem_map.mpr ⟨p, hp, rfl⟩
    rw [enc_map] at this
    obtain ⟨q, hq, e⟩ := List.mem_map.mp this
    exact ⟨q, hq, e.symm⟩
  exact Wj_at F' (cut_enc _ _) hP hD hS hl (va_runS (Ts := GT) (n := 2) (own := own) (index := i) (bytes := cL_text) (maxL := 5) (ret := some .int) (As := [.ref (adr (xG X) 7 0 0), .ref s]) ⟨hx, hb, hml, hown, hts⟩ (c_Ltext (xG X) X.1.2.1 (t.length, t, A', s, u) dg H.size (fun q z => by rw [hA']; exact Or.inr z) hws hDst hO a ⟨by show t.length < 2 ^ 31; omega, hBY⟩ rfl hn e9 k9) ⟨callB_of 2 hts (fun w hw => f.1.goods hw) rfl rfl rfl (hts _ f.1.2.2.1) (hts _ f.1.2.1) f.1.2.2.2 ⟨by rw [hrm']; show 9 + 1 ≤ _; omega, by rw [hrm']; show 8 + (5 + 11) + 200 ≤ _; omega⟩, hts _ f.2⟩ ⟨JK.blind _ _ _ _ _, fun U hU hW => ⟨rfl, hk U hU hW, by rw [hU], by rw [hU]; exact hPe⟩⟩ rfl rfl hl.1 rfl (by show 2 * 0 + _ ≤ 8; omega) hd (by rw [hrm']; exact hcap)) fun r w hp => by
    obtain ⟨g, rfl, rfl, o1, o2⟩ := hp
    refine Wj_swp (a := _) (Wj_drop ?_)
    exact K g o1 o2
end LMade
