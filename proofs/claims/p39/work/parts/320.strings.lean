-- the strings' own methods: read only; a text of so many bytes, its place, where nothing is written
abbrev SGt : Type := Nat × List Int32 × (Nat → Prop) × Nat × Nat
def SKt (sa : SGt) (U : State) : Prop := vk_S 1 [sa.1] [sa.2.1] (fun _ => sa.2.2.2.1) (fun _ => sa.2.2.2.2) sa.2.2.1 U U.heap ∧ va_Z RJ0 "COMPACT_STRINGS" "Z" (.int 1) sa.2.2.1 U U.heap ∧ va_Zq RJ3 "SIOOBE_FORMATTER" "Ljava/util/function/BiFunction;" sa.2.2.1 U U.heap
/-- bytes that are letters, signs and the like -/
def BY (sa : SGt) : Prop := sa.1 < 2 ^ 31 ∧ ∀ j, j < sa.1 → ∃ n : Nat, n < 128 ∧ sa.2.1.getD j 0 = nI n
theorem SKt.calls {sa : SGt} {U : State} {g : JFrame} {mk : MethodId} {a : Array Value} (k : SKt sa U) : SKt sa (U.calling g mk a) := ⟨vk_S.moved (u := U) (U := U.calling g mk a) (Vm.Alike.refl U.vm) k.1, va_Z.moved (u := U) (U := U.calling g mk a) (Vm.Alike.refl U.vm) k.2.1, va_Zq.moved (u := U) (U := U.calling g mk a) (Vm.Alike.refl U.vm) k.2.2⟩
theorem SKt.keeps {sa : SGt} {s U : State} (k : SKt sa s) (hW : s.WarmedH U.vm) (o : ∀ q : Nat, q < s.heap.size → ¬ sa.2.2.1 q → U.heap[q]? = s.heap[q]?) : SKt sa U := ⟨vk_S.moved hW.alike (k.1.kept o), va_Z.moved hW.alike (k.2.1.kept o), va_Zq.moved hW.alike (k.2.2.kept o)⟩
theorem SKt.lasts {sa : SGt} {b : Nat} (hb : ∀ q, b ≤ q → sa.2.2.1 q) : Lasts b (SKt sa) := ⟨fun _ _ _ _ k => k.calls, fun _ _ k hW o => k.keeps hW fun a _ h => o a (Nat.lt_of_not_le fun z => h (hb a z))⟩
def Rc (l : Launch) (y : MethodName) (cc : ByteArray) (mL : Nat) (ret : Option FieldType) (rm : Room) (av : List Value) (sa : SGt) (r : Option Value) : Prop :=
  Met l y (.code y cc mL ret :: GT) rm (va_Pc av (SKt sa)) (fun _ st ot t => ot = .returned r ∧ t.heap = st.heap) 0 0 (fun _ => False)
theorem SKt.blind (sa : SGt) (av : List Value) : FrameBlind (va_Pc av (SKt sa)) := fun a U g mk q => ⟨q.1, q.2.calls⟩
theorem SKt.warm {sa : SGt} {s U : State} {A : Nat → Prop} {H : Heap} {locs : List Loc} (k : SKt sa s) (hA : ∀ q, A q → sa.2.2.1 q) (hS : va_S A s.heap H locs) (hU : U.heap = H) (hW : s.WarmedH U.vm) : SKt sa U := k.keeps hW fun a h1 h => by rw [hU]; exact hS.2.1 a h1 (fun z => h (hA a z))
section RO
variable {p : Program} {l : Launch} {e : Env} {R : Room} {s : State} {m : MethodId} {args : Array Value} {below : List Frame} {meth : Method} {c : Code} {H : Heap} {locs : List Loc} {cells slots : Nat} {Q : State → Prop} {pc : Nat} {ls : Array Slot} {st st0 As : List Value} {r : Option Value}
theorem ro_next (hr : va_Run p l e R s m args below meth c H locs cells slots 0 0 (F0 m pc ls st0) st (fun st ot t => ot = .returned r ∧ t.heap = st.heap) (fun _ => False)) (K : W p l e R s m args below meth c H locs cells slots Q (F0 m (pc + 3) ls (r.toList ++ st))) : W p l e R s m args below meth c H locs cells slots Q (F0 m pc ls st0) := by
  intro T hT X
  obtain ⟨v, st₀, t, T', L, h0, X', hL, e1, e2, ⟨hv, hh⟩, go⟩ := hr T hT X
  cases hv
  cases L with
  | cons q L => exact (hL q List.mem_cons_self).elim
  | nil =>
    rw [List.append_nil] at X'
    obtain ⟨t2, a1, b1⟩ := K T' (by rw [e1, hh, h0]) X'
    exact ⟨t2, go t2 a1, b1⟩
variable {cc bytes : ByteArray} {own : String} {i mL n nL : Nat} {y : MethodName} {ret : Option FieldType} {rm' : Room} {sa : SGt} {A : Nat → Prop}
theorem CB.good (f : CB own i y bytes mL ret n) : GoodIn GT (Cond.code y bytes mL ret :: GT) := fun w hw => by
  have hm : w ∈ GT := by
    rcases List.mem_cons.mp hw with q | q
    · rw [q]; exact f.1
    · exact q
  exact ⟨hm, good_of_word (List.mem_filter.mp hm).2⟩
theorem ro_S (hx : p.tables.exec = Jvm.exec) (hb : c.code = cc) (hml : c.maxLocals = nL) (hown : s.vm.findClass own = some m.cls) (hts : ∀ w ∈ GT, w.before args s = true) (f : CB own i y bytes mL ret n ∧ Cond.static y ∈ GT) (hC : Rc l y bytes mL ret rm' As sa r) (k : SKt sa s) (hA : ∀ q, A q → sa.2.2.1 q) (hS : va_S A s.heap H locs) (hn : As.length = n) (hls : ls.size = nL) (hst : st0 = As.reverse ++ st) (hR : (rm'.cells = 0 ∧ rm'.slots = 0) ∧ rm'.frames + 1 ≤ R.frames ∧ 8 + (mL + 11) + rm'.locals ≤ R.locals) (hcat : (st.map fun v => v.category).sum ≤ 8) (hcap : cells ≤ R.cells ∧ slots ≤ R.slots) (hd : decode cc pc = .ok (.invokestatic i, 3)) (K : W p l e R s m args below meth c H locs cells slots Q (F0 m (pc + 3) ls (r.toList ++ st))) : W p l e R s m args below meth c H locs cells slots Q (F0 m pc ls st0) := by
  refine ro_next ?_ K
  exact va_runS (Ts := GT) (n := n) (own := own) (index := i) (bytes := bytes) (maxL := mL) (ret := ret) ⟨hx, hb, hml, hown, hts⟩ hC ⟨callB_of n hts f.1.good rfl hR.1.1 hR.1.2 (hts _ f.1.2.2.1) (hts _ f.1.2.1) f.1.2.2.2 hR.2, hts _ f.2⟩ ⟨SKt.blind _ _, fun U hU hW => ⟨rfl, k.warm hA hS hU hW⟩⟩ rfl hn hls hst (by show 2 * 0 + _ ≤ 8; omega) hd hcap
theorem ro_V (hx : p.tables.exec = Jvm.exec) (hb : c.code = cc) (hml : c.maxLocals = nL) (hown : s.vm.findClass own = some m.cls) (hts : ∀ w ∈ GT, w.before args s = true) (f : CB own i y bytes mL ret n ∧ Cond.instanceMethod y ∈ GT ∧ Cond.selects RJ0 y y ∈ GT) (hC : Rc l y bytes mL ret rm' (.ref sa.2.2.2.1 :: As) sa r) (k : SKt sa s) (hA : ∀ q, A q → sa.2.2.1 q) (hS : va_S A s.heap H locs) (hn : As.length = n) (hls : ls.size = nL) (hst : st0 = As.reverse ++ .ref sa.2.2.2.1 :: st) (hR : (rm'.cells = 0 ∧ rm'.slots = 0) ∧ rm'.frames + 1 ≤ R.frames ∧ 8 + (mL + 11) + rm'.locals ≤ R.locals) (hcat : (st.map fun v => v.category).sum ≤ 8) (hcap : cells ≤ R.cells ∧ slots ≤ R.slots) (hd : decode cc pc = .ok (.invokevirtual i, 3)) (K : W p l e R s m args below meth c H locs cells slots Q (F0 m (pc + 3) ls (r.toList ++ st))) : W p l e R s m args below meth c H locs cells slots Q (F0 m pc ls st0) := by
  refine ro_next ?_ K
  have hS' : va_S sa.2.2.1 s.heap H locs := ⟨hS.1, fun q h1 h2 => hS.2.1 q h1 (fun z => h2 (hA q z)), fun q hq => hA _ (hS.2.2 q hq)⟩
  exact va_runV (Ts := GT) (n := n) (C := RJ0) (own := own) (index := i) (bytes := bytes) (maxL := mL) (ret := ret) ⟨hx, hb, hml, hown, hts⟩ hC ⟨callB_of n hts f.1.good rfl hR.1.1 hR.1.2 (hts _ f.1.2.2.1) (hts _ f.1.2.1) f.1.2.2.2 hR.2, hts _ f.2.1, hts _ f.2.2⟩ ⟨SKt.blind _ _, vk_recv (i := 0) k.1 (by decide) hS', fun U hU hW => ⟨rfl, k.warm hA hS hU hW⟩⟩ rfl hn hls hst (by show 2 * 0 + _ ≤ 8; omega) hd hcap
end RO
abbrev rmR0 : Room := { frames := 0, cells := 0, slots := 0, locals := 0 }
abbrev rmR1 : Room := { frames := 1, cells := 0, slots := 0, locals := 24 }
abbrev rmR2 : Room := { frames := 2, cells := 0, slots := 0, locals := 48 }
abbrev rmR3 : Room := { frames := 3, cells := 0, slots := 0, locals := 72 }
theorem sc_coder (l : Launch) (sa : SGt) : Rc l yJ0_coder_7d493 cJ0_coder_7d493 1 (some .byte) rmR0 [.ref sa.2.2.2.1] sa (some (.int 0)) := by
  refine Met.ofW (cc := cJ0_coder_7d493) (maxL := 1) (ret := some .byte) (by decide +kernel) rfl ?_
  intro p e s m args below meth c s₁ B hml hv
  obtain ⟨rfl, k⟩ := hv
  have hts := atoms_spec (ws := Cond.code yJ0_coder_7d493 cJ0_coder_7d493 1 (some .byte) :: GT) B.pre
  have hG : ∀ w ∈ GT, w.before _ s = true := fun w hw => hts w (List.mem_cons_of_mem _ hw)
  have hown : s.vm.findClass RJ0 = some m.cls := findClass_of_methodNamed B.named
  have hl := lv_entry [Value.ref sa.2.2.2.1] (n := 1) (Nat.le_of_ble_eq_true rfl)
  rw [lg_entry_eq]
  refine va_gets B.exec B.bytes k.2.1 va_S.rf hown (hG _ sw_38) (fun _ z => z) dJ0_coder_7d493_0 ?_
  refine lv_if_eq B.exec B.bytes dJ0_coder_7d493_3 (tgt := 13) (by decide) (fun q => absurd q (by decide)) (fun _ => ?_)
  refine lv_aload_n B.exec B.bytes dJ0_coder_7d493_6 rfl (lv_at hl 0 rfl) ?_
  refine vk_getf B.exec B.bytes (k.1.1 0 (by decide)).2.1 va_S.rf hown (hG _ sw_15) (fun _ z => z) dJ0_coder_7d493_7 ?_
  refine lv_goto B.exec B.bytes dJ0_coder_7d493_10 (tgt := 14) (by decide) ?_
  exact W.zret (ty := .byte) B.exec B.bytes B.returns (by decide) (fun t ht _ => ⟨rfl, ht⟩) (fun _ h => nomatch h) dJ0_coder_7d493_14 B.notSynchronized
theorem sc_isl (l : Launch) (sa : SGt) : Rc l yJ0_isLatin1_aae02 cJ0_isLatin1_aae02 1 (some .boolean) rmR0 [.ref sa.2.2.2.1] sa (some (.int 1)) := by
  refine Met.ofW (cc := cJ0_isLatin1_aae02) (maxL := 1) (ret := some .boolean) (by decide +kernel) rfl ?_
  intro p e s m args below meth c s₁ B hml hv
  obtain ⟨rfl, k⟩ := hv
  have hts := atoms_spec (ws := Cond.code yJ0_isLatin1_aae02 cJ0_isLatin1_aae02 1 (some .boolean) :: GT) B.pre
  have hG : ∀ w ∈ GT, w.before _ s = true := fun w hw => hts w (List.mem_cons_of_mem _ hw)
  have hown : s.vm.findClass RJ0 = some m.cls := findClass_of_methodNamed B.named
  have hl := lv_entry [Value.ref sa.2.2.2.1] (n := 1) (Nat.le_of_ble_eq_true rfl)
  rw [lg_entry_eq]
  refine va_gets B.exec B.bytes k.2.1 va_S.rf hown (hG _ sw_38) (fun _ z => z) dJ0_isLatin1_aae02_0 ?_
  refine lv_if_eq B.exec B.bytes dJ0_isLatin1_aae02_3 (tgt := 17) (by decide) (fun q => absurd q (by decide)) (fun _ => ?_)
  refine lv_aload_n B.exec B.bytes dJ0_isLatin1_aae02_6 rfl (lv_at hl 0 rfl) ?_
  refine vk_getf B.exec B.bytes (k.1.1 0 (by decide)).2.1 va_S.rf hown (hG _ sw_15) (fun _ z => z) dJ0_isLatin1_aae02_7 ?_
  refine lv_if_ne B.exec B.bytes dJ0_isLatin1_aae02_10 (tgt := 17) (by decide) (fun q => absurd rfl q) (fun _ => ?_)
  refine lv_iconst B.exec B.bytes (v := 1) dJ0_isLatin1_aae02_13 (by decide) ?_
  refine lv_goto B.exec B.bytes dJ0_isLatin1_aae02_14 (tgt := 18) (by decide) ?_
  exact W.zret (ty := .boolean) B.exec B.bytes B.returns (by decide) (fun t ht _ => ⟨rfl, ht⟩) (fun _ h => nomatch h) dJ0_isLatin1_aae02_18 B.notSynchronized
theorem sh0 (x : Int32) : x >>> ((0 : Int32) &&& 31) = x := by
  rw [show ((0 : Int32) &&& 31) = 0 by decide]
  exact Int32.shiftRight_zero
theorem sc_length (l : Launch) (sa : SGt) : Rc l yJ0_length_8abf5 cJ0_length_8abf5 1 (some .int) rmR1 [.ref sa.2.2.2.1] sa (some (.int (nI sa.1))) := by
  refine Met.ofW (cc := cJ0_length_8abf5) (maxL := 1) (ret := some .int) (by decide +kernel) rfl ?_
  intro p e s m args below meth c s₁ B hml hv
  obtain ⟨rfl, k⟩ := hv
  have hts := atoms_spec (ws := Cond.code yJ0_length_8abf5 cJ0_length_8abf5 1 (some .int) :: GT) B.pre
  have hG : ∀ w ∈ GT, w.before _ s = true := fun w hw => hts w (List.mem_cons_of_mem _ hw)
  have hown : s.vm.findClass RJ0 = some m.cls := findClass_of_methodNamed B.named
  have hl := lv_entry [Value.ref sa.2.2.2.1] (n := 1) (Nat.le_of_ble_eq_true rfl)
  rw [lg_entry_eq]
  refine lv_aload_n B.exec B.bytes dJ0_length_8abf5_0 rfl (lv_at hl 0 rfl) ?_
  refine vk_getf B.exec B.bytes (k.1.1 0 (by decide)).2.2.1 va_S.rf hown (hG _ sw_9) (fun _ z => z) dJ0_length_8abf5_1 ?_
  refine va_tlen B.exec B.bytes (k.1.1 0 (by decide)).2.2.2 va_S.rf (v := nI sa.1) rfl dJ0_length_8abf5_4 ?_
  refine lv_aload_n B.exec B.bytes dJ0_length_8abf5_5 rfl (lv_at hl 0 rfl) ?_
  refine ro_V (A := fun _ => False) B.exec B.bytes hml hown hG sv_coder (sc_coder l sa) k (fun _ h => h.elim) va_S.rf (As := []) rfl hl.1 rfl ⟨⟨rfl, rfl⟩, by decide, by decide⟩ (Nat.le_of_ble_eq_true rfl) ⟨Nat.le_refl _, Nat.le_refl _⟩ dJ0_length_8abf5_6 ?_
  refine lv_ishr B.exec B.bytes dJ0_length_8abf5_9 ?_
  exact W.iret B.exec B.bytes B.returns (fun t ht _ => ⟨by rw [sh0], ht⟩) (fun _ h => nomatch h) dJ0_length_8abf5_10 B.notSynchronized
theorem sc_pci (l : Launch) (sa : SGt) (i n : Int32) (v : Value) (h0 : ¬ i < 0) (h1 : i < n) (hv9 : v.category = 1) : Rc l yJ3_checkIndex_8e157 cJ3_checkIndex_8e157 3 (some .int) rmR0 [.int i, .int n, v] sa (some (.int i)) := by
  refine Met.ofW (cc := cJ3_checkIndex_8e157) (maxL := 3) (ret := some .int) (by decide +kernel) rfl ?_
  intro p e s m args below meth c s₁ B hml hv
  obtain ⟨rfl, k⟩ := hv
  have hz : (lg_sl [Value.int i, .int n, v]).length ≤ 3 := by
    cases v <;> first | exact Nat.le_of_ble_eq_true rfl | cases hv9
  have hl := lv_entry [Value.int i, .int n, v] (n := 3) hz
  rw [lg_entry_eq]
  refine lv_iload_n B.exec B.bytes dJ3_checkIndex_8e157_0 rfl (lv_at hl 0 rfl) ?_
  refine lv_if_lt B.exec B.bytes dJ3_checkIndex_8e157_1 (tgt := 9) (by decide) (fun q => absurd q h0) (fun _ => ?_)
  refine lv_iload_n B.exec B.bytes dJ3_checkIndex_8e157_4 rfl (lv_at hl 0 rfl) ?_
  refine lv_iload_n B.exec B.bytes dJ3_checkIndex_8e157_5 rfl (lv_at hl 1 rfl) ?_
  refine lv_icmp_lt B.exec B.bytes dJ3_checkIndex_8e157_6 (tgt := 16) (by decide) (fun _ => ?_) (fun q => absurd h1 q)
  refine lv_iload_n B.exec B.bytes dJ3_checkIndex_8e157_16 rfl (lv_at hl 0 rfl) ?_
  exact W.iret B.exec B.bytes B.returns (fun t ht _ => ⟨rfl, ht⟩) (fun _ h => nomatch h) dJ3_checkIndex_8e157_17 B.notSynchronized
theorem sc_ci (l : Launch) (sa : SGt) (i n : Int32) (h0 : ¬ i < 0) (h1 : i < n) : Rc l yJ0_checkIndex_df160 cJ0_checkIndex_df160 2 none rmR1 [.int i, .int n] sa none := by
  refine Met.ofW (cc := cJ0_checkIndex_df160) (maxL := 2) (ret := none) (by decide +kernel) rfl ?_
  intro p e s m args below meth c s₁ B hml hv
  obtain ⟨rfl, k⟩ := hv
  have hts := atoms_spec (ws := Cond.code yJ0_checkIndex_df160 cJ0_checkIndex_df160 2 none :: GT) B.pre
  have hG : ∀ w ∈ GT, w.before _ s = true := fun w hw => hts w (List.mem_cons_of_mem _ hw)
  have hown : s.vm.findClass RJ0 = some m.cls := findClass_of_methodNamed B.named
  have hl := lv_entry [Value.int i, .int n] (n := 2) (Nat.le_of_ble_eq_true rfl)
  rw [lg_entry_eq]
  refine lv_iload_n B.exec B.bytes dJ0_checkIndex_df160_0 rfl (lv_at hl 0 rfl) ?_
  refine lv_iload_n B.exec B.bytes dJ0_checkIndex_df160_1 rfl (lv_at hl 1 rfl) ?_
  have rest : ∀ v : Value, v.category = 1 → W p l e rmR1 s m _ below meth c s.heap [] 0 0 (MQ below (fun _ st ot t => ot = .returned none ∧ t.heap = st.heap) [Value.int i, .int n].toArray s 0 0 (fun _ => False)) (F0 m 5 _ [v, .int n, .int i]) := fun v hv9 => by
    refine ro_S (A := fun _ => False) B.exec B.bytes hml hown hG sv_pci (sc_pci l sa i n v h0 h1 hv9) k (fun _ h => h.elim) va_S.rf rfl hl.1 rfl ⟨⟨rfl, rfl⟩, by decide, by decide⟩ (Nat.le_of_ble_eq_true rfl) ⟨Nat.le_refl _, Nat.le_refl _⟩ dJ0_checkIndex_df160_5 ?_
    refine lv_pop B.exec B.bytes dJ0_checkIndex_df160_8 rfl ?_
    exact W.vret B.exec B.bytes B.returns (fun t ht _ => ⟨rfl, ht⟩) (fun _ h => nomatch h) dJ0_checkIndex_df160_9 B.notSynchronized
  rcases k.2.2 with z | ⟨t9, z⟩
  · exact va_gets B.exec B.bytes z va_S.rf hown (hG _ sw_1053) (fun _ z => z) dJ0_checkIndex_df160_2 (rest _ rfl)
  · exact va_gets B.exec B.bytes z va_S.rf hown (hG _ sw_1053) (fun _ z => z) dJ0_checkIndex_df160_2 (rest _ rfl)
theorem by_ok128 : ∀ n : Fin 128, (((nI n) &&& 255).toUInt32 % 65536).toInt32 = nI n ∧ narrow .char (.int (nI n)) = .int (nI n) := by decide +kernel
theorem by_ok {sa : SGt} (hb : BY sa) {j : Nat} (hj : j < sa.1) : (((sa.2.1.getD j 0) &&& 255).toUInt32 % 65536).toInt32 = sa.2.1.getD j 0 ∧ narrow .char (.int (sa.2.1.getD j 0)) = .int (sa.2.1.getD j 0) := by
  obtain ⟨n, hn, e⟩ := hb.2 j hj
  rw [e]
  exact by_ok128 ⟨n, hn⟩
theorem sc_ca1 (l : Launch) (sa : SGt) (hb : BY sa) (j : Nat) (hj : j < sa.1) : Rc l yJ1_charAt_3b067 cJ1_charAt_3b067 2 (some .char) rmR2 [.ref sa.2.2.2.2, .int (nI j)] sa (some (.int (sa.2.1.getD j 0))) := by
  refine Met.ofW (cc := cJ1_charAt_3b067) (maxL := 2) (ret := some .char) (by decide +kernel) rfl ?_
  intro p e s m args below meth c s₁ B hml hv
  obtain ⟨rfl, k⟩ := hv
  have hts := atoms_spec (ws := Cond.code yJ1_charAt_3b067 cJ1_charAt_3b067 2 (some .char) :: GT) B.pre
  have hG : ∀ w ∈ GT, w.before _ s = true := fun w hw => hts w (List.mem_cons_of_mem _ hw)
  have hown : s.vm.findClass RJ1 = some m.cls := findClass_of_methodNamed B.named
  have hl := lv_entry [Value.ref sa.2.2.2.2, .int (nI j)] (n := 2) (Nat.le_of_ble_eq_true rfl)
  rw [lg_entry_eq]
  refine lv_iload_n B.exec B.bytes dJ1_charAt_3b067_0 rfl (lv_at hl 1 rfl) ?_
  refine lv_aload_n B.exec B.bytes dJ1_charAt_3b067_1 rfl (lv_at hl 0 rfl) ?_
  refine va_tlen B.exec B.bytes (k.1.1 0 (by decide)).2.2.2 va_S.rf (v := nI sa.1) rfl dJ1_charAt_3b067_2 ?_
  refine ro_S (A := fun _ => False) B.exec B.bytes hml hown hG sv_ci (sc_ci l sa (nI j) (nI sa.1) (nI_pos (by have := hb.1; omega)) (nI_lt hj hb.1)) k (fun _ h => h.elim) va_S.rf rfl hl.1 rfl ⟨⟨rfl, rfl⟩, by decide, by decide⟩ (Nat.le_of_ble_eq_true rfl) ⟨Nat.le_refl _, Nat.le_refl _⟩ dJ1_charAt_3b067_3 ?_
  refine lv_aload_n B.exec B.bytes dJ1_charAt_3b067_6 rfl (lv_at hl 0 rfl) ?_
  refine lv_iload_n B.exec B.bytes dJ1_charAt_3b067_7 rfl (lv_at hl 1 rfl) ?_
  refine va_tb B.exec B.bytes (k.1.1 0 (by decide)).2.2.2 va_S.rf (nI_in hj hb.1) (v := .int (sa.2.1.getD j 0)) (by show Value.int (sa.2.1.getD (nI j).toNatClampNeg 0) = _; rw [clN (show j < 2 ^ 31 by have := hb.1; omega)]) dJ1_charAt_3b067_8 ?_
  refine lv_sipush B.exec B.bytes (v := 255) dJ1_charAt_3b067_9 (by decide) ?_
  refine lv_iand B.exec B.bytes dJ1_charAt_3b067_12 ?_
  refine lv_i2c B.exec B.bytes dJ1_charAt_3b067_13 (by_ok hb hj).1 ?_
  exact W.zret (ty := .char) B.exec B.bytes B.returns (by_ok hb hj).2 (fun t ht _ => ⟨rfl, ht⟩) (fun _ h => nomatch h) dJ1_charAt_3b067_14 B.notSynchronized
theorem sc_ca (l : Launch) (sa : SGt) (hb : BY sa) (j : Nat) (hj : j < sa.1) : Rc l yJ0_charAt_5068e cJ0_charAt_5068e 2 (some .char) rmR3 [.ref sa.2.2.2.1, .int (nI j)] sa (some (.int (sa.2.1.getD j 0))) := by
  refine Met.ofW (cc := cJ0_charAt_5068e) (maxL := 2) (ret := some .char) (by decide +kernel) rfl ?_
  intro p e s m args below meth c s₁ B hml hv
  obtain ⟨rfl, k⟩ := hv
  have hts := atoms_spec (ws := Cond.code yJ0_charAt_5068e cJ0_charAt_5068e 2 (some .char) :: GT) B.pre
  have hG : ∀ w ∈ GT, w.before _ s = true := fun w hw => hts w (List.mem_cons_of_mem _ hw)
  have hown : s.vm.findClass RJ0 = some m.cls := findClass_of_methodNamed B.named
  have hl := lv_entry [Value.ref sa.2.2.2.1, .int (nI j)] (n := 2) (Nat.le_of_ble_eq_true rfl)
  rw [lg_entry_eq]
  refine lv_aload_n B.exec B.bytes dJ0_charAt_5068e_0 rfl (lv_at hl 0 rfl) ?_
  refine ro_V (A := fun _ => False) B.exec B.bytes hml hown hG sv_isl (sc_isl l sa) k (fun _ h => h.elim) va_S.rf (As := []) rfl hl.1 rfl ⟨⟨rfl, rfl⟩, by decide, by decide⟩ (Nat.le_of_ble_eq_true rfl) ⟨Nat.le_refl _, Nat.le_refl _⟩ dJ0_charAt_5068e_1 ?_
  refine lv_if_eq B.exec B.bytes dJ0_charAt_5068e_4 (tgt := 16) (by decide) (fun q => absurd q (by decide)) (fun _ => ?_)
  refine lv_aload_n B.exec B.bytes dJ0_charAt_5068e_7 rfl (lv_at hl 0 rfl) ?_
  refine vk_getf B.exec B.bytes (k.1.1 0 (by decide)).2.2.1 va_S.rf hown (hG _ sw_9) (fun _ z => z) dJ0_charAt_5068e_8 ?_
  refine lv_iload_n B.exec B.bytes dJ0_charAt_5068e_11 rfl (lv_at hl 1 rfl) ?_
  refine ro_S (A := fun _ => False) B.exec B.bytes hml hown hG sv_ca1 (sc_ca1 l sa hb j hj) k (fun _ h => h.elim) va_S.rf rfl hl.1 rfl ⟨⟨rfl, rfl⟩, by decide, by decide⟩ (Nat.le_of_ble_eq_true rfl) ⟨Nat.le_refl _, Nat.le_refl _⟩ dJ0_charAt_5068e_12 ?_
  exact W.zret (ty := .char) B.exec B.bytes B.returns (by_ok hb hj).2 (fun t ht _ => ⟨rfl, ht⟩) (fun _ h => nomatch h) dJ0_charAt_5068e_15 B.notSynchronized
