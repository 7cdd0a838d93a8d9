-- the law's stripe: what the class's stripe tells, or which exception it threw
def AO (G : Gx) (q0 : Nat) : Nat → Prop := fun a => Aw G a ∨ a = q0
def oc (G : Gx) (q0 : Nat) (f : Nat → Int64) : Nat × va_E := (q0, .inl (G.2.2.2.2.1, 1, .inr (.inl f)))
theorem D_out {G : Gx} {q0 : Nat} (hd : Dst G) (hq : ¬ Aw G q0) (f : Nat → Int64) (h : Hp) : va_D (AO G q0) ([oc G q0 f] ++ enc G h) := by
  have D := Dst_D hd h
  refine ⟨fun i j p q hi hj e => ?_, fun k q hk => ?_⟩
  · cases i with
    | zero =>
      cases j with
      | zero => rfl
      | succ j =>
        have e1 : oc G q0 f = p := Option.some.inj hi
        have h2 : Aw G q.1 := Aw_in (h := h) (k := j) hj
        rw [← e, ← e1] at h2
        exact absurd h2 hq
    | succ i =>
      cases j with
      | zero =>
        have e1 : oc G q0 f = q := Option.some.inj hj
        have h2 : Aw G p.1 := Aw_in (h := h) (k := i) hi
        rw [e, ← e1] at h2
        exact absurd h2 hq
      | succ j => exact congrArg _ (D.1 i j p q hi hj e)
  · cases k with
    | zero =>
      have e1 : oc G q0 f = q := Option.some.inj hk
      rw [← e1]
      exact Or.inr rfl
    | succ k => exact Or.inl (Aw_in (h := h) (k := k) hk)
theorem ofWH {l : Launch} {y : MethodName} {ws ws' : List Cond} {rm : Room} {Pc : Array Value → State → Prop} {Qc : Array Value → State → Outcome → State → Prop} {mc ms : Nat} {free : Addr → Prop} {cc : ByteArray} {maxL : Nat} {ret : Option FieldType} {hh : List (Nat × Nat × Nat × Nat)}
    (hy : plainName y.cls = true) (hw : ws = Cond.codeWith y cc maxL ret hh :: ws')
    (body : ∀ p e s m args below meth c s₁, BodyLoose p l y (headSpec ws rm) cc maxL ret e s m args below meth c s₁ → c.maxLocals = maxL → c.exceptionTable.toList = tableOf hh → Pc args s →
      W p l e (headSpec ws rm).room s m args below meth c s.heap [] 0 0 (MQ below Qc args s mc ms free) (entryFrame m args maxL)) : Met l y ws rm Pc Qc mc ms free := by
  refine MetFree.of_bodyS (code := cc) (maxLocals := maxL) (ret := ret) hy ?_ ?_
  · intro args s m h hn
    obtain ⟨m9, meth, c, hn9, h1, h2, h3, h4, -, h5, h6, -⟩ := Cond.codeWith_spec (atoms_spec (ws := ws) h _ (by rw [hw]; exact List.mem_cons_self))
    cases hn.symm.trans hn9
    exact ⟨meth, c, h1, h2, h3, h4, h5, h6⟩
  · intro p e s m args below meth c s₁ B hml hP _
    have hh0 : s₁.heap = s.heap := by rw [B.state]; rfl
    have htb := vx_table (x := y) B (atoms_spec (ws := ws) B.pre _ (by rw [hw]; exact List.mem_cons_self))
    obtain ⟨t, a1, o, b1, b2, b3, b4⟩ := body p e s m args below meth c s₁ B hml htb hP s₁ hh0 (Stand.of_body B)
    exact ⟨t, o, a1, b1, b2, b3, b4⟩
section LS
variable {X : Cx} {α : Type} {Qf : α → State → Prop} {cc : ByteArray} {own : String} {ret : Option FieldType} {rm : Room} {pc : Nat} {lv : List (Nat × Value)} {st : List Value} {h : Hp} {k : Option α} {q0 : Nat} {f : Nat → Int64} {v : Int64}
theorem r_xlast (F : Fx X cc own ret rm) (hd : decode cc pc = .ok (.lastore, 1)) (K : Wt X Qf [oc (xG X) q0 (vp_updL f 0 v)] (pc + 1) lv st h k) : Wt X Qf [oc (xG X) q0 f] pc lv (.long v :: .int 0 :: .ref q0 :: st) h k := by
  obtain ⟨hx, hb, hml, hown, hts, -, -, hK, -⟩ := F
  intro H locs ls hO hP hD hS hl out ho2
  exact va_last (f := f) (n := 1) (i := 0) hx hb hK hP hD hS 0 2 rfl rfl (inb_vp ⟨by decide, by decide⟩) hd (fun H1 locs1 a1 a2 a3 => K H1 locs1 ls hO a1 a2 a3 hl out ho2)
theorem r_xlald (F : Fx X cc own ret rm) (hd : decode cc pc = .ok (.laload, 1)) (K : Wt X Qf [oc (xG X) q0 f] (pc + 1) lv (.long (f 0) :: st) h k) : Wt X Qf [oc (xG X) q0 f] pc lv (.int 0 :: .ref q0 :: st) h k := by
  obtain ⟨hx, hb, hml, hown, hts, -, -, hK, -⟩ := F
  intro H locs ls hO hP hD hS hl out ho2
  exact va_lald (f := f) (n := 1) (i := 0) hx hb hK hP 0 2 rfl rfl (inb_vp ⟨by decide, by decide⟩) hd (K H locs ls hO hP hD hS hl out ho2)
end LS
abbrev QL (G : Gx) (q0 : Nat) (h : Hp) (r : Int32) (f : Nat → Int64) : Array Value → State → Outcome → State → Prop := fun _ st ot t => ot = .returned (some (.int r)) ∧ va_P G.2.1 vwCl ([oc G q0 f] ++ enc G h) t.heap ∧ va_F (AO G q0) st t
abbrev QX (X : Cx) (q0 : Nat) (h : Hp) (r : Int32) (f : Nat → Int64) : State → Prop := MQ X.1.2.2.2.2.2.2.2.1 (QL (xG X) q0 h r f) X.1.2.2.2.2.2.2.1 (xS X) (xC X) (xN X) (AO (xG X) q0)
theorem r_iretL {X : Cx} {cc : ByteArray} {own : String} {rm : Room} {pc : Nat} {lv : List (Nat × Value)} {h : Hp} {q0 : Nat} {f : Nat → Int64} {r : Int32} {α : Type} {a : α} {ρ : α → Int32} {φ : α → Nat → Int64} (hr : ρ a = r) (hf : φ a = f) (F : Fx X cc own (some .int) rm) (hA : xA X = AO (xG X) q0) (hd : decode cc pc = .ok (.ireturn, 1)) : Wt X (fun a => QX X q0 h (ρ a) (φ a)) [oc (xG X) q0 f] pc lv [.int r] h (some a) := by
  obtain ⟨hx, hb, hml, hown, hts, hlocks, hret, -⟩ := F
  intro H locs ls hO hP hD hS hl o ho
  cases ho
  rw [hA] at hS
  show Wx X H locs (QX X q0 h (ρ a) (φ a)) _
  rw [hr, hf]
  exact W.iret hx hb hret (fun t ht _ => ⟨rfl, by rw [ht]; exact hP, hS.F ht⟩) hS.2.2 hd hlocks
theorem cvL_7 : CV RL 7 yX7_stripe cX7_stripe 3 (some .int) 2 7 := ⟨⟨GT_5 97 rfl rfl, GT_5 94 rfl rfl, GT_1 1 rfl rfl, ⟨by decide, by decide, by decide +kernel⟩⟩, GT_5 95 rfl rfl, GT_5 96 rfl rfl, by decide⟩
theorem wd_13 : Cond.classLink RL 13 IOE ∈ GT := GT_5 92 rfl rfl
theorem wd_15 : Cond.classLink RL 15 NSE ∈ GT := GT_5 93 rfl rfl
abbrev rmL_stripe0 : Room := { frames := 2, cells := 0, slots := 0, locals := 60 }
abbrev rmL_stripeT : Room := { frames := 7, cells := 1, slots := 6, locals := 120 }
abbrev hhL : List (Nat × Nat × Nat × Nat) := [(0, 10, 13, 13), (0, 10, 17, 15)]
/-- at the law's stripe's entry -/
abbrev PL (G : Gx) (q0 : Nat) (h : Hp) (f : Nat → Int64) (a1 a2 : Nat) : State → Prop := fun U => (va_P G.2.1 vwCl ([oc G q0 f] ++ enc G h) U.heap ∧ va_K G.2.1 vwCl (tys G) U ∧ Dst G ∧ Nst U) ∧ ¬ Aw G q0 ∧ TK (AO G q0) a1 a2 U
theorem PL_blind (G : Gx) (q0 : Nat) (h : Hp) (f : Nat → Int64) (a1 a2 : Nat) (av : List Value) : FrameBlind (va_Pc av (PL G q0 h f a1 a2)) := fun a U g mk q => by
  obtain ⟨q0, ⟨qP, qK, qD, qN⟩, qA, qT⟩ := q
  exact ⟨q0, ⟨qP, va_K.moved (u := U) (U := U.calling g mk a) (Vm.Alike.refl U.vm) qK, qD, va_Nw.same (u := U) (U := U.calling g mk a) rfl rfl qN⟩, qA, TK.call qT⟩
set_option maxRecDepth 100000 in
set_option maxHeartbeats 4000000 in
theorem w_L_stripe (X : Cx) (F : Fx X cL_stripe RL (some .int) rmL_stripe0) {q0 : Nat} (hA : xA X = AO (xG X) q0) (hL : xL X = 5) (h : Hp) (f : Nat → Int64) (p1 p2 : Int32) : Wt X (fun v => QX X q0 h 0 (vp_updL f 0 v.toInt64)) [oc (xG X) q0 f] 0 [(0, .ref (adr (xG X) 7 0 0)), (1, .int p1), (2, .int p2), (3, .ref q0)] [] h (f_X7_stripe h p1 p2) := by
  refine r_aload_n F 3 rfl dL_stripe_0 rfl ?_
  refine r_iconst F (v := 0) dL_stripe_1 (by decide) ?_
  refine r_aload_n F 0 rfl dL_stripe_2 rfl ?_
  refine r_iload_n F 1 rfl dL_stripe_3 rfl ?_
  refine r_iload_n F 2 rfl dL_stripe_4 rfl ?_
  rw [show f_X7_stripe h p1 p2 = (f_X7_stripe h p1 p2).bind some by cases f_X7_stripe h p1 p2 <;> rfl]
  refine k_iP (run_V F cvL_7 (by decide) (c_X7_stripe (xG X) _ h p1 p2) rfl rfl ⟨⟨rfl, rfl⟩, Nat.le_of_ble_eq_true rfl, Nat.le_of_ble_eq_true rfl⟩ (Nat.le_of_ble_eq_true rfl) dL_stripe_5) fun v _ => ?_
  refine r_i2l F dL_stripe_8 ?_
  refine r_xlast F dL_stripe_9 ?_
  refine r_goto F (tgt := 21) dL_stripe_10 (by decide) ?_
  refine r_iconst F (v := 0) dL_stripe_21 (by decide) ?_
  exact r_iretL (ρ := fun _ => 0) (φ := fun v : Int32 => vp_updL f 0 v.toInt64) rfl rfl F hA dL_stripe_22
theorem c_L_stripe (G : Gx) (q0 : Nat) (l : Launch) (h : Hp) (f : Nat → Int64) (p1 p2 v : Int32) (a1 a2 : Nat) (hv : f_X7_stripe h p1 p2 = some v) (hO : okH h) : Met l yL_stripe (.codeWith yL_stripe cL_stripe 5 (some .int) hhL :: GT) rmL_stripe0 (va_Pc [.ref (adr G 7 0 0), .int p1, .int p2, .ref q0] (PL G q0 h f a1 a2)) (QL G q0 h 0 (vp_updL f 0 v.toInt64)) 0 0 (AO G q0) := by
  refine ofWH (cc := cL_stripe) (maxL := 5) (ret := some .int) (hh := hhL) (by decide +kernel) rfl ?_
  intro p e s m args below meth c s₁ B hml ht hv'
  obtain ⟨rfl, ⟨hP, hK, hD, hN⟩, hq, tk⟩ := hv'
  have hts := atoms_spec (ws := Cond.codeWith yL_stripe cL_stripe 5 (some .int) hhL :: GT) B.pre
  have K := w_L_stripe ((p, l, e, rmL_stripe0, s, m, [Value.ref (adr G 7 0 0), .int p1, .int p2, .ref q0].toArray, below, meth, c), G, AO G q0, 0, 0, 5) ⟨B.exec, B.bytes, hml, findClass_of_methodNamed B.named, fun w hw => hts w (List.mem_cons_of_mem _ hw), B.notSynchronized, B.returns, hK, hD, fun _ z => Or.inl z, rfl, ⟨Nat.zero_le _, Nat.zero_le _⟩, hN⟩ rfl rfl h f p1 p2
  have hlv := lv_entry [Value.ref (adr G 7 0 0), .int p1, .int p2, .ref q0] (n := 5) (show 4 ≤ 5 by decide)
  rw [lg_entry_eq]
  exact K s.heap [] _ hO hP (D_out hD hq f h) va_S.rf hlv v hv
def exR (E : String) : Int32 := if E = IOE then 1 else 2
set_option maxRecDepth 100000 in
set_option maxHeartbeats 4000000 in
theorem x_L_stripe (G : Gx) (q0 : Nat) (l : Launch) (hl : l.stackTraces = false) (h : Hp) (f : Nat → Int64) (p1 p2 : Int32) (E : String) (a1 a2 : Nat) (hE : t_X7_stripe h p1 p2 = some E) (hEE : E = IOE ∨ E = NSE) (hO : okH h) : Met l yL_stripe (.codeWith yL_stripe cL_stripe 5 (some .int) hhL :: GT) rmL_stripeT (va_Pc [.ref (adr G 7 0 0), .int p1, .int p2, .ref q0] (PL G q0 h f a1 a2)) (QL G q0 h (exR E) f) 1 6 (AO G q0) := by
  refine ofWH (cc := cL_stripe) (maxL := 5) (ret := some .int) (hh := hhL) (by decide +kernel) rfl ?_
  intro p e s m args below meth c s₁ B hml ht hv'
  obtain ⟨rfl, ⟨hP, hK, hD, hN⟩, hq, tk⟩ := hv'
  have hts := atoms_spec (ws := Cond.codeWith yL_stripe cL_stripe 5 (some .int) hhL :: GT) B.pre
  have hlv := lv_entry [Value.ref (adr G 7 0 0), .int p1, .int p2, .ref q0] (n := 5) (show 4 ≤ 5 by decide)
  have hown : s.vm.findClass RL = some m.cls := findClass_of_methodNamed B.named
  have htsG : ∀ w ∈ GT, w.before [Value.ref (adr G 7 0 0), .int p1, .int p2, .ref q0].toArray s = true := fun w hw => hts w (List.mem_cons_of_mem _ hw)
  obtain ⟨X, hX⟩ : ∃ X : Cx, X = ((p, l, e, rmL_stripeT, s, m, [Value.ref (adr G 7 0 0), .int p1, .int p2, .ref q0].toArray, below, meth, c), G, AO G q0, 0, 0, 5) := ⟨_, rfl⟩
  have F : Fx X cL_stripe RL (some .int) rmL_stripeT := by
    rw [hX]
    exact ⟨B.exec, B.bytes, hml, hown, htsG, B.notSynchronized, B.returns, hK, hD, fun _ z => Or.inl z, rfl, ⟨Nat.zero_le _, Nat.zero_le _⟩, hN⟩
  have F1 : Fx (X.1, X.2.1, X.2.2.1, 1, 6, X.2.2.2.2.2) cL_stripe RL (some .int) rmL_stripeT := by
    rw [hX]
    exact ⟨B.exec, B.bytes, hml, hown, htsG, B.notSynchronized, B.returns, hK, hD, fun _ z => Or.inl z, rfl, ⟨Nat.le_refl _, Nat.le_refl _⟩, hN⟩
  rw [lg_entry_eq]
  have main : Wt X (fun _ : Unit => QX (X.1, X.2.1, X.2.2.1, 1, 6, X.2.2.2.2.2) q0 h (exR E) f) [oc G q0 f] 0 [(0, .ref (adr G 7 0 0)), (1, .int p1), (2, .int p2), (3, .ref q0)] [] h (some ()) := by
    refine r_aload_n F 3 rfl dL_stripe_0 rfl ?_
    refine r_iconst F (v := 0) dL_stripe_1 (by decide) ?_
    refine r_aload_n F 0 rfl dL_stripe_2 rfl ?_
    refine r_iload_n F 1 rfl dL_stripe_3 rfl ?_
    refine r_iload_n F 2 rfl dL_stripe_4 rfl ?_
    -- behind the throw: the handler's place
    have tail : ∀ (pc : Nat) (r : Int) (q : Nat), Int32.ofInt r = exR E → decode cL_stripe pc = .ok (.astore 4, 2) → decode cL_stripe (pc + 2) = .ok (.iconst r, 1) → decode cL_stripe (pc + 2 + 1) = .ok (.ireturn, 1) → Wt (X.1, X.2.1, X.2.2.1, 1, 6, X.2.2.2.2.2) (fun _ : Unit => QX (X.1, X.2.1, X.2.2.1, 1, 6, X.2.2.2.2.2) q0 h (exR E) f) [oc G q0 f] pc [(0, .ref (adr G 7 0 0)), (1, .int p1), (2, .int p2), (3, .ref q0)] [.ref q] h (some ()) := by
      intro pc r q hr d1 d2 d3
      refine r_astore F1 [(4, .ref q), (0, .ref (adr G 7 0 0)), (1, .int p1), (2, .int p2), (3, .ref q0)] rfl d1 (by rw [hX]; show 4 < 5; decide) ?_
      refine r_iconst F1 (v := exR E) d2 hr ?_
      have e9 : G = xG (X.1, X.2.1, X.2.2.1, 1, 6, X.2.2.2.2.2) := by rw [hX]; rfl
      have := r_iretL (X := (X.1, X.2.1, X.2.2.1, 1, 6, X.2.2.2.2.2)) (lv := [(4, .ref q), (0, .ref (adr G 7 0 0)), (1, .int p1), (2, .int p2), (3, .ref q0)]) (h := h) (q0 := q0) (f := f) (r := exR E) (a := ()) (ρ := fun _ => exR E) (φ := fun _ => f) rfl rfl F1 (by rw [hX]; rfl) d3
      rw [← e9] at this
      exact this
    intro H locs ls hO1 hP1 hD1 hS1 hl1 out _
    have hPe : va_P G.2.1 vwCl (enc G h) H := by
      have := hP1
      rw [hX] at this
      exact P_enc this
    have hPo : va_P G.2.1 vwCl ([oc G q0 f] ++ enc G h) H := by
      have := hP1
      rw [hX] at this
      exact this
    obtain ⟨i0, -, hi0⟩ := enc_at G [] (c := 7) (o := 0) (j := 0) (by decide) (by decide) (by decide)
    have hG9 : GoodIn GT (Cond.code yX7_stripe cX7_stripe 3 (some .int) :: GT) := fun w hw => by
      have hm : w ∈ GT := by
        rcases List.mem_cons.mp hw with z | z
        · rw [z]; exact cvL_7.1.1
        · exact z
      exact ⟨hm, good_of_word (List.mem_filter.mp hm).2⟩
    have hS9 : va_S (AO G q0) s.heap H locs := by
      have := hS1
      rw [hX] at this
      exact this
    have hl9 : lv_has ls 5 [(0, .ref (adr G 7 0 0)), (1, .int p1), (2, .int p2), (3, .ref q0)] := by
      have := hl1
      rw [hX] at this
      exact this
    have hsz : c.maxLocals = 5 := hml
    have hrun : vx_Run p l e rmL_stripeT s m [Value.ref (adr G 7 0 0), .int p1, .int p2, .ref q0].toArray below meth c H locs 0 0 1 6 (F0 m 5 ls [.int p2, .int p1, .ref (adr G 7 0 0), .int 0, .ref q0]) [.int 0, .ref q0] (NQ (Value.ref (adr G 7 0 0) :: [.int p1, .int p2]).toArray) (TC G h E) (Aw G) :=
      vx_runV (Ts := GT) (n := 2) (C := RXf 7) (own := RL) (index := 7) (bytes := cX7_stripe) (maxL := 3) (ret := some .int) (cc := cL_stripe) (nL := 5) ⟨B.exec, B.bytes, hml, hown, htsG⟩ (x_X7_stripe G l hl h p1 p2 a1 a2 E hE hO) ⟨callB_of 2 htsG hG9 rfl rfl rfl (htsG _ cvL_7.1.2.2.1) (htsG _ cvL_7.1.2.1) cvL_7.1.2.2.2 ⟨Nat.le_of_ble_eq_true rfl, Nat.le_of_ble_eq_true rfl⟩, htsG _ cvL_7.2.1, htsG _ cvL_7.2.2.1⟩
        ⟨fun a U g mk z => ⟨(Pw_blind G _ h a U g mk ⟨z.1, z.2.1⟩).1, (Pw_blind G _ h a U g mk ⟨z.1, z.2.1⟩).2, TK.call z.2.2⟩, va_recv hK hPe (cl_at 7 (by decide)) (hi0 h), fun U hU hW => ⟨rfl, ⟨by rw [hU]; exact hPe, va_K.moved hW.alike hK, hD, va_Nw.warmM hW hN⟩, TK.narrow (fun _ z => Or.inl z) (TK.move hW (fun a g1 g2 => by rw [hU]; exact hS9.2.1 a g1 g2) tk)⟩⟩
        rfl rfl hl9.1 rfl (by show 2 * 0 + 2 ≤ 8; decide) dL_stripe_5 ⟨by decide, by decide⟩
    have key : W p l e rmL_stripeT s m [Value.ref (adr G 7 0 0), .int p1, .int p2, .ref q0].toArray below meth c H locs 0 0 (QX (X.1, X.2.1, X.2.2.1, 1, 6, X.2.2.2.2.2) q0 h (exR E) f) (F0 m 5 ls [.int p2, .int p1, .ref (adr G 7 0 0), .int 0, .ref q0]) := by
      refine vx_calli hrun hS9 (fun _ _ z => z.elim) (fun _ z => Or.inl z) (fun _ _ z => Or.inl z) ?_ (fun r u t H1 locs1 _ _ z => z.elim)
      intro E' ce q9 u t H1 locs1 ht1 _ _ hB hz hkq hS2 hce hcv hcl
      obtain ⟨rfl, hPt⟩ := hB
      rw [ht1] at hPt
      have hP2 : va_P G.2.1 vwCl ([oc G q0 f] ++ enc G h) H1 := by
        refine va_P.app (fun k q hk => ?_) hPt
        have h1 := P_ex hPo k q hk
        refine h1.kept (hkq q.1 h1.lt fun z => ?_)
        cases k with
        | zero =>
          have e1 : oc G q0 f = q := Option.some.inj hk
          rw [← e1] at z
          exact hq z
        | succ k => cases hk
      rcases hEE with hE1 | hE1
      · subst hE1
        refine vx_catch (own := RL) (name := IOE) (E := IOE) (ce := ce) hown [] ⟨0, 10, 13, 13⟩ [⟨0, 10, 17, 15⟩] ht (fun z hz => nomatch hz) (by decide) (by decide) (htsG _ wd_13) (va_Nw.use rfl tk.2.2.1.1) hce hcv hcl ?_
        have := tail 13 1 q9 (by decide) dL_stripe_13 dL_stripe_15 dL_stripe_16
        rw [hX] at this
        rw [hX]
        exact this H1 locs1 ls hO hP2 (D_out hD hq f h) hS2 hl9 () rfl
      · subst hE1
        refine vx_catch (own := RL) (name := NSE) (E := NSE) (ce := ce) hown [⟨0, 10, 13, 13⟩] ⟨0, 10, 17, 15⟩ [] ht (fun z hz => by
          rw [List.mem_singleton.mp hz]
          exact Or.inr ⟨by decide, IOE, htsG _ wd_13, tk.2.2.1.2.2⟩) (by decide) (by decide) (htsG _ wd_15) (va_Nw.use rfl tk.2.2.1.2.1) hce hcv hcl ?_
        have := tail 17 2 q9 (by decide +kernel) dL_stripe_17 dL_stripe_19 dL_stripe_20
        rw [hX] at this
        rw [hX]
        exact this H1 locs1 ls hO hP2 (D_out hD hq f h) hS2 hl9 () rfl
    rw [hX]
    rw [hX] at key
    exact key
  have := main s.heap [] _ hO (by rw [hX]; exact hP) (by rw [hX]; exact D_out hD hq f h) (by rw [hX]; exact va_S.rf) (by rw [hX]; exact hlv) () rfl
  rw [hX] at this
  exact this
