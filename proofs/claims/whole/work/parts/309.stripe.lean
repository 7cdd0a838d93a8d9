-- the class's stripe: it tells, or it throws
def IOE : String := "java/lang/IndexOutOfBoundsException"
def NSE : String := "java/util/NoSuchElementException"
def dcR : Cond := .declares (Bundle.initS "java/lang/RuntimeException")
def dcE : Cond := .declares (Bundle.initS "java/lang/Exception")
def dcT : Cond := .declares (Bundle.initS "java/lang/Throwable")
def TK (A : Nat → Prop) (a1 a2 : Nat) (U : State) : Prop :=
  (vk_R RX7 136 "no such stripe" a1 U ∧ vk_R RX7 143 "no such what" a2 U) ∧ (vx_Zq Bundle.tN "UNASSIGNED_STACK" Bundle.steD A U U.heap ∧ vx_Zq Bundle.tN "SUPPRESSED_SENTINEL" Bundle.listD A U U.heap) ∧ (va_Nw (.castable IOE IOE) U ∧ va_Nw (.castable NSE NSE) U ∧ va_Nc NSE IOE U) ∧ va_Nw dcR U ∧ va_Nw dcE U ∧ va_Nw dcT U
theorem TK.move {A : Nat → Prop} {a1 a2 : Nat} {s U : State} (hW : s.WarmedH U.vm) (hq : ∀ a : Nat, a < s.heap.size → ¬ A a → U.heap[a]? = s.heap[a]?) (t : TK A a1 a2 s) : TK A a1 a2 U :=
  ⟨⟨vk_R.warm hW t.1.1, vk_R.warm hW t.1.2⟩, ⟨vx_Zq.moved hW.alike (t.2.1.1.kept hq), vx_Zq.moved hW.alike (t.2.1.2.kept hq)⟩, ⟨va_Nw.warmC hW t.2.2.1.1, va_Nw.warmC hW t.2.2.1.2.1, va_Nc.moved hW.alike t.2.2.1.2.2⟩, va_Nw.warmD hW t.2.2.2.1, va_Nw.warmD hW t.2.2.2.2.1, va_Nw.warmD hW t.2.2.2.2.2⟩
theorem TK.narrow {A B : Nat → Prop} {a1 a2 : Nat} {s : State} (hAB : ∀ q, B q → A q) (t : TK A a1 a2 s) : TK B a1 a2 s := ⟨t.1, ⟨t.2.1.1.narrow hAB, t.2.1.2.narrow hAB⟩, t.2.2⟩
theorem TK.call {A : Nat → Prop} {a1 a2 : Nat} {U : State} {g : JFrame} {mk : MethodId} {a : Array Value} (t : TK A a1 a2 U) : TK A a1 a2 (U.calling g mk a) :=
  ⟨⟨vk_R.same (u := U) rfl t.1.1, vk_R.same (u := U) rfl t.1.2⟩, ⟨vx_Zq.moved (u := U) (U := U.calling g mk a) (Vm.Alike.refl U.vm) t.2.1.1, vx_Zq.moved (u := U) (U := U.calling g mk a) (Vm.Alike.refl U.vm) t.2.1.2⟩, ⟨va_Nw.same (u := U) rfl rfl t.2.2.1.1, va_Nw.same (u := U) rfl rfl t.2.2.1.2.1, va_Nc.moved (u := U) (U := U.calling g mk a) (Vm.Alike.refl U.vm) t.2.2.1.2.2⟩, va_Nw.same (u := U) rfl rfl t.2.2.2.1, va_Nw.same (u := U) rfl rfl t.2.2.2.2.1, va_Nw.same (u := U) rfl rfl t.2.2.2.2.2⟩
-- where it tells
def f_X7_stripe (h : Hp) (p1 p2 : Int32) : Option Int32 :=
  (f_X7_isStripe h p1).bind fun v2 =>
  if ¬ (b2i v2) = 0 then
    if p2 < 0 then none
    else if p2 ≤ 1 then
      if ¬ p2 = 0 then grd (inb p1 8) <| some (gA h 3 1 1 p1.toNatClampNeg)
      else grd (inb p1 8) <| some (gA h 3 1 0 p1.toNatClampNeg)
    else none
  else none
abbrev rmX7_stripe0 : Room := { frames := 1, cells := 0, slots := 0, locals := 30 }
set_option maxRecDepth 100000 in
set_option maxHeartbeats 4000000 in
theorem w_X7_stripe (X : Cx) (F : Fx X cX7_stripe RX7 (some .int) rmX7_stripe0) (hA : xA X = Aw (xG X)) (hL : xL X = 3) (h : Hp) (p1 p2 : Int32) : Wm X (fun v => some (.int v)) (fun _ => h) (fun _ => True) 0 [(0, .ref (adr (xG X) 7 0 0)), (1, .int p1), (2, .int p2)] [] h (f_X7_stripe h p1 p2) := by
  unfold f_X7_stripe
  refine r_aload_n F 0 rfl dX7_stripe_0 rfl ?_
  refine r_iload_n F 1 rfl dX7_stripe_1 rfl ?_
  refine k_zP (run_V F cvX7_130 (by decide) (c_X7_isStripe (xG X) _ h p1) rfl rfl ⟨⟨rfl, rfl⟩, Nat.le_of_ble_eq_true rfl, Nat.le_of_ble_eq_true rfl⟩ (Nat.le_of_ble_eq_true rfl) dX7_stripe_2) fun v2 _ => ?_
  refine r_ifne F (tgt := 18) dX7_stripe_5 (by decide) ?_ Wt_none
  refine r_iload_n F 2 rfl dX7_stripe_18 rfl ?_
  refine r_iflt F (tgt := 27) dX7_stripe_19 (by decide) Wt_none ?_
  refine r_iload_n F 2 rfl dX7_stripe_22 rfl ?_
  refine r_iconst F (v := 1) dX7_stripe_23 (by decide) ?_
  refine r_icmple F (tgt := 37) dX7_stripe_24 (by decide) ?_ Wt_none
  refine r_iload_n F 2 rfl dX7_stripe_37 rfl ?_
  refine r_ifne F (tgt := 53) dX7_stripe_38 (by decide) ?_ ?_
  · refine r_aload_n F 0 rfl dX7_stripe_53 rfl ?_
    refine r_getS F frX7_72 (by decide) 1 rfl dX7_stripe_54 ?_
    refine r_getA F frX7_149 (by decide) dX7_stripe_57 ?_
    refine r_iload_n F 1 rfl dX7_stripe_60 rfl ?_
    refine r_iaload F (n := 8) ⟨by decide, by decide, by decide, rfl⟩ dX7_stripe_61 ?_
    exact r_iret F hA rfl rfl trivial dX7_stripe_62
  · refine r_aload_n F 0 rfl dX7_stripe_41 rfl ?_
    refine r_getS F frX7_72 (by decide) 1 rfl dX7_stripe_42 ?_
    refine r_getA F frX7_146 (by decide) dX7_stripe_45 ?_
    refine r_iload_n F 1 rfl dX7_stripe_48 rfl ?_
    refine r_iaload F (n := 8) ⟨by decide, by decide, by decide, rfl⟩ dX7_stripe_49 ?_
    refine r_goto F (tgt := 62) dX7_stripe_50 (by decide) ?_
    exact r_iret F hA rfl rfl trivial dX7_stripe_62
theorem c_X7_stripe (G : Gx) (l : Launch) (h : Hp) (p1 p2 : Int32) : Ctr G l yX7_stripe (.code yX7_stripe cX7_stripe 3 (some .int) :: GT) rmX7_stripe0 [.ref (adr G 7 0 0), .int p1, .int p2] h (f_X7_stripe h p1 p2) (fun v => some (.int v)) (fun _ => h) (fun _ => True) :=
  ctr_of (by decide +kernel) (show 3 ≤ 3 by decide) ⟨rfl, rfl⟩ fun X _ hG hA hL F => by subst hG; exact w_X7_stripe X F hA hL h p1 p2
-- where it throws
def t_X7_stripe (h : Hp) (p1 p2 : Int32) : Option String :=
  (f_X7_isStripe h p1).bind fun v2 =>
  if ¬ (b2i v2) = 0 then
    if p2 < 0 then some NSE
    else if p2 ≤ 1 then none
    else some NSE
  else some IOE
abbrev rmX7_stripeT : Room := { frames := 6, cells := 1, slots := 6, locals := 90 }
abbrev TC (G : Gx) (h : Hp) (E : String) : String → State → State → Prop := vx_X (fun _ : Unit => True) (fun E' _ t => E' = E ∧ va_P G.2.1 vwCl (enc G h) t.heap) (Aw G)
abbrev NQ : Array Value → State → Outcome → State → Prop := va_Qi (fun _ (_ : Unit) => False) (fun _ _ => True) (fun _ => False)
theorem GT_x0 : ∀ w ∈ (vx_atS RX7 138 IOE ["java/lang/RuntimeException", "java/lang/Exception"]).filter goodWord, w ∈ GT := fun w h => List.mem_filter.mpr ⟨(by decide +kernel : ∀ w ∈ (vx_atS RX7 138 IOE ["java/lang/RuntimeException", "java/lang/Exception"]).filter goodWord, w ∈ lw_tbl) w h, (List.mem_filter.mp h).2⟩
theorem GT_x1 : ∀ w ∈ (vy_at RX7 145 NSE "java/lang/RuntimeException" 13 prog_25_method_4_code ["java/lang/Exception"]).filter goodWord, w ∈ GT := fun w h => List.mem_filter.mpr ⟨(by decide +kernel : ∀ w ∈ (vy_at RX7 145 NSE "java/lang/RuntimeException" 13 prog_25_method_4_code ["java/lang/Exception"]).filter goodWord, w ∈ lw_tbl) w h, (List.mem_filter.mp h).2⟩
theorem bd_x0 : ∀ w ∈ (vx_atS RX7 138 IOE ["java/lang/RuntimeException", "java/lang/Exception"]).filter (fun w => !goodWord w), w ∈ [Cond.castable IOE IOE, dcR, dcE, dcT] := by decide +kernel
theorem bd_x1 : ∀ w ∈ (vy_at RX7 145 NSE "java/lang/RuntimeException" 13 prog_25_method_4_code ["java/lang/Exception"]).filter (fun w => !goodWord w), w ∈ [dcR, dcE, dcT] := by decide +kernel
theorem ot_x0 : ∀ w ∈ Cond.classLink RX7 134 IOE :: Cond.initialized IOE :: vx_atS RX7 138 IOE ["java/lang/RuntimeException", "java/lang/Exception"], vx_ot w = true := by decide +kernel
theorem ot_x1 : ∀ w ∈ Cond.classLink RX7 141 NSE :: Cond.initialized NSE :: vy_at RX7 145 NSE "java/lang/RuntimeException" 13 prog_25_method_4_code ["java/lang/Exception"], vx_ot w = true := by decide +kernel
theorem wd_x0 : Cond.classLink RX7 134 IOE ∈ GT ∧ Cond.initialized IOE ∈ GT := ⟨GT_5 98 rfl rfl, GT_1 19 rfl rfl⟩
theorem wd_x1 : Cond.classLink RX7 141 NSE ∈ GT ∧ Cond.initialized NSE ∈ GT := ⟨GT_5 164 rfl rfl, GT_1 20 rfl rfl⟩
set_option maxRecDepth 100000 in
set_option maxHeartbeats 4000000 in
theorem w_X7_stripeT (X : Cx) (F : Fx X cX7_stripe RX7 (some .int) rmX7_stripeT) (hA : xA X = Aw (xG X)) (hL : xL X = 3) (h0 : xC X = 0 ∧ xN X = 0) (hl : X.1.2.1.stackTraces = false) (ht : ∀ x ∈ X.1.2.2.2.2.2.2.2.2.2.exceptionTable.toList, False) (h : Hp) (p1 p2 : Int32) {a1 a2 : Nat} (tk : TK (Aw (xG X)) a1 a2 (xS X)) : Wt X (fun E => vx_MQ X.1.2.2.2.2.2.2.2.1 NQ (TC (xG X) h E) X.1.2.2.2.2.2.2.1 (xS X) 1 6 (Aw (xG X))) [] 0 [(0, .ref (adr (xG X) 7 0 0)), (1, .int p1), (2, .int p2)] [] h (t_X7_stripe h p1 p2) := by
  have F0 := F
  obtain ⟨hx, hb, hml, hown, hts, hlk, -, hK, hDst, -, hrm, -⟩ := F
  have hrm' : X.1.2.2.2.1 = rmX7_stripeT := hrm
  have iox : ∀ lv, Wt X (fun E => vx_MQ X.1.2.2.2.2.2.2.2.1 NQ (TC (xG X) h E) X.1.2.2.2.2.2.2.1 (xS X) 1 6 (Aw (xG X))) [] 8 lv [] h (some IOE) := by
    intro lv H locs ls hO hP hD hS hlv out ho
    cases ho
    rw [hA] at hS
    have hP' : va_P (xG X).2.1 vwCl (enc (xG X) h) H := P_enc hP
    exact vx_throwS (A := Aw (xG X)) (cls := IOE) (names := ["java/lang/RuntimeException", "java/lang/Exception"]) hx hb hl hown (by decide +kernel) (by decide +kernel) (hts _ wd_x0.1) (hts _ wd_x0.2) tk.1.1 (vx_hat (fun w hw => hts w (GT_x0 w hw)) bd_x0 (vx_c (va_Nw.use rfl tk.2.2.1.1) (vx_c (va_Nw.use rfl tk.2.2.2.1) (vx_c (va_Nw.use rfl tk.2.2.2.2.1) (vx_c (va_Nw.use rfl tk.2.2.2.2.2) vx_n))))) ot_x0 tk.2.1.1 tk.2.1.2 hS (hlv.1.trans hml.symm) dX7_stripe_8 dX7_stripe_11 dX7_stripe_12 dX7_stripe_14 dX7_stripe_17 (fun x hx => (ht x hx).elim) (by rw [hrm']; decide) (by rw [hrm']; decide) (by rw [hrm']; show xC X + 1 ≤ 1; rw [h0.1]; decide) (by rw [hrm']; show xN X + 6 ≤ 6; rw [h0.2]; decide) hlk (fun t ha hz hq => ⟨(), trivial, ⟨rfl, fun k q hk => (hP' k q hk).kept (hq q.1 (hP' k q hk).lt)⟩, Nat.le_trans hS.1 hz, fun q g1 g2 => (hq q (Nat.lt_of_lt_of_le g1 hS.1)).trans (hS.2.1 q g1 g2)⟩) hS.2.2 (by show xC X + 1 ≤ 1; rw [h0.1]; decide) (by show xN X + 6 ≤ 6; rw [h0.2]; decide)
  have nse : ∀ lv, Wt X (fun E => vx_MQ X.1.2.2.2.2.2.2.2.1 NQ (TC (xG X) h E) X.1.2.2.2.2.2.2.1 (xS X) 1 6 (Aw (xG X))) [] 27 lv [] h (some NSE) := by
    intro lv H locs ls hO hP hD hS hlv out ho
    cases ho
    rw [hA] at hS
    have hP' : va_P (xG X).2.1 vwCl (enc (xG X) h) H := P_enc hP
    exact vy_throwS (A := Aw (xG X)) (cls := NSE) (Yn := "java/lang/RuntimeException") (names := ["java/lang/Exception"]) (rx := prog_25_method_4_code) (ix := 13) hx hb hl (by decide +kernel) (by decide +kernel) (by decide +kernel) (by decide +kernel) hown (by decide +kernel) (by decide +kernel) (by decide +kernel) (hts _ wd_x1.1) (hts _ wd_x1.2) tk.1.2 (vx_hat (fun w hw => hts w (GT_x1 w hw)) bd_x1 (vx_c (va_Nw.use rfl tk.2.2.2.1) (vx_c (va_Nw.use rfl tk.2.2.2.2.1) (vx_c (va_Nw.use rfl tk.2.2.2.2.2) vx_n)))) ot_x1 tk.2.1.1 tk.2.1.2 hS (hlv.1.trans hml.symm) dX7_stripe_27 dX7_stripe_30 dX7_stripe_31 dX7_stripe_33 dX7_stripe_36 (fun x hx => (ht x hx).elim) (by rw [hrm']; decide) (by rw [hrm']; decide) (by rw [hrm']; show xC X + 1 ≤ 1; rw [h0.1]; decide) (by rw [hrm']; show xN X + 6 ≤ 6; rw [h0.2]; decide) hlk (fun t ha hz hq => ⟨(), trivial, ⟨rfl, fun k q hk => (hP' k q hk).kept (hq q.1 (hP' k q hk).lt)⟩, Nat.le_trans hS.1 hz, fun q g1 g2 => (hq q (Nat.lt_of_lt_of_le g1 hS.1)).trans (hS.2.1 q g1 g2)⟩) hS.2.2 (by show xC X + 1 ≤ 1; rw [h0.1]; decide) (by show xN X + 6 ≤ 6; rw [h0.2]; decide)
  unfold t_X7_stripe
  refine r_aload_n F0 0 rfl dX7_stripe_0 rfl ?_
  refine r_iload_n F0 1 rfl dX7_stripe_1 rfl ?_
  refine k_zP (run_V F0 cvX7_130 (by decide) (c_X7_isStripe (xG X) _ h p1) rfl rfl ⟨⟨rfl, rfl⟩, Nat.le_of_ble_eq_true rfl, Nat.le_of_ble_eq_true rfl⟩ (Nat.le_of_ble_eq_true rfl) dX7_stripe_2) fun v2 _ => ?_
  refine r_ifne F0 (tgt := 18) dX7_stripe_5 (by decide) ?_ ?_
  · refine r_iload_n F0 2 rfl dX7_stripe_18 rfl ?_
    refine r_iflt F0 (tgt := 27) dX7_stripe_19 (by decide) (nse _) ?_
    refine r_iload_n F0 2 rfl dX7_stripe_22 rfl ?_
    refine r_iconst F0 (v := 1) dX7_stripe_23 (by decide) ?_
    exact r_icmple F0 (tgt := 37) dX7_stripe_24 (by decide) Wt_none (nse _)
  · exact iox _
theorem x_X7_stripe (G : Gx) (l : Launch) (hl : l.stackTraces = false) (h : Hp) (p1 p2 : Int32) (a1 a2 : Nat) (E : String) (hE : t_X7_stripe h p1 p2 = some E) (hO : okH h) : vx_Met l yX7_stripe (.code yX7_stripe cX7_stripe 3 (some .int) :: GT) rmX7_stripeT (va_Pc [.ref (adr G 7 0 0), .int p1, .int p2] (fun U => Pw G h U ∧ TK (Aw G) a1 a2 U)) NQ (TC G h E) 1 6 (Aw G) := by
  refine vx_ofW (cc := cX7_stripe) (maxL := 3) (ret := some .int) (by decide +kernel) rfl ?_
  intro p e s m args below meth c s₁ B hml ht hv
  obtain ⟨rfl, ⟨hP, hK, hD, hN⟩, tk⟩ := hv
  have hts := atoms_spec (ws := Cond.code yX7_stripe cX7_stripe 3 (some .int) :: GT) B.pre
  have K := w_X7_stripeT ((p, l, e, rmX7_stripeT, s, m, [Value.ref (adr G 7 0 0), .int p1, .int p2].toArray, below, meth, c), G, Aw G, 0, 0, 3) ⟨B.exec, B.bytes, hml, findClass_of_methodNamed B.named, fun w hw => hts w (List.mem_cons_of_mem _ hw), B.notSynchronized, B.returns, hK, hD, fun _ z => z, rfl, ⟨Nat.zero_le _, Nat.zero_le _⟩, hN⟩ rfl rfl ⟨rfl, rfl⟩ hl ht h p1 p2 tk
  have hlv := lv_entry [Value.ref (adr G 7 0 0), .int p1, .int p2] (n := 3) (show 3 ≤ 3 by decide)
  rw [lg_entry_eq]
  exact K s.heap [] _ hO hP (Dst_D hD h) va_S.rf hlv E hE
