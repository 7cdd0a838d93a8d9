-- the law's end, the machine at its entry: from the skeleton
/-! THE CLAIM OUT OF ONE WALK OF THE LAW'S BODY. Your part is whole_start (and what it stands on); all else here is the same for every law, but numbers. -/
def R_law : String := "WeedStrandLaw"
def lw_P (b : Addr) (xs : List Int32) (args : Array Value) (s : State) : Prop := args = #[.ref b] ∧ s.IntsAt b xs ∧ xs.length ≤ 3072 ∧ (Jvm.Cond.and given_1 narrow_1).before args s = true
def lw_Q (_ : Array Value) (s : State) (o : Outcome) (t : State) : Prop := o = .returned (some (.int 1)) ∧ Framed s o t [] 601024 7293034
def lw_Z (below : List Frame) (a : Array Value) (s : State) : State → Prop := fun t => ∃ o, t.status = .running ∧ Ended t below o ∧ lw_Q a s o t
/-- the law's own end, with 1 on the stack, nothing written that was there before, its room as the claim has it -/
theorem lw_ret {p : Program} {l : Launch} {e : Env} {s : State} {m : MethodId} {below : List Frame} {meth : Method} {c : Code} {b : Nat} (hx : p.tables.exec = Jvm.exec) (hb : c.code = code) (hr : meth.sig.returnType = ret) (hlocks : meth.locks = false) {pc : Nat} {H : Heap} {ls : Array Slot} (hdg : decode code pc = .ok (.ireturn, 1)) : W p l e room_1 s m #[Value.ref b] below meth c H [] 601024 7293034 (lw_Z below #[Value.ref b] s) (F0 m pc ls [.int 1]) := by
  intro T hT X
  obtain ⟨fs, hret, hrun, hended, hW, hframe⟩ := X.leave (v := some (.int 1)) (hlocks := hlocks) (fun h => by rw [hr] at h; cases h)
  have hmeth' : T.vm.method? m = some meth := X.method'
  refine ⟨T.setFrames fs, ?_, .returned (some (.int 1)), hrun, hended, rfl, ⟨_, rfl⟩, hW, hframe⟩
  jvm_step X.here [X.here.top, hx, hb, hdg, hmeth', hr, ret, narrow_b1]
  (try refine ⟨rfl, ?_⟩); (try refine ⟨rfl, ?_⟩)
  first | (intro acts; rw [hret _ acts rfl rfl rfl]) | rw [hret _ _ rfl rfl rfl]
  exact Steps.refl _
/-- what holds at the law's entry: the machine, the code, the tables' words (any of lw_tbl by 'hts w (by decide +kernel)'), the script of L ints xs at the cell b, what the Statement gives of the start (any of its parts by flat_of_before) -/
def lw_At (p : Program) (s : State) (m : MethodId) (meth : Method) (c : Code) (b L : Nat) (xs : Nat → Int32) : Prop :=
  p.tables.exec = Jvm.exec ∧ c.code = code ∧ meth.sig.returnType = ret ∧ c.maxLocals = 7 ∧ s.vm.findClass R_law = some m.cls ∧ (∀ w ∈ lw_tbl, w.before #[Value.ref b] s = true) ∧ va_X b L xs s s.heap ∧ b < s.heap.size ∧ meth.locks = false ∧ (Jvm.Cond.and given_1 narrow_1).before #[Value.ref b] s = true
-- the law's stripe and loop
set_option maxRecDepth 100000 in
theorem cvL_44 : CV RL 44 yX8_stripe cX8_stripe 3 (some .int) 2 8 := ⟨⟨GT_7 127 rfl rfl, GT_7 124 rfl rfl, GT_1 13 rfl rfl, ⟨by decide, by decide, by decide +kernel⟩⟩, GT_7 125 rfl rfl, GT_7 126 rfl rfl, by decide⟩
set_option maxRecDepth 100000 in
theorem cvL_45 : CV RL 45 yX8_thrown cX8_thrown 1 (some .int) 0 8 := ⟨⟨GT_6 237 rfl rfl, GT_6 234 rfl rfl, GT_1 13 rfl rfl, ⟨by decide, by decide, by decide +kernel⟩⟩, GT_6 235 rfl rfl, GT_6 236 rfl rfl, by decide⟩
theorem isS7 {h : Hp} {t : Nat} {T : Txt} {S I : Str} {X : Xs} (r : RC h t T S I X) (s : Int32) : f_X7_isStripe h s = some (inS T s) := cl_isStripe r.1.2.1 r.1.2.2.2.1 s
section LO
variable {X : Cx} {Qf : Unit → State → Prop} {h : Hp} {b L q0 a1 a2 i : Nat} {xs : Nat → Int32} {f : Nat → Int64}
set_option maxRecDepth 100000 in
theorem la_4 (Z : LawX X b L xs q0 a1 a2) (hC : xC X + 1 ≤ 601024) (hN : xN X + 6 ≤ 7293034) (hi : i + 6 ≤ L) (j : JI h) (K : ∀ f h', JI h' → Wt (bump X) Qf [oc (xG X) q0 f] 1520 (lvL X b q0 i) [] h' (some ())) : Wt X Qf [oc (xG X) q0 f] 348 (lvL X b q0 i) [] h (some ()) := by
  refine Wt_ok fun hO => ?_
  have F := Z.1.1
  have Zb := Z.bump hC hN
  have Fb := Zb.1.1
  have hb7 : xL (bump X) = 7 := Z.1.2.1
  obtain ⟨t, T, S, I, X9, r, m, p⟩ := j
  have hT := p.1
  have h8 := hT.1.2
  obtain ⟨v, g', e8, m', k7, ht, hv0, hv1⟩ := m_stripe m (xs (i + 1)) (xs (i + 2))
  have J' : JI g' := ⟨t, T, S, I, X9, k7.rc r, m', p⟩
  refine r_aload_n F 1 rfl dL_law_348 rfl ?_
  refine r_arg Z rfl rfl 1 (by decide) hi dL_law_349 dL_law_350 dL_law_352 dL_law_353 dL_law_354 ?_
  refine r_arg Z rfl rfl 2 (by decide) hi dL_law_355 dL_law_356 dL_law_358 dL_law_359 dL_law_360 ?_
  refine r_aload_n F 3 rfl dL_law_361 rfl ?_
  have tail : ∀ (r9 : Int32) (f9 : Nat → Int64), gI g' 8 0 2 = r9 → (r9 = 0 → f9 0 = v.toInt64) → Wt (bump X) Qf [oc (xG X) q0 f9] 365 (lvL X b q0 i) [.int r9] h (some ()) := by
    intro r9 f9 e2 e0
    refine r_istore Fb ((5, .int r9) :: lvL X b q0 i) rfl dL_law_365 (by rw [hb7]; decide) ?_
    refine Wt_pick (lv2 := lvL X b q0 i ++ [(5, .int r9)]) [1, 2, 3, 4, 5, 0] rfl ?_
    refine r_aload_n Fb 2 rfl dL_law_367 rfl ?_
    refine r_arg Zb rfl rfl 1 (by decide) hi dL_law_368 dL_law_369 dL_law_371 dL_law_372 dL_law_373 ?_
    refine r_arg Zb rfl rfl 2 (by decide) hi dL_law_374 dL_law_375 dL_law_377 dL_law_378 dL_law_379 ?_
    refine run_known (run_V Fb cvL_44 (by decide) (c_X8_stripe (xG X) _ h (xs (i + 1)) (xs (i + 2))) rfl rfl ⟨⟨rfl, rfl⟩, Nat.le_of_ble_eq_true rfl, Nat.le_of_ble_eq_true rfl⟩ (Nat.le_of_ble_eq_true rfl) dL_law_380) e8 rfl ?_
    refine r_istore Fb ((6, .int v) :: (lvL X b q0 i ++ [(5, .int r9)])) rfl dL_law_383 (by rw [hb7]; decide) ?_
    refine Wt_pick (lv2 := lvL X b q0 i ++ [(5, .int r9), (6, .int v)]) [1, 2, 3, 4, 5, 6, 0] rfl ?_
    refine r_aload_n Fb 2 rfl dL_law_385 rfl ?_
    refine run_known (run_V Fb cvL_45 (by decide) (c_X8_thrown (xG X) _ g') rfl rfl ⟨⟨rfl, rfl⟩, Nat.le_of_ble_eq_true rfl, Nat.le_of_ble_eq_true rfl⟩ (Nat.le_of_ble_eq_true rfl) dL_law_386) (show f_X8_thrown g' = some r9 by unfold f_X8_thrown; rw [e2]) rfl ?_
    refine r_iload Fb 5 rfl dL_law_389 ?_
    refine r_same Fb (tgt := 396) dL_law_391 (by decide) ?_
    refine r_iload Fb 5 rfl dL_law_396 ?_
    by_cases z : r9 = 0
    · subst z
      refine r_ifne0 Fb (tgt := 413) dL_law_398 (by decide) ?_
      refine r_aload_n Fb 3 rfl dL_law_401 rfl ?_
      refine r_iconst Fb (v := 0) dL_law_402 (by decide) ?_
      refine r_xlald Fb dL_law_403 ?_
      refine r_iload Fb 6 rfl dL_law_404 ?_
      refine r_i2l Fb dL_law_406 ?_
      rw [e0 rfl]
      refine r_sameL Fb (tgt := 413) dL_law_407 dL_law_408 (by decide) ?_
      refine r_goto Fb (tgt := 1520) dL_law_413 (by decide) ?_
      refine Wt_pick (lv2 := lvL X b q0 i) [0, 1, 2, 3, 4] rfl ?_
      exact K f9 g' J'
    · refine r_ifne1 Fb z (tgt := 413) dL_law_398 (by decide) ?_
      refine r_goto Fb (tgt := 1520) dL_law_413 (by decide) ?_
      refine Wt_pick (lv2 := lvL X b q0 i) [0, 1, 2, 3, 4] rfl ?_
      exact K f9 g' J'
  cases hs : inS T (xs (i + 1)) with
  | false =>
    rw [hs, if_neg (fun q => Bool.noConfusion q)] at ht
    exact r_stripe Z (x_L_stripe (xG X) q0 _ Z.1.2.2.1 h f (xs (i + 1)) (xs (i + 2)) IOE a1 a2 (by unfold t_X7_stripe; rw [isS7 r, bind_s, hs, if_neg (show ¬ ¬ b2i false = 0 by decide)]) (Or.inl rfl) hO) ⟨rfl, rfl, by decide, by decide, by decide, by decide⟩ hC hN dL_law_362 (tail (exR IOE) f (by rw [ht]; rfl) (fun q => absurd q (by decide)))
  | true =>
    rw [hs, if_pos rfl] at ht
    obtain ⟨u, hu, eu⟩ := inS_of hT hs
    have l0 : gA h 3 1 0 u = S.1 0 u := (r.2.1.2.1 u hu).1
    have l1 : gA h 3 1 1 u = S.1 1 u := (r.2.1.2.1 u hu).2
    by_cases z0 : xs (i + 2) = 0
    · rw [if_pos z0] at ht
      have ev : f_X7_stripe h (xs (i + 1)) (xs (i + 2)) = some v := by
        rw [hv0 hs z0]
        unfold f_X7_stripe
        rw [isS7 r, bind_s, hs, if_pos (show ¬ b2i true = 0 by decide), z0, if_neg (show ¬ (0 : Int32) < 0 by decide), if_pos (show (0 : Int32) ≤ 1 by decide), if_neg (show ¬ ¬ (0 : Int32) = 0 by decide), eu, grd_p (inb_n (show u < 8 by omega) (by omega)), clN (show u < 2 ^ 31 by omega), l0]
      exact r_stripe Z (c_L_stripe (xG X) q0 _ h f (xs (i + 1)) (xs (i + 2)) v a1 a2 ev hO) ⟨rfl, rfl, by decide, by decide, by decide, by decide⟩ hC hN dL_law_362 (tail 0 (vp_updL f 0 v.toInt64) ht (fun _ => by simp [vp_updL]))
    rw [if_neg z0] at ht
    by_cases z1 : xs (i + 2) = 1
    · rw [if_pos z1] at ht
      have ev : f_X7_stripe h (xs (i + 1)) (xs (i + 2)) = some v := by
        rw [hv1 hs z1]
        unfold f_X7_stripe
        rw [isS7 r, bind_s, hs, if_pos (show ¬ b2i true = 0 by decide), z1, if_neg (show ¬ (1 : Int32) < 0 by decide), if_pos (show (1 : Int32) ≤ 1 by decide), if_pos (show ¬ (1 : Int32) = 0 by decide), eu, grd_p (inb_n (show u < 8 by omega) (by omega)), clN (show u < 2 ^ 31 by omega), l1]
      exact r_stripe Z (c_L_stripe (xG X) q0 _ h f (xs (i + 1)) (xs (i + 2)) v a1 a2 ev hO) ⟨rfl, rfl, by decide, by decide, by decide, by decide⟩ hC hN dL_law_362 (tail 0 (vp_updL f 0 v.toInt64) ht (fun _ => by simp [vp_updL]))
    rw [if_neg z1] at ht
    have te : t_X7_stripe h (xs (i + 1)) (xs (i + 2)) = some NSE := by
      unfold t_X7_stripe
      rw [isS7 r, bind_s, hs, if_pos (show ¬ b2i true = 0 by decide)]
      by_cases y0 : xs (i + 2) < 0
      · rw [if_pos y0]
      · rw [if_neg y0, if_neg]
        intro y1
        have a0 := Int32.not_lt.mp y0
        rw [Int32.le_iff_toInt_le] at a0 y1
        rw [show (0 : Int32).toInt = 0 by decide] at a0
        rw [show (1 : Int32).toInt = 1 by decide] at y1
        have : (xs (i + 2)).toInt = 0 ∨ (xs (i + 2)).toInt = 1 := by omega
        rcases this with w | w
        · exact z0 (Int32.toInt_inj.mp (by rw [w]; decide))
        · exact z1 (Int32.toInt_inj.mp (by rw [w]; decide))
    exact r_stripe Z (x_L_stripe (xG X) q0 _ Z.1.2.2.1 h f (xs (i + 1)) (xs (i + 2)) NSE a1 a2 te (Or.inr rfl) hO) ⟨rfl, rfl, by decide, by decide, by decide, by decide⟩ hC hN dL_law_362 (tail (exR NSE) f (by rw [ht]; decide) (fun q => absurd q (by decide)))
theorem ts_out {x : Int32} (hx : ∀ n : Nat, n ≤ 35 → ¬ x = nI n) : x.toInt < 0 ∨ 35 < x.toInt := by
  by_cases a : x.toInt < 0
  · exact Or.inl a
  refine Or.inr (Int.not_le.mp fun q => ?_)
  refine hx x.toInt.toNat (by omega) (Int32.toInt_inj.mp ?_)
  rw [nI_toInt (show x.toInt.toNat < 2 ^ 31 by omega)]
  omega
theorem la_all (Z : LawX X b L xs q0 a1 a2) (hC : xC X + 1 ≤ 601024) (hN : xN X + 6 ≤ 7293034) (hi : i + 6 ≤ L) (j : JI h) (K : ∀ f h', JI h' → Wt (bump X) Qf [oc (xG X) q0 f] 1520 (lvL X b q0 i) [] h' (some ())) (x : Int32) : Wt X Qf [oc (xG X) q0 f] 40 (lvL X b q0 i) [.int x] h (some ()) := by
  have F := Z.1.1
  by_cases z0 : x = nI 0
  · exact r_tsk F (tgt := 200) (nI 0) 0 z0 dL_law_40 rfl (by decide) (by decide) (by decide) (la_0 Z hi j (fun f h' j' => K f h' j'))
  by_cases z1 : x = nI 1
  · exact r_tsk F (tgt := 273) (nI 1) 1 z1 dL_law_40 rfl (by decide) (by decide) (by decide) (la_1 Z hi j (fun f h' j' => K f h' j'))
  by_cases z2 : x = nI 2
  · exact r_tsk F (tgt := 298) (nI 2) 2 z2 dL_law_40 rfl (by decide) (by decide) (by decide) (la_2 Z hi j (fun f h' j' => K f h' j'))
  by_cases z3 : x = nI 3
  · exact r_tsk F (tgt := 323) (nI 3) 3 z3 dL_law_40 rfl (by decide) (by decide) (by decide) (la_3 Z hi j (fun f h' j' => K f h' j'))
  by_cases z4 : x = nI 4
  · exact r_tsk F (tgt := 348) (nI 4) 4 z4 dL_law_40 rfl (by decide) (by decide) (by decide) (la_4 Z hC hN hi j (fun f h' j' => K f h' j'))
  by_cases z5 : x = nI 5
  · exact r_tsk F (tgt := 416) (nI 5) 5 z5 dL_law_40 rfl (by decide) (by decide) (by decide) (la_5 Z hi j (fun f h' j' => K f h' j'))
  by_cases z6 : x = nI 6
  · exact r_tsk F (tgt := 453) (nI 6) 6 z6 dL_law_40 rfl (by decide) (by decide) (by decide) (la_6 Z hi j (fun f h' j' => K f h' j'))
  by_cases z7 : x = nI 7
  · exact r_tsk F (tgt := 490) (nI 7) 7 z7 dL_law_40 rfl (by decide) (by decide) (by decide) (la_7 Z hi j (fun f h' j' => K f h' j'))
  by_cases z8 : x = nI 8
  · exact r_tsk F (tgt := 527) (nI 8) 8 z8 dL_law_40 rfl (by decide) (by decide) (by decide) (la_8 Z hi j (fun f h' j' => K f h' j'))
  by_cases z9 : x = nI 9
  · exact r_tsk F (tgt := 577) (nI 9) 9 z9 dL_law_40 rfl (by decide) (by decide) (by decide) (la_9 Z hi j (fun f h' j' => K f h' j'))
  by_cases z10 : x = nI 10
  · exact r_tsk F (tgt := 614) (nI 10) 10 z10 dL_law_40 rfl (by decide) (by decide) (by decide) (la_10 Z hi j (fun f h' j' => K f h' j'))
  by_cases z11 : x = nI 11
  · exact r_tsk F (tgt := 639) (nI 11) 11 z11 dL_law_40 rfl (by decide) (by decide) (by decide) (la_11 Z hi j (fun f h' j' => K f h' j'))
  by_cases z12 : x = nI 12
  · exact r_tsk F (tgt := 676) (nI 12) 12 z12 dL_law_40 rfl (by decide) (by decide) (by decide) (la_12 Z hi j (fun f h' j' => K f h' j'))
  by_cases z13 : x = nI 13
  · exact r_tsk F (tgt := 713) (nI 13) 13 z13 dL_law_40 rfl (by decide) (by decide) (by decide) (la_13 Z hi j (fun f h' j' => K f h' j'))
  by_cases z14 : x = nI 14
  · exact r_tsk F (tgt := 738) (nI 14) 14 z14 dL_law_40 rfl (by decide) (by decide) (by decide) (la_14 Z hi j (fun f h' j' => K f h' j'))
  by_cases z15 : x = nI 15
  · exact r_tsk F (tgt := 787) (nI 15) 15 z15 dL_law_40 rfl (by decide) (by decide) (by decide) (la_15 Z hi j (fun f h' j' => K f h' j'))
  by_cases z16 : x = nI 16
  · exact r_tsk F (tgt := 812) (nI 16) 16 z16 dL_law_40 rfl (by decide) (by decide) (by decide) (la_16 Z hi j (fun f h' j' => K f h' j'))
  by_cases z17 : x = nI 17
  · exact r_tsk F (tgt := 849) (nI 17) 17 z17 dL_law_40 rfl (by decide) (by decide) (by decide) (la_17 Z hi j (fun f h' j' => K f h' j'))
  by_cases z18 : x = nI 18
  · exact r_tsk F (tgt := 898) (nI 18) 18 z18 dL_law_40 rfl (by decide) (by decide) (by decide) (la_18 Z hi j (fun f h' j' => K f h' j'))
  by_cases z19 : x = nI 19
  · exact r_tsk F (tgt := 947) (nI 19) 19 z19 dL_law_40 rfl (by decide) (by decide) (by decide) (la_19 Z hi j (fun f h' j' => K f h' j'))
  by_cases z20 : x = nI 20
  · exact r_tsk F (tgt := 1008) (nI 20) 20 z20 dL_law_40 rfl (by decide) (by decide) (by decide) (la_20 Z hi j (fun f h' j' => K f h' j'))
  by_cases z21 : x = nI 21
  · exact r_tsk F (tgt := 1021) (nI 21) 21 z21 dL_law_40 rfl (by decide) (by decide) (by decide) (la_21 Z hi j (fun f h' j' => K f h' j'))
  by_cases z22 : x = nI 22
  · exact r_tsk F (tgt := 1046) (nI 22) 22 z22 dL_law_40 rfl (by decide) (by decide) (by decide) (la_22 Z hi j (fun f h' j' => K f h' j'))
  by_cases z23 : x = nI 23
  · exact r_tsk F (tgt := 1107) (nI 23) 23 z23 dL_law_40 rfl (by decide) (by decide) (by decide) (la_23 Z hi j (fun f h' j' => K f h' j'))
  by_cases z24 : x = nI 24
  · exact r_tsk F (tgt := 1132) (nI 24) 24 z24 dL_law_40 rfl (by decide) (by decide) (by decide) (la_24 Z hi j (fun f h' j' => K f h' j'))
  by_cases z25 : x = nI 25
  · exact r_tsk F (tgt := 1169) (nI 25) 25 z25 dL_law_40 rfl (by decide) (by decide) (by decide) (la_25 Z hi j (fun f h' j' => K f h' j'))
  by_cases z26 : x = nI 26
  · exact r_tsk F (tgt := 1206) (nI 26) 26 z26 dL_law_40 rfl (by decide) (by decide) (by decide) (la_26 Z hi j (fun f h' j' => K f h' j'))
  by_cases z27 : x = nI 27
  · exact r_tsk F (tgt := 1271) (nI 27) 27 z27 dL_law_40 rfl (by decide) (by decide) (by decide) (la_27 Z hi j (fun f h' j' => K f h' j'))
  by_cases z28 : x = nI 28
  · exact r_tsk F (tgt := 1296) (nI 28) 28 z28 dL_law_40 rfl (by decide) (by decide) (by decide) (la_28 Z hi j (fun f h' j' => K f h' j'))
  by_cases z29 : x = nI 29
  · exact r_tsk F (tgt := 1321) (nI 29) 29 z29 dL_law_40 rfl (by decide) (by decide) (by decide) (la_29 Z hi j (fun f h' j' => K f h' j'))
  by_cases z30 : x = nI 30
  · exact r_tsk F (tgt := 1346) (nI 30) 30 z30 dL_law_40 rfl (by decide) (by decide) (by decide) (la_30 Z hi j (fun f h' j' => K f h' j'))
  by_cases z31 : x = nI 31
  · exact r_tsk F (tgt := 1407) (nI 31) 31 z31 dL_law_40 rfl (by decide) (by decide) (by decide) (la_31 Z hi j (fun f h' j' => K f h' j'))
  by_cases z32 : x = nI 32
  · exact r_tsk F (tgt := 1456) (nI 32) 32 z32 dL_law_40 rfl (by decide) (by decide) (by decide) (la_32 Z hi j (fun f h' j' => K f h' j'))
  by_cases z33 : x = nI 33
  · exact r_tsk F (tgt := 1469) (nI 33) 33 z33 dL_law_40 rfl (by decide) (by decide) (by decide) (la_33 Z hi j (fun f h' j' => K f h' j'))
  by_cases z34 : x = nI 34
  · exact r_tsk F (tgt := 1482) (nI 34) 34 z34 dL_law_40 rfl (by decide) (by decide) (by decide) (la_34 Z hi j (fun f h' j' => K f h' j'))
  by_cases z35 : x = nI 35
  · exact r_tsk F (tgt := 1495) (nI 35) 35 z35 dL_law_40 rfl (by decide) (by decide) (by decide) (la_35 Z hi j (fun f h' j' => K f h' j'))
  refine r_tsd F (tgt := 1520) dL_law_40 (ts_out fun n hn => ?_) (by decide) (Wt_bump (K f h j))
  have : n = 0 ∨ n = 1 ∨ n = 2 ∨ n = 3 ∨ n = 4 ∨ n = 5 ∨ n = 6 ∨ n = 7 ∨ n = 8 ∨ n = 9 ∨ n = 10 ∨ n = 11 ∨ n = 12 ∨ n = 13 ∨ n = 14 ∨ n = 15 ∨ n = 16 ∨ n = 17 ∨ n = 18 ∨ n = 19 ∨ n = 20 ∨ n = 21 ∨ n = 22 ∨ n = 23 ∨ n = 24 ∨ n = 25 ∨ n = 26 ∨ n = 27 ∨ n = 28 ∨ n = 29 ∨ n = 30 ∨ n = 31 ∨ n = 32 ∨ n = 33 ∨ n = 34 ∨ n = 35 := by omega
  rcases this with w | w | w | w | w | w | w | w | w | w | w | w | w | w | w | w | w | w | w | w | w | w | w | w | w | w | w | w | w | w | w | w | w | w | w | w
  · rw [w]; exact z0
  · rw [w]; exact z1
  · rw [w]; exact z2
  · rw [w]; exact z3
  · rw [w]; exact z4
  · rw [w]; exact z5
  · rw [w]; exact z6
  · rw [w]; exact z7
  · rw [w]; exact z8
  · rw [w]; exact z9
  · rw [w]; exact z10
  · rw [w]; exact z11
  · rw [w]; exact z12
  · rw [w]; exact z13
  · rw [w]; exact z14
  · rw [w]; exact z15
  · rw [w]; exact z16
  · rw [w]; exact z17
  · rw [w]; exact z18
  · rw [w]; exact z19
  · rw [w]; exact z20
  · rw [w]; exact z21
  · rw [w]; exact z22
  · rw [w]; exact z23
  · rw [w]; exact z24
  · rw [w]; exact z25
  · rw [w]; exact z26
  · rw [w]; exact z27
  · rw [w]; exact z28
  · rw [w]; exact z29
  · rw [w]; exact z30
  · rw [w]; exact z31
  · rw [w]; exact z32
  · rw [w]; exact z33
  · rw [w]; exact z34
  · rw [w]; exact z35
theorem sub6 {L : Nat} (hL : L ≤ 3072) (i : Nat) (hi : i ≤ 3072) : nI L - 6 < nI i ↔ L < i + 6 := by
  rw [show (6 : Int32) = nI 6 by decide]
  by_cases h6 : 6 ≤ L
  · have e : nI L - nI 6 = nI (L - 6) := by
      rw [show nI L = nI (L - 6) + nI 6 by rw [nI_add, Nat.sub_add_cancel h6], Int32.add_sub_cancel]
    rw [e]
    constructor
    · intro q
      apply Nat.lt_of_not_le
      intro w
      exact nI_nlt (show i ≤ L - 6 by omega) (by omega) q
    · intro q
      exact nI_lt (by omega) (by omega)
  · have hL6 : L = 0 ∨ L = 1 ∨ L = 2 ∨ L = 3 ∨ L = 4 ∨ L = 5 := by omega
    constructor
    · intro _; omega
    · intro _
      rw [Int32.lt_iff_toInt_lt, nI_toInt (show i < 2 ^ 31 by omega)]
      have : (nI L - nI 6).toInt < 0 := by rcases hL6 with w | w | w | w | w | w <;> subst w <;> decide
      omega
theorem la_exit (Z : LawX X b L xs q0 a1 a2) {ex : va_W} {lv : List (Nat × Value)} : Wt X (fun _ : Unit => lw_Z X.1.2.2.2.2.2.2.2.1 #[.ref b] (xS X)) ex 1526 lv [] h (some ()) := by
  refine r_iconst Z.1.1 (v := 1) dL_law_1526 (by decide) ?_
  obtain ⟨⟨⟨hx, hb, hml, hown, hts, hlk, hret, -, -, -, hR, hcs, -⟩, -, -, hargs⟩, hA, -⟩ := Z
  have hR' : X.1.2.2.2.1 = room_1 := hR
  intro H locs ls hO hP hD hS hl out ho
  have hc : xC X ≤ 601024 := hcs.1
  have hn : xN X ≤ 7293034 := hcs.2
  rw [hA] at hS
  refine W.widen hc hn (va_forget (fun q hq => hS.2.2 q hq) ?_)
  rw [hR', hargs]
  exact lw_ret hx hb hret hlk dL_law_1527
theorem la_loop : ∀ (n : Nat) {X : Cx} {i : Nat} {h : Hp} {f : Nat → Int64}, LawX X b L xs q0 a1 a2 → JI h → L < i + 6 * n + 6 → i ≤ 3072 → xC X + n ≤ 601024 → xN X + 6 * n ≤ 7293034 → Wt X (fun _ : Unit => lw_Z X.1.2.2.2.2.2.2.2.1 #[.ref b] (xS X)) [oc (xG X) q0 f] 23 (lvL X b q0 i) [] h (some ()) := by
  intro n
  induction n with
  | zero =>
    intro X i h f Z j hn hi9 hC hN
    exact (show ∀ hh : L < i + 6, _ from fun hh => by
      have F := Z.1.1
      refine r_iload F 4 rfl dL_law_23 ?_
      refine r_aload_n F 0 rfl dL_law_25 rfl ?_
      refine r_slen Z dL_law_26 ?_
      refine r_bipush F (v := 6) dL_law_27 (by decide) ?_
      refine r_isub F dL_law_29 ?_
      have := r_icmpgt (k1 := some ()) (k2 := none) (x := nI i) (y := nI L - 6) F (tgt := 1526) (X := X) (Qf := fun _ : Unit => lw_Z X.1.2.2.2.2.2.2.2.1 #[.ref b] (xS X)) (ex := [oc (xG X) q0 f]) (lv := lvL X b q0 i) (st := []) (h := h) dL_law_30 (by decide) (la_exit Z) Wt_none
      rwa [if_pos ((sub6 Z.2.2.1.2.2 i hi9).mpr hh)] at this) (by omega)
  | succ n ih =>
    intro X i h f Z j hn hi9 hC hN
    have F := Z.1.1
    by_cases hi : i + 6 ≤ L
    · refine r_iload F 4 rfl dL_law_23 ?_
      refine r_aload_n F 0 rfl dL_law_25 rfl ?_
      refine r_slen Z dL_law_26 ?_
      refine r_bipush F (v := 6) dL_law_27 (by decide) ?_
      refine r_isub F dL_law_29 ?_
      have hL := Z.2.2.1.2.2
      have h1 : xC X + 1 ≤ 601024 := by omega
      have h2 : xN X + 6 ≤ 7293034 := by omega
      have Zb := Z.bump h1 h2
      have w : Wt X (fun _ : Unit => lw_Z X.1.2.2.2.2.2.2.2.1 #[.ref b] (xS X)) [oc (xG X) q0 f] 33 (lvL X b q0 i) [] h (some ()) := by
        refine r_aload_n F 0 rfl dL_law_33 rfl ?_
        refine r_iload F 4 rfl dL_law_34 ?_
        refine r_sld Z (by omega) dL_law_36 ?_
        refine r_bipush F (v := 63) dL_law_37 (by decide) ?_
        refine r_iand F dL_law_39 ?_
        refine la_all Z h1 h2 hi j (fun f' h' j' => ?_) _
        refine r_iinc6 Zb.1.1 Z.1.2.1 dL_law_1520 ?_
        refine r_goto Zb.1.1 (tgt := 23) dL_law_1523 (by decide) ?_
        exact ih Zb j' (by omega) (by omega) (show xC X + 1 + n ≤ 601024 by omega) (show xN X + 6 + 6 * n ≤ 7293034 by omega)
      have := r_icmpgt (k1 := none) (k2 := some ()) (x := nI i) (y := nI L - 6) F (tgt := 1526) (X := X) (Qf := fun _ : Unit => lw_Z X.1.2.2.2.2.2.2.2.1 #[.ref b] (xS X)) (ex := [oc (xG X) q0 f]) (lv := lvL X b q0 i) (st := []) (h := h) dL_law_30 (by decide) Wt_none w
      rwa [if_neg (fun q => absurd ((sub6 hL i hi9).mp q) (by omega))] at this
    · refine r_iload F 4 rfl dL_law_23 ?_
      refine r_aload_n F 0 rfl dL_law_25 rfl ?_
      refine r_slen Z dL_law_26 ?_
      refine r_bipush F (v := 6) dL_law_27 (by decide) ?_
      refine r_isub F dL_law_29 ?_
      have := r_icmpgt (k1 := some ()) (k2 := none) (x := nI i) (y := nI L - 6) F (tgt := 1526) (X := X) (Qf := fun _ : Unit => lw_Z X.1.2.2.2.2.2.2.2.1 #[.ref b] (xS X)) (ex := [oc (xG X) q0 f]) (lv := lvL X b q0 i) (st := []) (h := h) dL_law_30 (by decide) (la_exit Z) Wt_none
      rwa [if_pos ((sub6 Z.2.2.1.2.2 i hi9).mpr (by omega))] at this
end LO
