-- THE LAW, from its entry
theorem nwL_8 : Cond.classLink RL 8 (RXf 7) ∈ GT ∧ Cond.instantiable (RXf 7) (nf 7) ∈ GT ∧ Cond.initialized (RXf 7) ∈ GT := ⟨GT_1 21 rfl rfl, iw_7, GT_1 1 rfl rfl⟩
theorem nwL_18 : Cond.classLink RL 18 (RXf 8) ∈ GT ∧ Cond.instantiable (RXf 8) (nf 8) ∈ GT ∧ Cond.initialized (RXf 8) ∈ GT := ⟨GT_5 180 rfl rfl, iw_8, GT_1 13 rfl rfl⟩
theorem ckX7 : CKi yX7_init cX7_init 3 0 := ⟨GT_1 25 rfl rfl, GT_1 1 rfl rfl, ⟨by decide, by decide, by decide +kernel⟩, rfl, GT_1 24 rfl rfl⟩
theorem mlL_17 : Cond.methodLink RL 17 yX7_init ∈ GT := GT_1 23 rfl rfl
theorem mlL_20 : Cond.methodLink RL 20 yX8_init ∈ GT := GT_5 182 rfl rfl
section Law
variable {X : Cx} {b L a1 a2 : Nat} {xs : Nat → Int32}
/-- from both objects made: the array, then the loop -/
theorem la_from15 (F : Fx X cL_law RL (some .boolean) room_1) (hL7 : xL X = 7) (hst : X.1.2.1.stackTraces = false) (hargs : X.1.2.2.2.2.2.2.1 = #[Value.ref b]) (hA : xA X = fun a => (xS X).heap.size ≤ a) (hX : va_X b L xs (xS X) (xS X).heap ∧ b < (xS X).heap.size ∧ L ≤ 3072) (hAw : ∀ a, Aw (xG X) a → (xS X).heap.size ≤ a) (tk : TK (fun a => (xS X).heap.size ≤ a) a1 a2 (xS X)) (hC : xC X + 513 ≤ 601024) (hN : xN X + 3073 ≤ 7293034) {h : Hp} (j : JI h) : Wt X (fun _ : Unit => lw_Z X.1.2.2.2.2.2.2.2.1 #[.ref b] (xS X)) [] 16 [(2, .ref (adr (xG X) 8 0 0)), (1, .ref (adr (xG X) 7 0 0)), (0, .ref b)] [] h (some ()) := by
  refine r_iconst F (v := 1) dL_law_16 (by decide) ?_
  intro H locs ls hO hP hD hS hl out ho
  have F0 := F
  obtain ⟨hx, hb, hml, hown, hts, hlk, hret, hK, hDst, hAx, hR, hcs, hNst⟩ := F
  have hR' : X.1.2.2.2.1 = room_1 := hR
  refine va_newaK (atype := .long) (N := 1) hx hb (hts _ acw_long) rfl dL_law_17 rfl (by decide) (by decide) (by decide) (by rw [hR']; show xC X + 1 ≤ 601024; omega) (by rw [hR']; show xN X + 1 ≤ 7293034; omega) rfl fun H1 cA e1 z1 o1 _ hNm => ?_
  have hid : cA = (xG X).2.2.2.2.1 := Option.some.inj (hNm.symm.trans (hK.2 2 _ rfl).2)
  subst hid
  have hPe : va_P (xG X).2.1 vwCl (enc (xG X) h) H := hP
  have hq : ¬ Aw (xG X) H.size := fun z => by
    obtain ⟨k, q, hk, he⟩ := Aw_at h z
    have := (hPe k q hk).lt
    rw [he] at this
    exact Nat.lt_irrefl _ this
  have hAO : ∀ a, AO (xG X) H.size a → (xS X).heap.size ≤ a := fun a z => z.elim (hAw a) (fun e => by rw [e]; exact hS.1)
  have hP1 : va_P (xG X).2.1 vwCl ([oc (xG X) H.size fun _ => 0] ++ enc (xG X) h) H1 := by
    refine va_P.app (fun k q hk => ?_) (hPe.kept fun k q hk => o1 _ (hPe k q hk).lt)
    have hz : k < 1 := (List.getElem?_eq_some_iff.mp hk).1
    rw [show k = 0 by omega] at hk
    cases hk
    exact e1
  have hD1 : va_D (xA X) ([oc (xG X) H.size fun _ => 0] ++ enc (xG X) h) := D_mono (D_out hDst hq _ h) fun a z => by rw [hA]; exact hAO a z
  have hS1 : va_S (xA X) (xS X).heap H1 locs := ⟨Nat.le_trans hS.1 (by omega), fun x h1 h2 => (o1 x (Nat.lt_of_lt_of_le h1 hS.1)).trans (hS.2.1 x h1 h2), hS.2.2⟩
  obtain ⟨X2, hX2⟩ : ∃ X2 : Cx, X2 = (X.1, X.2.1, X.2.2.1, xC X + 1, xN X + 1, xL X) := ⟨_, rfl⟩
  have Z : LawX X2 b L xs H.size a1 a2 := by
    rw [hX2]
    exact ⟨⟨⟨hx, hb, hml, hown, hts, hlk, hret, hK, hDst, hAx, hR, ⟨show xC X + 1 ≤ 601024 by omega, show xN X + 1 ≤ 7293034 by omega⟩, hNst⟩, hL7, hst, hargs⟩, hA, hX, hAO, hq, tk⟩
  have key : Wt X2 (fun _ : Unit => lw_Z X2.1.2.2.2.2.2.2.2.1 #[.ref b] (xS X2)) [oc (xG X2) H.size fun _ => 0] 19 [(2, .ref (adr (xG X2) 8 0 0)), (1, .ref (adr (xG X2) 7 0 0)), (0, .ref b)] [.ref H.size] h (some ()) := by
    have hl7 : xL X2 = 7 := by rw [hX2]; exact hL7
    refine r_astore_n Z.1.1 [(3, .ref H.size), (2, .ref (adr (xG X2) 8 0 0)), (1, .ref (adr (xG X2) 7 0 0)), (0, .ref b)] rfl dL_law_19 rfl (by rw [hl7]; decide) ?_
    refine r_iconst Z.1.1 (v := 0) dL_law_20 (by decide) ?_
    refine r_istore Z.1.1 [(4, .int 0), (3, .ref H.size), (2, .ref (adr (xG X2) 8 0 0)), (1, .ref (adr (xG X2) 7 0 0)), (0, .ref b)] rfl dL_law_21 (by rw [hl7]; decide) ?_
    refine Wt_pick (lv2 := lvL X2 b H.size 0) [4, 3, 2, 1, 0] rfl ?_
    have hL := hX.2.2
    exact la_loop 512 Z j (by omega) (by omega) (by rw [hX2]; show xC X + 1 + 512 ≤ 601024; omega) (by rw [hX2]; show xN X + 1 + 6 * 512 ≤ 7293034; omega)
  have := key
  rw [hX2] at this
  exact this H1 locs ls hO hP1 hD1 hS1 hl () rfl
end Law
set_option maxRecDepth 100000 in
set_option maxHeartbeats 4000000 in
/-- from the entry, for every script of at most 3072 ints, the law comes to its end with true -/
theorem whole_start {p : Program} {e : Env} {s : State} {m : MethodId} {below : List Frame} {meth : Method} {c : Code} (l : Launch) (hflags : l.flags = flags0) {b L : Nat} {xs : Nat → Int32} (hL : L ≤ 3072) (C0 : lw_At p s m meth c b L xs) : W p l e room_1 s m #[Value.ref b] below meth c s.heap [] 0 0 (lw_Z below #[Value.ref b] s) (entryFrame m ([Value.ref b] : List Value).toArray 7) := by
  obtain ⟨hx, hb, hret, hml, hown, hts, hX, hbl, hlk, hgv⟩ := C0
  have hG : ∀ w ∈ GT, w.before #[Value.ref b] s = true := fun w hw => hts w (List.mem_filter.mp hw).1
  obtain ⟨aK, aV, sk⟩ := ent_SK hts hgv
  obtain ⟨a1, a2, tk⟩ := ent_TK hts hgv
  obtain ⟨D, ids, kk⟩ := ent_KK hts s.heap.size
  have hst : l.stackTraces = false := by
    unfold Launch.stackTraces
    rw [hflags]
    decide
  have hret' : meth.sig.returnType = some .boolean := hret
  have hlv := lv_entry [Value.ref b] (n := 7) (Nat.le_of_ble_eq_true rfl)
  rw [lg_entry_eq]
  obtain ⟨X, hXe⟩ : ∃ X : Cx, X = ((p, l, e, room_1, s, m, #[Value.ref b], below, meth, c), G0 D ids s.heap.size, (fun a => s.heap.size ≤ a), 212, 4596, 7) := ⟨_, rfl⟩
  have F : Fk X cL_law RL room_1 := by rw [hXe]; exact ⟨hx, hb, hml, hown, hG, hlk, kk, rfl⟩
  have Ft : Fx X cL_law RL (some .boolean) room_1 := by
    rw [hXe]; exact ⟨hx, hb, hml, hown, hG, hlk, hret', kk.1, Dst0 D ids _, fun a ha => (Aw0 D ids _ ha).1, rfl, ⟨show 212 ≤ 601024 by decide, show 4596 ≤ 7293034 by decide⟩, kk.2.1⟩
  have hL7 : xL X = 7 := by rw [hXe]; rfl
  have hgx : xG X = G0 D ids s.heap.size := by rw [hXe]; rfl
  have hsx : xS X = s := by rw [hXe]; rfl
  have start : Wk X (lw_Z below #[Value.ref b] s) s.heap.size [] 0 0 0 [(0, .ref b)] [] := by
    refine k_new F (c := 7) (b := s.heap.size) nwL_8 (by decide) ⟨show 1 ≤ 601024 by decide, show 18 ≤ 7293034 by decide⟩ rfl dL_law_0 ?_
    refine k_dup F rfl dL_law_3 ?_
    refine k_init F ckX7 mlL_17 (kX7 (xG X) _ s.heap.size (s.heap.size, aK, aV) (Nat.le_refl _)) (SKt.lasts (Nat.le_refl _)) (by rw [hsx]; exact sk) (by rw [hsx]; exact Nat.le_refl _) rfl rfl rfl ⟨⟨rfl, rfl⟩, by decide, by decide⟩ (Nat.le_of_ble_eq_true rfl) ⟨show 0 + 1 + 165 ≤ 601024 by decide, show 0 + 18 + 2279 ≤ 7293034 by decide⟩ dL_law_4 ?_
    refine k_astore_n F [(1, .ref s.heap.size), (0, .ref b)] rfl dL_law_7 rfl (by rw [hL7]; decide) ?_
    have h166 : s.heap.size + ([] ++ qX7 (xG X) s.heap.size : List va_E).length = s.heap.size + 166 := by rw [List.nil_append, len7]
    refine k_new F (c := 8) (b := s.heap.size + 166) nwL_18 (by decide) ⟨show 0 + 1 + 165 + 1 ≤ 601024 by decide, show 0 + 18 + 2279 + 88 ≤ 7293034 by decide⟩ h166 dL_law_8 ?_
    refine k_dup F rfl dL_law_11 ?_
    intro H locs ls hP hS hl
    rw [List.nil_append] at hP
    have hP' : Ph (G0 D ids s.heap.size) s.heap.size (qX7 (G0 D ids s.heap.size) s.heap.size ++ [.inr (8, dfl 8)]) H := by
      rw [hgx] at hP; exact hP
    have hS' : va_S (fun q => s.heap.size ≤ q) s.heap H locs := by rw [hsx] at hS; exact hS
    have hl' : lv_has ls 7 [(1, .ref s.heap.size), (0, .ref b)] := by rw [hL7] at hl; exact hl
    have hlast : Ph (G0 D ids s.heap.size) (s.heap.size + 166) [.inr (8, dfl 8)] H := by
      have := hP'.last
      rw [len7] at this
      exact this
    have hk7 : ∀ (i : Nat) (ev : va_E), (qX7 (G0 D ids s.heap.size) s.heap.size)[i]? = some ev → va_at D vwCl (s.heap.size + i, ev) H := fun i ev hi => hP'.2 i ev (by rw [List.getElem?_append_left (List.getElem?_eq_some_iff.mp hi).1]; exact hi)
    have hrun : va_Run p l e room_1 s m #[Value.ref b] below meth c H locs (0 + 1 + 165 + 1) (0 + 18 + 2279 + 88) 45 2211 (F0 m 12 ls [.ref (s.heap.size + 166), .ref (s.heap.size + 166)]) [.ref (s.heap.size + 166)] (Q8 (G0 D ids s.heap.size) s.heap.size (#[Value.ref (s.heap.size + 166)])) (fun q => s.heap.size ≤ q) :=
      va_runI (Ts := GT) (n := 0) (own := RL) (index := 20) (bytes := cX8_init) (maxL := 1) (As := []) (cc := cL_law) (nL := 7) ⟨hx, hb, hml, hown, hG⟩ (kX8 D ids l s.heap.size) ⟨callB_of 0 hG ckX8.good rfl rfl rfl (hG _ ckX8.2.1) (hG _ mlL_20) ckX8.2.2.1 ⟨by decide, by decide⟩, rfl, hG _ ckX8.2.2.2.2⟩
        ⟨fun v U g mk z => ⟨z.1, z.2.1, KK.call z.2.2.1, z.2.2.2⟩, fun U hU hW => ⟨rfl, by rw [hU]; exact hlast, KK.warm hW kk, fun i ev hi => by rw [hU]; exact hk7 i ev hi⟩⟩ rfl rfl hl'.1 rfl (by show 2 * 0 + 1 ≤ 8; decide) dL_law_12 ⟨show 0 + 1 + 165 + 1 + 45 ≤ 601024 by decide, show 0 + 18 + 2279 + 88 + 2211 ≤ 7293034 by decide⟩
    have goal : W p l e room_1 s m #[Value.ref b] below meth c H locs (0 + 1 + 165 + 1) (0 + 18 + 2279 + 88) (lw_Z below #[Value.ref b] s) (F0 m 12 ls [.ref (s.heap.size + 166), .ref (s.heap.size + 166)]) := by
      intro T hT Y
      obtain ⟨v, st₀, t, T', L', h0, Y', hL', e1, e2, ⟨hv, ⟨hE, ji, hO, hPE⟩, hF⟩, go⟩ := hrun T hT Y
      cases hv
      have hz : s.heap.size ≤ T'.heap.size := Y'.same.2.1
      have hSn : va_S (fun q => s.heap.size ≤ q) s.heap T'.heap (locs ++ L') := ⟨hz, fun q g1 g2 => by
        rw [e1, hF q g1, h0]; exact hS'.2.1 q g1 g2, fun q hq => by
        rcases List.mem_append.mp hq with z | z
        · exact hS'.2.2 q z
        · exact hL' q z⟩
      have key : Wt X (fun _ : Unit => lw_Z X.1.2.2.2.2.2.2.2.1 #[.ref b] (xS X)) [] 15 [(1, .ref (adr (xG X) 7 0 0)), (0, .ref b)] [.ref (adr (xG X) 8 0 0)] hE (some ()) := by
        refine r_astore_n Ft [(2, .ref (adr (xG X) 8 0 0)), (1, .ref (adr (xG X) 7 0 0)), (0, .ref b)] rfl dL_law_15 rfl (by rw [hL7]; decide) ?_
        exact la_from15 (a1 := a1) (a2 := a2) (L := L) (xs := xs) Ft hL7 (by rw [hXe]; exact hst) (by rw [hXe] <;> rfl) (by rw [hXe] <;> rfl) (by rw [hsx]; exact ⟨hX, hbl, hL⟩) (fun a ha => by rw [hgx] at ha; rw [hsx]; exact (Aw0 D ids _ ha).1) (by rw [hsx]; exact tk) (by rw [hXe]; show 212 + 513 ≤ 601024; decide) (by rw [hXe]; show 4596 + 3073 ≤ 7293034; decide) ji
      rw [hXe] at key
      have K := key T'.heap (locs ++ L') ls hO (by rw [e1]; exact hPE) (D_mono (Dst_D (Dst0 D ids _) _) fun a ha => (Aw0 D ids _ ha).1) hSn hl' () rfl
      obtain ⟨t2, b1, b2⟩ := K T' rfl Y'
      exact ⟨t2, go t2 b1, b2⟩
    rw [hXe]
    exact goal
  rw [hXe] at start
  exact start s.heap [] _ ⟨rfl, fun i ev hi => absurd hi (by simp)⟩ va_S.rf hlv
