-- THE LAW, from its entry
def R_law : String := "WeedStrandLaw"
def lw_P (b : Addr) (xs : List Int32) (args : Array Value) (s : State) : Prop := args = #[.ref b] ∧ s.IntsAt b xs ∧ xs.length ≤ 260 ∧ (Jvm.Cond.and given_1 narrow_1).before args s = true
def lw_Q (_ : Array Value) (s : State) (o : Outcome) (t : State) : Prop := o = .returned (some (.int 1)) ∧ Framed s o t [] 600086 7301442
def lw_Z (below : List Frame) (a : Array Value) (s : State) : State → Prop := fun t => ∃ o, t.status = .running ∧ Ended t below o ∧ lw_Q a s o t
/-- the law's own end, with 1 on the stack, nothing written that was there before, its room as the claim has it -/
theorem lw_ret {p : Program} {l : Launch} {e : Env} {s : State} {m : MethodId} {below : List Frame} {meth : Method} {c : Code} {b : Nat} (hx : p.tables.exec = Jvm.exec) (hb : c.code = code) (hr : meth.sig.returnType = ret) (hlocks : meth.locks = false) {pc : Nat} {H : Heap} {ls : Array Slot} (hdg : decode code pc = .ok (.ireturn, 1)) : W p l e room_1 s m #[Value.ref b] below meth c H [] 600086 7301442 (lw_Z below #[Value.ref b] s) (F0 m pc ls [.int 1]) := by
  intro T hT X
  obtain ⟨fs, hret, hrun, hended, hW, hframe⟩ := X.leave (v := some (.int 1)) (hlocks := hlocks) (fun h => by rw [hr] at h; cases h)
  have hmeth' : T.vm.method? m = some meth := X.method'
  refine ⟨T.setFrames fs, ?_, .returned (some (.int 1)), hrun, hended, rfl, ⟨_, rfl⟩, hW, hframe⟩
  jvm_step X.here [X.here.top, hx, hb, hdg, hmeth', hr, ret, narrow_b1]
  (try refine ⟨rfl, ?_⟩); (try refine ⟨rfl, ?_⟩)
  first | (intro acts; rw [hret _ acts rfl rfl rfl]) | rw [hret _ _ rfl rfl rfl]
  exact Steps.refl _
/-- what holds at the law's entry: the machine, the code, the tables' words (any of lw_tbl by 'hts w (by decide +kernel)'), the script of L ints xs at the cell b, what the Statement gives of the start (any of its parts by flat_of_before) -/
def lw_At (p : Program) (s : State) (m : MethodId) (meth : Method) (c : Code) (b L : Nat) (xs : Nat → Int32) : Prop :=
  p.tables.exec = Jvm.exec ∧ c.code = code ∧ meth.sig.returnType = ret ∧ c.maxLocals = 13 ∧ s.vm.findClass R_law = some m.cls ∧ (∀ w ∈ lw_tbl, w.before #[Value.ref b] s = true) ∧ va_X b L xs s s.heap ∧ b < s.heap.size ∧ meth.locks = false ∧ (Jvm.Cond.and given_1 narrow_1).before #[Value.ref b] s = true
theorem nwL_19 : Cond.classLink RL 19 (RXf 7) ∈ GT ∧ Cond.instantiable (RXf 7) (nf 7) ∈ GT ∧ Cond.initialized (RXf 7) ∈ GT := ⟨GT_1 26 rfl rfl, iw_7, GT_1 1 rfl rfl⟩
set_option maxRecDepth 100000 in
theorem ckX7 : CKi yX7_init cX7_init 3 0 := ⟨GT_1 30 rfl rfl, GT_1 1 rfl rfl, ⟨by decide, by decide, by decide +kernel⟩, rfl, GT_1 29 rfl rfl⟩
theorem mlL_28 : Cond.methodLink RL 28 yX7_init ∈ GT := GT_1 28 rfl rfl
theorem D_mono {A B : Nat → Prop} {w : va_W} (h : va_D A w) (hAB : ∀ a, A a → B a) : va_D B w := ⟨h.1, fun k q hk => hAB _ (h.2 k q hk)⟩
theorem law_all {X : Cx} {Q : State → Prop} {dg : Nat × Nat} {K V : Nat → Nat} {b L : Nat} {xs : Nat → Int32} {cN sN : Nat} (Z : LC X dg K V b L xs) {h : Hp} (hO : okH h) (a : AQ h) (hc : cN + 1000 ≤ 600086 ∧ sN + 20000 ≤ 7301442) (R : ∀ g lv c s, c ≤ 600086 → s ≤ 7301442 → Wj X Q ([] ++ enc (xG X) g) c s 1691 lv [.int (nI 1)]) : Wj X Q ([] ++ enc (xG X) h) cN sN 8 [(1, .ref (adr (xG X) 7 0 0)), (0, .ref b)] [] := by
  refine seg_1 Z hO a ⟨by omega, by omega⟩ fun g1 o1 a1 => ?_
  refine seg_2 Z o1 a1 ⟨by omega, by omega⟩ fun g2 o2 a2 => ?_
  refine seg_3 Z o2 a2 ⟨by omega, by omega⟩ fun g3 o3 a3 => ?_
  refine seg_4 Z o3 a3 ⟨by omega, by omega⟩ fun g4 o4 a4 => ?_
  refine seg_5 Z o4 a4 ⟨by omega, by omega⟩ fun g5 o5 a5 => ?_
  refine seg_6 Z o5 a5 ⟨by omega, by omega⟩ fun g6 o6 a6 => ?_
  refine seg_7 Z o6 a6 ⟨by omega, by omega⟩ fun g7 o7 a7 => ?_
  refine seg_8 Z o7 a7 ⟨by omega, by omega⟩ fun g8 o8 a8 => ?_
  refine seg_9 Z o8 a8 ⟨by omega, by omega⟩ fun g9 o9 a9 => ?_
  refine seg_10 Z o9 a9 ⟨by omega, by omega⟩ fun g10 o10 a10 => ?_
  refine seg_11 Z o10 a10 ⟨by omega, by omega⟩ fun g11 o11 a11 => ?_
  refine seg_12 Z o11 a11 ⟨by omega, by omega⟩ fun g12 o12 a12 => ?_
  refine seg_13 Z o12 a12 ⟨by omega, by omega⟩ fun g13 lv o13 a13 => ?_
  exact R g13 lv _ _ (by omega) (by omega)
theorem law_exit {X : Cx} {dg : Nat × Nat} {K V : Nat → Nat} {b L : Nat} {xs : Nat → Int32} (Z : LC X dg K V b L xs) (hargs : X.1.2.2.2.2.2.2.1 = #[Value.ref b]) {ws : va_W} {lv : List (Nat × Value)} {c s : Nat} (hc : c ≤ 600086) (hs : s ≤ 7301442) : Wj X (lw_Z X.1.2.2.2.2.2.2.2.1 #[.ref b] (xS X)) ws c s 1691 lv [.int (nI 1)] := by
  obtain ⟨F, -⟩ := Z
  obtain ⟨hx, hb, hml, hown, hts, hlk, hret, hJ, hrm, hA, -⟩ := F 0 (by decide)
  have hR' : X.1.2.2.2.1 = room_1 := hrm
  intro H locs ls hP hD hS hl
  rw [hA] at hS
  refine W.widen hc hs (va_forget (fun q hq => (hS.2.2 q hq).elim (fun ⟨p, hp, _⟩ => by cases hp) (fun z => z)) ?_)
  rw [hR', hargs]
  exact lw_ret hx hb hret hlk dL_law_1691
set_option maxRecDepth 100000 in
set_option maxHeartbeats 4000000 in
/-- from the entry, for every script of at most 260 ints, the law comes to its end with true -/
theorem law_start {p : Program} {e : Env} {s : State} {m : MethodId} {below : List Frame} {meth : Method} {c : Code} (l : Launch) {b L : Nat} {xs : Nat → Int32} (hL : L ≤ 260) (C0 : lw_At p s m meth c b L xs) : W p l e room_1 s m #[Value.ref b] below meth c s.heap [] 0 0 (lw_Z below #[Value.ref b] s) (entryFrame m ([Value.ref b] : List Value).toArray 13) := by
  obtain ⟨hx, hb, hret, hml, hown, hts, hX, hbl, hlk, hgv⟩ := C0
  have hG : ∀ w ∈ GT, w.before #[Value.ref b] s = true := hG_of hts
  obtain ⟨aK, aV, sk⟩ := ent_SK hts hgv
  obtain ⟨K, V, sc⟩ := ent_C hts hgv
  obtain ⟨dg, ⟨d1, d2⟩, d3, d4⟩ := ent_D hts hgv
  obtain ⟨D, ids, kk⟩ := ent_KK hts s.heap.size
  have hret' : meth.sig.returnType = some .boolean := hret
  have hlv := lv_entry [Value.ref b] (n := 13) (Nat.le_of_ble_eq_true rfl)
  rw [lg_entry_eq]
  obtain ⟨X, hXe⟩ : ∃ X : Cx, X = ((p, l, e, room_1, s, m, #[Value.ref b], below, meth, c), G0 D ids s.heap.size, (fun q => Fw [] q ∨ s.heap.size ≤ q), 0, 0, 13) := ⟨_, rfl⟩
  have F : Fk X cL_law RL room_1 := by rw [hXe]; exact ⟨hx, hb, hml, hown, hG, hlk, kk, rfl⟩
  have hL13 : xL X = 13 := by rw [hXe]; rfl
  have hgx : xG X = G0 D ids s.heap.size := by rw [hXe]; rfl
  have hsx : xS X = s := by rw [hXe]; rfl
  have hax : xA X = fun q => Fw [] q ∨ s.heap.size ≤ q := by rw [hXe]; rfl
  have Z : LC X dg K V b L xs := by
    refine ⟨fun i hi => ?_, ?_, fun a ha => ?_, hL13, ?_, fun i hi => ?_⟩
    · rw [hXe]
      exact ⟨hx, hb, hml, hown, hG, hlk, hret', ⟨kk.1, ⟨va_Nw.of rfl (hts _ lx_cB), kk.2.1⟩, (sc i hi).2, ⟨d1, d2⟩, d3, d4⟩, rfl, rfl, (fun p hp => absurd hp List.not_mem_nil), (fun q hq => hq)⟩
    · rw [hgx]; exact Dst0 D ids _
    · rw [hgx] at ha
      rw [hax]
      exact Or.inr (Aw0 D ids _ ha).1
    · rw [hsx]; exact ⟨hX, hbl, hL⟩
    · rw [hsx]; exact (sc i hi).1
  have start : Wk X (lw_Z below #[Value.ref b] s) s.heap.size [] 0 0 0 [(0, .ref b)] [] := by
    refine k_new F (c := 7) (b := s.heap.size) nwL_19 (by decide) ⟨show 1 ≤ 600086 by decide, show 18 ≤ 7301442 by decide⟩ rfl dL_law_0 ?_
    refine k_dup F rfl dL_law_3 ?_
    refine k_init F ckX7 mlL_28 (kX7 (xG X) _ s.heap.size (s.heap.size, aK, aV) (Nat.le_refl _)) (SKl.lasts (Nat.le_refl _)) (by rw [hsx]; exact sk) (by rw [hsx]; exact Nat.le_refl _) rfl rfl rfl ⟨⟨rfl, rfl⟩, by decide, by decide⟩ (Nat.le_of_ble_eq_true rfl) ⟨show 0 + 1 + 165 ≤ 600086 by decide, show 0 + 18 + 2279 ≤ 7301442 by decide⟩ dL_law_4 ?_
    refine k_astore_n F [(1, .ref s.heap.size), (0, .ref b)] rfl dL_law_7 rfl (by rw [hL13]; decide) ?_
    intro H locs ls hP hS hl
    rw [List.nil_append] at hP
    have hP' : Ph (G0 D ids s.heap.size) s.heap.size (qX7 (G0 D ids s.heap.size) s.heap.size) H := by
      rw [hgx] at hP; exact hP
    have hS' : va_S (fun q => s.heap.size ≤ q) s.heap H locs := by rw [hsx] at hS; exact hS
    have hPe : va_P D vwCl (enc (G0 D ids s.heap.size) h0m) H := world0 fun i ev hi => hP'.2 i ev hi
    have key := law_all (Q := lw_Z X.1.2.2.2.2.2.2.2.1 #[.ref b] (xS X)) (cN := 0 + 1 + 165) (sN := 0 + 18 + 2279) Z okH_h0 start_AQ ⟨by decide, by decide⟩ fun g lv c9 s9 h1 h2 => law_exit Z (by rw [hXe]) h1 h2
    have goal := key H locs ls (by rw [hgx]; exact hPe) (by rw [hax, hgx]; exact D_mono (Dst_D (Dst0 D ids _) _) fun a ha => Or.inr (Aw0 D ids _ ha).1) (by rw [hax, hsx]; exact ⟨hS'.1, fun q h1 h2 => hS'.2.1 q h1 (fun z => h2 (Or.inr z)), fun q hq => Or.inr (hS'.2.2 q hq)⟩) (by rw [hgx]; exact hl)
    rw [hXe] at goal ⊢
    exact goal
  rw [hXe] at start
  exact start s.heap [] _ ⟨rfl, fun i ev hi => absurd hi (by simp)⟩ va_S.rf hlv
