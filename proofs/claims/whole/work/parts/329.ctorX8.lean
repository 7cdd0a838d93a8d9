-- the reference's constructor, whole
theorem run_knownV {X : Cx} {Qf : Unit → State → Prop} {ex : va_W} {pc : Nat} {lv : List (Nat × Value)} {st st0 : List Value} {h : Hp} {β : Type} {res : Option β} {rv : β → Option Value} {hp : β → Hp} {P : β → Prop} {out : β} (r : RunP X ex pc lv st0 st h res rv hp P) (e : res = some out) (hv : rv out = none) (K : Wt X Qf ex (pc + 3) lv st (hp out) (some ())) : Wt X Qf ex pc lv st0 h (some ()) := by
  have := r Unit Qf (fun o => @ite _ (o = out) (Classical.propDecidable _) (some ()) none) (fun o _ => by
    by_cases z : o = out
    · rw [if_pos z, z, hv]; exact K
    · rw [if_neg z]; exact Wt_none)
  rw [e] at this
  have e2 : (some out).bind (fun o => @ite _ (o = out) (Classical.propDecidable _) (some ()) none) = some () := by
    show @ite _ (out = out) (Classical.propDecidable _) (some ()) none = some ()
    exact if_pos rfl
  rw [e2] at this
  exact this
theorem len7 (G : Gx) (b : Nat) : (qX7 G b).length = 166 := es7_len G _ _ 7 (show (tl7 G b).length = 87 from rfl)
def Kp7 (G : Gx) (n0 : Nat) (U : State) : Prop := ∀ (i : Nat) (e : va_E), (qX7 G n0)[i]? = some e → va_at G.2.1 vwCl (n0 + i, e) U.heap
abbrev Q8 (G : Gx) (n0 : Nat) : Array Value → State → Outcome → State → Prop := fun _ st ot t => ot = .returned none ∧ (∃ hE, JI hE ∧ okH hE ∧ va_P G.2.1 vwCl (enc G hE) t.heap) ∧ ∀ q, q < n0 → t.heap[q]? = st.heap[q]?
theorem D_mono {A B : Nat → Prop} {w : va_W} (h : va_D A w) (hAB : ∀ a, A a → B a) : va_D B w := ⟨h.1, fun k q hk => hAB _ (h.2 k q hk)⟩
set_option maxRecDepth 100000 in
set_option maxHeartbeats 4000000 in
theorem kX8 (D : va_G) (ids : ClassId × ClassId × ClassId × ClassId) (l : Launch) (n0 : Nat) : Met l yX8_init (.code yX8_init cX8_init 1 none :: GT) rmX8_init (va_Pc [.ref (n0 + 166)] (fun U => Ph (G0 D ids n0) (n0 + 166) [.inr (8, dfl 8)] U.heap ∧ KK (G0 D ids n0) U ∧ Kp7 (G0 D ids n0) n0 U)) (Q8 (G0 D ids n0) n0) 45 2211 (fun q => n0 ≤ q) := by
  refine Met.ofW (cc := cX8_init) (maxL := 1) (ret := none) (by decide +kernel) rfl ?_
  intro p e s m args below meth c9 s₁ B hml hv
  obtain ⟨rfl, hP, hK, hKp⟩ := hv
  have hts := atoms_spec (ws := Cond.code yX8_init cX8_init 1 none :: GT) B.pre
  have hG : ∀ w ∈ GT, w.before _ s = true := fun w hw => hts w (List.mem_cons_of_mem _ hw)
  have hnm : meth.name = "<init>" := (name_of_methodNamed B.named B.method).1
  have hown : s.vm.findClass RX8 = some m.cls := findClass_of_methodNamed B.named
  have hl := lv_entry [Value.ref (n0 + 166)] (n := 1) (Nat.le_of_ble_eq_true rfl)
  rw [lg_entry_eq]
  obtain ⟨X, hX⟩ : ∃ X : Cx, X = ((p, l, e, rmX8_init, s, m, [Value.ref (n0 + 166)].toArray, below, meth, c9), G0 D ids n0, (fun q => n0 ≤ q), 45, 2211, 1) := ⟨_, rfl⟩
  have F : Fk X cX8_init RX8 rmX8_init := by
    rw [hX]; exact ⟨B.exec, B.bytes, hml, hown, hG, B.notSynchronized, hK, rfl⟩
  have Ft : Fx X cX8_init RX8 none rmX8_init := by
    rw [hX]; exact ⟨B.exec, B.bytes, hml, hown, hG, B.notSynchronized, B.returns, hK.1, Dst0 D ids n0, fun a ha => (Aw0 D ids n0 ha).1, rfl, ⟨Nat.le_refl _, Nat.le_refl _⟩, hK.2.1⟩
  have hsz : n0 + 166 < s.heap.size := by rw [hP.1]; exact Nat.lt_succ_self _
  have main := x8_arrays X (MQ below (Q8 (G0 D ids n0) n0) [Value.ref (n0 + 166)].toArray s 45 2211 (fun q => n0 ≤ q)) (n0 + 166) (by rw [hX]; rfl) F (by rw [hX]; exact hnm) (fun fW wd => by
    intro H locs ls hP2 hS hlv
    obtain ⟨h1, hE, p1, p2, ji⟩ := start_JI wd
    have hgx : xG X = G0 D ids n0 := by rw [hX]; rfl
    have hP3 : Ph (G0 D ids n0) (n0 + 166) (cs8 D ids n0 fW) H := by
      have := hP2
      rw [hgx] at this
      exact this
    have hS3 : va_S (fun q => n0 + 166 ≤ q) s.heap H locs := by
      have := hS
      rw [hX] at this
      exact this
    have hlv3 : lv_has ls 1 [(0, .ref (n0 + 166))] := by
      have := hlv
      rw [hX] at this
      exact this
    have hW : va_P D vwCl (enc (G0 D ids n0) (h0m fW)) H := world0 (fun i ev hi => by
      have hlt : i < 166 := by
        have := (List.getElem?_eq_some_iff.mp hi).1
        rw [len7] at this
        exact this
      exact (hKp i ev hi).kept (hS3.2.1 _ (by omega) (by omega))) (fun i ev hi => hP3.2 i ev hi)
    have hS4 : va_S (fun q => n0 ≤ q) s.heap H locs := ⟨hS3.1, fun q g1 g2 => hS3.2.1 q g1 (fun z => g2 (by omega)), fun q hq => Nat.le_trans (Nat.le_add_right _ _) (hS3.2.2 q hq)⟩
    have key : Wt X (fun _ : Unit => MQ below (Q8 (G0 D ids n0) n0) [Value.ref (n0 + 166)].toArray s 45 2211 (fun q => n0 ≤ q)) [] 1162 [(0, .ref (adr (xG X) 8 0 0))] [] (h0m fW) (some ()) := by
      refine r_aload_n Ft 0 rfl dX8_init_1162 rfl ?_
      refine run_knownV (run_V Ft cvX8_157 (by decide) (c_X8_plain (xG X) _ 1000 (h0m fW)) rfl rfl ⟨⟨rfl, rfl⟩, Nat.le_of_ble_eq_true rfl, Nat.le_of_ble_eq_true rfl⟩ (Nat.le_of_ble_eq_true rfl) dX8_init_1163) p1 rfl ?_
      refine r_aload_n Ft 0 rfl dX8_init_1166 rfl ?_
      refine run_knownV (run_V Ft cvX8_160 (by decide) (c_X8_keepText (xG X) _ 1000 h1) rfl rfl ⟨⟨rfl, rfl⟩, Nat.le_of_ble_eq_true rfl, Nat.le_of_ble_eq_true rfl⟩ (Nat.le_of_ble_eq_true rfl) dX8_init_1167) p2 rfl ?_
      intro H9 locs9 ls9 hO9 hP9 hD9 hS9 hl9 out9 ho9
      rw [hX] at hP9 hS9
      rw [hX]
      exact W.vret B.exec B.bytes B.returns (fun t ht _ => ⟨rfl, ⟨hE, ji, hO9, by rw [ht]; exact P_enc hP9⟩, fun q hq => by rw [ht]; exact hS9.2.1 q (show q < s.heap.size by omega) (Nat.not_le.mpr hq)⟩) hS9.2.2 dX8_init_1170 B.notSynchronized
    have := key
    rw [hX] at this
    rw [hX]
    exact this H locs ls (okH_h0 fW) hW (D_mono (Dst_D (Dst0 D ids n0) _) fun a ha => (Aw0 D ids n0 ha).1) hS4 hlv3 () rfl)
  rw [hX] at main
  exact main s.heap [] _ hP va_S.rf hl
