-- the law's body: rows over the script
abbrev bump (X : Cx) : Cx := (X.1, X.2.1, X.2.2.1, xC X + 1, xN X + 6, xL X)
/-- what holds all through the law's loop -/
def LawX (X : Cx) (b L : Nat) (xs : Nat → Int32) (q0 a1 a2 : Nat) : Prop :=
  (Fx X cL_law RL (some .boolean) room_1 ∧ xL X = 7 ∧ X.1.2.1.stackTraces = false ∧ X.1.2.2.2.2.2.2.1 = #[Value.ref b]) ∧ (xA X = fun a => (xS X).heap.size ≤ a) ∧ (va_X b L xs (xS X) (xS X).heap ∧ b < (xS X).heap.size ∧ L ≤ 3072) ∧ (∀ a, AO (xG X) q0 a → (xS X).heap.size ≤ a) ∧ ¬ Aw (xG X) q0 ∧ TK (fun a => (xS X).heap.size ≤ a) a1 a2 (xS X)
abbrev lvL (X : Cx) (b q0 i : Nat) : List (Nat × Value) := [(0, .ref b), (1, .ref (adr (xG X) 7 0 0)), (2, .ref (adr (xG X) 8 0 0)), (3, .ref q0), (4, .int (nI i))]
section LR
variable {X : Cx} {α : Type} {Qf : α → State → Prop} {ex : va_W} {cc : ByteArray} {own : String} {ret9 : Option FieldType} {rm : Room} {pc : Nat} {lv : List (Nat × Value)} {st st0 : List Value} {h : Hp} {k : Option α} {b L q0 a1 a2 i : Nat} {xs : Nat → Int32}
theorem Wt_bump (K : Wt (bump X) Qf ex pc lv st h k) : Wt X Qf ex pc lv st h k := fun H locs ls a b c d e out ho => W.widen (Nat.le_succ _) (Nat.le_add_right _ _) (K H locs ls a b c d e out ho)
theorem LawX.bump (Z : LawX X b L xs q0 a1 a2) (hC : xC X + 1 ≤ 601024) (hN : xN X + 6 ≤ 7293034) : LawX (bump X) b L xs q0 a1 a2 := by
  obtain ⟨⟨⟨hx, hb, hml, hown, hts, hlk, hret, hK, hD, hAw, hrm, -, hNst⟩, h2, h3, h4⟩, r⟩ := Z
  exact ⟨⟨⟨hx, hb, hml, hown, hts, hlk, hret, hK, hD, hAw, hrm, ⟨hC, hN⟩, hNst⟩, h2, h3, h4⟩, r⟩
/-- a call whose answer is known -/
theorem run_known {Qf : Unit → State → Prop} {β : Type} {res : Option β} {rv : β → Option Value} {hp : β → Hp} {P : β → Prop} {out : β} {v : Value} (r : RunP X ex pc lv st0 st h res rv hp P) (e : res = some out) (hv : rv out = some v) (K : Wt X Qf ex (pc + 3) lv (v :: st) (hp out) (some ())) : Wt X Qf ex pc lv st0 h (some ()) := by
  have := r Unit Qf (fun o => @ite _ (o = out) (Classical.propDecidable _) (some ()) none) (fun o _ => by
    by_cases z : o = out
    · rw [if_pos z, z, hv]; exact K
    · rw [if_neg z]; exact Wt_none)
  rw [e] at this
  have e2 : (some out).bind (fun o => @ite _ (o = out) (Classical.propDecidable _) (some ()) none) = some () := by
    show @ite _ (out = out) (Classical.propDecidable _) (some ()) none = some ()
    exact if_pos rfl
  rw [e2] at this
  exact this
theorem r_same (F : Fx X cc own ret9 rm) {x : Int32} {off : Int} {tgt : Nat} (hd : decode cc pc = .ok (.if_icmp .eq off, 3)) (ht : (pc : Int) + off = (tgt : Int)) (K : Wt X Qf ex tgt lv st h k) : Wt X Qf ex pc lv (.int x :: .int x :: st) h k := by
  have := r_icmpeq (k1 := k) (k2 := none) (x := x) (y := x) F hd ht K Wt_none
  rwa [if_pos rfl] at this
theorem r_sameL (F : Fx X cc own ret9 rm) {x : Int64} {off : Int} {tgt : Nat} (hd : decode cc pc = .ok (.lcmp, 1)) (hd2 : decode cc (pc + 1) = .ok (.ifCond .eq off, 3)) (ht : ((pc + 1 : Nat) : Int) + off = (tgt : Int)) (K : Wt X Qf ex tgt lv st h k) : Wt X Qf ex pc lv (.long x :: .long x :: st) h k := by
  refine r_lcmp F hd ?_
  have e : lg_cmp x x = 0 := by simp [lg_cmp]
  rw [e]
  have := r_ifeq (k1 := k) (k2 := none) (x := 0) F hd2 ht K Wt_none
  rwa [if_pos rfl] at this
theorem r_ifne0 (F : Fx X cc own ret9 rm) {off : Int} (hd : decode cc pc = .ok (.ifCond .ne off, 3)) {tgt : Nat} (ht : (pc : Int) + off = (tgt : Int)) (K : Wt X Qf ex (pc + 3) lv st h k) : Wt X Qf ex pc lv (.int 0 :: st) h k := by
  have := r_ifne (k1 := none) (k2 := k) (x := 0) F hd ht Wt_none K
  rwa [if_neg (show ¬ ¬ (0 : Int32) = 0 by decide)] at this
theorem r_ifne1 (F : Fx X cc own ret9 rm) {x : Int32} (hx : ¬ x = 0) {off : Int} (hd : decode cc pc = .ok (.ifCond .ne off, 3)) {tgt : Nat} (ht : (pc : Int) + off = (tgt : Int)) (K : Wt X Qf ex tgt lv st h k) : Wt X Qf ex pc lv (.int x :: st) h k := by
  have := r_ifne (k1 := k) (k2 := none) (x := x) F hd ht K Wt_none
  rwa [if_pos hx] at this
theorem r_tsk (F : Fx X cc own ret9 rm) {x : Int32} {dflt lo hi off : Int} {offs : Array Int} {len tgt : Nat} (v : Int32) (z : Nat) (hxv : x = v) (hd : decode cc pc = .ok (.tableswitch dflt lo hi offs, len)) (ho : offs[z]? = some off) (hv : v.toInt = lo + z) (hb : lo + z ≤ hi) (ht : (pc : Int) + off = (tgt : Int)) (K1 : Wt X Qf ex tgt lv st h k) : Wt X Qf ex pc lv (.int x :: st) h k := by
  have := r_tsc (k1 := k) (k2 := none) F v z hd ho hv hb ht K1 (fun _ => Wt_none) (x := x)
  rwa [if_pos hxv] at this
/-- a boolean out of an int -/
theorem r_bool (F : Fx X cc own ret9 rm) {x : Int32} (d0 : decode cc pc = .ok (.ifCond .eq 7, 3)) (d3 : decode cc (pc + 3) = .ok (.iconst 1, 1)) (d4 : decode cc (pc + 4) = .ok (.goto 4, 3)) (d7 : decode cc (pc + 7) = .ok (.iconst 0, 1)) (K : Wt X Qf ex (pc + 8) lv (.int (b2i (decide (¬ x = 0))) :: st) h k) : Wt X Qf ex pc lv (.int x :: st) h k := by
  by_cases z : x = 0
  · have := r_ifeq (k1 := k) (k2 := none) (x := x) F (tgt := pc + 7) d0 (by omega) (r_iconst F (v := 0) d7 (by decide) (by
      rw [decide_eq_false (fun q => q z)] at K
      exact K)) Wt_none
    rwa [if_pos z] at this
  · have := r_ifeq (k1 := none) (k2 := k) (x := x) F (tgt := pc + 7) d0 (by omega) Wt_none (r_iconst F (v := 1) d3 (by decide) (r_goto F (tgt := pc + 8) d4 (by omega) (by
      rw [decide_eq_true z] at K
      exact K)))
    rwa [if_neg z] at this
/-- a place of the script -/
theorem r_sld (Z : LawX X b L xs q0 a1 a2) {j : Nat} (hj : j < L) (hd : decode cL_law pc = .ok (.iaload, 1)) (K : Wt X Qf ex (pc + 1) lv (.int (xs j) :: st) h k) : Wt X Qf ex pc lv (.int (nI j) :: .ref b :: st) h k := by
  obtain ⟨⟨⟨hx, hb, -⟩, -⟩, hA, ⟨hX, hbl, hL⟩, -⟩ := Z
  intro H locs ls hO hP hD hS hl out ho2
  have hj31 : j < 2 ^ 31 := by omega
  have K' := K H locs ls hO hP hD hS hl out ho2
  rw [← clN hj31] at K'
  exact va_sld hx hb hX hbl (by rw [hA]; exact Nat.not_le.mpr hbl) hS (nI_in hj (by omega)) hd K'
theorem r_slen (Z : LawX X b L xs q0 a1 a2) (hd : decode cL_law pc = .ok (.arraylength, 1)) (K : Wt X Qf ex (pc + 1) lv (.int (nI L) :: st) h k) : Wt X Qf ex pc lv (.ref b :: st) h k := by
  obtain ⟨⟨⟨hx, hb, -⟩, -⟩, hA, ⟨hX, hbl, hL⟩, -⟩ := Z
  intro H locs ls hO hP hD hS hl out ho2
  exact va_slen hx hb hX hbl (by rw [hA]; exact Nat.not_le.mpr hbl) hS hd (K H locs ls hO hP hD hS hl out ho2)
theorem r_arg (Z : LawX X b L xs q0 a1 a2) (h0 : lv[0]? = some (0, .ref b)) (h4 : lv[4]? = some (4, .int (nI i))) (n : Nat) (hn : n ≤ 5) (hi : i + 6 ≤ L) (d0 : decode cL_law pc = .ok (.aload_n 0, 1)) (d1 : decode cL_law (pc + 1) = .ok (.iload 4, 2)) (d3 : decode cL_law (pc + 3) = .ok (.iconst (n : Int), 1)) (d4 : decode cL_law (pc + 4) = .ok (.iadd, 1)) (d5 : decode cL_law (pc + 5) = .ok (.iaload, 1)) (K : Wt X Qf ex (pc + 6) lv (.int (xs (i + n)) :: st) h k) : Wt X Qf ex pc lv st h k := by
  have F := Z.1.1
  refine r_aload_n F 0 h0 d0 rfl ?_
  refine r_iload F 4 h4 d1 ?_
  refine r_iconst F (v := nI n) d3 ?_ ?_
  · have : n = 0 ∨ n = 1 ∨ n = 2 ∨ n = 3 ∨ n = 4 ∨ n = 5 := by omega
    rcases this with z | z | z | z | z | z <;> subst z <;> decide
  refine r_iadd F d4 ?_
  rw [nI_add]
  exact r_sld Z (by omega) d5 K
theorem r_iinc6 (F : Fx X cc own ret9 rm) (hL : xL X = 7) (hd : decode cc pc = .ok (.iinc 4 6, 3)) (K : Wt X Qf ex (pc + 3) (lvL X b q0 (i + 6)) st h k) : Wt X Qf ex pc (lvL X b q0 i) st h k := by
  refine Wt_st (lv2 := (4, .int (nI (i + 6))) :: fil1 4 (lvL X b q0 i)) (fun _ _ _ _ e w => lv_iinc (k := 4) F.1 F.2.1 hd e rfl (by rw [show Int32.ofInt 6 = nI 6 by decide, nI_add]) (by rw [hL]; decide) rfl w) ?_
  exact Wt_pick [1, 2, 3, 4, 0] rfl K
/-- the law's stripe, called -/
theorem r_stripe (Z : LawX X b L xs q0 a1 a2) {rm' : Room} {mc ms : Nat} {s w r : Int32} {f f' : Nat → Int64} (hM : Met X.1.2.1 yL_stripe (.codeWith yL_stripe cL_stripe 5 (some .int) hhL :: GT) rm' (va_Pc [.ref (adr (xG X) 7 0 0), .int s, .int w, .ref q0] (PL (xG X) q0 h f a1 a2)) (QL (xG X) q0 h r f') mc ms (AO (xG X) q0)) (hrm : rm'.cells = mc ∧ rm'.slots = ms ∧ mc ≤ 1 ∧ ms ≤ 6 ∧ rm'.frames + 1 ≤ 14 ∧ 8 + (5 + 11) + rm'.locals ≤ 590) (hC : xC X + 1 ≤ 601024) (hN : xN X + 6 ≤ 7293034) (hd : decode cL_law pc = .ok (.invokestatic 39, 3)) (K : Wt (bump X) Qf [oc (xG X) q0 f'] (pc + 3) lv [.int r] h k) : Wt X Qf [oc (xG X) q0 f] pc lv [.ref q0, .int w, .int s, .ref (adr (xG X) 7 0 0)] h k := by
  obtain ⟨⟨⟨hx, hb, hml, hown, hts, hlk, -, hK, hDst, hAw, hR, hcs, hNst⟩, -⟩, hA, ⟨hX, hbl, hL⟩, hAO, hq, tk⟩ := Z
  intro H locs ls hO hP hD hS hl out ho
  have hR' : X.1.2.2.2.1 = room_1 := hR
  have hG : GoodIn GT (va_wsS RL 39 yL_stripe (.codeWith yL_stripe cL_stripe 5 (some .int) hhL :: GT)) := fun z hz => by
    have hm : z ∈ GT := by
      rcases List.mem_append.mp hz with y | y
      · rcases List.mem_cons.mp y with y | y
        · rw [y]; exact GT_5 89 rfl rfl
        · rcases List.mem_cons.mp y with y | y
          · rw [y]; exact GT_5 90 rfl rfl
          · rw [List.mem_singleton.mp y]; exact GT_1 0 rfl rfl
      · rcases List.mem_cons.mp y with y | y
        · rw [y]; exact GT_5 91 rfl rfl
        · exact y
    exact ⟨hm, good_of_word (List.mem_filter.mp hm).2⟩
  have hrun := vx_runSW (p := X.1.1) (e := X.1.2.2.1) (R := X.1.2.2.2.1) (s := xS X) (m := xM X) (args := X.1.2.2.2.2.2.2.1) (below := X.1.2.2.2.2.2.2.2.1) (meth := X.1.2.2.2.2.2.2.2.2.1) (c := X.1.2.2.2.2.2.2.2.2.2) (H := H) (locs := locs) (cells := xC X) (slots := xN X) (Ts := GT) (n := 4) (own := RL) (index := 39) (hh := hhL) (bytes := cL_stripe) (maxL := 5) (ret := some .int) (cc := cL_law) (nL := xL X) (g := F0 (xM X) pc ls [.ref q0, .int w, .int s, .ref (adr (xG X) 7 0 0)]) (As := [.ref (adr (xG X) 7 0 0), .int s, .int w, .ref q0]) (rest := [])
    ⟨hx, hb, hml, hown, hts⟩ hM (vx_cwSW 4 hts hG rfl hrm.1 hrm.2.1 ⟨by decide, by decide, by decide +kernel⟩ ⟨by rw [hR']; exact hrm.2.2.2.2.1, by rw [hR']; exact hrm.2.2.2.2.2⟩)
    ⟨PL_blind _ _ _ _ _ _ _, fun U hU hW => ⟨rfl, ⟨by rw [hU]; exact hP, va_K.moved hW.alike hK, hDst, va_Nw.warmM hW hNst⟩, hq, TK.narrow hAO (TK.move hW (fun a g1 g2 => by rw [hU]; exact hS.2.1 a g1 (by rw [hA]; exact g2)) tk)⟩⟩ rfl rfl hl.1 rfl (show 2 * 0 + 0 ≤ 8 by decide) hd ⟨by rw [hR']; show xC X + mc ≤ 601024; omega, by rw [hR']; show xN X + ms ≤ 7293034; omega⟩
  intro T hT Y
  obtain ⟨v, st₀, t, T', L', h0, Y', hL', e1, e2, ⟨hv, hPt, hF⟩, go⟩ := hrun T hT Y
  cases hv
  have hz : H.size ≤ T'.heap.size := by rw [e1, ← h0]; exact hF.1
  have hk2 : ∀ q : Nat, q < H.size → ¬ AO (xG X) q0 q → T'.heap[q]? = H[q]? := fun q g1 g2 => by rw [e1, ← h0]; exact hF.2 q (by rw [h0]; exact g1) g2
  have hAA : ∀ a, AO (xG X) q0 a → xA X a := fun a z => by rw [hA]; exact hAO a z
  have hSn : va_S (xA X) (xS X).heap T'.heap (locs ++ L') := ⟨Nat.le_trans hS.1 hz, fun q g1 g2 => by rw [hk2 q (Nat.lt_of_lt_of_le g1 hS.1) (fun z => g2 (hAA q z))]; exact hS.2.1 q g1 g2, fun q hq => by
    rcases List.mem_append.mp hq with z | z
    · exact hS.2.2 q z
    · exact hAA _ (hL' q z)⟩
  have hDn : va_D (xA X) ([oc (xG X) q0 f'] ++ enc (xG X) h) := D_map hD (by rw [List.map_append, List.map_append]; rfl)
  have K1 := K T'.heap (locs ++ L') ls hO (by rw [e1]; exact hPt) hDn hSn hl out ho
  have K2 : W X.1.1 X.1.2.1 X.1.2.2.1 X.1.2.2.2.1 X.1.2.2.2.2.1 X.1.2.2.2.2.2.1 X.1.2.2.2.2.2.2.1 X.1.2.2.2.2.2.2.2.1 X.1.2.2.2.2.2.2.2.2.1 X.1.2.2.2.2.2.2.2.2.2 T'.heap (locs ++ L') (xC X + mc) (xN X + ms) (Qf out) (F0 (xM X) (pc + 3) ls [.int r]) := W.widen (Nat.add_le_add_left hrm.2.2.1 _) (Nat.add_le_add_left hrm.2.2.2.1 _) K1
  obtain ⟨t2, a1, b1⟩ := K2 T' rfl Y'
  exact ⟨t2, go t2 a1, b1⟩
end LR
