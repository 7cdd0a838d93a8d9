-- the tokens' constructor: the spellings, read off the text
def sgT (sa : Nat × Nat × Nat) : SGt := (130, txtB, (fun q => sa.1 ≤ q), sa.2.1, sa.2.2)
/-- the text's constant too -/
def SKl (sa : Nat × Nat × Nat) (U : State) : Prop := vk_R RX4 18 txtS sa.2.1 U ∧ SKt (sgT sa) U
theorem SKl.lasts {sa : Nat × Nat × Nat} {b : Nat} (hb : sa.1 ≤ b) : Lasts b (SKl sa) := ⟨fun _ _ _ _ k => ⟨vk_R.same rfl k.1, k.2.calls⟩, fun _ _ k hW o => ⟨vk_R.warm hW k.1, k.2.keeps hW fun a _ h => o a (Nat.lt_of_not_le fun z => h (Nat.le_trans hb z))⟩⟩
theorem BYt (sa : Nat × Nat × Nat) : BY (sgT sa) := ⟨by show 130 < 2 ^ 31; decide, fun j hj => by
  have key : ∀ j : Fin 130, (txtB.getD j 0).toNatClampNeg < 128 ∧ txtB.getD j 0 = nI (txtB.getD j 0).toNatClampNeg := by decide +kernel
  exact ⟨_, key ⟨j, hj⟩⟩⟩
def stp : Nat × Int32 × List Int32 → Int32 → Nat × Int32 × List Int32
  | (w, sh, v), c => if c = 32 then (w + 1, 25, v) else (w, sh + -5, v.set w (v.getD w 0 ||| (c - 97 + 1) <<< (sh &&& 31)))
def tsp (i : Nat) : Nat × Int32 × List Int32 := (txtB.take i).foldl stp (0, 25, List.replicate 26 0)
def tspF (i : Nat) : Nat → Int32 := fun q => (tsp i).2.2.getD q 0
theorem tsp_s {i : Nat} (hi : i < 130) : tsp (i + 1) = stp (tsp i) (txtB.getD i 0) := by
  have hl : txtB.length = 130 := by decide +kernel
  unfold tsp
  rw [List.take_succ, List.foldl_append, List.getD_eq_getElem?_getD]
  obtain ⟨x, hx⟩ : ∃ x, txtB[i]? = some x := ⟨_, List.getElem?_eq_getElem (by omega)⟩
  rw [hx]
  rfl
theorem tsp_w : ∀ i, i < 131 → (tsp i).1 < 26 ∧ (tsp i).2.2.length = 26 := by decide +kernel
theorem tsp_spl : SPL (tspF 130) := by
  have key : ∀ k, k < 26 → (tsp 130).2.2.getD (cwd k) 0 = nI (pckL (wrdL.getD k []) 6) := by decide +kernel
  exact key
theorem tsp_sp {i : Nat} (hi : i < 130) (h : txtB.getD i 0 = 32) : (tsp (i + 1)).1 = (tsp i).1 + 1 ∧ (tsp (i + 1)).2.1 = 25 ∧ tspF (i + 1) = tspF i := by
  unfold tspF
  rw [tsp_s hi, stp, if_pos h]
  exact ⟨rfl, rfl, rfl⟩
theorem tsp_ch {i : Nat} (hi : i < 130) (h : ¬ txtB.getD i 0 = 32) : (tsp (i + 1)).1 = (tsp i).1 ∧ (tsp (i + 1)).2.1 = (tsp i).2.1 + -5 ∧ tspF (i + 1) = upd (tspF i) (tsp i).1 (tspF i (tsp i).1 ||| (txtB.getD i 0 - 97 + 1) <<< ((tsp i).2.1 &&& 31)) := by
  have hw := tsp_w i (by omega)
  unfold tspF
  rw [tsp_s hi, stp, if_neg h]
  refine ⟨rfl, rfl, funext fun q => ?_⟩
  show ((tsp i).2.2.set (tsp i).1 _).getD q 0 = _
  unfold upd
  rw [List.getD_eq_getElem?_getD]
  by_cases z : q = (tsp i).1
  · subst z
    rw [if_pos rfl, List.getElem?_set_self (by omega)]
    rfl
  · rw [if_neg z, List.getElem?_set_ne (fun e => z e.symm)]
    show _ = (tsp i).2.2.getD q 0
    rw [List.getD_eq_getElem?_getD]
def qX4 (G : Gx) (b : Nat) : List va_E := [.inr (4, [.ref (b + 1), .ref (b + 2), .int 0, .int 0, .int 0, .int 0, .int 0, .int 0, .int 0]), .inl (G.2.2.1, 700, .inl fun _ => 0), .inl (G.2.2.1, 26, .inl (tspF 130))]
abbrev rmX4_init : Room := { frames := 4, cells := 2, slots := 726, locals := 110 }
set_option maxRecDepth 100000 in
theorem ckX4 : CKi yX4_init cX4_init 5 0 := ⟨GT_1 38 rfl rfl, GT_1 2 rfl rfl, ⟨by decide, by decide, by decide +kernel⟩, rfl, GT_1 37 rfl rfl⟩
set_option maxRecDepth 100000 in
theorem oiX4 : Cond.methodLink RX4 3 Lib.objectInit ∈ GT ∧ Cond.instanceMethod Lib.objectInit ∈ GT ∧ Cond.code Lib.objectInit ⟨#[0xb1]⟩ 1 none ∈ GT := ⟨GT_1 39 rfl rfl, oiX0.2⟩
section TK4
variable {X : Cx} {Q : State → Prop} {b : Nat} {es : List va_E} {cN sN : Nat} {pc : Nat} {lv : List (Nat × Value)} {st : List Value} {sa : Nat × Nat × Nat}
theorem k_len (F : Fk X cX4_init RX4 rmX4_init) (k : SKl sa (xS X)) (hb : sa.1 ≤ b) (hcap : cN ≤ 2 ∧ sN ≤ 726) (hcat : (st.map fun v => v.category).sum ≤ 8) (d0 : decode cX4_init pc = .ok (.ldc 18, 2)) (d2 : decode cX4_init (pc + 2) = .ok (.invokevirtual 20, 3)) (K : Wk X Q b es cN sN (pc + 5) lv (.int 130 :: st)) : Wk X Q b es cN sN pc lv st := by
  obtain ⟨hx, hbb, hml, hown, hts, hlk, hK, hrm⟩ := F
  have hrm' : X.1.2.2.2.1 = rmX4_init := hrm
  intro H locs ls hP hS hlv
  refine va_ldcS hx hbb hown k.1 d0 ?_
  exact ro_V (A := fun q => b ≤ q) hx hbb hml hown hts sv_len (sc_length X.1.2.1 (sgT sa)) k.2 (fun q hq => Nat.le_trans hb hq) hS (As := []) rfl hlv.1 rfl ⟨⟨rfl, rfl⟩, by rw [hrm']; decide, by rw [hrm']; decide⟩ hcat (by rw [hrm']; exact hcap) d2 (K H locs ls hP hS hlv)
theorem k_cha (F : Fk X cX4_init RX4 rmX4_init) (k : SKl sa (xS X)) (hb : sa.1 ≤ b) (hcap : cN ≤ 2 ∧ sN ≤ 726) (hcat : (st.map fun v => v.category).sum ≤ 8) {j : Nat} (hj : j < 130) {z : Nat} (hz : lv[z]? = some (3, .int (nI j))) (d0 : decode cX4_init pc = .ok (.ldc 18, 2)) (d2 : decode cX4_init (pc + 2) = .ok (.iload_n 3, 1)) (d3 : decode cX4_init (pc + 3) = .ok (.invokevirtual 26, 3)) (K : Wk X Q b es cN sN (pc + 6) lv (.int (txtB.getD j 0) :: st)) : Wk X Q b es cN sN pc lv st := by
  obtain ⟨hx, hbb, hml, hown, hts, hlk, hK, hrm⟩ := F
  have hrm' : X.1.2.2.2.1 = rmX4_init := hrm
  intro H locs ls hP hS hlv
  refine va_ldcS hx hbb hown k.1 d0 ?_
  refine lv_iload_n hx hbb d2 rfl (lv_at hlv z hz) ?_
  exact ro_V (A := fun q => b ≤ q) hx hbb hml hown hts sv_ca (sc_ca X.1.2.1 (sgT sa) (BYt sa) j hj) k.2 (fun q hq => Nat.le_trans hb hq) hS (As := [.int (nI j)]) rfl hlv.1 rfl ⟨⟨rfl, rfl⟩, by rw [hrm']; decide, by rw [hrm']; decide⟩ hcat (by rw [hrm']; exact hcap) d3 (K H locs ls hP hS hlv)
abbrev es4 (G : Gx) (fs : List Value) (i : Nat) : List va_E := [.inr (4, fs), .inl (G.2.2.1, 700, .inl fun _ => 0), .inl (G.2.2.1, 26, .inl (tspF i))]
abbrev lv4 (b i : Nat) : List (Nat × Value) := [(0, .ref b), (1, .int (nI (tsp i).1)), (2, .int (tsp i).2.1), (3, .int (nI i))]
set_option maxRecDepth 100000 in
theorem tk_loop (F : Fk X cX4_init RX4 rmX4_init) (hL : xL X = 5) (k : SKl sa (xS X)) (hb : sa.1 ≤ b) {fs : List Value} (hfs : fs[1]? = some (.ref (b + 2))) (K : ∀ lv, Wk X Q b (es4 (xG X) fs 130) 2 726 94 lv []) : ∀ n i, i + n = 130 → Wk X Q b (es4 (xG X) fs i) 2 726 28 (lv4 b i) [] := by
  intro n
  induction n with
  | zero =>
    intro i hi
    have e : i = 130 := by omega
    subst e
    refine k_iload_n F 3 rfl dX4_init_28 rfl ?_
    refine k_len F k hb ⟨by decide, by decide⟩ (Nat.le_of_ble_eq_true rfl) dX4_init_29 dX4_init_31 ?_
    exact k_icmpge F (tgt := 94) dX4_init_34 (by decide) (fun _ => K _) (fun q => absurd (by decide) q)
  | succ n ih =>
    intro i hi
    have hi0 : i < 130 := by omega
    obtain ⟨hw, hvl⟩ := tsp_w i (by omega)
    have next : ∀ w sh f, (tsp (i + 1)).1 = w → (tsp (i + 1)).2.1 = sh → tspF (i + 1) = f → Wk X Q b [.inr (4, fs), .inl ((xG X).2.2.1, 700, .inl fun _ => 0), .inl ((xG X).2.2.1, 26, .inl f)] 2 726 88 [(0, .ref b), (1, .int (nI w)), (2, .int sh), (3, .int (nI i))] [] := by
      intro w sh f e1 e2 e3
      subst e1
      subst e2
      subst e3
      refine k_iinc F (v := 1) (w := nI (i + 1)) 3 rfl (by decide) (nI_succ i).symm ((3, .int (nI (i + 1))) :: [(0, .ref b), (1, .int (nI (tsp (i + 1)).1)), (2, .int (tsp (i + 1)).2.1)]) rfl dX4_init_88 (by rw [hL]; decide) ?_
      refine k_goto F (tgt := 28) dX4_init_91 (by decide) ?_
      refine Wk_pick [1, 2, 3, 0] rfl ?_
      exact ih (i + 1) (by omega)
    refine k_iload_n F 3 rfl dX4_init_28 rfl ?_
    refine k_len F k hb ⟨by decide, by decide⟩ (Nat.le_of_ble_eq_true rfl) dX4_init_29 dX4_init_31 ?_
    refine k_icmpge F (tgt := 94) dX4_init_34 (by decide) (fun q => absurd q (nI_ge (b := 130) hi0 (by decide))) (fun _ => ?_)
    refine k_iload_n F 1 rfl dX4_init_37 rfl ?_
    refine k_bipush F (v := nI 26) dX4_init_38 (by decide) ?_
    refine k_icmpge F (tgt := 94) dX4_init_40 (by decide) (fun q => absurd q (nI_ge hw (by decide))) (fun _ => ?_)
    refine k_cha F k hb ⟨by decide, by decide⟩ (Nat.le_of_ble_eq_true rfl) hi0 (z := 3) rfl dX4_init_43 dX4_init_45 dX4_init_46 ?_
    refine k_istore F ((4, .int (txtB.getD i 0)) :: lv4 b i) rfl dX4_init_49 (by rw [hL]; decide) ?_
    refine k_iload F 0 rfl dX4_init_51 ?_
    refine k_bipush F (v := 32) dX4_init_53 (by decide) ?_
    refine k_icmpne F (tgt := 67) dX4_init_55 (by decide) (fun z => ?_) (fun z => ?_)
    · obtain ⟨t1, t2, t3⟩ := tsp_ch hi0 z
      refine k_aload_n F 1 rfl dX4_init_67 rfl ?_
      refine k_get F frX4_15 hfs dX4_init_68 ?_
      refine k_iload_n F 2 rfl dX4_init_71 rfl ?_
      refine k_dup2 F rfl rfl dX4_init_72 ?_
      have hin : inb (nI (tsp i).1) 26 := inb_n hw (by decide)
      refine k_iald F (j := 2) (n := 26) rfl rfl hin dX4_init_73 ?_
      refine k_iload F 0 rfl dX4_init_74 ?_
      refine k_bipush F (v := 97) dX4_init_76 (by decide) ?_
      refine k_isub F dX4_init_78 ?_
      refine k_iconst F (v := 1) dX4_init_79 (by decide) ?_
      refine k_iadd F dX4_init_80 ?_
      refine k_iload_n F 3 rfl dX4_init_81 rfl ?_
      refine k_ishl F dX4_init_82 ?_
      refine k_ior F dX4_init_83 ?_
      refine k_iast F (j := 2) (n := 26) rfl rfl hin dX4_init_84 ?_
      refine k_iinc F (v := -5) (w := (tsp i).2.1 + -5) 3 rfl (by decide) rfl ((2, .int ((tsp i).2.1 + -5)) :: [(4, .int (txtB.getD i 0)), (0, .ref b), (1, .int (nI (tsp i).1)), (3, .int (nI i))]) rfl dX4_init_85 (by rw [hL]; decide) ?_
      refine Wk_pick [2, 3, 0, 4] rfl ?_
      rw [clN (show (tsp i).1 < 2 ^ 31 by omega)]
      exact next _ _ _ t1 t2 t3
    · obtain ⟨t1, t2, t3⟩ := tsp_sp hi0 z
      refine k_iinc F (v := 1) (w := nI ((tsp i).1 + 1)) 2 rfl (by decide) (nI_succ _).symm ((1, .int (nI ((tsp i).1 + 1))) :: [(4, .int (txtB.getD i 0)), (0, .ref b), (2, .int (tsp i).2.1), (3, .int (nI i))]) rfl dX4_init_58 (by rw [hL]; decide) ?_
      refine k_bipush F (v := 25) dX4_init_61 (by decide) ?_
      refine k_istore_n F ((2, .int 25) :: [(1, .int (nI ((tsp i).1 + 1))), (4, .int (txtB.getD i 0)), (0, .ref b), (3, .int (nI i))]) rfl dX4_init_63 rfl (by rw [hL]; decide) ?_
      refine k_goto F (tgt := 88) dX4_init_64 (by decide) ?_
      refine Wk_pick [3, 1, 0, 4] rfl ?_
      exact next _ _ _ t1 t2 t3
end TK4
set_option maxRecDepth 100000 in
set_option maxHeartbeats 4000000 in
theorem kX4 (G : Gx) (l : Launch) (b : Nat) (sa : Nat × Nat × Nat) (hb : sa.1 ≤ b) : Cn G l yX4_init cX4_init 5 rmX4_init [.ref b] b 4 (SKl sa) (qX4 G b) 2 726 := by
  refine ctor_of (by decide +kernel) rfl (Nat.le_of_ble_eq_true rfl) fun X hl hG hL F hin hret hKp hsz => ?_
  subst hG
  subst hl
  refine k_aload_n F 0 rfl dX4_init_0 rfl ?_
  refine k_objInit F oiX4 ⟨by decide, by decide⟩ dX4_init_1 ?_
  refine k_aload_n F 0 rfl dX4_init_4 rfl ?_
  refine k_sipush F (v := 700) dX4_init_5 (by decide) ?_
  refine k_newI F acw_int (N := 700) (b := b + 1) (by decide) (by decide) (by decide) ⟨by decide, by decide⟩ rfl dX4_init_8 ?_
  refine k_put F hin frX4_9 rfl rfl rfl (Nat.le_of_ble_eq_true rfl) dX4_init_10 ?_
  refine k_aload_n F 0 rfl dX4_init_13 rfl ?_
  refine k_bipush F (v := 26) dX4_init_14 (by decide) ?_
  refine k_newI F acw_int (N := 26) (b := b + 2) (by decide) (by decide) (by decide) ⟨by decide, by decide⟩ rfl dX4_init_16 ?_
  refine k_put F hin frX4_15 rfl rfl rfl (Nat.le_of_ble_eq_true rfl) dX4_init_18 ?_
  refine k_iconst F (v := 0) dX4_init_21 (by decide) ?_
  refine k_istore_n F [(1, .int 0), (0, .ref b)] rfl dX4_init_22 rfl (by rw [hL]; decide) ?_
  refine k_bipush F (v := 25) dX4_init_23 (by decide) ?_
  refine k_istore_n F [(2, .int 25), (1, .int 0), (0, .ref b)] rfl dX4_init_25 rfl (by rw [hL]; decide) ?_
  refine k_iconst F (v := 0) dX4_init_26 (by decide) ?_
  refine k_istore_n F [(3, .int 0), (2, .int 25), (1, .int 0), (0, .ref b)] rfl dX4_init_27 rfl (by rw [hL]; decide) ?_
  refine Wk_pick [3, 2, 1, 0] rfl ?_
  have e0 : tspF 0 = fun _ => 0 := by
    funext q
    show (List.replicate 26 (0 : Int32)).getD q 0 = 0
    rw [List.getD_eq_getElem?_getD, List.getElem?_replicate]
    split <;> rfl
  have key := tk_loop (Q := MQ X.1.2.2.2.2.2.2.2.1 (Qn (xG X) b (qX4 (xG X) b)) X.1.2.2.2.2.2.2.1 (xS X) 2 726 (fun q => b ≤ q)) F hL hKp hb (fs := ((dfl 4).set 0 (.ref (b + 1))).set 1 (.ref (b + 2))) rfl (fun lv => k_vret F hret hsz rfl rfl rfl dX4_init_94) 130 0 rfl
  rw [show es4 (xG X) (((dfl 4).set 0 (.ref (b + 1))).set 1 (.ref (b + 2))) 0 = [.inr (4, ((dfl 4).set 0 (.ref (b + 1))).set 1 (.ref (b + 2))), .inl ((xG X).2.2.1, 700, .inl fun _ => 0), .inl ((xG X).2.2.1, 26, .inl fun _ => 0)] by unfold es4; rw [e0]] at key
  exact key
