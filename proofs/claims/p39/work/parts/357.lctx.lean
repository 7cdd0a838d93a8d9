-- the class's stripe where it tells; what holds all through the law
def f_X7_stripe (h : Hp) (p1 p2 : Int32) : Option Int32 :=
  (f_X7_isStripe h p1).bind fun v2 =>
  if ¬ (b2i v2) = 0 then
    if p2 < 0 then none
    else if p2 ≤ 1 then
      if ¬ p2 = 0 then grd (inb p1 8) <| some (gA h 3 1 1 p1.toNatClampNeg)
      else grd (inb p1 8) <| some (gA h 3 1 0 p1.toNatClampNeg)
    else none
  else none
abbrev rmX7_stripe0 : Room := { frames := 1, cells := 0, slots := 0, locals := 30 }
set_option maxRecDepth 100000 in
set_option maxHeartbeats 4000000 in
theorem w_X7_stripe (X : Cx) (F : Fx X cX7_stripe RX7 (some .int) rmX7_stripe0) (hA : xA X = Aw (xG X)) (hL : xL X = 3) (h : Hp) (p1 p2 : Int32) : Wm X (fun v => some (.int v)) (fun _ => h) (fun _ => True) 0 [(0, .ref (adr (xG X) 7 0 0)), (1, .int p1), (2, .int p2)] [] h (f_X7_stripe h p1 p2) := by
  unfold f_X7_stripe
  refine r_aload_n F 0 rfl dX7_stripe_0 rfl ?_
  refine r_iload_n F 1 rfl dX7_stripe_1 rfl ?_
  refine k_zP (run_V F cvX7_130 (by decide) (c_X7_isStripe (xG X) _ h p1) rfl rfl ⟨⟨rfl, rfl⟩, Nat.le_of_ble_eq_true rfl, Nat.le_of_ble_eq_true rfl⟩ (Nat.le_of_ble_eq_true rfl) dX7_stripe_2) fun v2 _ => ?_
  refine r_ifne F (tgt := 18) dX7_stripe_5 (by decide) ?_ Wt_none
  refine r_iload_n F 2 rfl dX7_stripe_18 rfl ?_
  refine r_iflt F (tgt := 27) dX7_stripe_19 (by decide) Wt_none ?_
  refine r_iload_n F 2 rfl dX7_stripe_22 rfl ?_
  refine r_iconst F (v := 1) dX7_stripe_23 (by decide) ?_
  refine r_icmple F (tgt := 37) dX7_stripe_24 (by decide) ?_ Wt_none
  refine r_iload_n F 2 rfl dX7_stripe_37 rfl ?_
  refine r_ifne F (tgt := 53) dX7_stripe_38 (by decide) ?_ ?_
  · refine r_aload_n F 0 rfl dX7_stripe_53 rfl ?_
    refine r_getS F frX7_72 (by decide) 1 rfl dX7_stripe_54 ?_
    refine r_getA F frX7_149 (by decide) dX7_stripe_57 ?_
    refine r_iload_n F 1 rfl dX7_stripe_60 rfl ?_
    refine r_iaload F (n := 8) ⟨by decide, by decide, by decide, rfl⟩ dX7_stripe_61 ?_
    exact r_iret F hA rfl rfl trivial dX7_stripe_62
  · refine r_aload_n F 0 rfl dX7_stripe_41 rfl ?_
    refine r_getS F frX7_72 (by decide) 1 rfl dX7_stripe_42 ?_
    refine r_getA F frX7_146 (by decide) dX7_stripe_45 ?_
    refine r_iload_n F 1 rfl dX7_stripe_48 rfl ?_
    refine r_iaload F (n := 8) ⟨by decide, by decide, by decide, rfl⟩ dX7_stripe_49 ?_
    refine r_goto F (tgt := 62) dX7_stripe_50 (by decide) ?_
    exact r_iret F hA rfl rfl trivial dX7_stripe_62
theorem c_X7_stripe (G : Gx) (l : Launch) (h : Hp) (p1 p2 : Int32) : Ctr G l yX7_stripe (.code yX7_stripe cX7_stripe 3 (some .int) :: GT) rmX7_stripe0 [.ref (adr G 7 0 0), .int p1, .int p2] h (f_X7_stripe h p1 p2) (fun v => some (.int v)) (fun _ => h) (fun _ => True) :=
  ctr_of (by decide +kernel) (show 3 ≤ 3 by decide) ⟨rfl, rfl⟩ fun X _ hG hA hL F => by subst hG; exact w_X7_stripe X F hA hL h p1 p2
theorem o_stripe {h : Hp} {D : DT} {S : Str} {X0 : Xs} (s : LQ h D S X0) {i : Nat} (hi : i < nSt (T0 D)) : f_X7_stripe h (nI i) 0 = some (S.1 0 i) := by
  obtain ⟨t, T, I, X, r, a, b, c, d⟩ := s
  have hT := r.1.2.2.2.2.1
  have hi : i < nSt T := by rw [a.st]; exact hi
  have h8 := hT.1.2
  unfold f_X7_stripe
  rw [cl_isStripe r.1.2.1 r.1.2.2.2.1, bind_s, show inS T (nI i) = true from decide_eq_true ⟨leN (a := 0) (Nat.zero_le _) (by omega), by rw [hT.1.1]; exact Int32.not_le.mp (nleN hi (by omega))⟩, if_pos (show ¬ b2i true = 0 by decide), if_neg (show ¬ (0 : Int32) < 0 by decide), if_pos (show (0 : Int32) ≤ 1 by decide), if_neg (show ¬ ¬ (0 : Int32) = 0 by decide), grd_p (inb_n (by omega) (by omega)), clN (by omega)]
  exact congrArg some (r.2.1.2.1 i hi).1
/-- the law's constants -/
def sgc (A : Nat → Prop) (K V : Nat → Nat) (i : Nat) : SGt := ((cst i).length, cst i, A, K i, V i)
theorem cst_by : ∀ i, i < nC → (cst i).length ≤ 200 ∧ ∀ x ∈ cst i, x = nI x.toNatClampNeg ∧ x.toNatClampNeg < 128 := by decide +kernel
theorem sgc_by (A : Nat → Prop) (K V : Nat → Nat) {i : Nat} (hi : i < nC) : BY (sgc A K V i) ∧ (sgc A K V i).2.1.length = (sgc A K V i).1 ∧ (sgc A K V i).1 ≤ 200 := by
  obtain ⟨a, b⟩ := cst_by i hi
  refine ⟨⟨show (cst i).length < 2 ^ 31 by omega, fun j hj => ?_⟩, rfl, a⟩
  have m := gd_mem (show j < (cst i).length from hj) (0 : Int32)
  exact ⟨_, (b _ m).2, (b _ m).1⟩
/-- all through the law -/
def LC (X : Cx) (dg : Nat × Nat) (K V : Nat → Nat) (b L : Nat) (xs : Nat → Int32) : Prop := (∀ i, i < nC → Fj X cL_law RL (some .boolean) room_1 (sgc (fun q => (xS X).heap.size ≤ q) K V i) dg []) ∧ Dst (xG X) ∧ (∀ a, Aw (xG X) a → xA X a) ∧ xL X = 13 ∧ (va_X b L xs (xS X) (xS X).heap ∧ b < (xS X).heap.size ∧ L ≤ 260) ∧ ∀ i, i < nC → vk_R RL (cix i) (ctx i) (K i) (xS X)
section LCs
variable {X : Cx} {Q : State → Prop} {ws : va_W} {dg : Nat × Nat} {K V : Nat → Nat} {b L : Nat} {xs : Nat → Int32} {cN sN pc : Nat} {lv : List (Nat × Value)} {st : List Value}
theorem l_ldcS (Z : LC X dg K V b L xs) {i ix : Nat} (hi : i < nC) (hx : cix i = ix) (hd : decode cL_law pc = .ok (.ldc ix, 2)) (R : Wj X Q ws cN sN (pc + 2) lv (.ref (K i) :: st)) : Wj X Q ws cN sN pc lv st := by
  obtain ⟨F, -, -, -, -, hr⟩ := Z
  obtain ⟨f1, f2, f3, f4, -⟩ := F 0 (by decide)
  have hz := hr i hi
  rw [hx] at hz
  exact Wj_go (pc2 := pc + 2) (st2 := .ref (K i) :: st) (fun _ _ _ e w => va_ldcS f1 f2 f4 hz hd w) R
theorem l_cell (Z : LC X dg K V b L xs) {k : Nat} (hk : k < 2 ^ 31) (hcap : cN ≤ 600086 ∧ sN ≤ 7301442) (hcat : (st.map fun v => v.category).sum ≤ 8) (hd : decode cL_law pc = .ok (.invokestatic 29, 3)) (R : Wj X Q ws cN sN (pc + 3) lv (.int (clS L xs k) :: st)) : Wj X Q ws cN sN pc lv (.int (nI k) :: .ref b :: st) := by
  obtain ⟨F, -, -, -, ⟨hX, hb9, hL⟩, -⟩ := Z
  obtain ⟨hx, hb, hml, hown, hts, hlk, hr, hJ, hrm, hA, hA2, hA3⟩ := F 0 (by decide)
  have hrm' : X.1.2.2.2.1 = room_1 := hrm
  intro H locs ls p d s9 l
  have hbA : ¬ xA X b := by
    rw [hA]
    rintro (⟨q, hq, -⟩ | z)
    · cases hq
    · omega
  refine ro_next (r := some (.int (clS L xs k))) (va_runS (Ts := GT) (n := 2) (own := RL) (index := 29) (bytes := cL_cell) (maxL := 2) (ret := some .int) (As := [.ref b, .int (nI k)]) ⟨hx, hb, hml, hown, hts⟩ (c_Lcell X.1.2.1 b L k xs hL hk) ⟨callB_of 2 hts jsL_29.1.good rfl rfl rfl (hts _ jsL_29.1.2.2.1) (hts _ jsL_29.1.2.1) jsL_29.1.2.2.2 ⟨by rw [hrm']; decide, by rw [hrm']; decide⟩, hts _ jsL_29.2⟩ ⟨fun a U g mk q => ⟨q.1, va_X.moved (u := U) (U := U.calling g mk a) (Vm.Alike.refl U.vm) q.2.1, q.2.2⟩, fun U hU hW => ⟨rfl, ?_, ?_⟩⟩ rfl rfl l.1 rfl (by show 2 * 0 + _ ≤ 8; omega) hd (by rw [hrm']; exact hcap)) (R H locs ls p d s9 l)
  · rw [hU]
    exact va_X.moved hW.alike (hX.kept (s9.2.1 b hb9 hbA))
  · rw [hU]
    exact Nat.lt_of_lt_of_le hb9 s9.1
theorem l_in (Z : LC X dg K V b L xs) {x m9 : Int32} (hm : ¬ m9 = 0) (hcap : cN ≤ 600086 ∧ sN ≤ 7301442) (hcat : (st.map fun v => v.category).sum ≤ 8) (hd : decode cL_law pc = .ok (.invokestatic 35, 3)) (R : Wj X Q ws cN sN (pc + 3) lv (.int (inS_ x m9) :: st)) : Wj X Q ws cN sN pc lv (.int m9 :: .int x :: st) := by
  obtain ⟨F, -⟩ := Z
  obtain ⟨hx, hb, hml, hown, hts, hlk, hr, hJ, hrm, hA, hA2, hA3⟩ := F 0 (by decide)
  have hrm' : X.1.2.2.2.1 = room_1 := hrm
  intro H locs ls p d s9 l
  exact ro_next (r := some (.int (inS_ x m9))) (va_runS (Ts := GT) (n := 2) (own := RL) (index := 35) (bytes := cL_in) (maxL := 2) (ret := some .int) (As := [.int x, .int m9]) ⟨hx, hb, hml, hown, hts⟩ (c_Lin X.1.2.1 x m9 hm) ⟨callB_of 2 hts jsL_35.1.good rfl rfl rfl (hts _ jsL_35.1.2.2.1) (hts _ jsL_35.1.2.1) jsL_35.1.2.2.2 ⟨by rw [hrm']; decide, by rw [hrm']; decide⟩, hts _ jsL_35.2⟩ ⟨fun a U g mk q => ⟨q.1, trivial⟩, fun U hU hW => ⟨rfl, trivial⟩⟩ rfl rfl l.1 rfl (by show 2 * 0 + _ ≤ 8; omega) hd (by rw [hrm']; exact hcap)) (R H locs ls p d s9 l)
end LCs
/-- a remainder is below -/
theorem inS_n (x : Int32) {m : Nat} (h0 : 0 < m) (hm : m < 1000) : ∃ k : Nat, k < m ∧ inS_ x (nI m) = nI k := by
  have h1 : ∃ v : Nat, v < 2 ^ 31 ∧ (x &&& 2147483647) = nI v := by
    refine ⟨x.toBitVec.toNat % 2 ^ 31, Nat.mod_lt _ (by omega), ?_⟩
    refine Int32.toBitVec_inj.mp ?_
    refine BitVec.eq_of_toNat_eq ?_
    show (x.toBitVec &&& BitVec.ofNat 32 2147483647).toNat = (BitVec.ofNat 32 (x.toBitVec.toNat % 2 ^ 31)).toNat
    rw [BitVec.toNat_and, BitVec.toNat_ofNat, BitVec.toNat_ofNat, show (2147483647 : Nat) % 2 ^ 32 = 2 ^ 31 - 1 by decide, Nat.and_two_pow_sub_one_eq_mod, Nat.mod_eq_of_lt (show x.toBitVec.toNat % 2 ^ 31 < 2 ^ 32 by omega)]
  obtain ⟨v, hv, e⟩ := h1
  refine ⟨v % m, Nat.mod_lt _ h0, ?_⟩
  unfold inS_
  rw [e]
  exact nI_mod hv (by omega)
