-- the reference's constructor: its words
set_option maxRecDepth 100000 in
theorem oiX8 : Cond.methodLink RX8 1 Lib.objectInit ∈ GT ∧ Cond.instanceMethod Lib.objectInit ∈ GT ∧ Cond.code Lib.objectInit ⟨#[0xb1]⟩ 1 none ∈ GT := ⟨GT_5 185 rfl rfl, GT_1 27 rfl rfl, GT_1 28 rfl rfl⟩
set_option maxRecDepth 100000 in
theorem ckX8 : CKi yX8_init cX8_init 1 0 := ⟨GT_5 184 rfl rfl, GT_1 13 rfl rfl, ⟨by decide, by decide, by decide +kernel⟩, rfl, GT_5 183 rfl rfl⟩
def fs8 (b : Nat) : List Value := [.ref (b + 1), .int 0, .int 0, .ref (b + 2), .int 0, .int (-1), .int 0, .int 0, .int 0, .int 0, .int 0, .int 0, .int 0, .int 0, .int 0, .int 0, .int 0, .int 0, .int 0, .int 0, .int 0, .int 0, .ref (b + 3), .ref (b + 4), .ref (b + 5), .ref (b + 6), .ref (b + 7), .ref (b + 8), .ref (b + 9), .ref (b + 10), .ref (b + 11), .ref (b + 12), .ref (b + 13), .ref (b + 14), .ref (b + 15), .ref (b + 16), .ref (b + 17), .ref (b + 18), .ref (b + 19), .ref (b + 20), .ref (b + 21), .int 0, .int 0, .int 0, .int 0, .int 0, .int 0, .ref (b + 22), .ref (b + 23), .int 0, .ref (b + 24), .ref (b + 25), .ref (b + 26), .ref (b + 27), .ref (b + 28), .ref (b + 29), .ref (b + 30), .ref (b + 31), .ref (b + 32), .ref (b + 33), .ref (b + 34), .int 0, .long 0, .int 0, .int 0, .int 0, .int (-1), .ref (b + 35), .int 0, .ref (b + 36), .ref (b + 37), .int 0, .int 0, .int (-1), .ref (b + 38), .ref (b + 39), .int 0, .ref (b + 40), .int 0, .ref (b + 41), .ref (b + 42), .ref (b + 43), .ref (b + 44), .ref (b + 45), .int 0, .int 0, .int 0, .long 0]
def tl8 (G : Gx) (fW : Nat → Int32) : List va_E := [.inl (G.2.2.1, 700, .inl fun _ => 0), .inl (G.2.2.1, 131, .inl fW), .inl (G.2.2.2.1, 4, .inl fun _ => 0), .inl (G.2.2.1, 10, .inl fun _ => 0), .inl (G.2.2.1, 16, .inl fun _ => 0), .inl (G.2.2.1, 8, .inl fun _ => 0), .inl (G.2.2.1, 8, .inl fun _ => 0), .inl (G.2.2.1, 8, .inl fun _ => 0), .inl (G.2.2.1, 8, .inl fun _ => 0), .inl (G.2.2.1, 12, .inl fun _ => 0), .inl (G.2.2.1, 12, .inl fun _ => 0), .inl (G.2.2.1, 12, .inl fun _ => 0), .inl (G.2.2.1, 8, .inl fun _ => 0), .inl (G.2.2.2.1, 8, .inl fun _ => 0), .inl (G.2.2.1, 8, .inl fun _ => 0), .inl (G.2.2.1, 8, .inl fun _ => 0), .inl (G.2.2.1, 128, .inl fun _ => 0), .inl (G.2.2.1, 128, .inl fun _ => 0), .inl (G.2.2.1, 128, .inl fun _ => 0), .inl (G.2.2.1, 96, .inl fun _ => 0), .inl (G.2.2.1, 96, .inl fun _ => 0), .inl (G.2.2.2.2.1, 7, .inr (.inl fun _ => 0)), .inl (G.2.2.2.2.1, 64, .inr (.inl fun _ => 0)), .inl (G.2.2.1, 16, .inl fun _ => 0), .inl (G.2.2.1, 16, .inl fun _ => 0), .inl (G.2.2.1, 8, .inl fun _ => 0), .inl (G.2.2.1, 8, .inl fun _ => 0), .inl (G.2.2.1, 8, .inl fun _ => 0), .inl (G.2.2.1, 8, .inl fun _ => 0), .inl (G.2.2.1, 8, .inl fun _ => 0), .inl (G.2.2.1, 12, .inl fun _ => 0), .inl (G.2.2.1, 2, .inl fun _ => 0), .inl (G.2.2.1, 2, .inl fun _ => 0), .inl (G.2.2.1, 2, .inl fun _ => 0), .inl (G.2.2.1, 6, .inl fun _ => 0), .inl (G.2.2.1, 16, .inl fun _ => 0), .inl (G.2.2.1, 16, .inl fun _ => 0), .inl (G.2.2.1, 72, .inl fun _ => 0), .inl (G.2.2.2.1, 24, .inl fun _ => 0), .inl (G.2.2.1, 340, .inl fun _ => 0), .inl (G.2.2.1, 17, .inl fun _ => 0), .inl (G.2.2.1, 8, .inl fun _ => 0), .inl (G.2.2.1, 4, .inl fun _ => 0), .inl (G.2.2.1, 4, .inl fun _ => 0), .inl (G.2.2.1, 6, .inl fun _ => 0)]
section KW
variable {X : Cx} {Q : State → Prop} {a b n : Nat} {tl : List va_E} {e0 : va_E} {cN sN : Nat} {cc : ByteArray} {own : String} {rm : Room} {pc : Nat} {lv : List (Nat × Value)} {st : List Value}
theorem t_newZ (F : Fk X cc own rm) (hw : Cond.arrayClass .boolean ∈ GT) {i : Int32} {N : Nat} (hi : ¬ i < 0) (hN : i.toNatClampNeg = N) (hbytes : N * componentBytes .boolean ≤ 536870912) (hcap : cN + 1 ≤ rm.cells ∧ sN + N ≤ rm.slots) (hn : tl.length = n) (hb9 : a + (n + 1) = b) (hd : decode cc pc = .ok (.newarray .boolean, 2)) (K : ∀ tl', tl' = tl ++ [.inl ((xG X).2.2.2.1, N, .inl fun _ => 0)] → tl'.length = n + 1 → Wk X Q a (e0 :: tl') (cN + 1) (sN + N) (pc + 2) lv (.ref b :: st)) : Wk X Q a (e0 :: tl) cN sN pc lv (.int i :: st) :=
  k_newZ (b := b) F hw hi hN hbytes hcap (by rw [← hb9, ← hn]; rfl) hd (show Wk X Q a (e0 :: (tl ++ [.inl ((xG X).2.2.2.1, N, .inl fun _ => 0)])) (cN + 1) (sN + N) (pc + 2) lv (.ref b :: st) from K (tl ++ [.inl ((xG X).2.2.2.1, N, .inl fun _ => 0)]) rfl (by rw [List.length_append, hn]; rfl))
theorem t_newL (F : Fk X cc own rm) (hw : Cond.arrayClass .long ∈ GT) {i : Int32} {N : Nat} (hi : ¬ i < 0) (hN : i.toNatClampNeg = N) (hbytes : N * componentBytes .long ≤ 536870912) (hcap : cN + 1 ≤ rm.cells ∧ sN + N ≤ rm.slots) (hn : tl.length = n) (hb9 : a + (n + 1) = b) (hd : decode cc pc = .ok (.newarray .long, 2)) (K : ∀ tl', tl' = tl ++ [.inl ((xG X).2.2.2.2.1, N, .inr (.inl fun _ => 0))] → tl'.length = n + 1 → Wk X Q a (e0 :: tl') (cN + 1) (sN + N) (pc + 2) lv (.ref b :: st)) : Wk X Q a (e0 :: tl) cN sN pc lv (.int i :: st) :=
  k_newL (b := b) F hw hi hN hbytes hcap (by rw [← hb9, ← hn]; rfl) hd (show Wk X Q a (e0 :: (tl ++ [.inl ((xG X).2.2.2.2.1, N, .inr (.inl fun _ => 0))])) (cN + 1) (sN + N) (pc + 2) lv (.ref b :: st) from K (tl ++ [.inl ((xG X).2.2.2.2.1, N, .inr (.inl fun _ => 0))]) rfl (by rw [List.length_append, hn]; rfl))
abbrev wdC (G : Gx) (f : Nat → Int32) : va_E := .inl (G.2.2.1, 131, .inl f)
theorem w_new (F : Fk X cc own rm) (hcap : cN + 1 ≤ rm.cells ∧ sN + 131 ≤ rm.slots) (hn : tl.length = n) (hb9 : a + (n + 1) = b) (hd : decode cc pc = .ok (.newarray .int, 2)) (K : ∀ f : Nat → Int32, (∀ j, j < 0 → f j = nI (wrdA.getD j 0)) → Wk X Q a (e0 :: (tl ++ [wdC (xG X) f])) (cN + 1) (sN + 131) (pc + 2) lv (.ref b :: st)) : Wk X Q a (e0 :: tl) cN sN pc lv (.int 131 :: st) :=
  k_newI (b := b) F acw_int (N := 131) (by decide) (by decide) (by decide) hcap (by rw [← hb9, ← hn]; rfl) hd (show Wk X Q a (e0 :: (tl ++ [wdC (xG X) fun _ => 0])) (cN + 1) (sN + 131) (pc + 2) lv (.ref b :: st) from K (fun _ => 0) (fun j hj => absurd hj (Nat.not_lt_zero j)))
theorem w_put (F : Fk X cc own rm) {f : Nat → Int32} {i v : Nat} (hn : tl.length = n) (hb9 : a + (n + 1) = b) (hf : ∀ j, j < i → f j = nI (wrdA.getD j 0)) (hi : i < 131) (hv : wrdA.getD i 0 = v) (hd : decode cc pc = .ok (.iastore, 1)) (K : ∀ f' : Nat → Int32, (∀ j, j < i + 1 → f' j = nI (wrdA.getD j 0)) → Wk X Q a (e0 :: (tl ++ [wdC (xG X) f'])) cN sN (pc + 1) lv st) : Wk X Q a (e0 :: (tl ++ [wdC (xG X) f])) cN sN pc lv (.int (nI v) :: .int (nI i) :: .ref b :: st) := by
  have hj : (e0 :: (tl ++ [wdC (xG X) f]) : List va_E)[n + 1]? = some (wdC (xG X) f) := by
    rw [List.getElem?_cons_succ, List.getElem?_append_right (by omega), hn, Nat.sub_self]; rfl
  refine k_iast F (j := n + 1) (n := 131) (f := f) hj hb9 (inb_n hi (by decide)) hd ?_
  have e : (e0 :: (tl ++ [wdC (xG X) f]) : List va_E).set (n + 1) (.inl ((xG X).2.2.1, 131, .inl (upd f (nI i).toNatClampNeg (nI v)))) = e0 :: (tl ++ [wdC (xG X) (upd f i (nI v))]) := by
    rw [List.set_cons_succ, List.set_append_right _ _ (by omega), hn, Nat.sub_self, clN (show i < 2 ^ 31 by omega)]
    rfl
  rw [e]
  refine K _ fun j hj => ?_
  unfold upd
  by_cases z : j = i
  · rw [if_pos z, z, hv]
  · rw [if_neg z]; exact hf j (by omega)
theorem t_put (F : Fk X cc own rm) (hin : X.1.2.2.2.2.2.2.2.2.1.name = "<init>") {i c s m : Nat} {kd : Nat × Nat × Nat} (f : FR own i c s kd) (hdecl : (TXf c s).1 = own) {fs : List Value} {v : Value} (hn : narrow (tyf c s) v = v) (hfit : fits (tyf c s) v = true) (hl : fs.length = m) (hs : s < m) (hd : decode cc pc = .ok (.putfield i, 3)) (K : ∀ fs', fs' = fs.set s v → fs'.length = m → Wk X Q a (.inr (c, fs') :: tl) cN sN (pc + 3) lv st) : Wk X Q a (.inr (c, fs) :: tl) cN sN pc lv (v :: .ref a :: st) :=
  k_put F hin f hdecl hn hfit (by rw [hl]; exact hs) hd (K (fs.set s v) rfl (by rw [List.length_set, hl]))
end KW
abbrev rmX8_init : Room := { frames := 13, cells := 45, slots := 2211, locals := 330 }
set_option maxRecDepth 100000 in
set_option maxHeartbeats 8000000 in
theorem x8_words {X : Cx} {Q : State → Prop} {b cN sN : Nat} {e0 : va_E} {tl : List va_E} {st : List Value} (F : Fk X cX8_init RX8 rmX8_init) (hn : tl.length = 1) (hcap : cN + 1 ≤ rmX8_init.cells ∧ sN + 131 ≤ rmX8_init.slots) (K : ∀ f, (∀ j, j < 131 → f j = nI (wrdA.getD j 0)) → Wk X Q b (e0 :: (tl ++ [wdC (xG X) f])) (cN + 1) (sN + 131) 802 [(0, .ref b)] (.ref (b + 2) :: st)) : Wk X Q b (e0 :: tl) cN sN 17 [(0, .ref b)] (.int 131 :: st) := by
  refine w_new F (n := 1) (b := b + 2) hcap hn rfl dX8_init_17 fun f0 g0 => ?_
  refine k_dup F rfl dX8_init_19 ?_
  refine k_iconst F (v := nI 0) dX8_init_20 (by decide) ?_
  refine k_bipush F (v := nI 115) dX8_init_21 (by decide) ?_
  refine w_put F (i := 0) (n := 1) hn rfl g0 (by decide) (by decide) dX8_init_23 fun f1 g1 => ?_
  refine k_dup F rfl dX8_init_24 ?_
  refine k_iconst F (v := nI 1) dX8_init_25 (by decide) ?_
  refine k_bipush F (v := nI 116) dX8_init_26 (by decide) ?_
  refine w_put F (i := 1) (n := 1) hn rfl g1 (by decide) (by decide) dX8_init_28 fun f2 g2 => ?_
  refine k_dup F rfl dX8_init_29 ?_
  refine k_iconst F (v := nI 2) dX8_init_30 (by decide) ?_
  refine k_bipush F (v := nI 114) dX8_init_31 (by decide) ?_
  refine w_put F (i := 2) (n := 1) hn rfl g2 (by decide) (by decide) dX8_init_33 fun f3 g3 => ?_
  refine k_dup F rfl dX8_init_34 ?_
  refine k_iconst F (v := nI 3) dX8_init_35 (by decide) ?_
  refine k_bipush F (v := nI 105) dX8_init_36 (by decide) ?_
  refine w_put F (i := 3) (n := 1) hn rfl g3 (by decide) (by decide) dX8_init_38 fun f4 g4 => ?_
  refine k_dup F rfl dX8_init_39 ?_
  refine k_iconst F (v := nI 4) dX8_init_40 (by decide) ?_
  refine k_bipush F (v := nI 112) dX8_init_41 (by decide) ?_
  refine w_put F (i := 4) (n := 1) hn rfl g4 (by decide) (by decide) dX8_init_43 fun f5 g5 => ?_
  refine k_dup F rfl dX8_init_44 ?_
  refine k_iconst F (v := nI 5) dX8_init_45 (by decide) ?_
  refine k_bipush F (v := nI 101) dX8_init_46 (by decide) ?_
  refine w_put F (i := 5) (n := 1) hn rfl g5 (by decide) (by decide) dX8_init_48 fun f6 g6 => ?_
  refine k_dup F rfl dX8_init_49 ?_
  refine k_bipush F (v := nI 6) dX8_init_50 (by decide) ?_
  refine k_bipush F (v := nI 32) dX8_init_52 (by decide) ?_
  refine w_put F (i := 6) (n := 1) hn rfl g6 (by decide) (by decide) dX8_init_54 fun f7 g7 => ?_
  refine k_dup F rfl dX8_init_55 ?_
  refine k_bipush F (v := nI 7) dX8_init_56 (by decide) ?_
  refine k_bipush F (v := nI 99) dX8_init_58 (by decide) ?_
  refine w_put F (i := 7) (n := 1) hn rfl g7 (by decide) (by decide) dX8_init_60 fun f8 g8 => ?_
  refine k_dup F rfl dX8_init_61 ?_
  refine k_bipush F (v := nI 8) dX8_init_62 (by decide) ?_
  refine k_bipush F (v := nI 114) dX8_init_64 (by decide) ?_
  refine w_put F (i := 8) (n := 1) hn rfl g8 (by decide) (by decide) dX8_init_66 fun f9 g9 => ?_
  refine k_dup F rfl dX8_init_67 ?_
  refine k_bipush F (v := nI 9) dX8_init_68 (by decide) ?_
  refine k_bipush F (v := nI 111) dX8_init_70 (by decide) ?_
  refine w_put F (i := 9) (n := 1) hn rfl g9 (by decide) (by decide) dX8_init_72 fun f10 g10 => ?_
  refine k_dup F rfl dX8_init_73 ?_
  refine k_bipush F (v := nI 10) dX8_init_74 (by decide) ?_
  refine k_bipush F (v := nI 102) dX8_init_76 (by decide) ?_
  refine w_put F (i := 10) (n := 1) hn rfl g10 (by decide) (by decide) dX8_init_78 fun f11 g11 => ?_
  refine k_dup F rfl dX8_init_79 ?_
  refine k_bipush F (v := nI 11) dX8_init_80 (by decide) ?_
  refine k_bipush F (v := nI 116) dX8_init_82 (by decide) ?_
  refine w_put F (i := 11) (n := 1) hn rfl g11 (by decide) (by decide) dX8_init_84 fun f12 g12 => ?_
  refine k_dup F rfl dX8_init_85 ?_
  refine k_bipush F (v := nI 12) dX8_init_86 (by decide) ?_
  refine k_bipush F (v := nI 32) dX8_init_88 (by decide) ?_
  refine w_put F (i := 12) (n := 1) hn rfl g12 (by decide) (by decide) dX8_init_90 fun f13 g13 => ?_
  refine k_dup F rfl dX8_init_91 ?_
  refine k_bipush F (v := nI 13) dX8_init_92 (by decide) ?_
  refine k_bipush F (v := nI 102) dX8_init_94 (by decide) ?_
  refine w_put F (i := 13) (n := 1) hn rfl g13 (by decide) (by decide) dX8_init_96 fun f14 g14 => ?_
  refine k_dup F rfl dX8_init_97 ?_
  refine k_bipush F (v := nI 14) dX8_init_98 (by decide) ?_
  refine k_bipush F (v := nI 105) dX8_init_100 (by decide) ?_
  refine w_put F (i := 14) (n := 1) hn rfl g14 (by decide) (by decide) dX8_init_102 fun f15 g15 => ?_
  refine k_dup F rfl dX8_init_103 ?_
  refine k_bipush F (v := nI 15) dX8_init_104 (by decide) ?_
  refine k_bipush F (v := nI 101) dX8_init_106 (by decide) ?_
  refine w_put F (i := 15) (n := 1) hn rfl g15 (by decide) (by decide) dX8_init_108 fun f16 g16 => ?_
  refine k_dup F rfl dX8_init_109 ?_
  refine k_bipush F (v := nI 16) dX8_init_110 (by decide) ?_
  refine k_bipush F (v := nI 108) dX8_init_112 (by decide) ?_
  refine w_put F (i := 16) (n := 1) hn rfl g16 (by decide) (by decide) dX8_init_114 fun f17 g17 => ?_
  refine k_dup F rfl dX8_init_115 ?_
  refine k_bipush F (v := nI 17) dX8_init_116 (by decide) ?_
  refine k_bipush F (v := nI 100) dX8_init_118 (by decide) ?_
  refine w_put F (i := 17) (n := 1) hn rfl g17 (by decide) (by decide) dX8_init_120 fun f18 g18 => ?_
  refine k_dup F rfl dX8_init_121 ?_
  refine k_bipush F (v := nI 18) dX8_init_122 (by decide) ?_
  refine k_bipush F (v := nI 32) dX8_init_124 (by decide) ?_
  refine w_put F (i := 18) (n := 1) hn rfl g18 (by decide) (by decide) dX8_init_126 fun f19 g19 => ?_
  refine k_dup F rfl dX8_init_127 ?_
  refine k_bipush F (v := nI 19) dX8_init_128 (by decide) ?_
  refine k_bipush F (v := nI 116) dX8_init_130 (by decide) ?_
  refine w_put F (i := 19) (n := 1) hn rfl g19 (by decide) (by decide) dX8_init_132 fun f20 g20 => ?_
  refine k_dup F rfl dX8_init_133 ?_
  refine k_bipush F (v := nI 20) dX8_init_134 (by decide) ?_
  refine k_bipush F (v := nI 105) dX8_init_136 (by decide) ?_
  refine w_put F (i := 20) (n := 1) hn rfl g20 (by decide) (by decide) dX8_init_138 fun f21 g21 => ?_
  refine k_dup F rfl dX8_init_139 ?_
  refine k_bipush F (v := nI 21) dX8_init_140 (by decide) ?_
  refine k_bipush F (v := nI 100) dX8_init_142 (by decide) ?_
  refine w_put F (i := 21) (n := 1) hn rfl g21 (by decide) (by decide) dX8_init_144 fun f22 g22 => ?_
  refine k_dup F rfl dX8_init_145 ?_
  refine k_bipush F (v := nI 22) dX8_init_146 (by decide) ?_
  refine k_bipush F (v := nI 101) dX8_init_148 (by decide) ?_
  refine w_put F (i := 22) (n := 1) hn rfl g22 (by decide) (by decide) dX8_init_150 fun f23 g23 => ?_
  refine k_dup F rfl dX8_init_151 ?_
  refine k_bipush F (v := nI 23) dX8_init_152 (by decide) ?_
  refine k_bipush F (v := nI 32) dX8_init_154 (by decide) ?_
  refine w_put F (i := 23) (n := 1) hn rfl g23 (by decide) (by decide) dX8_init_156 fun f24 g24 => ?_
  refine k_dup F rfl dX8_init_157 ?_
  refine k_bipush F (v := nI 24) dX8_init_158 (by decide) ?_
  refine k_bipush F (v := nI 104) dX8_init_160 (by decide) ?_
  refine w_put F (i := 24) (n := 1) hn rfl g24 (by decide) (by decide) dX8_init_162 fun f25 g25 => ?_
  refine k_dup F rfl dX8_init_163 ?_
  refine k_bipush F (v := nI 25) dX8_init_164 (by decide) ?_
  refine k_bipush F (v := nI 101) dX8_init_166 (by decide) ?_
  refine w_put F (i := 25) (n := 1) hn rfl g25 (by decide) (by decide) dX8_init_168 fun f26 g26 => ?_
  refine k_dup F rfl dX8_init_169 ?_
  refine k_bipush F (v := nI 26) dX8_init_170 (by decide) ?_
  refine k_bipush F (v := nI 97) dX8_init_172 (by decide) ?_
  refine w_put F (i := 26) (n := 1) hn rfl g26 (by decide) (by decide) dX8_init_174 fun f27 g27 => ?_
  refine k_dup F rfl dX8_init_175 ?_
  refine k_bipush F (v := nI 27) dX8_init_176 (by decide) ?_
  refine k_bipush F (v := nI 112) dX8_init_178 (by decide) ?_
  refine w_put F (i := 27) (n := 1) hn rfl g27 (by decide) (by decide) dX8_init_180 fun f28 g28 => ?_
  refine k_dup F rfl dX8_init_181 ?_
  refine k_bipush F (v := nI 28) dX8_init_182 (by decide) ?_
  refine k_bipush F (v := nI 32) dX8_init_184 (by decide) ?_
  refine w_put F (i := 28) (n := 1) hn rfl g28 (by decide) (by decide) dX8_init_186 fun f29 g29 => ?_
  refine k_dup F rfl dX8_init_187 ?_
  refine k_bipush F (v := nI 29) dX8_init_188 (by decide) ?_
  refine k_bipush F (v := nI 114) dX8_init_190 (by decide) ?_
  refine w_put F (i := 29) (n := 1) hn rfl g29 (by decide) (by decide) dX8_init_192 fun f30 g30 => ?_
  refine k_dup F rfl dX8_init_193 ?_
  refine k_bipush F (v := nI 30) dX8_init_194 (by decide) ?_
  refine k_bipush F (v := nI 117) dX8_init_196 (by decide) ?_
  refine w_put F (i := 30) (n := 1) hn rfl g30 (by decide) (by decide) dX8_init_198 fun f31 g31 => ?_
  refine k_dup F rfl dX8_init_199 ?_
  refine k_bipush F (v := nI 31) dX8_init_200 (by decide) ?_
  refine k_bipush F (v := nI 108) dX8_init_202 (by decide) ?_
  refine w_put F (i := 31) (n := 1) hn rfl g31 (by decide) (by decide) dX8_init_204 fun f32 g32 => ?_
  refine k_dup F rfl dX8_init_205 ?_
  refine k_bipush F (v := nI 32) dX8_init_206 (by decide) ?_
  refine k_bipush F (v := nI 101) dX8_init_208 (by decide) ?_
  refine w_put F (i := 32) (n := 1) hn rfl g32 (by decide) (by decide) dX8_init_210 fun f33 g33 => ?_
  refine k_dup F rfl dX8_init_211 ?_
  refine k_bipush F (v := nI 33) dX8_init_212 (by decide) ?_
  refine k_bipush F (v := nI 32) dX8_init_214 (by decide) ?_
  refine w_put F (i := 33) (n := 1) hn rfl g33 (by decide) (by decide) dX8_init_216 fun f34 g34 => ?_
  refine k_dup F rfl dX8_init_217 ?_
  refine k_bipush F (v := nI 34) dX8_init_218 (by decide) ?_
  refine k_bipush F (v := nI 103) dX8_init_220 (by decide) ?_
  refine w_put F (i := 34) (n := 1) hn rfl g34 (by decide) (by decide) dX8_init_222 fun f35 g35 => ?_
  refine k_dup F rfl dX8_init_223 ?_
  refine k_bipush F (v := nI 35) dX8_init_224 (by decide) ?_
  refine k_bipush F (v := nI 97) dX8_init_226 (by decide) ?_
  refine w_put F (i := 35) (n := 1) hn rfl g35 (by decide) (by decide) dX8_init_228 fun f36 g36 => ?_
  refine k_dup F rfl dX8_init_229 ?_
  refine k_bipush F (v := nI 36) dX8_init_230 (by decide) ?_
  refine k_bipush F (v := nI 108) dX8_init_232 (by decide) ?_
  refine w_put F (i := 36) (n := 1) hn rfl g36 (by decide) (by decide) dX8_init_234 fun f37 g37 => ?_
  refine k_dup F rfl dX8_init_235 ?_
  refine k_bipush F (v := nI 37) dX8_init_236 (by decide) ?_
  refine k_bipush F (v := nI 101) dX8_init_238 (by decide) ?_
  refine w_put F (i := 37) (n := 1) hn rfl g37 (by decide) (by decide) dX8_init_240 fun f38 g38 => ?_
  refine k_dup F rfl dX8_init_241 ?_
  refine k_bipush F (v := nI 38) dX8_init_242 (by decide) ?_
  refine k_bipush F (v := nI 32) dX8_init_244 (by decide) ?_
  refine w_put F (i := 38) (n := 1) hn rfl g38 (by decide) (by decide) dX8_init_246 fun f39 g39 => ?_
  refine k_dup F rfl dX8_init_247 ?_
  refine k_bipush F (v := nI 39) dX8_init_248 (by decide) ?_
  refine k_bipush F (v := nI 115) dX8_init_250 (by decide) ?_
  refine w_put F (i := 39) (n := 1) hn rfl g39 (by decide) (by decide) dX8_init_252 fun f40 g40 => ?_
  refine k_dup F rfl dX8_init_253 ?_
  refine k_bipush F (v := nI 40) dX8_init_254 (by decide) ?_
  refine k_bipush F (v := nI 101) dX8_init_256 (by decide) ?_
  refine w_put F (i := 40) (n := 1) hn rfl g40 (by decide) (by decide) dX8_init_258 fun f41 g41 => ?_
  refine k_dup F rfl dX8_init_259 ?_
  refine k_bipush F (v := nI 41) dX8_init_260 (by decide) ?_
  refine k_bipush F (v := nI 101) dX8_init_262 (by decide) ?_
  refine w_put F (i := 41) (n := 1) hn rfl g41 (by decide) (by decide) dX8_init_264 fun f42 g42 => ?_
  refine k_dup F rfl dX8_init_265 ?_
  refine k_bipush F (v := nI 42) dX8_init_266 (by decide) ?_
  refine k_bipush F (v := nI 100) dX8_init_268 (by decide) ?_
  refine w_put F (i := 42) (n := 1) hn rfl g42 (by decide) (by decide) dX8_init_270 fun f43 g43 => ?_
  refine k_dup F rfl dX8_init_271 ?_
  refine k_bipush F (v := nI 43) dX8_init_272 (by decide) ?_
  refine k_bipush F (v := nI 32) dX8_init_274 (by decide) ?_
  refine w_put F (i := 43) (n := 1) hn rfl g43 (by decide) (by decide) dX8_init_276 fun f44 g44 => ?_
  refine k_dup F rfl dX8_init_277 ?_
  refine k_bipush F (v := nI 44) dX8_init_278 (by decide) ?_
  refine k_bipush F (v := nI 108) dX8_init_280 (by decide) ?_
  refine w_put F (i := 44) (n := 1) hn rfl g44 (by decide) (by decide) dX8_init_282 fun f45 g45 => ?_
  refine k_dup F rfl dX8_init_283 ?_
  refine k_bipush F (v := nI 45) dX8_init_284 (by decide) ?_
  refine k_bipush F (v := nI 97) dX8_init_286 (by decide) ?_
  refine w_put F (i := 45) (n := 1) hn rfl g45 (by decide) (by decide) dX8_init_288 fun f46 g46 => ?_
  refine k_dup F rfl dX8_init_289 ?_
  refine k_bipush F (v := nI 46) dX8_init_290 (by decide) ?_
  refine k_bipush F (v := nI 119) dX8_init_292 (by decide) ?_
  refine w_put F (i := 46) (n := 1) hn rfl g46 (by decide) (by decide) dX8_init_294 fun f47 g47 => ?_
  refine k_dup F rfl dX8_init_295 ?_
  refine k_bipush F (v := nI 47) dX8_init_296 (by decide) ?_
  refine k_bipush F (v := nI 32) dX8_init_298 (by decide) ?_
  refine w_put F (i := 47) (n := 1) hn rfl g47 (by decide) (by decide) dX8_init_300 fun f48 g48 => ?_
  refine k_dup F rfl dX8_init_301 ?_
  refine k_bipush F (v := nI 48) dX8_init_302 (by decide) ?_
  refine k_bipush F (v := nI 102) dX8_init_304 (by decide) ?_
  refine w_put F (i := 48) (n := 1) hn rfl g48 (by decide) (by decide) dX8_init_306 fun f49 g49 => ?_
  refine k_dup F rfl dX8_init_307 ?_
  refine k_bipush F (v := nI 49) dX8_init_308 (by decide) ?_
  refine k_bipush F (v := nI 114) dX8_init_310 (by decide) ?_
  refine w_put F (i := 49) (n := 1) hn rfl g49 (by decide) (by decide) dX8_init_312 fun f50 g50 => ?_
  refine k_dup F rfl dX8_init_313 ?_
  refine k_bipush F (v := nI 50) dX8_init_314 (by decide) ?_
  refine k_bipush F (v := nI 101) dX8_init_316 (by decide) ?_
  refine w_put F (i := 50) (n := 1) hn rfl g50 (by decide) (by decide) dX8_init_318 fun f51 g51 => ?_
  refine k_dup F rfl dX8_init_319 ?_
  refine k_bipush F (v := nI 51) dX8_init_320 (by decide) ?_
  refine k_bipush F (v := nI 101) dX8_init_322 (by decide) ?_
  refine w_put F (i := 51) (n := 1) hn rfl g51 (by decide) (by decide) dX8_init_324 fun f52 g52 => ?_
  refine k_dup F rfl dX8_init_325 ?_
  refine k_bipush F (v := nI 52) dX8_init_326 (by decide) ?_
  refine k_bipush F (v := nI 32) dX8_init_328 (by decide) ?_
  refine w_put F (i := 52) (n := 1) hn rfl g52 (by decide) (by decide) dX8_init_330 fun f53 g53 => ?_
  refine k_dup F rfl dX8_init_331 ?_
  refine k_bipush F (v := nI 53) dX8_init_332 (by decide) ?_
  refine k_bipush F (v := nI 108) dX8_init_334 (by decide) ?_
  refine w_put F (i := 53) (n := 1) hn rfl g53 (by decide) (by decide) dX8_init_336 fun f54 g54 => ?_
  refine k_dup F rfl dX8_init_337 ?_
  refine k_bipush F (v := nI 54) dX8_init_338 (by decide) ?_
  refine k_bipush F (v := nI 111) dX8_init_340 (by decide) ?_
  refine w_put F (i := 54) (n := 1) hn rfl g54 (by decide) (by decide) dX8_init_342 fun f55 g55 => ?_
  refine k_dup F rfl dX8_init_343 ?_
  refine k_bipush F (v := nI 55) dX8_init_344 (by decide) ?_
  refine k_bipush F (v := nI 116) dX8_init_346 (by decide) ?_
  refine w_put F (i := 55) (n := 1) hn rfl g55 (by decide) (by decide) dX8_init_348 fun f56 g56 => ?_
  refine k_dup F rfl dX8_init_349 ?_
  refine k_bipush F (v := nI 56) dX8_init_350 (by decide) ?_
  refine k_bipush F (v := nI 115) dX8_init_352 (by decide) ?_
  refine w_put F (i := 56) (n := 1) hn rfl g56 (by decide) (by decide) dX8_init_354 fun f57 g57 => ?_
  refine k_dup F rfl dX8_init_355 ?_
  refine k_bipush F (v := nI 57) dX8_init_356 (by decide) ?_
  refine k_bipush F (v := nI 32) dX8_init_358 (by decide) ?_
  refine w_put F (i := 57) (n := 1) hn rfl g57 (by decide) (by decide) dX8_init_360 fun f58 g58 => ?_
  refine k_dup F rfl dX8_init_361 ?_
  refine k_bipush F (v := nI 58) dX8_init_362 (by decide) ?_
  refine k_bipush F (v := nI 115) dX8_init_364 (by decide) ?_
  refine w_put F (i := 58) (n := 1) hn rfl g58 (by decide) (by decide) dX8_init_366 fun f59 g59 => ?_
  refine k_dup F rfl dX8_init_367 ?_
  refine k_bipush F (v := nI 59) dX8_init_368 (by decide) ?_
  refine k_bipush F (v := nI 97) dX8_init_370 (by decide) ?_
  refine w_put F (i := 59) (n := 1) hn rfl g59 (by decide) (by decide) dX8_init_372 fun f60 g60 => ?_
  refine k_dup F rfl dX8_init_373 ?_
  refine k_bipush F (v := nI 60) dX8_init_374 (by decide) ?_
  refine k_bipush F (v := nI 118) dX8_init_376 (by decide) ?_
  refine w_put F (i := 60) (n := 1) hn rfl g60 (by decide) (by decide) dX8_init_378 fun f61 g61 => ?_
  refine k_dup F rfl dX8_init_379 ?_
  refine k_bipush F (v := nI 61) dX8_init_380 (by decide) ?_
  refine k_bipush F (v := nI 101) dX8_init_382 (by decide) ?_
  refine w_put F (i := 61) (n := 1) hn rfl g61 (by decide) (by decide) dX8_init_384 fun f62 g62 => ?_
  refine k_dup F rfl dX8_init_385 ?_
  refine k_bipush F (v := nI 62) dX8_init_386 (by decide) ?_
  refine k_bipush F (v := nI 100) dX8_init_388 (by decide) ?_
  refine w_put F (i := 62) (n := 1) hn rfl g62 (by decide) (by decide) dX8_init_390 fun f63 g63 => ?_
  refine k_dup F rfl dX8_init_391 ?_
  refine k_bipush F (v := nI 63) dX8_init_392 (by decide) ?_
  refine k_bipush F (v := nI 32) dX8_init_394 (by decide) ?_
  refine w_put F (i := 63) (n := 1) hn rfl g63 (by decide) (by decide) dX8_init_396 fun f64 g64 => ?_
  refine k_dup F rfl dX8_init_397 ?_
  refine k_bipush F (v := nI 64) dX8_init_398 (by decide) ?_
  refine k_bipush F (v := nI 108) dX8_init_400 (by decide) ?_
  refine w_put F (i := 64) (n := 1) hn rfl g64 (by decide) (by decide) dX8_init_402 fun f65 g65 => ?_
  refine k_dup F rfl dX8_init_403 ?_
  refine k_bipush F (v := nI 65) dX8_init_404 (by decide) ?_
  refine k_bipush F (v := nI 111) dX8_init_406 (by decide) ?_
  refine w_put F (i := 65) (n := 1) hn rfl g65 (by decide) (by decide) dX8_init_408 fun f66 g66 => ?_
  refine k_dup F rfl dX8_init_409 ?_
  refine k_bipush F (v := nI 66) dX8_init_410 (by decide) ?_
  refine k_bipush F (v := nI 97) dX8_init_412 (by decide) ?_
  refine w_put F (i := 66) (n := 1) hn rfl g66 (by decide) (by decide) dX8_init_414 fun f67 g67 => ?_
  refine k_dup F rfl dX8_init_415 ?_
  refine k_bipush F (v := nI 67) dX8_init_416 (by decide) ?_
  refine k_bipush F (v := nI 100) dX8_init_418 (by decide) ?_
  refine w_put F (i := 67) (n := 1) hn rfl g67 (by decide) (by decide) dX8_init_420 fun f68 g68 => ?_
  refine k_dup F rfl dX8_init_421 ?_
  refine k_bipush F (v := nI 68) dX8_init_422 (by decide) ?_
  refine k_bipush F (v := nI 32) dX8_init_424 (by decide) ?_
  refine w_put F (i := 68) (n := 1) hn rfl g68 (by decide) (by decide) dX8_init_426 fun f69 g69 => ?_
  refine k_dup F rfl dX8_init_427 ?_
  refine k_bipush F (v := nI 69) dX8_init_428 (by decide) ?_
  refine k_bipush F (v := nI 102) dX8_init_430 (by decide) ?_
  refine w_put F (i := 69) (n := 1) hn rfl g69 (by decide) (by decide) dX8_init_432 fun f70 g70 => ?_
  refine k_dup F rfl dX8_init_433 ?_
  refine k_bipush F (v := nI 70) dX8_init_434 (by decide) ?_
  refine k_bipush F (v := nI 111) dX8_init_436 (by decide) ?_
  refine w_put F (i := 70) (n := 1) hn rfl g70 (by decide) (by decide) dX8_init_438 fun f71 g71 => ?_
  refine k_dup F rfl dX8_init_439 ?_
  refine k_bipush F (v := nI 71) dX8_init_440 (by decide) ?_
  refine k_bipush F (v := nI 114) dX8_init_442 (by decide) ?_
  refine w_put F (i := 71) (n := 1) hn rfl g71 (by decide) (by decide) dX8_init_444 fun f72 g72 => ?_
  refine k_dup F rfl dX8_init_445 ?_
  refine k_bipush F (v := nI 72) dX8_init_446 (by decide) ?_
  refine k_bipush F (v := nI 107) dX8_init_448 (by decide) ?_
  refine w_put F (i := 72) (n := 1) hn rfl g72 (by decide) (by decide) dX8_init_450 fun f73 g73 => ?_
  refine k_dup F rfl dX8_init_451 ?_
  refine k_bipush F (v := nI 73) dX8_init_452 (by decide) ?_
  refine k_bipush F (v := nI 32) dX8_init_454 (by decide) ?_
  refine w_put F (i := 73) (n := 1) hn rfl g73 (by decide) (by decide) dX8_init_456 fun f74 g74 => ?_
  refine k_dup F rfl dX8_init_457 ?_
  refine k_bipush F (v := nI 74) dX8_init_458 (by decide) ?_
  refine k_bipush F (v := nI 101) dX8_init_460 (by decide) ?_
  refine w_put F (i := 74) (n := 1) hn rfl g74 (by decide) (by decide) dX8_init_462 fun f75 g75 => ?_
  refine k_dup F rfl dX8_init_463 ?_
  refine k_bipush F (v := nI 75) dX8_init_464 (by decide) ?_
  refine k_bipush F (v := nI 98) dX8_init_466 (by decide) ?_
  refine w_put F (i := 75) (n := 1) hn rfl g75 (by decide) (by decide) dX8_init_468 fun f76 g76 => ?_
  refine k_dup F rfl dX8_init_469 ?_
  refine k_bipush F (v := nI 76) dX8_init_470 (by decide) ?_
  refine k_bipush F (v := nI 98) dX8_init_472 (by decide) ?_
  refine w_put F (i := 76) (n := 1) hn rfl g76 (by decide) (by decide) dX8_init_474 fun f77 g77 => ?_
  refine k_dup F rfl dX8_init_475 ?_
  refine k_bipush F (v := nI 77) dX8_init_476 (by decide) ?_
  refine k_bipush F (v := nI 32) dX8_init_478 (by decide) ?_
  refine w_put F (i := 77) (n := 1) hn rfl g77 (by decide) (by decide) dX8_init_480 fun f78 g78 => ?_
  refine k_dup F rfl dX8_init_481 ?_
  refine k_bipush F (v := nI 78) dX8_init_482 (by decide) ?_
  refine k_bipush F (v := nI 119) dX8_init_484 (by decide) ?_
  refine w_put F (i := 78) (n := 1) hn rfl g78 (by decide) (by decide) dX8_init_486 fun f79 g79 => ?_
  refine k_dup F rfl dX8_init_487 ?_
  refine k_bipush F (v := nI 79) dX8_init_488 (by decide) ?_
  refine k_bipush F (v := nI 111) dX8_init_490 (by decide) ?_
  refine w_put F (i := 79) (n := 1) hn rfl g79 (by decide) (by decide) dX8_init_492 fun f80 g80 => ?_
  refine k_dup F rfl dX8_init_493 ?_
  refine k_bipush F (v := nI 80) dX8_init_494 (by decide) ?_
  refine k_bipush F (v := nI 114) dX8_init_496 (by decide) ?_
  refine w_put F (i := 80) (n := 1) hn rfl g80 (by decide) (by decide) dX8_init_498 fun f81 g81 => ?_
  refine k_dup F rfl dX8_init_499 ?_
  refine k_bipush F (v := nI 81) dX8_init_500 (by decide) ?_
  refine k_bipush F (v := nI 116) dX8_init_502 (by decide) ?_
  refine w_put F (i := 81) (n := 1) hn rfl g81 (by decide) (by decide) dX8_init_504 fun f82 g82 => ?_
  refine k_dup F rfl dX8_init_505 ?_
  refine k_bipush F (v := nI 82) dX8_init_506 (by decide) ?_
  refine k_bipush F (v := nI 104) dX8_init_508 (by decide) ?_
  refine w_put F (i := 82) (n := 1) hn rfl g82 (by decide) (by decide) dX8_init_510 fun f83 g83 => ?_
  refine k_dup F rfl dX8_init_511 ?_
  refine k_bipush F (v := nI 83) dX8_init_512 (by decide) ?_
  refine k_bipush F (v := nI 32) dX8_init_514 (by decide) ?_
  refine w_put F (i := 83) (n := 1) hn rfl g83 (by decide) (by decide) dX8_init_516 fun f84 g84 => ?_
  refine k_dup F rfl dX8_init_517 ?_
  refine k_bipush F (v := nI 84) dX8_init_518 (by decide) ?_
  refine k_bipush F (v := nI 97) dX8_init_520 (by decide) ?_
  refine w_put F (i := 84) (n := 1) hn rfl g84 (by decide) (by decide) dX8_init_522 fun f85 g85 => ?_
  refine k_dup F rfl dX8_init_523 ?_
  refine k_bipush F (v := nI 85) dX8_init_524 (by decide) ?_
  refine k_bipush F (v := nI 110) dX8_init_526 (by decide) ?_
  refine w_put F (i := 85) (n := 1) hn rfl g85 (by decide) (by decide) dX8_init_528 fun f86 g86 => ?_
  refine k_dup F rfl dX8_init_529 ?_
  refine k_bipush F (v := nI 86) dX8_init_530 (by decide) ?_
  refine k_bipush F (v := nI 100) dX8_init_532 (by decide) ?_
  refine w_put F (i := 86) (n := 1) hn rfl g86 (by decide) (by decide) dX8_init_534 fun f87 g87 => ?_
  refine k_dup F rfl dX8_init_535 ?_
  refine k_bipush F (v := nI 87) dX8_init_536 (by decide) ?_
  refine k_bipush F (v := nI 32) dX8_init_538 (by decide) ?_
  refine w_put F (i := 87) (n := 1) hn rfl g87 (by decide) (by decide) dX8_init_540 fun f88 g88 => ?_
  refine k_dup F rfl dX8_init_541 ?_
  refine k_bipush F (v := nI 88) dX8_init_542 (by decide) ?_
  refine k_bipush F (v := nI 111) dX8_init_544 (by decide) ?_
  refine w_put F (i := 88) (n := 1) hn rfl g88 (by decide) (by decide) dX8_init_546 fun f89 g89 => ?_
  refine k_dup F rfl dX8_init_547 ?_
  refine k_bipush F (v := nI 89) dX8_init_548 (by decide) ?_
  refine k_bipush F (v := nI 114) dX8_init_550 (by decide) ?_
  refine w_put F (i := 89) (n := 1) hn rfl g89 (by decide) (by decide) dX8_init_552 fun f90 g90 => ?_
  refine k_dup F rfl dX8_init_553 ?_
  refine k_bipush F (v := nI 90) dX8_init_554 (by decide) ?_
  refine k_bipush F (v := nI 32) dX8_init_556 (by decide) ?_
  refine w_put F (i := 90) (n := 1) hn rfl g90 (by decide) (by decide) dX8_init_558 fun f91 g91 => ?_
  refine k_dup F rfl dX8_init_559 ?_
  refine k_bipush F (v := nI 91) dX8_init_560 (by decide) ?_
  refine k_bipush F (v := nI 110) dX8_init_562 (by decide) ?_
  refine w_put F (i := 91) (n := 1) hn rfl g91 (by decide) (by decide) dX8_init_564 fun f92 g92 => ?_
  refine k_dup F rfl dX8_init_565 ?_
  refine k_bipush F (v := nI 92) dX8_init_566 (by decide) ?_
  refine k_bipush F (v := nI 111) dX8_init_568 (by decide) ?_
  refine w_put F (i := 92) (n := 1) hn rfl g92 (by decide) (by decide) dX8_init_570 fun f93 g93 => ?_
  refine k_dup F rfl dX8_init_571 ?_
  refine k_bipush F (v := nI 93) dX8_init_572 (by decide) ?_
  refine k_bipush F (v := nI 116) dX8_init_574 (by decide) ?_
  refine w_put F (i := 93) (n := 1) hn rfl g93 (by decide) (by decide) dX8_init_576 fun f94 g94 => ?_
  refine k_dup F rfl dX8_init_577 ?_
  refine k_bipush F (v := nI 94) dX8_init_578 (by decide) ?_
  refine k_bipush F (v := nI 32) dX8_init_580 (by decide) ?_
  refine w_put F (i := 94) (n := 1) hn rfl g94 (by decide) (by decide) dX8_init_582 fun f95 g95 => ?_
  refine k_dup F rfl dX8_init_583 ?_
  refine k_bipush F (v := nI 95) dX8_init_584 (by decide) ?_
  refine k_bipush F (v := nI 108) dX8_init_586 (by decide) ?_
  refine w_put F (i := 95) (n := 1) hn rfl g95 (by decide) (by decide) dX8_init_588 fun f96 g96 => ?_
  refine k_dup F rfl dX8_init_589 ?_
  refine k_bipush F (v := nI 96) dX8_init_590 (by decide) ?_
  refine k_bipush F (v := nI 105) dX8_init_592 (by decide) ?_
  refine w_put F (i := 96) (n := 1) hn rfl g96 (by decide) (by decide) dX8_init_594 fun f97 g97 => ?_
  refine k_dup F rfl dX8_init_595 ?_
  refine k_bipush F (v := nI 97) dX8_init_596 (by decide) ?_
  refine k_bipush F (v := nI 101) dX8_init_598 (by decide) ?_
  refine w_put F (i := 97) (n := 1) hn rfl g97 (by decide) (by decide) dX8_init_600 fun f98 g98 => ?_
  refine k_dup F rfl dX8_init_601 ?_
  refine k_bipush F (v := nI 98) dX8_init_602 (by decide) ?_
  refine k_bipush F (v := nI 115) dX8_init_604 (by decide) ?_
  refine w_put F (i := 98) (n := 1) hn rfl g98 (by decide) (by decide) dX8_init_606 fun f99 g99 => ?_
  refine k_dup F rfl dX8_init_607 ?_
  refine k_bipush F (v := nI 99) dX8_init_608 (by decide) ?_
  refine k_bipush F (v := nI 32) dX8_init_610 (by decide) ?_
  refine w_put F (i := 99) (n := 1) hn rfl g99 (by decide) (by decide) dX8_init_612 fun f100 g100 => ?_
  refine k_dup F rfl dX8_init_613 ?_
  refine k_bipush F (v := nI 100) dX8_init_614 (by decide) ?_
  refine k_bipush F (v := nI 99) dX8_init_616 (by decide) ?_
  refine w_put F (i := 100) (n := 1) hn rfl g100 (by decide) (by decide) dX8_init_618 fun f101 g101 => ?_
  refine k_dup F rfl dX8_init_619 ?_
  refine k_bipush F (v := nI 101) dX8_init_620 (by decide) ?_
  refine k_bipush F (v := nI 97) dX8_init_622 (by decide) ?_
  refine w_put F (i := 101) (n := 1) hn rfl g101 (by decide) (by decide) dX8_init_624 fun f102 g102 => ?_
  refine k_dup F rfl dX8_init_625 ?_
  refine k_bipush F (v := nI 102) dX8_init_626 (by decide) ?_
  refine k_bipush F (v := nI 114) dX8_init_628 (by decide) ?_
  refine w_put F (i := 102) (n := 1) hn rfl g102 (by decide) (by decide) dX8_init_630 fun f103 g103 => ?_
  refine k_dup F rfl dX8_init_631 ?_
  refine k_bipush F (v := nI 103) dX8_init_632 (by decide) ?_
  refine k_bipush F (v := nI 116) dX8_init_634 (by decide) ?_
  refine w_put F (i := 103) (n := 1) hn rfl g103 (by decide) (by decide) dX8_init_636 fun f104 g104 => ?_
  refine k_dup F rfl dX8_init_637 ?_
  refine k_bipush F (v := nI 104) dX8_init_638 (by decide) ?_
  refine k_bipush F (v := nI 115) dX8_init_640 (by decide) ?_
  refine w_put F (i := 104) (n := 1) hn rfl g104 (by decide) (by decide) dX8_init_642 fun f105 g105 => ?_
  refine k_dup F rfl dX8_init_643 ?_
  refine k_bipush F (v := nI 105) dX8_init_644 (by decide) ?_
  refine k_bipush F (v := nI 32) dX8_init_646 (by decide) ?_
  refine w_put F (i := 105) (n := 1) hn rfl g105 (by decide) (by decide) dX8_init_648 fun f106 g106 => ?_
  refine k_dup F rfl dX8_init_649 ?_
  refine k_bipush F (v := nI 106) dX8_init_650 (by decide) ?_
  refine k_bipush F (v := nI 104) dX8_init_652 (by decide) ?_
  refine w_put F (i := 106) (n := 1) hn rfl g106 (by decide) (by decide) dX8_init_654 fun f107 g107 => ?_
  refine k_dup F rfl dX8_init_655 ?_
  refine k_bipush F (v := nI 107) dX8_init_656 (by decide) ?_
  refine k_bipush F (v := nI 105) dX8_init_658 (by decide) ?_
  refine w_put F (i := 107) (n := 1) hn rfl g107 (by decide) (by decide) dX8_init_660 fun f108 g108 => ?_
  refine k_dup F rfl dX8_init_661 ?_
  refine k_bipush F (v := nI 108) dX8_init_662 (by decide) ?_
  refine k_bipush F (v := nI 108) dX8_init_664 (by decide) ?_
  refine w_put F (i := 108) (n := 1) hn rfl g108 (by decide) (by decide) dX8_init_666 fun f109 g109 => ?_
  refine k_dup F rfl dX8_init_667 ?_
  refine k_bipush F (v := nI 109) dX8_init_668 (by decide) ?_
  refine k_bipush F (v := nI 108) dX8_init_670 (by decide) ?_
  refine w_put F (i := 109) (n := 1) hn rfl g109 (by decide) (by decide) dX8_init_672 fun f110 g110 => ?_
  refine k_dup F rfl dX8_init_673 ?_
  refine k_bipush F (v := nI 110) dX8_init_674 (by decide) ?_
  refine k_bipush F (v := nI 32) dX8_init_676 (by decide) ?_
  refine w_put F (i := 110) (n := 1) hn rfl g110 (by decide) (by decide) dX8_init_678 fun f111 g111 => ?_
  refine k_dup F rfl dX8_init_679 ?_
  refine k_bipush F (v := nI 111) dX8_init_680 (by decide) ?_
  refine k_bipush F (v := nI 104) dX8_init_682 (by decide) ?_
  refine w_put F (i := 111) (n := 1) hn rfl g111 (by decide) (by decide) dX8_init_684 fun f112 g112 => ?_
  refine k_dup F rfl dX8_init_685 ?_
  refine k_bipush F (v := nI 112) dX8_init_686 (by decide) ?_
  refine k_bipush F (v := nI 111) dX8_init_688 (by decide) ?_
  refine w_put F (i := 112) (n := 1) hn rfl g112 (by decide) (by decide) dX8_init_690 fun f113 g113 => ?_
  refine k_dup F rfl dX8_init_691 ?_
  refine k_bipush F (v := nI 113) dX8_init_692 (by decide) ?_
  refine k_bipush F (v := nI 117) dX8_init_694 (by decide) ?_
  refine w_put F (i := 113) (n := 1) hn rfl g113 (by decide) (by decide) dX8_init_696 fun f114 g114 => ?_
  refine k_dup F rfl dX8_init_697 ?_
  refine k_bipush F (v := nI 114) dX8_init_698 (by decide) ?_
  refine k_bipush F (v := nI 114) dX8_init_700 (by decide) ?_
  refine w_put F (i := 114) (n := 1) hn rfl g114 (by decide) (by decide) dX8_init_702 fun f115 g115 => ?_
  refine k_dup F rfl dX8_init_703 ?_
  refine k_bipush F (v := nI 115) dX8_init_704 (by decide) ?_
  refine k_bipush F (v := nI 32) dX8_init_706 (by decide) ?_
  refine w_put F (i := 115) (n := 1) hn rfl g115 (by decide) (by decide) dX8_init_708 fun f116 g116 => ?_
  refine k_dup F rfl dX8_init_709 ?_
  refine k_bipush F (v := nI 116) dX8_init_710 (by decide) ?_
  refine k_bipush F (v := nI 103) dX8_init_712 (by decide) ?_
  refine w_put F (i := 116) (n := 1) hn rfl g116 (by decide) (by decide) dX8_init_714 fun f117 g117 => ?_
  refine k_dup F rfl dX8_init_715 ?_
  refine k_bipush F (v := nI 117) dX8_init_716 (by decide) ?_
  refine k_bipush F (v := nI 111) dX8_init_718 (by decide) ?_
  refine w_put F (i := 117) (n := 1) hn rfl g117 (by decide) (by decide) dX8_init_720 fun f118 g118 => ?_
  refine k_dup F rfl dX8_init_721 ?_
  refine k_bipush F (v := nI 118) dX8_init_722 (by decide) ?_
  refine k_bipush F (v := nI 116) dX8_init_724 (by decide) ?_
  refine w_put F (i := 118) (n := 1) hn rfl g118 (by decide) (by decide) dX8_init_726 fun f119 g119 => ?_
  refine k_dup F rfl dX8_init_727 ?_
  refine k_bipush F (v := nI 119) dX8_init_728 (by decide) ?_
  refine k_bipush F (v := nI 32) dX8_init_730 (by decide) ?_
  refine w_put F (i := 119) (n := 1) hn rfl g119 (by decide) (by decide) dX8_init_732 fun f120 g120 => ?_
  refine k_dup F rfl dX8_init_733 ?_
  refine k_bipush F (v := nI 120) dX8_init_734 (by decide) ?_
  refine k_bipush F (v := nI 119) dX8_init_736 (by decide) ?_
  refine w_put F (i := 120) (n := 1) hn rfl g120 (by decide) (by decide) dX8_init_738 fun f121 g121 => ?_
  refine k_dup F rfl dX8_init_739 ?_
  refine k_bipush F (v := nI 121) dX8_init_740 (by decide) ?_
  refine k_bipush F (v := nI 97) dX8_init_742 (by decide) ?_
  refine w_put F (i := 121) (n := 1) hn rfl g121 (by decide) (by decide) dX8_init_744 fun f122 g122 => ?_
  refine k_dup F rfl dX8_init_745 ?_
  refine k_bipush F (v := nI 122) dX8_init_746 (by decide) ?_
  refine k_bipush F (v := nI 110) dX8_init_748 (by decide) ?_
  refine w_put F (i := 122) (n := 1) hn rfl g122 (by decide) (by decide) dX8_init_750 fun f123 g123 => ?_
  refine k_dup F rfl dX8_init_751 ?_
  refine k_bipush F (v := nI 123) dX8_init_752 (by decide) ?_
  refine k_bipush F (v := nI 116) dX8_init_754 (by decide) ?_
  refine w_put F (i := 123) (n := 1) hn rfl g123 (by decide) (by decide) dX8_init_756 fun f124 g124 => ?_
  refine k_dup F rfl dX8_init_757 ?_
  refine k_bipush F (v := nI 124) dX8_init_758 (by decide) ?_
  refine k_bipush F (v := nI 115) dX8_init_760 (by decide) ?_
  refine w_put F (i := 124) (n := 1) hn rfl g124 (by decide) (by decide) dX8_init_762 fun f125 g125 => ?_
  refine k_dup F rfl dX8_init_763 ?_
  refine k_bipush F (v := nI 125) dX8_init_764 (by decide) ?_
  refine k_bipush F (v := nI 32) dX8_init_766 (by decide) ?_
  refine w_put F (i := 125) (n := 1) hn rfl g125 (by decide) (by decide) dX8_init_768 fun f126 g126 => ?_
  refine k_dup F rfl dX8_init_769 ?_
  refine k_bipush F (v := nI 126) dX8_init_770 (by decide) ?_
  refine k_bipush F (v := nI 115) dX8_init_772 (by decide) ?_
  refine w_put F (i := 126) (n := 1) hn rfl g126 (by decide) (by decide) dX8_init_774 fun f127 g127 => ?_
  refine k_dup F rfl dX8_init_775 ?_
  refine k_bipush F (v := nI 127) dX8_init_776 (by decide) ?_
  refine k_bipush F (v := nI 111) dX8_init_778 (by decide) ?_
  refine w_put F (i := 127) (n := 1) hn rfl g127 (by decide) (by decide) dX8_init_780 fun f128 g128 => ?_
  refine k_dup F rfl dX8_init_781 ?_
  refine k_sipush F (v := nI 128) dX8_init_782 (by decide) ?_
  refine k_bipush F (v := nI 114) dX8_init_785 (by decide) ?_
  refine w_put F (i := 128) (n := 1) hn rfl g128 (by decide) (by decide) dX8_init_787 fun f129 g129 => ?_
  refine k_dup F rfl dX8_init_788 ?_
  refine k_sipush F (v := nI 129) dX8_init_789 (by decide) ?_
  refine k_bipush F (v := nI 116) dX8_init_792 (by decide) ?_
  refine w_put F (i := 129) (n := 1) hn rfl g129 (by decide) (by decide) dX8_init_794 fun f130 g130 => ?_
  refine k_dup F rfl dX8_init_795 ?_
  refine k_sipush F (v := nI 130) dX8_init_796 (by decide) ?_
  refine k_bipush F (v := nI 32) dX8_init_799 (by decide) ?_
  refine w_put F (i := 130) (n := 1) hn rfl g130 (by decide) (by decide) dX8_init_801 fun f131 g131 => ?_
  exact K f131 g131
