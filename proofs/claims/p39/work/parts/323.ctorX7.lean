-- the class's constructor
theorem dX7_init_0 : decode cX7_init 0 = .ok (.aload_n 0, 1) := by decide +kernel
theorem dX7_init_1 : decode cX7_init 1 = .ok (.invokespecial 1, 3) := by decide +kernel
theorem dX7_init_4 : decode cX7_init 4 = .ok (.aload_n 0, 1) := by decide +kernel
theorem dX7_init_5 : decode cX7_init 5 = .ok (.new 7, 3) := by decide +kernel
theorem dX7_init_8 : decode cX7_init 8 = .ok (.dup, 1) := by decide +kernel
theorem dX7_init_9 : decode cX7_init 9 = .ok (.invokespecial 9, 3) := by decide +kernel
theorem dX7_init_12 : decode cX7_init 12 = .ok (.putfield 10, 3) := by decide +kernel
theorem dX7_init_15 : decode cX7_init 15 = .ok (.aload_n 0, 1) := by decide +kernel
theorem dX7_init_16 : decode cX7_init 16 = .ok (.new 16, 3) := by decide +kernel
theorem dX7_init_19 : decode cX7_init 19 = .ok (.dup, 1) := by decide +kernel
theorem dX7_init_20 : decode cX7_init 20 = .ok (.invokespecial 18, 3) := by decide +kernel
theorem dX7_init_23 : decode cX7_init 23 = .ok (.putfield 19, 3) := by decide +kernel
theorem dX7_init_26 : decode cX7_init 26 = .ok (.aload_n 0, 1) := by decide +kernel
theorem dX7_init_27 : decode cX7_init 27 = .ok (.new 23, 3) := by decide +kernel
theorem dX7_init_30 : decode cX7_init 30 = .ok (.dup, 1) := by decide +kernel
theorem dX7_init_31 : decode cX7_init 31 = .ok (.invokespecial 25, 3) := by decide +kernel
theorem dX7_init_34 : decode cX7_init 34 = .ok (.putfield 26, 3) := by decide +kernel
theorem dX7_init_37 : decode cX7_init 37 = .ok (.aload_n 0, 1) := by decide +kernel
theorem dX7_init_38 : decode cX7_init 38 = .ok (.new 30, 3) := by decide +kernel
theorem dX7_init_41 : decode cX7_init 41 = .ok (.dup, 1) := by decide +kernel
theorem dX7_init_42 : decode cX7_init 42 = .ok (.invokespecial 32, 3) := by decide +kernel
theorem dX7_init_45 : decode cX7_init 45 = .ok (.putfield 33, 3) := by decide +kernel
theorem dX7_init_48 : decode cX7_init 48 = .ok (.aload_n 0, 1) := by decide +kernel
theorem dX7_init_49 : decode cX7_init 49 = .ok (.bipush 6, 2) := by decide +kernel
theorem dX7_init_51 : decode cX7_init 51 = .ok (.newarray .int, 2) := by decide +kernel
theorem dX7_init_53 : decode cX7_init 53 = .ok (.putfield 37, 3) := by decide +kernel
theorem dX7_init_56 : decode cX7_init 56 = .ok (.aload_n 0, 1) := by decide +kernel
theorem dX7_init_57 : decode cX7_init 57 = .ok (.bipush 6, 2) := by decide +kernel
theorem dX7_init_59 : decode cX7_init 59 = .ok (.newarray .int, 2) := by decide +kernel
theorem dX7_init_61 : decode cX7_init 61 = .ok (.putfield 41, 3) := by decide +kernel
theorem dX7_init_64 : decode cX7_init 64 = .ok (.aload_n 0, 1) := by decide +kernel
theorem dX7_init_65 : decode cX7_init 65 = .ok (.bipush 16, 2) := by decide +kernel
theorem dX7_init_67 : decode cX7_init 67 = .ok (.newarray .int, 2) := by decide +kernel
theorem dX7_init_69 : decode cX7_init 69 = .ok (.putfield 44, 3) := by decide +kernel
theorem dX7_init_72 : decode cX7_init 72 = .ok (.aload_n 0, 1) := by decide +kernel
theorem dX7_init_73 : decode cX7_init 73 = .ok (.bipush 16, 2) := by decide +kernel
theorem dX7_init_75 : decode cX7_init 75 = .ok (.newarray .int, 2) := by decide +kernel
theorem dX7_init_77 : decode cX7_init 77 = .ok (.putfield 47, 3) := by decide +kernel
theorem dX7_init_80 : decode cX7_init 80 = .ok (.aload_n 0, 1) := by decide +kernel
theorem dX7_init_81 : decode cX7_init 81 = .ok (.iconst 3, 1) := by decide +kernel
theorem dX7_init_82 : decode cX7_init 82 = .ok (.newarray .int, 2) := by decide +kernel
theorem dX7_init_84 : decode cX7_init 84 = .ok (.putfield 50, 3) := by decide +kernel
theorem dX7_init_87 : decode cX7_init 87 = .ok (.new 53, 3) := by decide +kernel
theorem dX7_init_90 : decode cX7_init 90 = .ok (.dup, 1) := by decide +kernel
theorem dX7_init_91 : decode cX7_init 91 = .ok (.invokespecial 55, 3) := by decide +kernel
theorem dX7_init_94 : decode cX7_init 94 = .ok (.astore_n 1, 1) := by decide +kernel
theorem dX7_init_95 : decode cX7_init 95 = .ok (.aload_n 0, 1) := by decide +kernel
theorem dX7_init_96 : decode cX7_init 96 = .ok (.aload_n 1, 1) := by decide +kernel
theorem dX7_init_97 : decode cX7_init 97 = .ok (.putfield 56, 3) := by decide +kernel
theorem dX7_init_100 : decode cX7_init 100 = .ok (.aload_n 0, 1) := by decide +kernel
theorem dX7_init_101 : decode cX7_init 101 = .ok (.new 53, 3) := by decide +kernel
theorem dX7_init_104 : decode cX7_init 104 = .ok (.dup, 1) := by decide +kernel
theorem dX7_init_105 : decode cX7_init 105 = .ok (.invokespecial 55, 3) := by decide +kernel
theorem dX7_init_108 : decode cX7_init 108 = .ok (.putfield 60, 3) := by decide +kernel
theorem dX7_init_111 : decode cX7_init 111 = .ok (.aload_n 0, 1) := by decide +kernel
theorem dX7_init_112 : decode cX7_init 112 = .ok (.new 63, 3) := by decide +kernel
theorem dX7_init_115 : decode cX7_init 115 = .ok (.dup, 1) := by decide +kernel
theorem dX7_init_116 : decode cX7_init 116 = .ok (.aload_n 1, 1) := by decide +kernel
theorem dX7_init_117 : decode cX7_init 117 = .ok (.invokespecial 65, 3) := by decide +kernel
theorem dX7_init_120 : decode cX7_init 120 = .ok (.putfield 68, 3) := by decide +kernel
theorem dX7_init_123 : decode cX7_init 123 = .ok (.aload_n 0, 1) := by decide +kernel
theorem dX7_init_124 : decode cX7_init 124 = .ok (.new 63, 3) := by decide +kernel
theorem dX7_init_127 : decode cX7_init 127 = .ok (.dup, 1) := by decide +kernel
theorem dX7_init_128 : decode cX7_init 128 = .ok (.aload_n 1, 1) := by decide +kernel
theorem dX7_init_129 : decode cX7_init 129 = .ok (.invokespecial 65, 3) := by decide +kernel
theorem dX7_init_132 : decode cX7_init 132 = .ok (.putfield 72, 3) := by decide +kernel
theorem dX7_init_135 : decode cX7_init 135 = .ok (.aload_n 0, 1) := by decide +kernel
theorem dX7_init_136 : decode cX7_init 136 = .ok (.new 63, 3) := by decide +kernel
theorem dX7_init_139 : decode cX7_init 139 = .ok (.dup, 1) := by decide +kernel
theorem dX7_init_140 : decode cX7_init 140 = .ok (.aload_n 1, 1) := by decide +kernel
theorem dX7_init_141 : decode cX7_init 141 = .ok (.invokespecial 65, 3) := by decide +kernel
theorem dX7_init_144 : decode cX7_init 144 = .ok (.putfield 75, 3) := by decide +kernel
theorem dX7_init_147 : decode cX7_init 147 = .ok (.aload_n 0, 1) := by decide +kernel
theorem dX7_init_148 : decode cX7_init 148 = .ok (.bipush 7, 2) := by decide +kernel
theorem dX7_init_150 : decode cX7_init 150 = .ok (.anewarray 63, 3) := by decide +kernel
theorem dX7_init_153 : decode cX7_init 153 = .ok (.putfield 78, 3) := by decide +kernel
theorem dX7_init_156 : decode cX7_init 156 = .ok (.iconst 0, 1) := by decide +kernel
theorem dX7_init_157 : decode cX7_init 157 = .ok (.istore_n 2, 1) := by decide +kernel
theorem dX7_init_158 : decode cX7_init 158 = .ok (.iload_n 2, 1) := by decide +kernel
theorem dX7_init_159 : decode cX7_init 159 = .ok (.aload_n 0, 1) := by decide +kernel
theorem dX7_init_160 : decode cX7_init 160 = .ok (.getfield 78, 3) := by decide +kernel
theorem dX7_init_163 : decode cX7_init 163 = .ok (.arraylength, 1) := by decide +kernel
theorem dX7_init_164 : decode cX7_init 164 = .ok (.if_icmp .ge 23, 3) := by decide +kernel
theorem dX7_init_167 : decode cX7_init 167 = .ok (.aload_n 0, 1) := by decide +kernel
theorem dX7_init_168 : decode cX7_init 168 = .ok (.getfield 78, 3) := by decide +kernel
theorem dX7_init_171 : decode cX7_init 171 = .ok (.iload_n 2, 1) := by decide +kernel
theorem dX7_init_172 : decode cX7_init 172 = .ok (.new 63, 3) := by decide +kernel
theorem dX7_init_175 : decode cX7_init 175 = .ok (.dup, 1) := by decide +kernel
theorem dX7_init_176 : decode cX7_init 176 = .ok (.aload_n 1, 1) := by decide +kernel
theorem dX7_init_177 : decode cX7_init 177 = .ok (.invokespecial 65, 3) := by decide +kernel
theorem dX7_init_180 : decode cX7_init 180 = .ok (.aastore, 1) := by decide +kernel
theorem dX7_init_181 : decode cX7_init 181 = .ok (.iinc 2 1, 3) := by decide +kernel
theorem dX7_init_184 : decode cX7_init 184 = .ok (.goto (-26), 3) := by decide +kernel
theorem dX7_init_187 : decode cX7_init 187 = .ok (.aload_n 0, 1) := by decide +kernel
theorem dX7_init_188 : decode cX7_init 188 = .ok (.iconst (-1), 1) := by decide +kernel
theorem dX7_init_189 : decode cX7_init 189 = .ok (.putfield 82, 3) := by decide +kernel
theorem dX7_init_192 : decode cX7_init 192 = .ok (.return_, 1) := by decide +kernel
set_option maxRecDepth 100000 in
theorem oiX7 : Cond.methodLink RX7 1 Lib.objectInit ∈ GT ∧ Cond.instanceMethod Lib.objectInit ∈ GT ∧ Cond.code Lib.objectInit ⟨#[0xb1]⟩ 1 none ∈ GT := ⟨GT_1 31 rfl rfl, GT_1 32 rfl rfl, GT_1 33 rfl rfl⟩
set_option maxRecDepth 100000 in
theorem nwX7_7 : Cond.classLink RX7 7 (RXf 4) ∈ GT ∧ Cond.instantiable (RXf 4) (nf 4) ∈ GT ∧ Cond.initialized (RXf 4) ∈ GT := ⟨GT_1 34 rfl rfl, GT_1 35 rfl rfl, GT_1 2 rfl rfl⟩
set_option maxRecDepth 100000 in
theorem nwX7_16 : Cond.classLink RX7 16 (RXf 1) ∈ GT ∧ Cond.instantiable (RXf 1) (nf 1) ∈ GT ∧ Cond.initialized (RXf 1) ∈ GT := ⟨GT_1 124 rfl rfl, GT_1 125 rfl rfl, GT_1 7 rfl rfl⟩
set_option maxRecDepth 100000 in
theorem ckX1 : CKi yX1_init cX1_init 1 0 := ⟨GT_1 128 rfl rfl, GT_1 7 rfl rfl, ⟨by decide, by decide, by decide +kernel⟩, rfl, GT_1 127 rfl rfl⟩
set_option maxRecDepth 100000 in
theorem nwX7_23 : Cond.classLink RX7 23 (RXf 2) ∈ GT ∧ Cond.instantiable (RXf 2) (nf 2) ∈ GT ∧ Cond.initialized (RXf 2) ∈ GT := ⟨GT_1 173 rfl rfl, GT_1 174 rfl rfl, GT_1 8 rfl rfl⟩
set_option maxRecDepth 100000 in
theorem ckX2 : CKi yX2_init cX2_init 1 0 := ⟨GT_1 177 rfl rfl, GT_1 8 rfl rfl, ⟨by decide, by decide, by decide +kernel⟩, rfl, GT_1 176 rfl rfl⟩
set_option maxRecDepth 100000 in
theorem nwX7_30 : Cond.classLink RX7 30 (RXf 6) ∈ GT ∧ Cond.instantiable (RXf 6) (nf 6) ∈ GT ∧ Cond.initialized (RXf 6) ∈ GT := ⟨GT_1 200 rfl rfl, GT_1 201 rfl rfl, GT_1 9 rfl rfl⟩
set_option maxRecDepth 100000 in
theorem ckX6 : CKi yX6_init cX6_init 1 0 := ⟨GT_1 204 rfl rfl, GT_1 9 rfl rfl, ⟨by decide, by decide, by decide +kernel⟩, rfl, GT_1 203 rfl rfl⟩
set_option maxRecDepth 100000 in
theorem nwX7_53 : Cond.classLink RX7 53 (RXf 5) ∈ GT ∧ Cond.instantiable (RXf 5) (nf 5) ∈ GT ∧ Cond.initialized (RXf 5) ∈ GT := ⟨GT_1 220 rfl rfl, GT_1 221 rfl rfl, GT_1 10 rfl rfl⟩
set_option maxRecDepth 100000 in
theorem ckX5 : CKi yX5_init cX5_init 1 0 := ⟨GT_1 224 rfl rfl, GT_1 10 rfl rfl, ⟨by decide, by decide, by decide +kernel⟩, rfl, GT_1 223 rfl rfl⟩
set_option maxRecDepth 100000 in
theorem nwX7_63 : Cond.classLink RX7 63 (RXf 3) ∈ GT ∧ Cond.instantiable (RXf 3) (nf 3) ∈ GT ∧ Cond.initialized (RXf 3) ∈ GT := ⟨GT_2 124 rfl rfl, GT_2 125 rfl rfl, GT_1 12 rfl rfl⟩
set_option maxRecDepth 100000 in
theorem ckX3 : CKi yX3_init cX3_init 2 1 := ⟨GT_2 128 rfl rfl, GT_1 12 rfl rfl, ⟨by decide, by decide, by decide +kernel⟩, rfl, GT_2 127 rfl rfl⟩
theorem frX7_75 : FR RX7 75 7 11 (4, 3, 2) := ⟨GT_2 208 rfl rfl, by decide, by decide, rfl⟩
def tl7 (G : Gx) (b : Nat) : List va_E := (qX4 G (b + 1)) ++ ((qX1 G (b + 4)) ++ ((qX2 G (b + 7)) ++ ((qX6 G (b + 12)) ++ ([.inl (G.2.2.1, 6, .inl fun _ => 0)] ++ ([.inl (G.2.2.1, 6, .inl fun _ => 0)] ++ ([.inl (G.2.2.1, 16, .inl fun _ => 0)] ++ ([.inl (G.2.2.1, 16, .inl fun _ => 0)] ++ ([.inl (G.2.2.1, 3, .inl fun _ => 0)] ++ ((qX5 G (b + 21)) ++ ((qX5 G (b + 38)) ++ ((qX3 G (b + 55) (b + 21)) ++ ((qX3 G (b + 66) (b + 21)) ++ ((qX3 G (b + 77) (b + 21)))))))))))))))
def stpF (b j : Nat) : Nat → Option Nat := fun i => if i < j then some (b + (89 + 11 * i)) else none
def blk (G : Gx) (b t : Nat) : Nat → List va_E
  | 0 => []
  | j + 1 => blk G b t j ++ qX3 G (b + (89 + 11 * j)) t
theorem blk_len (G : Gx) (b t : Nat) : ∀ j, (blk G b t j).length = 11 * j
  | 0 => rfl
  | j + 1 => by rw [blk, List.length_append, blk_len G b t j, show (qX3 G (b + (89 + 11 * j)) t).length = 11 from rfl]; omega
abbrev stCel (G : Gx) (f : Nat → Option Nat) : va_E := .inl (G.2.2.2.2.2, 7, .inr (.inr (.inr (.inr f))))
def qX7 (G : Gx) (b : Nat) : List va_E := .inr (7, [.ref (b + 1), .ref (b + 4), .ref (b + 7), .ref (b + 12), .ref (b + 16), .ref (b + 17), .ref (b + 18), .ref (b + 19), .ref (b + 20), .ref (b + 55), .ref (b + 66), .ref (b + 77), .ref (b + 88), .ref (b + 21), .ref (b + 38), .int 0, .int 0, .int (-1)]) :: (tl7 G b ++ (stCel G (stpF b 7) :: blk G b (b + 21) 7))
abbrev rmX7_init : Room := { frames := 5, cells := 165, slots := 2279, locals := 134 }
section C7
variable {X : Cx} {Q : State → Prop} {b cN sN : Nat} {tl : List va_E}
theorem es7_len (G : Gx) {e0 : va_E} (f : Nat → Option Nat) (t j : Nat) (hl : tl.length = 87) : (e0 :: (tl ++ (stCel G f :: blk G b t j))).length = 89 + 11 * j := by
  rw [List.length_cons, List.length_append, List.length_cons, hl, blk_len]; omega
set_option maxRecDepth 100000 in
theorem x7_loop (F : Fk X cX7_init RX7 rmX7_init) (hL : xL X = 3) (hsz : b < (xS X).heap.size) {fs : List Value} (hfs : fs[12]? = some (.ref (b + 88))) (hl : tl.length = 87) (K : ∀ lv, lv[0]? = some (0, .ref b) → Wk X Q b (.inr (7, fs) :: (tl ++ (stCel (xG X) (stpF b 7) :: blk (xG X) b (b + 21) 7))) 165 2279 187 lv []) : ∀ n j, j + n = 7 → cN = 88 + 11 * j → sN = 1810 + 67 * j → Wk X Q b (.inr (7, fs) :: (tl ++ (stCel (xG X) (stpF b j) :: blk (xG X) b (b + 21) j))) cN sN 158 [(0, .ref b), (1, .ref (b + 21)), (2, .int (nI j))] [] := by
  intro n
  induction n generalizing cN sN with
  | zero =>
    intro j hj hc hs
    have e : j = 7 := by omega
    subst e
    subst hc
    subst hs
    refine k_iload_n F 2 rfl dX7_init_158 rfl ?_
    refine k_aload_n F 0 rfl dX7_init_159 rfl ?_
    refine k_get F frX7_78 hfs dX7_init_160 ?_
    refine k_alenS F (j := 88) (n := 7) (v := nI 7) (f := stpF b 7) (by rw [List.getElem?_cons_succ, List.getElem?_append_right (by omega), hl]; rfl) rfl (by decide) dX7_init_163 ?_
    exact k_icmpge F (tgt := 187) dX7_init_164 (by decide) (fun _ => K _ rfl) (fun q => absurd (by decide) q)
  | succ n ih =>
    intro j hj hc hs
    have hj7 : j < 7 := by omega
    have hst : ∀ (g : Nat → Option Nat) (r : List va_E), (.inr (7, fs) :: (tl ++ (stCel (xG X) g :: r)) : List va_E)[88]? = some (stCel (xG X) g) := fun g r => by
      rw [List.getElem?_cons_succ, List.getElem?_append_right (by omega), hl]; rfl
    refine k_iload_n F 2 rfl dX7_init_158 rfl ?_
    refine k_aload_n F 0 rfl dX7_init_159 rfl ?_
    refine k_get F frX7_78 hfs dX7_init_160 ?_
    refine k_alenS F (j := 88) (n := 7) (v := nI 7) (f := stpF b j) (hst _ _) rfl (by decide) dX7_init_163 ?_
    refine k_icmpge F (tgt := 187) dX7_init_164 (by decide) (fun q => absurd q (nI_ge hj7 (by decide))) (fun _ => ?_)
    refine k_aload_n F 0 rfl dX7_init_167 rfl ?_
    refine k_get F frX7_78 hfs dX7_init_168 ?_
    refine k_iload_n F 2 rfl dX7_init_171 rfl ?_
    have hlen : b + (.inr (7, fs) :: (tl ++ (stCel (xG X) (stpF b j) :: blk (xG X) b (b + 21) j)) : List va_E).length = b + (89 + 11 * j) := by rw [es7_len _ _ _ _ hl]
    refine k_new F (c := 3) nwX7_63 (by decide) ⟨by rw [hc]; show 88 + 11 * j + 1 ≤ 165; omega, by rw [hs]; show 1810 + 67 * j + 17 ≤ 2279; omega⟩ hlen dX7_init_172 ?_
    refine k_dup F rfl dX7_init_175 ?_
    refine k_aload_n F 1 rfl dX7_init_176 rfl ?_
    refine k_init F ckX3 (GT_2 126 rfl rfl) (kX3 (xG X) _ (b + (89 + 11 * j)) (b + 21)) (lasts_t _) trivial (Nat.le_of_lt hsz) hlen rfl rfl ⟨⟨rfl, rfl⟩, by decide, by decide⟩ (Nat.le_of_ble_eq_true rfl) ⟨by rw [hc]; show 88 + 11 * j + 1 + 10 ≤ 165; omega, by rw [hs]; show 1810 + 67 * j + 17 + 50 ≤ 2279; omega⟩ dX7_init_177 ?_
    have e1 : (.inr (7, fs) :: (tl ++ (stCel (xG X) (stpF b j) :: blk (xG X) b (b + 21) j)) : List va_E) ++ qX3 (xG X) (b + (89 + 11 * j)) (b + 21) = .inr (7, fs) :: (tl ++ (stCel (xG X) (stpF b j) :: blk (xG X) b (b + 21) (j + 1))) := by
      rw [blk, List.cons_append, List.append_assoc, List.cons_append]
    rw [e1]
    have hv : (.inr (7, fs) :: (tl ++ (stCel (xG X) (stpF b j) :: blk (xG X) b (b + 21) (j + 1))) : List va_E)[89 + 11 * j]? = (qX3 (xG X) (b + (89 + 11 * j)) (b + 21))[0]? := by
      rw [show 89 + 11 * j = (88 + 11 * j) + 1 by omega, List.getElem?_cons_succ, List.getElem?_append_right (by omega), hl, show 88 + 11 * j - 87 = 11 * j + 1 by omega, List.getElem?_cons_succ, blk, List.getElem?_append_right (by rw [blk_len]; omega), blk_len, Nat.sub_self, show 88 + 11 * j + 1 = 89 + 11 * j by omega]
    refine k_aast F (j := 88) (jv := 89 + 11 * j) (n := 7) (f := stpF b j) (hst _ _) rfl (by rw [hv]; rfl) rfl (inb_n hj7 (by decide)) dX7_init_180 ?_
    have e2 : (.inr (7, fs) :: (tl ++ (stCel (xG X) (stpF b j) :: blk (xG X) b (b + 21) (j + 1))) : List va_E).set 88 (.inl ((xG X).2.2.2.2.2, 7, .inr (.inr (.inr (.inr (va_up (stpF b j) (nI j).toNatClampNeg (some (b + (89 + 11 * j))))))))) = .inr (7, fs) :: (tl ++ (stCel (xG X) (stpF b (j + 1)) :: blk (xG X) b (b + 21) (j + 1))) := by
      have ef : va_up (stpF b j) (nI j).toNatClampNeg (some (b + (89 + 11 * j))) = stpF b (j + 1) := by
        rw [clN (show j < 2 ^ 31 by omega)]
        funext i
        unfold va_up stpF
        by_cases z : i = j
        · rw [if_pos z, z, if_pos (Nat.lt_succ_self j)]
        · rw [if_neg z]
          by_cases y : i < j
          · rw [if_pos y, if_pos (by omega)]
          · rw [if_neg y, if_neg (by omega)]
      rw [ef, List.set_cons_succ, List.set_append_right _ _ (by omega), hl]
      rfl
    rw [e2]
    refine k_iinc F (v := 1) (w := nI (j + 1)) 2 rfl (by decide) (nI_succ j).symm ((2, .int (nI (j + 1))) :: [(0, .ref b), (1, .ref (b + 21))]) rfl dX7_init_181 (by rw [hL]; decide) ?_
    refine k_goto F (tgt := 158) dX7_init_184 (by decide) ?_
    refine Wk_pick [1, 2, 0] rfl ?_
    exact ih (j + 1) (by omega) (by rw [hc]; show 88 + 11 * j + 1 + 10 = _; omega) (by rw [hs]; show 1810 + 67 * j + 17 + 50 = _; omega)
end C7
set_option maxRecDepth 100000 in
set_option maxHeartbeats 4000000 in
theorem kX7 (G : Gx) (l : Launch) (b : Nat) (sa : Nat × Nat × Nat) (hb9 : sa.1 ≤ b) : Cn G l yX7_init cX7_init 3 rmX7_init [.ref b] b 7 (SKl sa) (qX7 G b) 165 2279 := by
  refine ctor_of (by decide +kernel) rfl (Nat.le_of_ble_eq_true rfl) fun X hl hG hL F hin hret hKp hsz => ?_
  subst hG
  subst hl
  have h0 : ([] : List va_E).length = 0 := rfl
  refine k_aload_n F 0 rfl dX7_init_0 rfl ?_
  refine k_objInit F oiX7 ⟨by decide, by decide⟩ dX7_init_1 ?_
  refine k_aload_n F 0 rfl dX7_init_4 rfl ?_
  refine t_new F (c := 4) (n := 0) (b := b + 1) nwX7_7 (by decide) ⟨by decide, by decide⟩ h0 rfl dX7_init_5 ?_
  refine k_dup F rfl dX7_init_8 ?_
  refine t_init F ckX4 (GT_1 36 rfl rfl) (kX4 (xG X) _ (b + 1) sa (Nat.le_trans hb9 (Nat.le_add_right _ _))) (SKl.lasts hb9) hKp (Nat.le_of_lt hsz) (n := 0) (m := 3) h0 rfl rfl rfl rfl ⟨⟨rfl, rfl⟩, by decide, by decide⟩ (Nat.le_of_ble_eq_true rfl) ⟨by decide, by decide⟩ dX7_init_9 fun t1 e1 h1 => ?_
  refine k_put F hin frX7_10 rfl rfl rfl (Nat.le_of_ble_eq_true rfl) dX7_init_12 ?_
  refine k_aload_n F 0 rfl dX7_init_15 rfl ?_
  refine t_new F (c := 1) (n := 3) (b := b + 4) nwX7_16 (by decide) ⟨by decide, by decide⟩ h1 rfl dX7_init_16 ?_
  refine k_dup F rfl dX7_init_19 ?_
  refine t_initN F ckX1 F.2.2.2.2.2.2.1.2.2.1.1 (kX1 (xG X) _ (b + 4)) (lasts_t _) trivial (Nat.le_of_lt hsz) (n := 3) (m := 6) h1 rfl rfl rfl rfl ⟨⟨rfl, rfl⟩, by decide, by decide⟩ (Nat.le_of_ble_eq_true rfl) ⟨by decide, by decide⟩ dX7_init_20 fun t2 e2 h2 => ?_
  refine k_put F hin frX7_19 rfl rfl rfl (Nat.le_of_ble_eq_true rfl) dX7_init_23 ?_
  refine k_aload_n F 0 rfl dX7_init_26 rfl ?_
  refine t_new F (c := 2) (n := 6) (b := b + 7) nwX7_23 (by decide) ⟨by decide, by decide⟩ h2 rfl dX7_init_27 ?_
  refine k_dup F rfl dX7_init_30 ?_
  refine t_initN F ckX2 F.2.2.2.2.2.2.1.2.2.1.2.1 (kX2 (xG X) _ (b + 7)) (lasts_t _) trivial (Nat.le_of_lt hsz) (n := 6) (m := 11) h2 rfl rfl rfl rfl ⟨⟨rfl, rfl⟩, by decide, by decide⟩ (Nat.le_of_ble_eq_true rfl) ⟨by decide, by decide⟩ dX7_init_31 fun t3 e3 h3 => ?_
  refine k_put F hin frX7_26 rfl rfl rfl (Nat.le_of_ble_eq_true rfl) dX7_init_34 ?_
  refine k_aload_n F 0 rfl dX7_init_37 rfl ?_
  refine t_new F (c := 6) (n := 11) (b := b + 12) nwX7_30 (by decide) ⟨by decide, by decide⟩ h3 rfl dX7_init_38 ?_
  refine k_dup F rfl dX7_init_41 ?_
  refine t_initN F ckX6 F.2.2.2.2.2.2.1.2.2.1.2.2.1 (kX6 (xG X) _ (b + 12)) (lasts_t _) trivial (Nat.le_of_lt hsz) (n := 11) (m := 15) h3 rfl rfl rfl rfl ⟨⟨rfl, rfl⟩, by decide, by decide⟩ (Nat.le_of_ble_eq_true rfl) ⟨by decide, by decide⟩ dX7_init_42 fun t4 e4 h4 => ?_
  refine k_put F hin frX7_33 rfl rfl rfl (Nat.le_of_ble_eq_true rfl) dX7_init_45 ?_
  refine k_aload_n F 0 rfl dX7_init_48 rfl ?_
  refine k_bipush F (v := 6) dX7_init_49 (by decide) ?_
  refine t_newI F acw_int (N := 6) (n := 15) (b := b + 16) (by decide) (by decide) (by decide) ⟨by decide, by decide⟩ h4 rfl dX7_init_51 fun t5 e5 h5 => ?_
  refine k_put F hin frX7_37 rfl rfl rfl (Nat.le_of_ble_eq_true rfl) dX7_init_53 ?_
  refine k_aload_n F 0 rfl dX7_init_56 rfl ?_
  refine k_bipush F (v := 6) dX7_init_57 (by decide) ?_
  refine t_newI F acw_int (N := 6) (n := 16) (b := b + 17) (by decide) (by decide) (by decide) ⟨by decide, by decide⟩ h5 rfl dX7_init_59 fun t6 e6 h6 => ?_
  refine k_put F hin frX7_41 rfl rfl rfl (Nat.le_of_ble_eq_true rfl) dX7_init_61 ?_
  refine k_aload_n F 0 rfl dX7_init_64 rfl ?_
  refine k_bipush F (v := 16) dX7_init_65 (by decide) ?_
  refine t_newI F acw_int (N := 16) (n := 17) (b := b + 18) (by decide) (by decide) (by decide) ⟨by decide, by decide⟩ h6 rfl dX7_init_67 fun t7 e7 h7 => ?_
  refine k_put F hin frX7_44 rfl rfl rfl (Nat.le_of_ble_eq_true rfl) dX7_init_69 ?_
  refine k_aload_n F 0 rfl dX7_init_72 rfl ?_
  refine k_bipush F (v := 16) dX7_init_73 (by decide) ?_
  refine t_newI F acw_int (N := 16) (n := 18) (b := b + 19) (by decide) (by decide) (by decide) ⟨by decide, by decide⟩ h7 rfl dX7_init_75 fun t8 e8 h8 => ?_
  refine k_put F hin frX7_47 rfl rfl rfl (Nat.le_of_ble_eq_true rfl) dX7_init_77 ?_
  refine k_aload_n F 0 rfl dX7_init_80 rfl ?_
  refine k_iconst F (v := 3) dX7_init_81 (by decide) ?_
  refine t_newI F acw_int (N := 3) (n := 19) (b := b + 20) (by decide) (by decide) (by decide) ⟨by decide, by decide⟩ h8 rfl dX7_init_82 fun t9 e9 h9 => ?_
  refine k_put F hin frX7_50 rfl rfl rfl (Nat.le_of_ble_eq_true rfl) dX7_init_84 ?_
  refine t_new F (c := 5) (n := 20) (b := b + 21) nwX7_53 (by decide) ⟨by decide, by decide⟩ h9 rfl dX7_init_87 ?_
  refine k_dup F rfl dX7_init_90 ?_
  refine t_initN F ckX5 F.2.2.2.2.2.2.1.2.2.1.2.2.2.1 (kX5 (xG X) _ (b + 21)) (lasts_t _) trivial (Nat.le_of_lt hsz) (n := 20) (m := 37) h9 rfl rfl rfl rfl ⟨⟨rfl, rfl⟩, by decide, by decide⟩ (Nat.le_of_ble_eq_true rfl) ⟨by decide, by decide⟩ dX7_init_91 fun t10 e10 h10 => ?_
  refine k_astore_n F [(1, .ref (b + 21)), (0, .ref b)] rfl dX7_init_94 rfl (by rw [hL]; decide) ?_
  refine k_aload_n F 1 rfl dX7_init_95 rfl ?_
  refine k_aload_n F 0 rfl dX7_init_96 rfl ?_
  refine k_put F hin frX7_56 rfl rfl rfl (Nat.le_of_ble_eq_true rfl) dX7_init_97 ?_
  refine k_aload_n F 1 rfl dX7_init_100 rfl ?_
  refine t_new F (c := 5) (n := 37) (b := b + 38) nwX7_53 (by decide) ⟨by decide, by decide⟩ h10 rfl dX7_init_101 ?_
  refine k_dup F rfl dX7_init_104 ?_
  refine t_initN F ckX5 F.2.2.2.2.2.2.1.2.2.1.2.2.2.1 (kX5 (xG X) _ (b + 38)) (lasts_t _) trivial (Nat.le_of_lt hsz) (n := 37) (m := 54) h10 rfl rfl rfl rfl ⟨⟨rfl, rfl⟩, by decide, by decide⟩ (Nat.le_of_ble_eq_true rfl) ⟨by decide, by decide⟩ dX7_init_105 fun t11 e11 h11 => ?_
  refine k_put F hin frX7_60 rfl rfl rfl (Nat.le_of_ble_eq_true rfl) dX7_init_108 ?_
  refine k_aload_n F 1 rfl dX7_init_111 rfl ?_
  refine t_new F (c := 3) (n := 54) (b := b + 55) nwX7_63 (by decide) ⟨by decide, by decide⟩ h11 rfl dX7_init_112 ?_
  refine k_dup F rfl dX7_init_115 ?_
  refine k_aload_n F 0 rfl dX7_init_116 rfl ?_
  refine t_init F ckX3 (GT_2 126 rfl rfl) (kX3 (xG X) _ (b + 55) (b + 21)) (lasts_t _) trivial (Nat.le_of_lt hsz) (n := 54) (m := 65) h11 rfl rfl rfl rfl ⟨⟨rfl, rfl⟩, by decide, by decide⟩ (Nat.le_of_ble_eq_true rfl) ⟨by decide, by decide⟩ dX7_init_117 fun t12 e12 h12 => ?_
  refine k_put F hin frX7_68 rfl rfl rfl (Nat.le_of_ble_eq_true rfl) dX7_init_120 ?_
  refine k_aload_n F 1 rfl dX7_init_123 rfl ?_
  refine t_new F (c := 3) (n := 65) (b := b + 66) nwX7_63 (by decide) ⟨by decide, by decide⟩ h12 rfl dX7_init_124 ?_
  refine k_dup F rfl dX7_init_127 ?_
  refine k_aload_n F 0 rfl dX7_init_128 rfl ?_
  refine t_init F ckX3 (GT_2 126 rfl rfl) (kX3 (xG X) _ (b + 66) (b + 21)) (lasts_t _) trivial (Nat.le_of_lt hsz) (n := 65) (m := 76) h12 rfl rfl rfl rfl ⟨⟨rfl, rfl⟩, by decide, by decide⟩ (Nat.le_of_ble_eq_true rfl) ⟨by decide, by decide⟩ dX7_init_129 fun t13 e13 h13 => ?_
  refine k_put F hin frX7_72 rfl rfl rfl (Nat.le_of_ble_eq_true rfl) dX7_init_132 ?_
  refine k_aload_n F 1 rfl dX7_init_135 rfl ?_
  refine t_new F (c := 3) (n := 76) (b := b + 77) nwX7_63 (by decide) ⟨by decide, by decide⟩ h13 rfl dX7_init_136 ?_
  refine k_dup F rfl dX7_init_139 ?_
  refine k_aload_n F 0 rfl dX7_init_140 rfl ?_
  refine t_init F ckX3 (GT_2 126 rfl rfl) (kX3 (xG X) _ (b + 77) (b + 21)) (lasts_t _) trivial (Nat.le_of_lt hsz) (n := 76) (m := 87) h13 rfl rfl rfl rfl ⟨⟨rfl, rfl⟩, by decide, by decide⟩ (Nat.le_of_ble_eq_true rfl) ⟨by decide, by decide⟩ dX7_init_141 fun t14 e14 h14 => ?_
  refine k_put F hin frX7_75 rfl rfl rfl (Nat.le_of_ble_eq_true rfl) dX7_init_144 ?_
  refine k_aload_n F 1 rfl dX7_init_147 rfl ?_
  refine k_bipush F (v := 7) dX7_init_148 (by decide) ?_
  refine t_newS F nwX7_63.1 (N := 7) (n := 87) (b := b + 88) (by decide) (by decide) (by decide) ⟨by decide, by decide⟩ h14 rfl dX7_init_150 ?_
  refine k_put F hin frX7_78 rfl rfl rfl (Nat.le_of_ble_eq_true rfl) dX7_init_153 ?_
  have e9 : t14 = tl7 (xG X) b := by
    subst e14 e13 e12 e11 e10 e9 e8 e7 e6 e5 e4 e3 e2 e1
    simp only [tl7, List.append_assoc, List.nil_append]
  refine k_iconst F (v := 0) dX7_init_156 (by decide) ?_
  refine k_istore_n F [(2, .int 0), (1, .ref (b + 21)), (0, .ref b)] rfl dX7_init_157 rfl (by rw [hL]; decide) ?_
  refine Wk_pick (lv2 := [(0, .ref b), (1, .ref (b + 21)), (2, .int (nI 0))]) [2, 1, 0] rfl ?_
  have e10 : stpF b 0 = fun _ => none := by funext i; unfold stpF; rw [if_neg (Nat.not_lt_zero i)]
  rw [← e10]
  refine x7_loop F hL hsz rfl h14 (fun lv h0v => ?_) 7 0 rfl rfl rfl
  refine k_aload_n F 0 h0v dX7_init_187 rfl ?_
  refine k_iconst F (v := -1) dX7_init_188 (by decide) ?_
  refine k_put F hin frX7_82 rfl rfl rfl (Nat.le_of_ble_eq_true rfl) dX7_init_189 ?_
  exact k_vret F hret hsz (by rw [e9]; rfl) rfl rfl dX7_init_192
