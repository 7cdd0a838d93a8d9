-- the world at the start
def offT (c o j : Nat) : Nat := match c with
  | 0 => 31 + 17 * o + j
  | 1 => 4 + j
  | 2 => 7 + j
  | 3 => (if o < 3 then 55 else 56) + 11 * o + j
  | 4 => 1 + j
  | 5 => 21 + 17 * o + j
  | 6 => 12 + j
  | _ => if j = 0 then 0 else if j = 6 then 88 else 15 + j
abbrev G0 (D : va_G) (ids : ClassId × ClassId × ClassId × ClassId) (n0 : Nat) : Gx := (fun c o j => n0 + offT c o j, D, ids)
def h0m : Hp := (fun c _ k => if c = 3 ∧ k = 16 then 1 else if c = 2 ∧ k = 5 then -1 else if c = 7 ∧ k = 17 then -1 else 0,
  fun _ _ _ => 0,
  fun c _ k => if c = 3 ∧ k = 10 then some 0 else if c = 7 ∧ k = 13 then some 0 else if c = 7 ∧ k = 14 then some 1 else none,
  fun c _ k => if c = 4 ∧ k = 1 then tspF 130 else fun _ => 0,
  fun _ _ _ _ => 0)
theorem okH_h0 : okH h0m := fun c o s u hu => by
  have hu' : (if c = 3 ∧ s = 10 then some 0 else if c = 7 ∧ s = 13 then some 0 else if c = 7 ∧ s = 14 then some 1 else none) = some u := hu
  by_cases z1 : c = 3 ∧ s = 10
  · rw [if_pos z1] at hu'; cases hu'; rw [z1.1, z1.2]; decide
  rw [if_neg z1] at hu'
  by_cases z2 : c = 7 ∧ s = 13
  · rw [if_pos z2] at hu'; cases hu'; rw [z2.1, z2.2]; decide
  rw [if_neg z2] at hu'
  by_cases z3 : c = 7 ∧ s = 14
  · rw [if_pos z3] at hu'; cases hu'; rw [z3.1, z3.2]; decide
  rw [if_neg z3] at hu'
  cases hu'
def offL : List Nat := locL.map fun q => offT q.1 q.2.1 q.2.2
set_option maxRecDepth 100000 in
theorem off_nd : offL.Nodup := by decide +kernel
set_option maxRecDepth 100000 in
theorem off_lt : ∀ x ∈ offL, x < 166 := by decide +kernel
theorem Dst0 (D : va_G) (ids : ClassId × ClassId × ClassId × ClassId) (n0 : Nat) : Dst (G0 D ids n0) := fun q hq q' hq' e => by
  have e' : offT q.1 q.2.1 q.2.2 = offT q'.1 q'.2.1 q'.2.2 := Nat.add_left_cancel e
  obtain ⟨i, hi⟩ := List.getElem?_of_mem hq
  obtain ⟨j, hj⟩ := List.getElem?_of_mem hq'
  have h1 : offL[i]? = some (offT q.1 q.2.1 q.2.2) := by rw [offL, List.getElem?_map, hi]; rfl
  have h2 : offL[j]? = some (offT q.1 q.2.1 q.2.2) := by rw [offL, List.getElem?_map, hj, e']; rfl
  have := nodup_ix off_nd h1 h2
  subst this
  exact Option.some.inj (hi.symm.trans hj)
theorem Aw0 (D : va_G) (ids : ClassId × ClassId × ClassId × ClassId) (n0 : Nat) {a : Nat} (h : Aw (G0 D ids n0) a) : n0 ≤ a ∧ a < n0 + 166 := by
  obtain ⟨q, hq, rfl⟩ := h
  have := off_lt _ (List.mem_map.mpr ⟨q, hq, rfl⟩)
  show n0 ≤ n0 + offT q.1 q.2.1 q.2.2 ∧ n0 + offT q.1 q.2.1 q.2.2 < n0 + 166
  have h2 : offT q.1 q.2.1 q.2.2 < 166 := this
  omega
set_option maxRecDepth 100000 in
theorem zc_31 (D : va_G) (ids : ClassId × ClassId × ClassId × ClassId) (n0 : Nat) : (qX7 (G0 D ids n0) n0)[31]? = some (cont (G0 D ids n0) h0m (0, 0, 0)) := rfl
set_option maxRecDepth 100000 in
theorem zc_32 (D : va_G) (ids : ClassId × ClassId × ClassId × ClassId) (n0 : Nat) : (qX7 (G0 D ids n0) n0)[32]? = some (cont (G0 D ids n0) h0m (0, 0, 1)) := rfl
set_option maxRecDepth 100000 in
theorem zc_33 (D : va_G) (ids : ClassId × ClassId × ClassId × ClassId) (n0 : Nat) : (qX7 (G0 D ids n0) n0)[33]? = some (cont (G0 D ids n0) h0m (0, 0, 2)) := rfl
set_option maxRecDepth 100000 in
theorem zc_34 (D : va_G) (ids : ClassId × ClassId × ClassId × ClassId) (n0 : Nat) : (qX7 (G0 D ids n0) n0)[34]? = some (cont (G0 D ids n0) h0m (0, 0, 3)) := rfl
set_option maxRecDepth 100000 in
theorem zc_35 (D : va_G) (ids : ClassId × ClassId × ClassId × ClassId) (n0 : Nat) : (qX7 (G0 D ids n0) n0)[35]? = some (cont (G0 D ids n0) h0m (0, 0, 4)) := rfl
set_option maxRecDepth 100000 in
theorem zc_36 (D : va_G) (ids : ClassId × ClassId × ClassId × ClassId) (n0 : Nat) : (qX7 (G0 D ids n0) n0)[36]? = some (cont (G0 D ids n0) h0m (0, 0, 5)) := rfl
set_option maxRecDepth 100000 in
theorem zc_37 (D : va_G) (ids : ClassId × ClassId × ClassId × ClassId) (n0 : Nat) : (qX7 (G0 D ids n0) n0)[37]? = some (cont (G0 D ids n0) h0m (0, 0, 6)) := rfl
set_option maxRecDepth 100000 in
theorem zc_48 (D : va_G) (ids : ClassId × ClassId × ClassId × ClassId) (n0 : Nat) : (qX7 (G0 D ids n0) n0)[48]? = some (cont (G0 D ids n0) h0m (0, 1, 0)) := rfl
set_option maxRecDepth 100000 in
theorem zc_49 (D : va_G) (ids : ClassId × ClassId × ClassId × ClassId) (n0 : Nat) : (qX7 (G0 D ids n0) n0)[49]? = some (cont (G0 D ids n0) h0m (0, 1, 1)) := rfl
set_option maxRecDepth 100000 in
theorem zc_50 (D : va_G) (ids : ClassId × ClassId × ClassId × ClassId) (n0 : Nat) : (qX7 (G0 D ids n0) n0)[50]? = some (cont (G0 D ids n0) h0m (0, 1, 2)) := rfl
set_option maxRecDepth 100000 in
theorem zc_51 (D : va_G) (ids : ClassId × ClassId × ClassId × ClassId) (n0 : Nat) : (qX7 (G0 D ids n0) n0)[51]? = some (cont (G0 D ids n0) h0m (0, 1, 3)) := rfl
set_option maxRecDepth 100000 in
theorem zc_52 (D : va_G) (ids : ClassId × ClassId × ClassId × ClassId) (n0 : Nat) : (qX7 (G0 D ids n0) n0)[52]? = some (cont (G0 D ids n0) h0m (0, 1, 4)) := rfl
set_option maxRecDepth 100000 in
theorem zc_53 (D : va_G) (ids : ClassId × ClassId × ClassId × ClassId) (n0 : Nat) : (qX7 (G0 D ids n0) n0)[53]? = some (cont (G0 D ids n0) h0m (0, 1, 5)) := rfl
set_option maxRecDepth 100000 in
theorem zc_54 (D : va_G) (ids : ClassId × ClassId × ClassId × ClassId) (n0 : Nat) : (qX7 (G0 D ids n0) n0)[54]? = some (cont (G0 D ids n0) h0m (0, 1, 6)) := rfl
set_option maxRecDepth 100000 in
theorem zc_4 (D : va_G) (ids : ClassId × ClassId × ClassId × ClassId) (n0 : Nat) : (qX7 (G0 D ids n0) n0)[4]? = some (cont (G0 D ids n0) h0m (1, 0, 0)) := rfl
set_option maxRecDepth 100000 in
theorem zc_5 (D : va_G) (ids : ClassId × ClassId × ClassId × ClassId) (n0 : Nat) : (qX7 (G0 D ids n0) n0)[5]? = some (cont (G0 D ids n0) h0m (1, 0, 1)) := rfl
set_option maxRecDepth 100000 in
theorem zc_6 (D : va_G) (ids : ClassId × ClassId × ClassId × ClassId) (n0 : Nat) : (qX7 (G0 D ids n0) n0)[6]? = some (cont (G0 D ids n0) h0m (1, 0, 2)) := rfl
set_option maxRecDepth 100000 in
theorem zc_7 (D : va_G) (ids : ClassId × ClassId × ClassId × ClassId) (n0 : Nat) : (qX7 (G0 D ids n0) n0)[7]? = some (cont (G0 D ids n0) h0m (2, 0, 0)) := rfl
set_option maxRecDepth 100000 in
theorem zc_8 (D : va_G) (ids : ClassId × ClassId × ClassId × ClassId) (n0 : Nat) : (qX7 (G0 D ids n0) n0)[8]? = some (cont (G0 D ids n0) h0m (2, 0, 1)) := rfl
set_option maxRecDepth 100000 in
theorem zc_9 (D : va_G) (ids : ClassId × ClassId × ClassId × ClassId) (n0 : Nat) : (qX7 (G0 D ids n0) n0)[9]? = some (cont (G0 D ids n0) h0m (2, 0, 2)) := rfl
set_option maxRecDepth 100000 in
theorem zc_10 (D : va_G) (ids : ClassId × ClassId × ClassId × ClassId) (n0 : Nat) : (qX7 (G0 D ids n0) n0)[10]? = some (cont (G0 D ids n0) h0m (2, 0, 3)) := rfl
set_option maxRecDepth 100000 in
theorem zc_11 (D : va_G) (ids : ClassId × ClassId × ClassId × ClassId) (n0 : Nat) : (qX7 (G0 D ids n0) n0)[11]? = some (cont (G0 D ids n0) h0m (2, 0, 4)) := rfl
set_option maxRecDepth 100000 in
theorem zc_55 (D : va_G) (ids : ClassId × ClassId × ClassId × ClassId) (n0 : Nat) : (qX7 (G0 D ids n0) n0)[55]? = some (cont (G0 D ids n0) h0m (3, 0, 0)) := rfl
set_option maxRecDepth 100000 in
theorem zc_56 (D : va_G) (ids : ClassId × ClassId × ClassId × ClassId) (n0 : Nat) : (qX7 (G0 D ids n0) n0)[56]? = some (cont (G0 D ids n0) h0m (3, 0, 1)) := rfl
set_option maxRecDepth 100000 in
theorem zc_57 (D : va_G) (ids : ClassId × ClassId × ClassId × ClassId) (n0 : Nat) : (qX7 (G0 D ids n0) n0)[57]? = some (cont (G0 D ids n0) h0m (3, 0, 2)) := rfl
set_option maxRecDepth 100000 in
theorem zc_58 (D : va_G) (ids : ClassId × ClassId × ClassId × ClassId) (n0 : Nat) : (qX7 (G0 D ids n0) n0)[58]? = some (cont (G0 D ids n0) h0m (3, 0, 3)) := rfl
set_option maxRecDepth 100000 in
theorem zc_59 (D : va_G) (ids : ClassId × ClassId × ClassId × ClassId) (n0 : Nat) : (qX7 (G0 D ids n0) n0)[59]? = some (cont (G0 D ids n0) h0m (3, 0, 4)) := rfl
set_option maxRecDepth 100000 in
theorem zc_60 (D : va_G) (ids : ClassId × ClassId × ClassId × ClassId) (n0 : Nat) : (qX7 (G0 D ids n0) n0)[60]? = some (cont (G0 D ids n0) h0m (3, 0, 5)) := rfl
set_option maxRecDepth 100000 in
theorem zc_61 (D : va_G) (ids : ClassId × ClassId × ClassId × ClassId) (n0 : Nat) : (qX7 (G0 D ids n0) n0)[61]? = some (cont (G0 D ids n0) h0m (3, 0, 6)) := rfl
set_option maxRecDepth 100000 in
theorem zc_62 (D : va_G) (ids : ClassId × ClassId × ClassId × ClassId) (n0 : Nat) : (qX7 (G0 D ids n0) n0)[62]? = some (cont (G0 D ids n0) h0m (3, 0, 7)) := rfl
set_option maxRecDepth 100000 in
theorem zc_63 (D : va_G) (ids : ClassId × ClassId × ClassId × ClassId) (n0 : Nat) : (qX7 (G0 D ids n0) n0)[63]? = some (cont (G0 D ids n0) h0m (3, 0, 8)) := rfl
set_option maxRecDepth 100000 in
theorem zc_64 (D : va_G) (ids : ClassId × ClassId × ClassId × ClassId) (n0 : Nat) : (qX7 (G0 D ids n0) n0)[64]? = some (cont (G0 D ids n0) h0m (3, 0, 9)) := rfl
set_option maxRecDepth 100000 in
theorem zc_65 (D : va_G) (ids : ClassId × ClassId × ClassId × ClassId) (n0 : Nat) : (qX7 (G0 D ids n0) n0)[65]? = some (cont (G0 D ids n0) h0m (3, 0, 10)) := rfl
set_option maxRecDepth 100000 in
theorem zc_66 (D : va_G) (ids : ClassId × ClassId × ClassId × ClassId) (n0 : Nat) : (qX7 (G0 D ids n0) n0)[66]? = some (cont (G0 D ids n0) h0m (3, 1, 0)) := rfl
set_option maxRecDepth 100000 in
theorem zc_67 (D : va_G) (ids : ClassId × ClassId × ClassId × ClassId) (n0 : Nat) : (qX7 (G0 D ids n0) n0)[67]? = some (cont (G0 D ids n0) h0m (3, 1, 1)) := rfl
set_option maxRecDepth 100000 in
theorem zc_68 (D : va_G) (ids : ClassId × ClassId × ClassId × ClassId) (n0 : Nat) : (qX7 (G0 D ids n0) n0)[68]? = some (cont (G0 D ids n0) h0m (3, 1, 2)) := rfl
set_option maxRecDepth 100000 in
theorem zc_69 (D : va_G) (ids : ClassId × ClassId × ClassId × ClassId) (n0 : Nat) : (qX7 (G0 D ids n0) n0)[69]? = some (cont (G0 D ids n0) h0m (3, 1, 3)) := rfl
set_option maxRecDepth 100000 in
theorem zc_70 (D : va_G) (ids : ClassId × ClassId × ClassId × ClassId) (n0 : Nat) : (qX7 (G0 D ids n0) n0)[70]? = some (cont (G0 D ids n0) h0m (3, 1, 4)) := rfl
set_option maxRecDepth 100000 in
theorem zc_71 (D : va_G) (ids : ClassId × ClassId × ClassId × ClassId) (n0 : Nat) : (qX7 (G0 D ids n0) n0)[71]? = some (cont (G0 D ids n0) h0m (3, 1, 5)) := rfl
set_option maxRecDepth 100000 in
theorem zc_72 (D : va_G) (ids : ClassId × ClassId × ClassId × ClassId) (n0 : Nat) : (qX7 (G0 D ids n0) n0)[72]? = some (cont (G0 D ids n0) h0m (3, 1, 6)) := rfl
set_option maxRecDepth 100000 in
theorem zc_73 (D : va_G) (ids : ClassId × ClassId × ClassId × ClassId) (n0 : Nat) : (qX7 (G0 D ids n0) n0)[73]? = some (cont (G0 D ids n0) h0m (3, 1, 7)) := rfl
set_option maxRecDepth 100000 in
theorem zc_74 (D : va_G) (ids : ClassId × ClassId × ClassId × ClassId) (n0 : Nat) : (qX7 (G0 D ids n0) n0)[74]? = some (cont (G0 D ids n0) h0m (3, 1, 8)) := rfl
set_option maxRecDepth 100000 in
theorem zc_75 (D : va_G) (ids : ClassId × ClassId × ClassId × ClassId) (n0 : Nat) : (qX7 (G0 D ids n0) n0)[75]? = some (cont (G0 D ids n0) h0m (3, 1, 9)) := rfl
set_option maxRecDepth 100000 in
theorem zc_76 (D : va_G) (ids : ClassId × ClassId × ClassId × ClassId) (n0 : Nat) : (qX7 (G0 D ids n0) n0)[76]? = some (cont (G0 D ids n0) h0m (3, 1, 10)) := rfl
set_option maxRecDepth 100000 in
theorem zc_77 (D : va_G) (ids : ClassId × ClassId × ClassId × ClassId) (n0 : Nat) : (qX7 (G0 D ids n0) n0)[77]? = some (cont (G0 D ids n0) h0m (3, 2, 0)) := rfl
set_option maxRecDepth 100000 in
theorem zc_78 (D : va_G) (ids : ClassId × ClassId × ClassId × ClassId) (n0 : Nat) : (qX7 (G0 D ids n0) n0)[78]? = some (cont (G0 D ids n0) h0m (3, 2, 1)) := rfl
set_option maxRecDepth 100000 in
theorem zc_79 (D : va_G) (ids : ClassId × ClassId × ClassId × ClassId) (n0 : Nat) : (qX7 (G0 D ids n0) n0)[79]? = some (cont (G0 D ids n0) h0m (3, 2, 2)) := rfl
set_option maxRecDepth 100000 in
theorem zc_80 (D : va_G) (ids : ClassId × ClassId × ClassId × ClassId) (n0 : Nat) : (qX7 (G0 D ids n0) n0)[80]? = some (cont (G0 D ids n0) h0m (3, 2, 3)) := rfl
set_option maxRecDepth 100000 in
theorem zc_81 (D : va_G) (ids : ClassId × ClassId × ClassId × ClassId) (n0 : Nat) : (qX7 (G0 D ids n0) n0)[81]? = some (cont (G0 D ids n0) h0m (3, 2, 4)) := rfl
set_option maxRecDepth 100000 in
theorem zc_82 (D : va_G) (ids : ClassId × ClassId × ClassId × ClassId) (n0 : Nat) : (qX7 (G0 D ids n0) n0)[82]? = some (cont (G0 D ids n0) h0m (3, 2, 5)) := rfl
set_option maxRecDepth 100000 in
theorem zc_83 (D : va_G) (ids : ClassId × ClassId × ClassId × ClassId) (n0 : Nat) : (qX7 (G0 D ids n0) n0)[83]? = some (cont (G0 D ids n0) h0m (3, 2, 6)) := rfl
set_option maxRecDepth 100000 in
theorem zc_84 (D : va_G) (ids : ClassId × ClassId × ClassId × ClassId) (n0 : Nat) : (qX7 (G0 D ids n0) n0)[84]? = some (cont (G0 D ids n0) h0m (3, 2, 7)) := rfl
set_option maxRecDepth 100000 in
theorem zc_85 (D : va_G) (ids : ClassId × ClassId × ClassId × ClassId) (n0 : Nat) : (qX7 (G0 D ids n0) n0)[85]? = some (cont (G0 D ids n0) h0m (3, 2, 8)) := rfl
set_option maxRecDepth 100000 in
theorem zc_86 (D : va_G) (ids : ClassId × ClassId × ClassId × ClassId) (n0 : Nat) : (qX7 (G0 D ids n0) n0)[86]? = some (cont (G0 D ids n0) h0m (3, 2, 9)) := rfl
set_option maxRecDepth 100000 in
theorem zc_87 (D : va_G) (ids : ClassId × ClassId × ClassId × ClassId) (n0 : Nat) : (qX7 (G0 D ids n0) n0)[87]? = some (cont (G0 D ids n0) h0m (3, 2, 10)) := rfl
set_option maxRecDepth 100000 in
theorem zc_89 (D : va_G) (ids : ClassId × ClassId × ClassId × ClassId) (n0 : Nat) : (qX7 (G0 D ids n0) n0)[89]? = some (cont (G0 D ids n0) h0m (3, 3, 0)) := rfl
set_option maxRecDepth 100000 in
theorem zc_90 (D : va_G) (ids : ClassId × ClassId × ClassId × ClassId) (n0 : Nat) : (qX7 (G0 D ids n0) n0)[90]? = some (cont (G0 D ids n0) h0m (3, 3, 1)) := rfl
set_option maxRecDepth 100000 in
theorem zc_91 (D : va_G) (ids : ClassId × ClassId × ClassId × ClassId) (n0 : Nat) : (qX7 (G0 D ids n0) n0)[91]? = some (cont (G0 D ids n0) h0m (3, 3, 2)) := rfl
set_option maxRecDepth 100000 in
theorem zc_92 (D : va_G) (ids : ClassId × ClassId × ClassId × ClassId) (n0 : Nat) : (qX7 (G0 D ids n0) n0)[92]? = some (cont (G0 D ids n0) h0m (3, 3, 3)) := rfl
set_option maxRecDepth 100000 in
theorem zc_93 (D : va_G) (ids : ClassId × ClassId × ClassId × ClassId) (n0 : Nat) : (qX7 (G0 D ids n0) n0)[93]? = some (cont (G0 D ids n0) h0m (3, 3, 4)) := rfl
set_option maxRecDepth 100000 in
theorem zc_94 (D : va_G) (ids : ClassId × ClassId × ClassId × ClassId) (n0 : Nat) : (qX7 (G0 D ids n0) n0)[94]? = some (cont (G0 D ids n0) h0m (3, 3, 5)) := rfl
set_option maxRecDepth 100000 in
theorem zc_95 (D : va_G) (ids : ClassId × ClassId × ClassId × ClassId) (n0 : Nat) : (qX7 (G0 D ids n0) n0)[95]? = some (cont (G0 D ids n0) h0m (3, 3, 6)) := rfl
set_option maxRecDepth 100000 in
theorem zc_96 (D : va_G) (ids : ClassId × ClassId × ClassId × ClassId) (n0 : Nat) : (qX7 (G0 D ids n0) n0)[96]? = some (cont (G0 D ids n0) h0m (3, 3, 7)) := rfl
set_option maxRecDepth 100000 in
theorem zc_97 (D : va_G) (ids : ClassId × ClassId × ClassId × ClassId) (n0 : Nat) : (qX7 (G0 D ids n0) n0)[97]? = some (cont (G0 D ids n0) h0m (3, 3, 8)) := rfl
set_option maxRecDepth 100000 in
theorem zc_98 (D : va_G) (ids : ClassId × ClassId × ClassId × ClassId) (n0 : Nat) : (qX7 (G0 D ids n0) n0)[98]? = some (cont (G0 D ids n0) h0m (3, 3, 9)) := rfl
set_option maxRecDepth 100000 in
theorem zc_99 (D : va_G) (ids : ClassId × ClassId × ClassId × ClassId) (n0 : Nat) : (qX7 (G0 D ids n0) n0)[99]? = some (cont (G0 D ids n0) h0m (3, 3, 10)) := rfl
set_option maxRecDepth 100000 in
theorem zc_100 (D : va_G) (ids : ClassId × ClassId × ClassId × ClassId) (n0 : Nat) : (qX7 (G0 D ids n0) n0)[100]? = some (cont (G0 D ids n0) h0m (3, 4, 0)) := rfl
set_option maxRecDepth 100000 in
theorem zc_101 (D : va_G) (ids : ClassId × ClassId × ClassId × ClassId) (n0 : Nat) : (qX7 (G0 D ids n0) n0)[101]? = some (cont (G0 D ids n0) h0m (3, 4, 1)) := rfl
set_option maxRecDepth 100000 in
theorem zc_102 (D : va_G) (ids : ClassId × ClassId × ClassId × ClassId) (n0 : Nat) : (qX7 (G0 D ids n0) n0)[102]? = some (cont (G0 D ids n0) h0m (3, 4, 2)) := rfl
set_option maxRecDepth 100000 in
theorem zc_103 (D : va_G) (ids : ClassId × ClassId × ClassId × ClassId) (n0 : Nat) : (qX7 (G0 D ids n0) n0)[103]? = some (cont (G0 D ids n0) h0m (3, 4, 3)) := rfl
set_option maxRecDepth 100000 in
theorem zc_104 (D : va_G) (ids : ClassId × ClassId × ClassId × ClassId) (n0 : Nat) : (qX7 (G0 D ids n0) n0)[104]? = some (cont (G0 D ids n0) h0m (3, 4, 4)) := rfl
set_option maxRecDepth 100000 in
theorem zc_105 (D : va_G) (ids : ClassId × ClassId × ClassId × ClassId) (n0 : Nat) : (qX7 (G0 D ids n0) n0)[105]? = some (cont (G0 D ids n0) h0m (3, 4, 5)) := rfl
set_option maxRecDepth 100000 in
theorem zc_106 (D : va_G) (ids : ClassId × ClassId × ClassId × ClassId) (n0 : Nat) : (qX7 (G0 D ids n0) n0)[106]? = some (cont (G0 D ids n0) h0m (3, 4, 6)) := rfl
set_option maxRecDepth 100000 in
theorem zc_107 (D : va_G) (ids : ClassId × ClassId × ClassId × ClassId) (n0 : Nat) : (qX7 (G0 D ids n0) n0)[107]? = some (cont (G0 D ids n0) h0m (3, 4, 7)) := rfl
set_option maxRecDepth 100000 in
theorem zc_108 (D : va_G) (ids : ClassId × ClassId × ClassId × ClassId) (n0 : Nat) : (qX7 (G0 D ids n0) n0)[108]? = some (cont (G0 D ids n0) h0m (3, 4, 8)) := rfl
set_option maxRecDepth 100000 in
theorem zc_109 (D : va_G) (ids : ClassId × ClassId × ClassId × ClassId) (n0 : Nat) : (qX7 (G0 D ids n0) n0)[109]? = some (cont (G0 D ids n0) h0m (3, 4, 9)) := rfl
set_option maxRecDepth 100000 in
theorem zc_110 (D : va_G) (ids : ClassId × ClassId × ClassId × ClassId) (n0 : Nat) : (qX7 (G0 D ids n0) n0)[110]? = some (cont (G0 D ids n0) h0m (3, 4, 10)) := rfl
set_option maxRecDepth 100000 in
theorem zc_111 (D : va_G) (ids : ClassId × ClassId × ClassId × ClassId) (n0 : Nat) : (qX7 (G0 D ids n0) n0)[111]? = some (cont (G0 D ids n0) h0m (3, 5, 0)) := rfl
set_option maxRecDepth 100000 in
theorem zc_112 (D : va_G) (ids : ClassId × ClassId × ClassId × ClassId) (n0 : Nat) : (qX7 (G0 D ids n0) n0)[112]? = some (cont (G0 D ids n0) h0m (3, 5, 1)) := rfl
set_option maxRecDepth 100000 in
theorem zc_113 (D : va_G) (ids : ClassId × ClassId × ClassId × ClassId) (n0 : Nat) : (qX7 (G0 D ids n0) n0)[113]? = some (cont (G0 D ids n0) h0m (3, 5, 2)) := rfl
set_option maxRecDepth 100000 in
theorem zc_114 (D : va_G) (ids : ClassId × ClassId × ClassId × ClassId) (n0 : Nat) : (qX7 (G0 D ids n0) n0)[114]? = some (cont (G0 D ids n0) h0m (3, 5, 3)) := rfl
set_option maxRecDepth 100000 in
theorem zc_115 (D : va_G) (ids : ClassId × ClassId × ClassId × ClassId) (n0 : Nat) : (qX7 (G0 D ids n0) n0)[115]? = some (cont (G0 D ids n0) h0m (3, 5, 4)) := rfl
set_option maxRecDepth 100000 in
theorem zc_116 (D : va_G) (ids : ClassId × ClassId × ClassId × ClassId) (n0 : Nat) : (qX7 (G0 D ids n0) n0)[116]? = some (cont (G0 D ids n0) h0m (3, 5, 5)) := rfl
set_option maxRecDepth 100000 in
theorem zc_117 (D : va_G) (ids : ClassId × ClassId × ClassId × ClassId) (n0 : Nat) : (qX7 (G0 D ids n0) n0)[117]? = some (cont (G0 D ids n0) h0m (3, 5, 6)) := rfl
set_option maxRecDepth 100000 in
theorem zc_118 (D : va_G) (ids : ClassId × ClassId × ClassId × ClassId) (n0 : Nat) : (qX7 (G0 D ids n0) n0)[118]? = some (cont (G0 D ids n0) h0m (3, 5, 7)) := rfl
set_option maxRecDepth 100000 in
theorem zc_119 (D : va_G) (ids : ClassId × ClassId × ClassId × ClassId) (n0 : Nat) : (qX7 (G0 D ids n0) n0)[119]? = some (cont (G0 D ids n0) h0m (3, 5, 8)) := rfl
set_option maxRecDepth 100000 in
theorem zc_120 (D : va_G) (ids : ClassId × ClassId × ClassId × ClassId) (n0 : Nat) : (qX7 (G0 D ids n0) n0)[120]? = some (cont (G0 D ids n0) h0m (3, 5, 9)) := rfl
set_option maxRecDepth 100000 in
theorem zc_121 (D : va_G) (ids : ClassId × ClassId × ClassId × ClassId) (n0 : Nat) : (qX7 (G0 D ids n0) n0)[121]? = some (cont (G0 D ids n0) h0m (3, 5, 10)) := rfl
set_option maxRecDepth 100000 in
theorem zc_122 (D : va_G) (ids : ClassId × ClassId × ClassId × ClassId) (n0 : Nat) : (qX7 (G0 D ids n0) n0)[122]? = some (cont (G0 D ids n0) h0m (3, 6, 0)) := rfl
set_option maxRecDepth 100000 in
theorem zc_123 (D : va_G) (ids : ClassId × ClassId × ClassId × ClassId) (n0 : Nat) : (qX7 (G0 D ids n0) n0)[123]? = some (cont (G0 D ids n0) h0m (3, 6, 1)) := rfl
set_option maxRecDepth 100000 in
theorem zc_124 (D : va_G) (ids : ClassId × ClassId × ClassId × ClassId) (n0 : Nat) : (qX7 (G0 D ids n0) n0)[124]? = some (cont (G0 D ids n0) h0m (3, 6, 2)) := rfl
set_option maxRecDepth 100000 in
theorem zc_125 (D : va_G) (ids : ClassId × ClassId × ClassId × ClassId) (n0 : Nat) : (qX7 (G0 D ids n0) n0)[125]? = some (cont (G0 D ids n0) h0m (3, 6, 3)) := rfl
set_option maxRecDepth 100000 in
theorem zc_126 (D : va_G) (ids : ClassId × ClassId × ClassId × ClassId) (n0 : Nat) : (qX7 (G0 D ids n0) n0)[126]? = some (cont (G0 D ids n0) h0m (3, 6, 4)) := rfl
set_option maxRecDepth 100000 in
theorem zc_127 (D : va_G) (ids : ClassId × ClassId × ClassId × ClassId) (n0 : Nat) : (qX7 (G0 D ids n0) n0)[127]? = some (cont (G0 D ids n0) h0m (3, 6, 5)) := rfl
set_option maxRecDepth 100000 in
theorem zc_128 (D : va_G) (ids : ClassId × ClassId × ClassId × ClassId) (n0 : Nat) : (qX7 (G0 D ids n0) n0)[128]? = some (cont (G0 D ids n0) h0m (3, 6, 6)) := rfl
set_option maxRecDepth 100000 in
theorem zc_129 (D : va_G) (ids : ClassId × ClassId × ClassId × ClassId) (n0 : Nat) : (qX7 (G0 D ids n0) n0)[129]? = some (cont (G0 D ids n0) h0m (3, 6, 7)) := rfl
set_option maxRecDepth 100000 in
theorem zc_130 (D : va_G) (ids : ClassId × ClassId × ClassId × ClassId) (n0 : Nat) : (qX7 (G0 D ids n0) n0)[130]? = some (cont (G0 D ids n0) h0m (3, 6, 8)) := rfl
set_option maxRecDepth 100000 in
theorem zc_131 (D : va_G) (ids : ClassId × ClassId × ClassId × ClassId) (n0 : Nat) : (qX7 (G0 D ids n0) n0)[131]? = some (cont (G0 D ids n0) h0m (3, 6, 9)) := rfl
set_option maxRecDepth 100000 in
theorem zc_132 (D : va_G) (ids : ClassId × ClassId × ClassId × ClassId) (n0 : Nat) : (qX7 (G0 D ids n0) n0)[132]? = some (cont (G0 D ids n0) h0m (3, 6, 10)) := rfl
set_option maxRecDepth 100000 in
theorem zc_133 (D : va_G) (ids : ClassId × ClassId × ClassId × ClassId) (n0 : Nat) : (qX7 (G0 D ids n0) n0)[133]? = some (cont (G0 D ids n0) h0m (3, 7, 0)) := rfl
set_option maxRecDepth 100000 in
theorem zc_134 (D : va_G) (ids : ClassId × ClassId × ClassId × ClassId) (n0 : Nat) : (qX7 (G0 D ids n0) n0)[134]? = some (cont (G0 D ids n0) h0m (3, 7, 1)) := rfl
set_option maxRecDepth 100000 in
theorem zc_135 (D : va_G) (ids : ClassId × ClassId × ClassId × ClassId) (n0 : Nat) : (qX7 (G0 D ids n0) n0)[135]? = some (cont (G0 D ids n0) h0m (3, 7, 2)) := rfl
set_option maxRecDepth 100000 in
theorem zc_136 (D : va_G) (ids : ClassId × ClassId × ClassId × ClassId) (n0 : Nat) : (qX7 (G0 D ids n0) n0)[136]? = some (cont (G0 D ids n0) h0m (3, 7, 3)) := rfl
set_option maxRecDepth 100000 in
theorem zc_137 (D : va_G) (ids : ClassId × ClassId × ClassId × ClassId) (n0 : Nat) : (qX7 (G0 D ids n0) n0)[137]? = some (cont (G0 D ids n0) h0m (3, 7, 4)) := rfl
set_option maxRecDepth 100000 in
theorem zc_138 (D : va_G) (ids : ClassId × ClassId × ClassId × ClassId) (n0 : Nat) : (qX7 (G0 D ids n0) n0)[138]? = some (cont (G0 D ids n0) h0m (3, 7, 5)) := rfl
set_option maxRecDepth 100000 in
theorem zc_139 (D : va_G) (ids : ClassId × ClassId × ClassId × ClassId) (n0 : Nat) : (qX7 (G0 D ids n0) n0)[139]? = some (cont (G0 D ids n0) h0m (3, 7, 6)) := rfl
set_option maxRecDepth 100000 in
theorem zc_140 (D : va_G) (ids : ClassId × ClassId × ClassId × ClassId) (n0 : Nat) : (qX7 (G0 D ids n0) n0)[140]? = some (cont (G0 D ids n0) h0m (3, 7, 7)) := rfl
set_option maxRecDepth 100000 in
theorem zc_141 (D : va_G) (ids : ClassId × ClassId × ClassId × ClassId) (n0 : Nat) : (qX7 (G0 D ids n0) n0)[141]? = some (cont (G0 D ids n0) h0m (3, 7, 8)) := rfl
set_option maxRecDepth 100000 in
theorem zc_142 (D : va_G) (ids : ClassId × ClassId × ClassId × ClassId) (n0 : Nat) : (qX7 (G0 D ids n0) n0)[142]? = some (cont (G0 D ids n0) h0m (3, 7, 9)) := rfl
set_option maxRecDepth 100000 in
theorem zc_143 (D : va_G) (ids : ClassId × ClassId × ClassId × ClassId) (n0 : Nat) : (qX7 (G0 D ids n0) n0)[143]? = some (cont (G0 D ids n0) h0m (3, 7, 10)) := rfl
set_option maxRecDepth 100000 in
theorem zc_144 (D : va_G) (ids : ClassId × ClassId × ClassId × ClassId) (n0 : Nat) : (qX7 (G0 D ids n0) n0)[144]? = some (cont (G0 D ids n0) h0m (3, 8, 0)) := rfl
set_option maxRecDepth 100000 in
theorem zc_145 (D : va_G) (ids : ClassId × ClassId × ClassId × ClassId) (n0 : Nat) : (qX7 (G0 D ids n0) n0)[145]? = some (cont (G0 D ids n0) h0m (3, 8, 1)) := rfl
set_option maxRecDepth 100000 in
theorem zc_146 (D : va_G) (ids : ClassId × ClassId × ClassId × ClassId) (n0 : Nat) : (qX7 (G0 D ids n0) n0)[146]? = some (cont (G0 D ids n0) h0m (3, 8, 2)) := rfl
set_option maxRecDepth 100000 in
theorem zc_147 (D : va_G) (ids : ClassId × ClassId × ClassId × ClassId) (n0 : Nat) : (qX7 (G0 D ids n0) n0)[147]? = some (cont (G0 D ids n0) h0m (3, 8, 3)) := rfl
set_option maxRecDepth 100000 in
theorem zc_148 (D : va_G) (ids : ClassId × ClassId × ClassId × ClassId) (n0 : Nat) : (qX7 (G0 D ids n0) n0)[148]? = some (cont (G0 D ids n0) h0m (3, 8, 4)) := rfl
set_option maxRecDepth 100000 in
theorem zc_149 (D : va_G) (ids : ClassId × ClassId × ClassId × ClassId) (n0 : Nat) : (qX7 (G0 D ids n0) n0)[149]? = some (cont (G0 D ids n0) h0m (3, 8, 5)) := rfl
set_option maxRecDepth 100000 in
theorem zc_150 (D : va_G) (ids : ClassId × ClassId × ClassId × ClassId) (n0 : Nat) : (qX7 (G0 D ids n0) n0)[150]? = some (cont (G0 D ids n0) h0m (3, 8, 6)) := rfl
set_option maxRecDepth 100000 in
theorem zc_151 (D : va_G) (ids : ClassId × ClassId × ClassId × ClassId) (n0 : Nat) : (qX7 (G0 D ids n0) n0)[151]? = some (cont (G0 D ids n0) h0m (3, 8, 7)) := rfl
set_option maxRecDepth 100000 in
theorem zc_152 (D : va_G) (ids : ClassId × ClassId × ClassId × ClassId) (n0 : Nat) : (qX7 (G0 D ids n0) n0)[152]? = some (cont (G0 D ids n0) h0m (3, 8, 8)) := rfl
set_option maxRecDepth 100000 in
theorem zc_153 (D : va_G) (ids : ClassId × ClassId × ClassId × ClassId) (n0 : Nat) : (qX7 (G0 D ids n0) n0)[153]? = some (cont (G0 D ids n0) h0m (3, 8, 9)) := rfl
set_option maxRecDepth 100000 in
theorem zc_154 (D : va_G) (ids : ClassId × ClassId × ClassId × ClassId) (n0 : Nat) : (qX7 (G0 D ids n0) n0)[154]? = some (cont (G0 D ids n0) h0m (3, 8, 10)) := rfl
set_option maxRecDepth 100000 in
theorem zc_155 (D : va_G) (ids : ClassId × ClassId × ClassId × ClassId) (n0 : Nat) : (qX7 (G0 D ids n0) n0)[155]? = some (cont (G0 D ids n0) h0m (3, 9, 0)) := rfl
set_option maxRecDepth 100000 in
theorem zc_156 (D : va_G) (ids : ClassId × ClassId × ClassId × ClassId) (n0 : Nat) : (qX7 (G0 D ids n0) n0)[156]? = some (cont (G0 D ids n0) h0m (3, 9, 1)) := rfl
set_option maxRecDepth 100000 in
theorem zc_157 (D : va_G) (ids : ClassId × ClassId × ClassId × ClassId) (n0 : Nat) : (qX7 (G0 D ids n0) n0)[157]? = some (cont (G0 D ids n0) h0m (3, 9, 2)) := rfl
set_option maxRecDepth 100000 in
theorem zc_158 (D : va_G) (ids : ClassId × ClassId × ClassId × ClassId) (n0 : Nat) : (qX7 (G0 D ids n0) n0)[158]? = some (cont (G0 D ids n0) h0m (3, 9, 3)) := rfl
set_option maxRecDepth 100000 in
theorem zc_159 (D : va_G) (ids : ClassId × ClassId × ClassId × ClassId) (n0 : Nat) : (qX7 (G0 D ids n0) n0)[159]? = some (cont (G0 D ids n0) h0m (3, 9, 4)) := rfl
set_option maxRecDepth 100000 in
theorem zc_160 (D : va_G) (ids : ClassId × ClassId × ClassId × ClassId) (n0 : Nat) : (qX7 (G0 D ids n0) n0)[160]? = some (cont (G0 D ids n0) h0m (3, 9, 5)) := rfl
set_option maxRecDepth 100000 in
theorem zc_161 (D : va_G) (ids : ClassId × ClassId × ClassId × ClassId) (n0 : Nat) : (qX7 (G0 D ids n0) n0)[161]? = some (cont (G0 D ids n0) h0m (3, 9, 6)) := rfl
set_option maxRecDepth 100000 in
theorem zc_162 (D : va_G) (ids : ClassId × ClassId × ClassId × ClassId) (n0 : Nat) : (qX7 (G0 D ids n0) n0)[162]? = some (cont (G0 D ids n0) h0m (3, 9, 7)) := rfl
set_option maxRecDepth 100000 in
theorem zc_163 (D : va_G) (ids : ClassId × ClassId × ClassId × ClassId) (n0 : Nat) : (qX7 (G0 D ids n0) n0)[163]? = some (cont (G0 D ids n0) h0m (3, 9, 8)) := rfl
set_option maxRecDepth 100000 in
theorem zc_164 (D : va_G) (ids : ClassId × ClassId × ClassId × ClassId) (n0 : Nat) : (qX7 (G0 D ids n0) n0)[164]? = some (cont (G0 D ids n0) h0m (3, 9, 9)) := rfl
set_option maxRecDepth 100000 in
theorem zc_165 (D : va_G) (ids : ClassId × ClassId × ClassId × ClassId) (n0 : Nat) : (qX7 (G0 D ids n0) n0)[165]? = some (cont (G0 D ids n0) h0m (3, 9, 10)) := rfl
set_option maxRecDepth 100000 in
theorem zc_1 (D : va_G) (ids : ClassId × ClassId × ClassId × ClassId) (n0 : Nat) : (qX7 (G0 D ids n0) n0)[1]? = some (cont (G0 D ids n0) h0m (4, 0, 0)) := rfl
set_option maxRecDepth 100000 in
theorem zc_2 (D : va_G) (ids : ClassId × ClassId × ClassId × ClassId) (n0 : Nat) : (qX7 (G0 D ids n0) n0)[2]? = some (cont (G0 D ids n0) h0m (4, 0, 1)) := rfl
set_option maxRecDepth 100000 in
theorem zc_3 (D : va_G) (ids : ClassId × ClassId × ClassId × ClassId) (n0 : Nat) : (qX7 (G0 D ids n0) n0)[3]? = some (cont (G0 D ids n0) h0m (4, 0, 2)) := rfl
set_option maxRecDepth 100000 in
theorem zc_21 (D : va_G) (ids : ClassId × ClassId × ClassId × ClassId) (n0 : Nat) : (qX7 (G0 D ids n0) n0)[21]? = some (cont (G0 D ids n0) h0m (5, 0, 0)) := rfl
set_option maxRecDepth 100000 in
theorem zc_22 (D : va_G) (ids : ClassId × ClassId × ClassId × ClassId) (n0 : Nat) : (qX7 (G0 D ids n0) n0)[22]? = some (cont (G0 D ids n0) h0m (5, 0, 1)) := rfl
set_option maxRecDepth 100000 in
theorem zc_23 (D : va_G) (ids : ClassId × ClassId × ClassId × ClassId) (n0 : Nat) : (qX7 (G0 D ids n0) n0)[23]? = some (cont (G0 D ids n0) h0m (5, 0, 2)) := rfl
set_option maxRecDepth 100000 in
theorem zc_24 (D : va_G) (ids : ClassId × ClassId × ClassId × ClassId) (n0 : Nat) : (qX7 (G0 D ids n0) n0)[24]? = some (cont (G0 D ids n0) h0m (5, 0, 3)) := rfl
set_option maxRecDepth 100000 in
theorem zc_25 (D : va_G) (ids : ClassId × ClassId × ClassId × ClassId) (n0 : Nat) : (qX7 (G0 D ids n0) n0)[25]? = some (cont (G0 D ids n0) h0m (5, 0, 4)) := rfl
set_option maxRecDepth 100000 in
theorem zc_26 (D : va_G) (ids : ClassId × ClassId × ClassId × ClassId) (n0 : Nat) : (qX7 (G0 D ids n0) n0)[26]? = some (cont (G0 D ids n0) h0m (5, 0, 5)) := rfl
set_option maxRecDepth 100000 in
theorem zc_27 (D : va_G) (ids : ClassId × ClassId × ClassId × ClassId) (n0 : Nat) : (qX7 (G0 D ids n0) n0)[27]? = some (cont (G0 D ids n0) h0m (5, 0, 6)) := rfl
set_option maxRecDepth 100000 in
theorem zc_28 (D : va_G) (ids : ClassId × ClassId × ClassId × ClassId) (n0 : Nat) : (qX7 (G0 D ids n0) n0)[28]? = some (cont (G0 D ids n0) h0m (5, 0, 7)) := rfl
set_option maxRecDepth 100000 in
theorem zc_29 (D : va_G) (ids : ClassId × ClassId × ClassId × ClassId) (n0 : Nat) : (qX7 (G0 D ids n0) n0)[29]? = some (cont (G0 D ids n0) h0m (5, 0, 8)) := rfl
set_option maxRecDepth 100000 in
theorem zc_30 (D : va_G) (ids : ClassId × ClassId × ClassId × ClassId) (n0 : Nat) : (qX7 (G0 D ids n0) n0)[30]? = some (cont (G0 D ids n0) h0m (5, 0, 9)) := rfl
set_option maxRecDepth 100000 in
theorem zc_38 (D : va_G) (ids : ClassId × ClassId × ClassId × ClassId) (n0 : Nat) : (qX7 (G0 D ids n0) n0)[38]? = some (cont (G0 D ids n0) h0m (5, 1, 0)) := rfl
set_option maxRecDepth 100000 in
theorem zc_39 (D : va_G) (ids : ClassId × ClassId × ClassId × ClassId) (n0 : Nat) : (qX7 (G0 D ids n0) n0)[39]? = some (cont (G0 D ids n0) h0m (5, 1, 1)) := rfl
set_option maxRecDepth 100000 in
theorem zc_40 (D : va_G) (ids : ClassId × ClassId × ClassId × ClassId) (n0 : Nat) : (qX7 (G0 D ids n0) n0)[40]? = some (cont (G0 D ids n0) h0m (5, 1, 2)) := rfl
set_option maxRecDepth 100000 in
theorem zc_41 (D : va_G) (ids : ClassId × ClassId × ClassId × ClassId) (n0 : Nat) : (qX7 (G0 D ids n0) n0)[41]? = some (cont (G0 D ids n0) h0m (5, 1, 3)) := rfl
set_option maxRecDepth 100000 in
theorem zc_42 (D : va_G) (ids : ClassId × ClassId × ClassId × ClassId) (n0 : Nat) : (qX7 (G0 D ids n0) n0)[42]? = some (cont (G0 D ids n0) h0m (5, 1, 4)) := rfl
set_option maxRecDepth 100000 in
theorem zc_43 (D : va_G) (ids : ClassId × ClassId × ClassId × ClassId) (n0 : Nat) : (qX7 (G0 D ids n0) n0)[43]? = some (cont (G0 D ids n0) h0m (5, 1, 5)) := rfl
set_option maxRecDepth 100000 in
theorem zc_44 (D : va_G) (ids : ClassId × ClassId × ClassId × ClassId) (n0 : Nat) : (qX7 (G0 D ids n0) n0)[44]? = some (cont (G0 D ids n0) h0m (5, 1, 6)) := rfl
set_option maxRecDepth 100000 in
theorem zc_45 (D : va_G) (ids : ClassId × ClassId × ClassId × ClassId) (n0 : Nat) : (qX7 (G0 D ids n0) n0)[45]? = some (cont (G0 D ids n0) h0m (5, 1, 7)) := rfl
set_option maxRecDepth 100000 in
theorem zc_46 (D : va_G) (ids : ClassId × ClassId × ClassId × ClassId) (n0 : Nat) : (qX7 (G0 D ids n0) n0)[46]? = some (cont (G0 D ids n0) h0m (5, 1, 8)) := rfl
set_option maxRecDepth 100000 in
theorem zc_47 (D : va_G) (ids : ClassId × ClassId × ClassId × ClassId) (n0 : Nat) : (qX7 (G0 D ids n0) n0)[47]? = some (cont (G0 D ids n0) h0m (5, 1, 9)) := rfl
set_option maxRecDepth 100000 in
theorem zc_12 (D : va_G) (ids : ClassId × ClassId × ClassId × ClassId) (n0 : Nat) : (qX7 (G0 D ids n0) n0)[12]? = some (cont (G0 D ids n0) h0m (6, 0, 0)) := rfl
set_option maxRecDepth 100000 in
theorem zc_13 (D : va_G) (ids : ClassId × ClassId × ClassId × ClassId) (n0 : Nat) : (qX7 (G0 D ids n0) n0)[13]? = some (cont (G0 D ids n0) h0m (6, 0, 1)) := rfl
set_option maxRecDepth 100000 in
theorem zc_14 (D : va_G) (ids : ClassId × ClassId × ClassId × ClassId) (n0 : Nat) : (qX7 (G0 D ids n0) n0)[14]? = some (cont (G0 D ids n0) h0m (6, 0, 2)) := rfl
set_option maxRecDepth 100000 in
theorem zc_15 (D : va_G) (ids : ClassId × ClassId × ClassId × ClassId) (n0 : Nat) : (qX7 (G0 D ids n0) n0)[15]? = some (cont (G0 D ids n0) h0m (6, 0, 3)) := rfl
set_option maxRecDepth 100000 in
theorem zc_0 (D : va_G) (ids : ClassId × ClassId × ClassId × ClassId) (n0 : Nat) : (qX7 (G0 D ids n0) n0)[0]? = some (cont (G0 D ids n0) h0m (7, 0, 0)) := rfl
set_option maxRecDepth 100000 in
theorem zc_16 (D : va_G) (ids : ClassId × ClassId × ClassId × ClassId) (n0 : Nat) : (qX7 (G0 D ids n0) n0)[16]? = some (cont (G0 D ids n0) h0m (7, 0, 1)) := rfl
set_option maxRecDepth 100000 in
theorem zc_17 (D : va_G) (ids : ClassId × ClassId × ClassId × ClassId) (n0 : Nat) : (qX7 (G0 D ids n0) n0)[17]? = some (cont (G0 D ids n0) h0m (7, 0, 2)) := rfl
set_option maxRecDepth 100000 in
theorem zc_18 (D : va_G) (ids : ClassId × ClassId × ClassId × ClassId) (n0 : Nat) : (qX7 (G0 D ids n0) n0)[18]? = some (cont (G0 D ids n0) h0m (7, 0, 3)) := rfl
set_option maxRecDepth 100000 in
theorem zc_19 (D : va_G) (ids : ClassId × ClassId × ClassId × ClassId) (n0 : Nat) : (qX7 (G0 D ids n0) n0)[19]? = some (cont (G0 D ids n0) h0m (7, 0, 4)) := rfl
set_option maxRecDepth 100000 in
theorem zc_20 (D : va_G) (ids : ClassId × ClassId × ClassId × ClassId) (n0 : Nat) : (qX7 (G0 D ids n0) n0)[20]? = some (cont (G0 D ids n0) h0m (7, 0, 5)) := rfl
theorem zc_88 (D : va_G) (ids : ClassId × ClassId × ClassId × ClassId) (n0 : Nat) : (qX7 (G0 D ids n0) n0)[88]? = some (.inl (ids.2.2.2, 7, .inr (.inr (.inr (.inr (stpF n0 7)))))) := rfl
def litL : List (Nat × Nat × Nat) := [(0, 0, 0), (0, 0, 1), (0, 0, 2), (0, 0, 3), (0, 0, 4), (0, 0, 5), (0, 0, 6), (0, 1, 0), (0, 1, 1), (0, 1, 2), (0, 1, 3), (0, 1, 4), (0, 1, 5), (0, 1, 6), (1, 0, 0), (1, 0, 1), (1, 0, 2), (2, 0, 0), (2, 0, 1), (2, 0, 2), (2, 0, 3), (2, 0, 4), (3, 0, 0), (3, 0, 1), (3, 0, 2), (3, 0, 3), (3, 0, 4), (3, 0, 5), (3, 0, 6), (3, 0, 7), (3, 0, 8), (3, 0, 9), (3, 0, 10), (3, 1, 0), (3, 1, 1), (3, 1, 2), (3, 1, 3), (3, 1, 4), (3, 1, 5), (3, 1, 6), (3, 1, 7), (3, 1, 8), (3, 1, 9), (3, 1, 10), (3, 2, 0), (3, 2, 1), (3, 2, 2), (3, 2, 3), (3, 2, 4), (3, 2, 5), (3, 2, 6), (3, 2, 7), (3, 2, 8), (3, 2, 9), (3, 2, 10), (3, 3, 0), (3, 3, 1), (3, 3, 2), (3, 3, 3), (3, 3, 4), (3, 3, 5), (3, 3, 6), (3, 3, 7), (3, 3, 8), (3, 3, 9), (3, 3, 10), (3, 4, 0), (3, 4, 1), (3, 4, 2), (3, 4, 3), (3, 4, 4), (3, 4, 5), (3, 4, 6), (3, 4, 7), (3, 4, 8), (3, 4, 9), (3, 4, 10), (3, 5, 0), (3, 5, 1), (3, 5, 2), (3, 5, 3), (3, 5, 4), (3, 5, 5), (3, 5, 6), (3, 5, 7), (3, 5, 8), (3, 5, 9), (3, 5, 10), (3, 6, 0), (3, 6, 1), (3, 6, 2), (3, 6, 3), (3, 6, 4), (3, 6, 5), (3, 6, 6), (3, 6, 7), (3, 6, 8), (3, 6, 9), (3, 6, 10), (3, 7, 0), (3, 7, 1), (3, 7, 2), (3, 7, 3), (3, 7, 4), (3, 7, 5), (3, 7, 6), (3, 7, 7), (3, 7, 8), (3, 7, 9), (3, 7, 10), (3, 8, 0), (3, 8, 1), (3, 8, 2), (3, 8, 3), (3, 8, 4), (3, 8, 5), (3, 8, 6), (3, 8, 7), (3, 8, 8), (3, 8, 9), (3, 8, 10), (3, 9, 0), (3, 9, 1), (3, 9, 2), (3, 9, 3), (3, 9, 4), (3, 9, 5), (3, 9, 6), (3, 9, 7), (3, 9, 8), (3, 9, 9), (3, 9, 10), (4, 0, 0), (4, 0, 1), (4, 0, 2), (5, 0, 0), (5, 0, 1), (5, 0, 2), (5, 0, 3), (5, 0, 4), (5, 0, 5), (5, 0, 6), (5, 0, 7), (5, 0, 8), (5, 0, 9), (5, 1, 0), (5, 1, 1), (5, 1, 2), (5, 1, 3), (5, 1, 4), (5, 1, 5), (5, 1, 6), (5, 1, 7), (5, 1, 8), (5, 1, 9), (6, 0, 0), (6, 0, 1), (6, 0, 2), (6, 0, 3), (7, 0, 0), (7, 0, 1), (7, 0, 2), (7, 0, 3), (7, 0, 4), (7, 0, 5), (7, 0, 6)]
set_option maxRecDepth 100000 in
theorem lit_eq : locL = litL := by decide +kernel
theorem z_31 (D : va_G) (ids : ClassId × ClassId × ClassId × ClassId) (n0 : Nat) {H : Heap} (h7 : ∀ (i : Nat) (e : va_E), (qX7 (G0 D ids n0) n0)[i]? = some e → va_at D vwCl (n0 + i, e) H) : va_at D vwCl (adr (G0 D ids n0) 0 0 0, cont (G0 D ids n0) h0m (0, 0, 0)) H := h7 31 _ (zc_31 D ids n0)
theorem z_32 (D : va_G) (ids : ClassId × ClassId × ClassId × ClassId) (n0 : Nat) {H : Heap} (h7 : ∀ (i : Nat) (e : va_E), (qX7 (G0 D ids n0) n0)[i]? = some e → va_at D vwCl (n0 + i, e) H) : va_at D vwCl (adr (G0 D ids n0) 0 0 1, cont (G0 D ids n0) h0m (0, 0, 1)) H := h7 32 _ (zc_32 D ids n0)
theorem z_33 (D : va_G) (ids : ClassId × ClassId × ClassId × ClassId) (n0 : Nat) {H : Heap} (h7 : ∀ (i : Nat) (e : va_E), (qX7 (G0 D ids n0) n0)[i]? = some e → va_at D vwCl (n0 + i, e) H) : va_at D vwCl (adr (G0 D ids n0) 0 0 2, cont (G0 D ids n0) h0m (0, 0, 2)) H := h7 33 _ (zc_33 D ids n0)
theorem z_34 (D : va_G) (ids : ClassId × ClassId × ClassId × ClassId) (n0 : Nat) {H : Heap} (h7 : ∀ (i : Nat) (e : va_E), (qX7 (G0 D ids n0) n0)[i]? = some e → va_at D vwCl (n0 + i, e) H) : va_at D vwCl (adr (G0 D ids n0) 0 0 3, cont (G0 D ids n0) h0m (0, 0, 3)) H := h7 34 _ (zc_34 D ids n0)
theorem z_35 (D : va_G) (ids : ClassId × ClassId × ClassId × ClassId) (n0 : Nat) {H : Heap} (h7 : ∀ (i : Nat) (e : va_E), (qX7 (G0 D ids n0) n0)[i]? = some e → va_at D vwCl (n0 + i, e) H) : va_at D vwCl (adr (G0 D ids n0) 0 0 4, cont (G0 D ids n0) h0m (0, 0, 4)) H := h7 35 _ (zc_35 D ids n0)
theorem z_36 (D : va_G) (ids : ClassId × ClassId × ClassId × ClassId) (n0 : Nat) {H : Heap} (h7 : ∀ (i : Nat) (e : va_E), (qX7 (G0 D ids n0) n0)[i]? = some e → va_at D vwCl (n0 + i, e) H) : va_at D vwCl (adr (G0 D ids n0) 0 0 5, cont (G0 D ids n0) h0m (0, 0, 5)) H := h7 36 _ (zc_36 D ids n0)
theorem z_37 (D : va_G) (ids : ClassId × ClassId × ClassId × ClassId) (n0 : Nat) {H : Heap} (h7 : ∀ (i : Nat) (e : va_E), (qX7 (G0 D ids n0) n0)[i]? = some e → va_at D vwCl (n0 + i, e) H) : va_at D vwCl (adr (G0 D ids n0) 0 0 6, cont (G0 D ids n0) h0m (0, 0, 6)) H := h7 37 _ (zc_37 D ids n0)
theorem z_48 (D : va_G) (ids : ClassId × ClassId × ClassId × ClassId) (n0 : Nat) {H : Heap} (h7 : ∀ (i : Nat) (e : va_E), (qX7 (G0 D ids n0) n0)[i]? = some e → va_at D vwCl (n0 + i, e) H) : va_at D vwCl (adr (G0 D ids n0) 0 1 0, cont (G0 D ids n0) h0m (0, 1, 0)) H := h7 48 _ (zc_48 D ids n0)
theorem z_49 (D : va_G) (ids : ClassId × ClassId × ClassId × ClassId) (n0 : Nat) {H : Heap} (h7 : ∀ (i : Nat) (e : va_E), (qX7 (G0 D ids n0) n0)[i]? = some e → va_at D vwCl (n0 + i, e) H) : va_at D vwCl (adr (G0 D ids n0) 0 1 1, cont (G0 D ids n0) h0m (0, 1, 1)) H := h7 49 _ (zc_49 D ids n0)
theorem z_50 (D : va_G) (ids : ClassId × ClassId × ClassId × ClassId) (n0 : Nat) {H : Heap} (h7 : ∀ (i : Nat) (e : va_E), (qX7 (G0 D ids n0) n0)[i]? = some e → va_at D vwCl (n0 + i, e) H) : va_at D vwCl (adr (G0 D ids n0) 0 1 2, cont (G0 D ids n0) h0m (0, 1, 2)) H := h7 50 _ (zc_50 D ids n0)
theorem z_51 (D : va_G) (ids : ClassId × ClassId × ClassId × ClassId) (n0 : Nat) {H : Heap} (h7 : ∀ (i : Nat) (e : va_E), (qX7 (G0 D ids n0) n0)[i]? = some e → va_at D vwCl (n0 + i, e) H) : va_at D vwCl (adr (G0 D ids n0) 0 1 3, cont (G0 D ids n0) h0m (0, 1, 3)) H := h7 51 _ (zc_51 D ids n0)
theorem z_52 (D : va_G) (ids : ClassId × ClassId × ClassId × ClassId) (n0 : Nat) {H : Heap} (h7 : ∀ (i : Nat) (e : va_E), (qX7 (G0 D ids n0) n0)[i]? = some e → va_at D vwCl (n0 + i, e) H) : va_at D vwCl (adr (G0 D ids n0) 0 1 4, cont (G0 D ids n0) h0m (0, 1, 4)) H := h7 52 _ (zc_52 D ids n0)
theorem z_53 (D : va_G) (ids : ClassId × ClassId × ClassId × ClassId) (n0 : Nat) {H : Heap} (h7 : ∀ (i : Nat) (e : va_E), (qX7 (G0 D ids n0) n0)[i]? = some e → va_at D vwCl (n0 + i, e) H) : va_at D vwCl (adr (G0 D ids n0) 0 1 5, cont (G0 D ids n0) h0m (0, 1, 5)) H := h7 53 _ (zc_53 D ids n0)
theorem z_54 (D : va_G) (ids : ClassId × ClassId × ClassId × ClassId) (n0 : Nat) {H : Heap} (h7 : ∀ (i : Nat) (e : va_E), (qX7 (G0 D ids n0) n0)[i]? = some e → va_at D vwCl (n0 + i, e) H) : va_at D vwCl (adr (G0 D ids n0) 0 1 6, cont (G0 D ids n0) h0m (0, 1, 6)) H := h7 54 _ (zc_54 D ids n0)
theorem z_4 (D : va_G) (ids : ClassId × ClassId × ClassId × ClassId) (n0 : Nat) {H : Heap} (h7 : ∀ (i : Nat) (e : va_E), (qX7 (G0 D ids n0) n0)[i]? = some e → va_at D vwCl (n0 + i, e) H) : va_at D vwCl (adr (G0 D ids n0) 1 0 0, cont (G0 D ids n0) h0m (1, 0, 0)) H := h7 4 _ (zc_4 D ids n0)
theorem z_5 (D : va_G) (ids : ClassId × ClassId × ClassId × ClassId) (n0 : Nat) {H : Heap} (h7 : ∀ (i : Nat) (e : va_E), (qX7 (G0 D ids n0) n0)[i]? = some e → va_at D vwCl (n0 + i, e) H) : va_at D vwCl (adr (G0 D ids n0) 1 0 1, cont (G0 D ids n0) h0m (1, 0, 1)) H := h7 5 _ (zc_5 D ids n0)
theorem z_6 (D : va_G) (ids : ClassId × ClassId × ClassId × ClassId) (n0 : Nat) {H : Heap} (h7 : ∀ (i : Nat) (e : va_E), (qX7 (G0 D ids n0) n0)[i]? = some e → va_at D vwCl (n0 + i, e) H) : va_at D vwCl (adr (G0 D ids n0) 1 0 2, cont (G0 D ids n0) h0m (1, 0, 2)) H := h7 6 _ (zc_6 D ids n0)
theorem z_7 (D : va_G) (ids : ClassId × ClassId × ClassId × ClassId) (n0 : Nat) {H : Heap} (h7 : ∀ (i : Nat) (e : va_E), (qX7 (G0 D ids n0) n0)[i]? = some e → va_at D vwCl (n0 + i, e) H) : va_at D vwCl (adr (G0 D ids n0) 2 0 0, cont (G0 D ids n0) h0m (2, 0, 0)) H := h7 7 _ (zc_7 D ids n0)
theorem z_8 (D : va_G) (ids : ClassId × ClassId × ClassId × ClassId) (n0 : Nat) {H : Heap} (h7 : ∀ (i : Nat) (e : va_E), (qX7 (G0 D ids n0) n0)[i]? = some e → va_at D vwCl (n0 + i, e) H) : va_at D vwCl (adr (G0 D ids n0) 2 0 1, cont (G0 D ids n0) h0m (2, 0, 1)) H := h7 8 _ (zc_8 D ids n0)
theorem z_9 (D : va_G) (ids : ClassId × ClassId × ClassId × ClassId) (n0 : Nat) {H : Heap} (h7 : ∀ (i : Nat) (e : va_E), (qX7 (G0 D ids n0) n0)[i]? = some e → va_at D vwCl (n0 + i, e) H) : va_at D vwCl (adr (G0 D ids n0) 2 0 2, cont (G0 D ids n0) h0m (2, 0, 2)) H := h7 9 _ (zc_9 D ids n0)
theorem z_10 (D : va_G) (ids : ClassId × ClassId × ClassId × ClassId) (n0 : Nat) {H : Heap} (h7 : ∀ (i : Nat) (e : va_E), (qX7 (G0 D ids n0) n0)[i]? = some e → va_at D vwCl (n0 + i, e) H) : va_at D vwCl (adr (G0 D ids n0) 2 0 3, cont (G0 D ids n0) h0m (2, 0, 3)) H := h7 10 _ (zc_10 D ids n0)
theorem z_11 (D : va_G) (ids : ClassId × ClassId × ClassId × ClassId) (n0 : Nat) {H : Heap} (h7 : ∀ (i : Nat) (e : va_E), (qX7 (G0 D ids n0) n0)[i]? = some e → va_at D vwCl (n0 + i, e) H) : va_at D vwCl (adr (G0 D ids n0) 2 0 4, cont (G0 D ids n0) h0m (2, 0, 4)) H := h7 11 _ (zc_11 D ids n0)
theorem z_55 (D : va_G) (ids : ClassId × ClassId × ClassId × ClassId) (n0 : Nat) {H : Heap} (h7 : ∀ (i : Nat) (e : va_E), (qX7 (G0 D ids n0) n0)[i]? = some e → va_at D vwCl (n0 + i, e) H) : va_at D vwCl (adr (G0 D ids n0) 3 0 0, cont (G0 D ids n0) h0m (3, 0, 0)) H := h7 55 _ (zc_55 D ids n0)
theorem z_56 (D : va_G) (ids : ClassId × ClassId × ClassId × ClassId) (n0 : Nat) {H : Heap} (h7 : ∀ (i : Nat) (e : va_E), (qX7 (G0 D ids n0) n0)[i]? = some e → va_at D vwCl (n0 + i, e) H) : va_at D vwCl (adr (G0 D ids n0) 3 0 1, cont (G0 D ids n0) h0m (3, 0, 1)) H := h7 56 _ (zc_56 D ids n0)
theorem z_57 (D : va_G) (ids : ClassId × ClassId × ClassId × ClassId) (n0 : Nat) {H : Heap} (h7 : ∀ (i : Nat) (e : va_E), (qX7 (G0 D ids n0) n0)[i]? = some e → va_at D vwCl (n0 + i, e) H) : va_at D vwCl (adr (G0 D ids n0) 3 0 2, cont (G0 D ids n0) h0m (3, 0, 2)) H := h7 57 _ (zc_57 D ids n0)
theorem z_58 (D : va_G) (ids : ClassId × ClassId × ClassId × ClassId) (n0 : Nat) {H : Heap} (h7 : ∀ (i : Nat) (e : va_E), (qX7 (G0 D ids n0) n0)[i]? = some e → va_at D vwCl (n0 + i, e) H) : va_at D vwCl (adr (G0 D ids n0) 3 0 3, cont (G0 D ids n0) h0m (3, 0, 3)) H := h7 58 _ (zc_58 D ids n0)
theorem z_59 (D : va_G) (ids : ClassId × ClassId × ClassId × ClassId) (n0 : Nat) {H : Heap} (h7 : ∀ (i : Nat) (e : va_E), (qX7 (G0 D ids n0) n0)[i]? = some e → va_at D vwCl (n0 + i, e) H) : va_at D vwCl (adr (G0 D ids n0) 3 0 4, cont (G0 D ids n0) h0m (3, 0, 4)) H := h7 59 _ (zc_59 D ids n0)
theorem z_60 (D : va_G) (ids : ClassId × ClassId × ClassId × ClassId) (n0 : Nat) {H : Heap} (h7 : ∀ (i : Nat) (e : va_E), (qX7 (G0 D ids n0) n0)[i]? = some e → va_at D vwCl (n0 + i, e) H) : va_at D vwCl (adr (G0 D ids n0) 3 0 5, cont (G0 D ids n0) h0m (3, 0, 5)) H := h7 60 _ (zc_60 D ids n0)
theorem z_61 (D : va_G) (ids : ClassId × ClassId × ClassId × ClassId) (n0 : Nat) {H : Heap} (h7 : ∀ (i : Nat) (e : va_E), (qX7 (G0 D ids n0) n0)[i]? = some e → va_at D vwCl (n0 + i, e) H) : va_at D vwCl (adr (G0 D ids n0) 3 0 6, cont (G0 D ids n0) h0m (3, 0, 6)) H := h7 61 _ (zc_61 D ids n0)
theorem z_62 (D : va_G) (ids : ClassId × ClassId × ClassId × ClassId) (n0 : Nat) {H : Heap} (h7 : ∀ (i : Nat) (e : va_E), (qX7 (G0 D ids n0) n0)[i]? = some e → va_at D vwCl (n0 + i, e) H) : va_at D vwCl (adr (G0 D ids n0) 3 0 7, cont (G0 D ids n0) h0m (3, 0, 7)) H := h7 62 _ (zc_62 D ids n0)
theorem z_63 (D : va_G) (ids : ClassId × ClassId × ClassId × ClassId) (n0 : Nat) {H : Heap} (h7 : ∀ (i : Nat) (e : va_E), (qX7 (G0 D ids n0) n0)[i]? = some e → va_at D vwCl (n0 + i, e) H) : va_at D vwCl (adr (G0 D ids n0) 3 0 8, cont (G0 D ids n0) h0m (3, 0, 8)) H := h7 63 _ (zc_63 D ids n0)
theorem z_64 (D : va_G) (ids : ClassId × ClassId × ClassId × ClassId) (n0 : Nat) {H : Heap} (h7 : ∀ (i : Nat) (e : va_E), (qX7 (G0 D ids n0) n0)[i]? = some e → va_at D vwCl (n0 + i, e) H) : va_at D vwCl (adr (G0 D ids n0) 3 0 9, cont (G0 D ids n0) h0m (3, 0, 9)) H := h7 64 _ (zc_64 D ids n0)
theorem z_65 (D : va_G) (ids : ClassId × ClassId × ClassId × ClassId) (n0 : Nat) {H : Heap} (h7 : ∀ (i : Nat) (e : va_E), (qX7 (G0 D ids n0) n0)[i]? = some e → va_at D vwCl (n0 + i, e) H) : va_at D vwCl (adr (G0 D ids n0) 3 0 10, cont (G0 D ids n0) h0m (3, 0, 10)) H := h7 65 _ (zc_65 D ids n0)
theorem z_66 (D : va_G) (ids : ClassId × ClassId × ClassId × ClassId) (n0 : Nat) {H : Heap} (h7 : ∀ (i : Nat) (e : va_E), (qX7 (G0 D ids n0) n0)[i]? = some e → va_at D vwCl (n0 + i, e) H) : va_at D vwCl (adr (G0 D ids n0) 3 1 0, cont (G0 D ids n0) h0m (3, 1, 0)) H := h7 66 _ (zc_66 D ids n0)
theorem z_67 (D : va_G) (ids : ClassId × ClassId × ClassId × ClassId) (n0 : Nat) {H : Heap} (h7 : ∀ (i : Nat) (e : va_E), (qX7 (G0 D ids n0) n0)[i]? = some e → va_at D vwCl (n0 + i, e) H) : va_at D vwCl (adr (G0 D ids n0) 3 1 1, cont (G0 D ids n0) h0m (3, 1, 1)) H := h7 67 _ (zc_67 D ids n0)
theorem z_68 (D : va_G) (ids : ClassId × ClassId × ClassId × ClassId) (n0 : Nat) {H : Heap} (h7 : ∀ (i : Nat) (e : va_E), (qX7 (G0 D ids n0) n0)[i]? = some e → va_at D vwCl (n0 + i, e) H) : va_at D vwCl (adr (G0 D ids n0) 3 1 2, cont (G0 D ids n0) h0m (3, 1, 2)) H := h7 68 _ (zc_68 D ids n0)
theorem z_69 (D : va_G) (ids : ClassId × ClassId × ClassId × ClassId) (n0 : Nat) {H : Heap} (h7 : ∀ (i : Nat) (e : va_E), (qX7 (G0 D ids n0) n0)[i]? = some e → va_at D vwCl (n0 + i, e) H) : va_at D vwCl (adr (G0 D ids n0) 3 1 3, cont (G0 D ids n0) h0m (3, 1, 3)) H := h7 69 _ (zc_69 D ids n0)
theorem z_70 (D : va_G) (ids : ClassId × ClassId × ClassId × ClassId) (n0 : Nat) {H : Heap} (h7 : ∀ (i : Nat) (e : va_E), (qX7 (G0 D ids n0) n0)[i]? = some e → va_at D vwCl (n0 + i, e) H) : va_at D vwCl (adr (G0 D ids n0) 3 1 4, cont (G0 D ids n0) h0m (3, 1, 4)) H := h7 70 _ (zc_70 D ids n0)
theorem z_71 (D : va_G) (ids : ClassId × ClassId × ClassId × ClassId) (n0 : Nat) {H : Heap} (h7 : ∀ (i : Nat) (e : va_E), (qX7 (G0 D ids n0) n0)[i]? = some e → va_at D vwCl (n0 + i, e) H) : va_at D vwCl (adr (G0 D ids n0) 3 1 5, cont (G0 D ids n0) h0m (3, 1, 5)) H := h7 71 _ (zc_71 D ids n0)
theorem z_72 (D : va_G) (ids : ClassId × ClassId × ClassId × ClassId) (n0 : Nat) {H : Heap} (h7 : ∀ (i : Nat) (e : va_E), (qX7 (G0 D ids n0) n0)[i]? = some e → va_at D vwCl (n0 + i, e) H) : va_at D vwCl (adr (G0 D ids n0) 3 1 6, cont (G0 D ids n0) h0m (3, 1, 6)) H := h7 72 _ (zc_72 D ids n0)
theorem z_73 (D : va_G) (ids : ClassId × ClassId × ClassId × ClassId) (n0 : Nat) {H : Heap} (h7 : ∀ (i : Nat) (e : va_E), (qX7 (G0 D ids n0) n0)[i]? = some e → va_at D vwCl (n0 + i, e) H) : va_at D vwCl (adr (G0 D ids n0) 3 1 7, cont (G0 D ids n0) h0m (3, 1, 7)) H := h7 73 _ (zc_73 D ids n0)
theorem z_74 (D : va_G) (ids : ClassId × ClassId × ClassId × ClassId) (n0 : Nat) {H : Heap} (h7 : ∀ (i : Nat) (e : va_E), (qX7 (G0 D ids n0) n0)[i]? = some e → va_at D vwCl (n0 + i, e) H) : va_at D vwCl (adr (G0 D ids n0) 3 1 8, cont (G0 D ids n0) h0m (3, 1, 8)) H := h7 74 _ (zc_74 D ids n0)
theorem z_75 (D : va_G) (ids : ClassId × ClassId × ClassId × ClassId) (n0 : Nat) {H : Heap} (h7 : ∀ (i : Nat) (e : va_E), (qX7 (G0 D ids n0) n0)[i]? = some e → va_at D vwCl (n0 + i, e) H) : va_at D vwCl (adr (G0 D ids n0) 3 1 9, cont (G0 D ids n0) h0m (3, 1, 9)) H := h7 75 _ (zc_75 D ids n0)
theorem z_76 (D : va_G) (ids : ClassId × ClassId × ClassId × ClassId) (n0 : Nat) {H : Heap} (h7 : ∀ (i : Nat) (e : va_E), (qX7 (G0 D ids n0) n0)[i]? = some e → va_at D vwCl (n0 + i, e) H) : va_at D vwCl (adr (G0 D ids n0) 3 1 10, cont (G0 D ids n0) h0m (3, 1, 10)) H := h7 76 _ (zc_76 D ids n0)
theorem z_77 (D : va_G) (ids : ClassId × ClassId × ClassId × ClassId) (n0 : Nat) {H : Heap} (h7 : ∀ (i : Nat) (e : va_E), (qX7 (G0 D ids n0) n0)[i]? = some e → va_at D vwCl (n0 + i, e) H) : va_at D vwCl (adr (G0 D ids n0) 3 2 0, cont (G0 D ids n0) h0m (3, 2, 0)) H := h7 77 _ (zc_77 D ids n0)
theorem z_78 (D : va_G) (ids : ClassId × ClassId × ClassId × ClassId) (n0 : Nat) {H : Heap} (h7 : ∀ (i : Nat) (e : va_E), (qX7 (G0 D ids n0) n0)[i]? = some e → va_at D vwCl (n0 + i, e) H) : va_at D vwCl (adr (G0 D ids n0) 3 2 1, cont (G0 D ids n0) h0m (3, 2, 1)) H := h7 78 _ (zc_78 D ids n0)
theorem z_79 (D : va_G) (ids : ClassId × ClassId × ClassId × ClassId) (n0 : Nat) {H : Heap} (h7 : ∀ (i : Nat) (e : va_E), (qX7 (G0 D ids n0) n0)[i]? = some e → va_at D vwCl (n0 + i, e) H) : va_at D vwCl (adr (G0 D ids n0) 3 2 2, cont (G0 D ids n0) h0m (3, 2, 2)) H := h7 79 _ (zc_79 D ids n0)
theorem z_80 (D : va_G) (ids : ClassId × ClassId × ClassId × ClassId) (n0 : Nat) {H : Heap} (h7 : ∀ (i : Nat) (e : va_E), (qX7 (G0 D ids n0) n0)[i]? = some e → va_at D vwCl (n0 + i, e) H) : va_at D vwCl (adr (G0 D ids n0) 3 2 3, cont (G0 D ids n0) h0m (3, 2, 3)) H := h7 80 _ (zc_80 D ids n0)
theorem z_81 (D : va_G) (ids : ClassId × ClassId × ClassId × ClassId) (n0 : Nat) {H : Heap} (h7 : ∀ (i : Nat) (e : va_E), (qX7 (G0 D ids n0) n0)[i]? = some e → va_at D vwCl (n0 + i, e) H) : va_at D vwCl (adr (G0 D ids n0) 3 2 4, cont (G0 D ids n0) h0m (3, 2, 4)) H := h7 81 _ (zc_81 D ids n0)
theorem z_82 (D : va_G) (ids : ClassId × ClassId × ClassId × ClassId) (n0 : Nat) {H : Heap} (h7 : ∀ (i : Nat) (e : va_E), (qX7 (G0 D ids n0) n0)[i]? = some e → va_at D vwCl (n0 + i, e) H) : va_at D vwCl (adr (G0 D ids n0) 3 2 5, cont (G0 D ids n0) h0m (3, 2, 5)) H := h7 82 _ (zc_82 D ids n0)
theorem z_83 (D : va_G) (ids : ClassId × ClassId × ClassId × ClassId) (n0 : Nat) {H : Heap} (h7 : ∀ (i : Nat) (e : va_E), (qX7 (G0 D ids n0) n0)[i]? = some e → va_at D vwCl (n0 + i, e) H) : va_at D vwCl (adr (G0 D ids n0) 3 2 6, cont (G0 D ids n0) h0m (3, 2, 6)) H := h7 83 _ (zc_83 D ids n0)
theorem z_84 (D : va_G) (ids : ClassId × ClassId × ClassId × ClassId) (n0 : Nat) {H : Heap} (h7 : ∀ (i : Nat) (e : va_E), (qX7 (G0 D ids n0) n0)[i]? = some e → va_at D vwCl (n0 + i, e) H) : va_at D vwCl (adr (G0 D ids n0) 3 2 7, cont (G0 D ids n0) h0m (3, 2, 7)) H := h7 84 _ (zc_84 D ids n0)
theorem z_85 (D : va_G) (ids : ClassId × ClassId × ClassId × ClassId) (n0 : Nat) {H : Heap} (h7 : ∀ (i : Nat) (e : va_E), (qX7 (G0 D ids n0) n0)[i]? = some e → va_at D vwCl (n0 + i, e) H) : va_at D vwCl (adr (G0 D ids n0) 3 2 8, cont (G0 D ids n0) h0m (3, 2, 8)) H := h7 85 _ (zc_85 D ids n0)
theorem z_86 (D : va_G) (ids : ClassId × ClassId × ClassId × ClassId) (n0 : Nat) {H : Heap} (h7 : ∀ (i : Nat) (e : va_E), (qX7 (G0 D ids n0) n0)[i]? = some e → va_at D vwCl (n0 + i, e) H) : va_at D vwCl (adr (G0 D ids n0) 3 2 9, cont (G0 D ids n0) h0m (3, 2, 9)) H := h7 86 _ (zc_86 D ids n0)
theorem z_87 (D : va_G) (ids : ClassId × ClassId × ClassId × ClassId) (n0 : Nat) {H : Heap} (h7 : ∀ (i : Nat) (e : va_E), (qX7 (G0 D ids n0) n0)[i]? = some e → va_at D vwCl (n0 + i, e) H) : va_at D vwCl (adr (G0 D ids n0) 3 2 10, cont (G0 D ids n0) h0m (3, 2, 10)) H := h7 87 _ (zc_87 D ids n0)
theorem z_89 (D : va_G) (ids : ClassId × ClassId × ClassId × ClassId) (n0 : Nat) {H : Heap} (h7 : ∀ (i : Nat) (e : va_E), (qX7 (G0 D ids n0) n0)[i]? = some e → va_at D vwCl (n0 + i, e) H) : va_at D vwCl (adr (G0 D ids n0) 3 3 0, cont (G0 D ids n0) h0m (3, 3, 0)) H := h7 89 _ (zc_89 D ids n0)
theorem z_90 (D : va_G) (ids : ClassId × ClassId × ClassId × ClassId) (n0 : Nat) {H : Heap} (h7 : ∀ (i : Nat) (e : va_E), (qX7 (G0 D ids n0) n0)[i]? = some e → va_at D vwCl (n0 + i, e) H) : va_at D vwCl (adr (G0 D ids n0) 3 3 1, cont (G0 D ids n0) h0m (3, 3, 1)) H := h7 90 _ (zc_90 D ids n0)
theorem z_91 (D : va_G) (ids : ClassId × ClassId × ClassId × ClassId) (n0 : Nat) {H : Heap} (h7 : ∀ (i : Nat) (e : va_E), (qX7 (G0 D ids n0) n0)[i]? = some e → va_at D vwCl (n0 + i, e) H) : va_at D vwCl (adr (G0 D ids n0) 3 3 2, cont (G0 D ids n0) h0m (3, 3, 2)) H := h7 91 _ (zc_91 D ids n0)
theorem z_92 (D : va_G) (ids : ClassId × ClassId × ClassId × ClassId) (n0 : Nat) {H : Heap} (h7 : ∀ (i : Nat) (e : va_E), (qX7 (G0 D ids n0) n0)[i]? = some e → va_at D vwCl (n0 + i, e) H) : va_at D vwCl (adr (G0 D ids n0) 3 3 3, cont (G0 D ids n0) h0m (3, 3, 3)) H := h7 92 _ (zc_92 D ids n0)
theorem z_93 (D : va_G) (ids : ClassId × ClassId × ClassId × ClassId) (n0 : Nat) {H : Heap} (h7 : ∀ (i : Nat) (e : va_E), (qX7 (G0 D ids n0) n0)[i]? = some e → va_at D vwCl (n0 + i, e) H) : va_at D vwCl (adr (G0 D ids n0) 3 3 4, cont (G0 D ids n0) h0m (3, 3, 4)) H := h7 93 _ (zc_93 D ids n0)
theorem z_94 (D : va_G) (ids : ClassId × ClassId × ClassId × ClassId) (n0 : Nat) {H : Heap} (h7 : ∀ (i : Nat) (e : va_E), (qX7 (G0 D ids n0) n0)[i]? = some e → va_at D vwCl (n0 + i, e) H) : va_at D vwCl (adr (G0 D ids n0) 3 3 5, cont (G0 D ids n0) h0m (3, 3, 5)) H := h7 94 _ (zc_94 D ids n0)
theorem z_95 (D : va_G) (ids : ClassId × ClassId × ClassId × ClassId) (n0 : Nat) {H : Heap} (h7 : ∀ (i : Nat) (e : va_E), (qX7 (G0 D ids n0) n0)[i]? = some e → va_at D vwCl (n0 + i, e) H) : va_at D vwCl (adr (G0 D ids n0) 3 3 6, cont (G0 D ids n0) h0m (3, 3, 6)) H := h7 95 _ (zc_95 D ids n0)
theorem z_96 (D : va_G) (ids : ClassId × ClassId × ClassId × ClassId) (n0 : Nat) {H : Heap} (h7 : ∀ (i : Nat) (e : va_E), (qX7 (G0 D ids n0) n0)[i]? = some e → va_at D vwCl (n0 + i, e) H) : va_at D vwCl (adr (G0 D ids n0) 3 3 7, cont (G0 D ids n0) h0m (3, 3, 7)) H := h7 96 _ (zc_96 D ids n0)
theorem z_97 (D : va_G) (ids : ClassId × ClassId × ClassId × ClassId) (n0 : Nat) {H : Heap} (h7 : ∀ (i : Nat) (e : va_E), (qX7 (G0 D ids n0) n0)[i]? = some e → va_at D vwCl (n0 + i, e) H) : va_at D vwCl (adr (G0 D ids n0) 3 3 8, cont (G0 D ids n0) h0m (3, 3, 8)) H := h7 97 _ (zc_97 D ids n0)
theorem z_98 (D : va_G) (ids : ClassId × ClassId × ClassId × ClassId) (n0 : Nat) {H : Heap} (h7 : ∀ (i : Nat) (e : va_E), (qX7 (G0 D ids n0) n0)[i]? = some e → va_at D vwCl (n0 + i, e) H) : va_at D vwCl (adr (G0 D ids n0) 3 3 9, cont (G0 D ids n0) h0m (3, 3, 9)) H := h7 98 _ (zc_98 D ids n0)
theorem z_99 (D : va_G) (ids : ClassId × ClassId × ClassId × ClassId) (n0 : Nat) {H : Heap} (h7 : ∀ (i : Nat) (e : va_E), (qX7 (G0 D ids n0) n0)[i]? = some e → va_at D vwCl (n0 + i, e) H) : va_at D vwCl (adr (G0 D ids n0) 3 3 10, cont (G0 D ids n0) h0m (3, 3, 10)) H := h7 99 _ (zc_99 D ids n0)
theorem z_100 (D : va_G) (ids : ClassId × ClassId × ClassId × ClassId) (n0 : Nat) {H : Heap} (h7 : ∀ (i : Nat) (e : va_E), (qX7 (G0 D ids n0) n0)[i]? = some e → va_at D vwCl (n0 + i, e) H) : va_at D vwCl (adr (G0 D ids n0) 3 4 0, cont (G0 D ids n0) h0m (3, 4, 0)) H := h7 100 _ (zc_100 D ids n0)
theorem z_101 (D : va_G) (ids : ClassId × ClassId × ClassId × ClassId) (n0 : Nat) {H : Heap} (h7 : ∀ (i : Nat) (e : va_E), (qX7 (G0 D ids n0) n0)[i]? = some e → va_at D vwCl (n0 + i, e) H) : va_at D vwCl (adr (G0 D ids n0) 3 4 1, cont (G0 D ids n0) h0m (3, 4, 1)) H := h7 101 _ (zc_101 D ids n0)
theorem z_102 (D : va_G) (ids : ClassId × ClassId × ClassId × ClassId) (n0 : Nat) {H : Heap} (h7 : ∀ (i : Nat) (e : va_E), (qX7 (G0 D ids n0) n0)[i]? = some e → va_at D vwCl (n0 + i, e) H) : va_at D vwCl (adr (G0 D ids n0) 3 4 2, cont (G0 D ids n0) h0m (3, 4, 2)) H := h7 102 _ (zc_102 D ids n0)
theorem z_103 (D : va_G) (ids : ClassId × ClassId × ClassId × ClassId) (n0 : Nat) {H : Heap} (h7 : ∀ (i : Nat) (e : va_E), (qX7 (G0 D ids n0) n0)[i]? = some e → va_at D vwCl (n0 + i, e) H) : va_at D vwCl (adr (G0 D ids n0) 3 4 3, cont (G0 D ids n0) h0m (3, 4, 3)) H := h7 103 _ (zc_103 D ids n0)
theorem z_104 (D : va_G) (ids : ClassId × ClassId × ClassId × ClassId) (n0 : Nat) {H : Heap} (h7 : ∀ (i : Nat) (e : va_E), (qX7 (G0 D ids n0) n0)[i]? = some e → va_at D vwCl (n0 + i, e) H) : va_at D vwCl (adr (G0 D ids n0) 3 4 4, cont (G0 D ids n0) h0m (3, 4, 4)) H := h7 104 _ (zc_104 D ids n0)
theorem z_105 (D : va_G) (ids : ClassId × ClassId × ClassId × ClassId) (n0 : Nat) {H : Heap} (h7 : ∀ (i : Nat) (e : va_E), (qX7 (G0 D ids n0) n0)[i]? = some e → va_at D vwCl (n0 + i, e) H) : va_at D vwCl (adr (G0 D ids n0) 3 4 5, cont (G0 D ids n0) h0m (3, 4, 5)) H := h7 105 _ (zc_105 D ids n0)
theorem z_106 (D : va_G) (ids : ClassId × ClassId × ClassId × ClassId) (n0 : Nat) {H : Heap} (h7 : ∀ (i : Nat) (e : va_E), (qX7 (G0 D ids n0) n0)[i]? = some e → va_at D vwCl (n0 + i, e) H) : va_at D vwCl (adr (G0 D ids n0) 3 4 6, cont (G0 D ids n0) h0m (3, 4, 6)) H := h7 106 _ (zc_106 D ids n0)
theorem z_107 (D : va_G) (ids : ClassId × ClassId × ClassId × ClassId) (n0 : Nat) {H : Heap} (h7 : ∀ (i : Nat) (e : va_E), (qX7 (G0 D ids n0) n0)[i]? = some e → va_at D vwCl (n0 + i, e) H) : va_at D vwCl (adr (G0 D ids n0) 3 4 7, cont (G0 D ids n0) h0m (3, 4, 7)) H := h7 107 _ (zc_107 D ids n0)
theorem z_108 (D : va_G) (ids : ClassId × ClassId × ClassId × ClassId) (n0 : Nat) {H : Heap} (h7 : ∀ (i : Nat) (e : va_E), (qX7 (G0 D ids n0) n0)[i]? = some e → va_at D vwCl (n0 + i, e) H) : va_at D vwCl (adr (G0 D ids n0) 3 4 8, cont (G0 D ids n0) h0m (3, 4, 8)) H := h7 108 _ (zc_108 D ids n0)
theorem z_109 (D : va_G) (ids : ClassId × ClassId × ClassId × ClassId) (n0 : Nat) {H : Heap} (h7 : ∀ (i : Nat) (e : va_E), (qX7 (G0 D ids n0) n0)[i]? = some e → va_at D vwCl (n0 + i, e) H) : va_at D vwCl (adr (G0 D ids n0) 3 4 9, cont (G0 D ids n0) h0m (3, 4, 9)) H := h7 109 _ (zc_109 D ids n0)
theorem z_110 (D : va_G) (ids : ClassId × ClassId × ClassId × ClassId) (n0 : Nat) {H : Heap} (h7 : ∀ (i : Nat) (e : va_E), (qX7 (G0 D ids n0) n0)[i]? = some e → va_at D vwCl (n0 + i, e) H) : va_at D vwCl (adr (G0 D ids n0) 3 4 10, cont (G0 D ids n0) h0m (3, 4, 10)) H := h7 110 _ (zc_110 D ids n0)
theorem z_111 (D : va_G) (ids : ClassId × ClassId × ClassId × ClassId) (n0 : Nat) {H : Heap} (h7 : ∀ (i : Nat) (e : va_E), (qX7 (G0 D ids n0) n0)[i]? = some e → va_at D vwCl (n0 + i, e) H) : va_at D vwCl (adr (G0 D ids n0) 3 5 0, cont (G0 D ids n0) h0m (3, 5, 0)) H := h7 111 _ (zc_111 D ids n0)
theorem z_112 (D : va_G) (ids : ClassId × ClassId × ClassId × ClassId) (n0 : Nat) {H : Heap} (h7 : ∀ (i : Nat) (e : va_E), (qX7 (G0 D ids n0) n0)[i]? = some e → va_at D vwCl (n0 + i, e) H) : va_at D vwCl (adr (G0 D ids n0) 3 5 1, cont (G0 D ids n0) h0m (3, 5, 1)) H := h7 112 _ (zc_112 D ids n0)
theorem z_113 (D : va_G) (ids : ClassId × ClassId × ClassId × ClassId) (n0 : Nat) {H : Heap} (h7 : ∀ (i : Nat) (e : va_E), (qX7 (G0 D ids n0) n0)[i]? = some e → va_at D vwCl (n0 + i, e) H) : va_at D vwCl (adr (G0 D ids n0) 3 5 2, cont (G0 D ids n0) h0m (3, 5, 2)) H := h7 113 _ (zc_113 D ids n0)
theorem z_114 (D : va_G) (ids : ClassId × ClassId × ClassId × ClassId) (n0 : Nat) {H : Heap} (h7 : ∀ (i : Nat) (e : va_E), (qX7 (G0 D ids n0) n0)[i]? = some e → va_at D vwCl (n0 + i, e) H) : va_at D vwCl (adr (G0 D ids n0) 3 5 3, cont (G0 D ids n0) h0m (3, 5, 3)) H := h7 114 _ (zc_114 D ids n0)
theorem z_115 (D : va_G) (ids : ClassId × ClassId × ClassId × ClassId) (n0 : Nat) {H : Heap} (h7 : ∀ (i : Nat) (e : va_E), (qX7 (G0 D ids n0) n0)[i]? = some e → va_at D vwCl (n0 + i, e) H) : va_at D vwCl (adr (G0 D ids n0) 3 5 4, cont (G0 D ids n0) h0m (3, 5, 4)) H := h7 115 _ (zc_115 D ids n0)
theorem z_116 (D : va_G) (ids : ClassId × ClassId × ClassId × ClassId) (n0 : Nat) {H : Heap} (h7 : ∀ (i : Nat) (e : va_E), (qX7 (G0 D ids n0) n0)[i]? = some e → va_at D vwCl (n0 + i, e) H) : va_at D vwCl (adr (G0 D ids n0) 3 5 5, cont (G0 D ids n0) h0m (3, 5, 5)) H := h7 116 _ (zc_116 D ids n0)
theorem z_117 (D : va_G) (ids : ClassId × ClassId × ClassId × ClassId) (n0 : Nat) {H : Heap} (h7 : ∀ (i : Nat) (e : va_E), (qX7 (G0 D ids n0) n0)[i]? = some e → va_at D vwCl (n0 + i, e) H) : va_at D vwCl (adr (G0 D ids n0) 3 5 6, cont (G0 D ids n0) h0m (3, 5, 6)) H := h7 117 _ (zc_117 D ids n0)
theorem z_118 (D : va_G) (ids : ClassId × ClassId × ClassId × ClassId) (n0 : Nat) {H : Heap} (h7 : ∀ (i : Nat) (e : va_E), (qX7 (G0 D ids n0) n0)[i]? = some e → va_at D vwCl (n0 + i, e) H) : va_at D vwCl (adr (G0 D ids n0) 3 5 7, cont (G0 D ids n0) h0m (3, 5, 7)) H := h7 118 _ (zc_118 D ids n0)
theorem z_119 (D : va_G) (ids : ClassId × ClassId × ClassId × ClassId) (n0 : Nat) {H : Heap} (h7 : ∀ (i : Nat) (e : va_E), (qX7 (G0 D ids n0) n0)[i]? = some e → va_at D vwCl (n0 + i, e) H) : va_at D vwCl (adr (G0 D ids n0) 3 5 8, cont (G0 D ids n0) h0m (3, 5, 8)) H := h7 119 _ (zc_119 D ids n0)
theorem z_120 (D : va_G) (ids : ClassId × ClassId × ClassId × ClassId) (n0 : Nat) {H : Heap} (h7 : ∀ (i : Nat) (e : va_E), (qX7 (G0 D ids n0) n0)[i]? = some e → va_at D vwCl (n0 + i, e) H) : va_at D vwCl (adr (G0 D ids n0) 3 5 9, cont (G0 D ids n0) h0m (3, 5, 9)) H := h7 120 _ (zc_120 D ids n0)
theorem z_121 (D : va_G) (ids : ClassId × ClassId × ClassId × ClassId) (n0 : Nat) {H : Heap} (h7 : ∀ (i : Nat) (e : va_E), (qX7 (G0 D ids n0) n0)[i]? = some e → va_at D vwCl (n0 + i, e) H) : va_at D vwCl (adr (G0 D ids n0) 3 5 10, cont (G0 D ids n0) h0m (3, 5, 10)) H := h7 121 _ (zc_121 D ids n0)
theorem z_122 (D : va_G) (ids : ClassId × ClassId × ClassId × ClassId) (n0 : Nat) {H : Heap} (h7 : ∀ (i : Nat) (e : va_E), (qX7 (G0 D ids n0) n0)[i]? = some e → va_at D vwCl (n0 + i, e) H) : va_at D vwCl (adr (G0 D ids n0) 3 6 0, cont (G0 D ids n0) h0m (3, 6, 0)) H := h7 122 _ (zc_122 D ids n0)
theorem z_123 (D : va_G) (ids : ClassId × ClassId × ClassId × ClassId) (n0 : Nat) {H : Heap} (h7 : ∀ (i : Nat) (e : va_E), (qX7 (G0 D ids n0) n0)[i]? = some e → va_at D vwCl (n0 + i, e) H) : va_at D vwCl (adr (G0 D ids n0) 3 6 1, cont (G0 D ids n0) h0m (3, 6, 1)) H := h7 123 _ (zc_123 D ids n0)
theorem z_124 (D : va_G) (ids : ClassId × ClassId × ClassId × ClassId) (n0 : Nat) {H : Heap} (h7 : ∀ (i : Nat) (e : va_E), (qX7 (G0 D ids n0) n0)[i]? = some e → va_at D vwCl (n0 + i, e) H) : va_at D vwCl (adr (G0 D ids n0) 3 6 2, cont (G0 D ids n0) h0m (3, 6, 2)) H := h7 124 _ (zc_124 D ids n0)
theorem z_125 (D : va_G) (ids : ClassId × ClassId × ClassId × ClassId) (n0 : Nat) {H : Heap} (h7 : ∀ (i : Nat) (e : va_E), (qX7 (G0 D ids n0) n0)[i]? = some e → va_at D vwCl (n0 + i, e) H) : va_at D vwCl (adr (G0 D ids n0) 3 6 3, cont (G0 D ids n0) h0m (3, 6, 3)) H := h7 125 _ (zc_125 D ids n0)
theorem z_126 (D : va_G) (ids : ClassId × ClassId × ClassId × ClassId) (n0 : Nat) {H : Heap} (h7 : ∀ (i : Nat) (e : va_E), (qX7 (G0 D ids n0) n0)[i]? = some e → va_at D vwCl (n0 + i, e) H) : va_at D vwCl (adr (G0 D ids n0) 3 6 4, cont (G0 D ids n0) h0m (3, 6, 4)) H := h7 126 _ (zc_126 D ids n0)
theorem z_127 (D : va_G) (ids : ClassId × ClassId × ClassId × ClassId) (n0 : Nat) {H : Heap} (h7 : ∀ (i : Nat) (e : va_E), (qX7 (G0 D ids n0) n0)[i]? = some e → va_at D vwCl (n0 + i, e) H) : va_at D vwCl (adr (G0 D ids n0) 3 6 5, cont (G0 D ids n0) h0m (3, 6, 5)) H := h7 127 _ (zc_127 D ids n0)
theorem z_128 (D : va_G) (ids : ClassId × ClassId × ClassId × ClassId) (n0 : Nat) {H : Heap} (h7 : ∀ (i : Nat) (e : va_E), (qX7 (G0 D ids n0) n0)[i]? = some e → va_at D vwCl (n0 + i, e) H) : va_at D vwCl (adr (G0 D ids n0) 3 6 6, cont (G0 D ids n0) h0m (3, 6, 6)) H := h7 128 _ (zc_128 D ids n0)
theorem z_129 (D : va_G) (ids : ClassId × ClassId × ClassId × ClassId) (n0 : Nat) {H : Heap} (h7 : ∀ (i : Nat) (e : va_E), (qX7 (G0 D ids n0) n0)[i]? = some e → va_at D vwCl (n0 + i, e) H) : va_at D vwCl (adr (G0 D ids n0) 3 6 7, cont (G0 D ids n0) h0m (3, 6, 7)) H := h7 129 _ (zc_129 D ids n0)
theorem z_130 (D : va_G) (ids : ClassId × ClassId × ClassId × ClassId) (n0 : Nat) {H : Heap} (h7 : ∀ (i : Nat) (e : va_E), (qX7 (G0 D ids n0) n0)[i]? = some e → va_at D vwCl (n0 + i, e) H) : va_at D vwCl (adr (G0 D ids n0) 3 6 8, cont (G0 D ids n0) h0m (3, 6, 8)) H := h7 130 _ (zc_130 D ids n0)
theorem z_131 (D : va_G) (ids : ClassId × ClassId × ClassId × ClassId) (n0 : Nat) {H : Heap} (h7 : ∀ (i : Nat) (e : va_E), (qX7 (G0 D ids n0) n0)[i]? = some e → va_at D vwCl (n0 + i, e) H) : va_at D vwCl (adr (G0 D ids n0) 3 6 9, cont (G0 D ids n0) h0m (3, 6, 9)) H := h7 131 _ (zc_131 D ids n0)
theorem z_132 (D : va_G) (ids : ClassId × ClassId × ClassId × ClassId) (n0 : Nat) {H : Heap} (h7 : ∀ (i : Nat) (e : va_E), (qX7 (G0 D ids n0) n0)[i]? = some e → va_at D vwCl (n0 + i, e) H) : va_at D vwCl (adr (G0 D ids n0) 3 6 10, cont (G0 D ids n0) h0m (3, 6, 10)) H := h7 132 _ (zc_132 D ids n0)
theorem z_133 (D : va_G) (ids : ClassId × ClassId × ClassId × ClassId) (n0 : Nat) {H : Heap} (h7 : ∀ (i : Nat) (e : va_E), (qX7 (G0 D ids n0) n0)[i]? = some e → va_at D vwCl (n0 + i, e) H) : va_at D vwCl (adr (G0 D ids n0) 3 7 0, cont (G0 D ids n0) h0m (3, 7, 0)) H := h7 133 _ (zc_133 D ids n0)
theorem z_134 (D : va_G) (ids : ClassId × ClassId × ClassId × ClassId) (n0 : Nat) {H : Heap} (h7 : ∀ (i : Nat) (e : va_E), (qX7 (G0 D ids n0) n0)[i]? = some e → va_at D vwCl (n0 + i, e) H) : va_at D vwCl (adr (G0 D ids n0) 3 7 1, cont (G0 D ids n0) h0m (3, 7, 1)) H := h7 134 _ (zc_134 D ids n0)
theorem z_135 (D : va_G) (ids : ClassId × ClassId × ClassId × ClassId) (n0 : Nat) {H : Heap} (h7 : ∀ (i : Nat) (e : va_E), (qX7 (G0 D ids n0) n0)[i]? = some e → va_at D vwCl (n0 + i, e) H) : va_at D vwCl (adr (G0 D ids n0) 3 7 2, cont (G0 D ids n0) h0m (3, 7, 2)) H := h7 135 _ (zc_135 D ids n0)
theorem z_136 (D : va_G) (ids : ClassId × ClassId × ClassId × ClassId) (n0 : Nat) {H : Heap} (h7 : ∀ (i : Nat) (e : va_E), (qX7 (G0 D ids n0) n0)[i]? = some e → va_at D vwCl (n0 + i, e) H) : va_at D vwCl (adr (G0 D ids n0) 3 7 3, cont (G0 D ids n0) h0m (3, 7, 3)) H := h7 136 _ (zc_136 D ids n0)
theorem z_137 (D : va_G) (ids : ClassId × ClassId × ClassId × ClassId) (n0 : Nat) {H : Heap} (h7 : ∀ (i : Nat) (e : va_E), (qX7 (G0 D ids n0) n0)[i]? = some e → va_at D vwCl (n0 + i, e) H) : va_at D vwCl (adr (G0 D ids n0) 3 7 4, cont (G0 D ids n0) h0m (3, 7, 4)) H := h7 137 _ (zc_137 D ids n0)
theorem z_138 (D : va_G) (ids : ClassId × ClassId × ClassId × ClassId) (n0 : Nat) {H : Heap} (h7 : ∀ (i : Nat) (e : va_E), (qX7 (G0 D ids n0) n0)[i]? = some e → va_at D vwCl (n0 + i, e) H) : va_at D vwCl (adr (G0 D ids n0) 3 7 5, cont (G0 D ids n0) h0m (3, 7, 5)) H := h7 138 _ (zc_138 D ids n0)
theorem z_139 (D : va_G) (ids : ClassId × ClassId × ClassId × ClassId) (n0 : Nat) {H : Heap} (h7 : ∀ (i : Nat) (e : va_E), (qX7 (G0 D ids n0) n0)[i]? = some e → va_at D vwCl (n0 + i, e) H) : va_at D vwCl (adr (G0 D ids n0) 3 7 6, cont (G0 D ids n0) h0m (3, 7, 6)) H := h7 139 _ (zc_139 D ids n0)
theorem z_140 (D : va_G) (ids : ClassId × ClassId × ClassId × ClassId) (n0 : Nat) {H : Heap} (h7 : ∀ (i : Nat) (e : va_E), (qX7 (G0 D ids n0) n0)[i]? = some e → va_at D vwCl (n0 + i, e) H) : va_at D vwCl (adr (G0 D ids n0) 3 7 7, cont (G0 D ids n0) h0m (3, 7, 7)) H := h7 140 _ (zc_140 D ids n0)
theorem z_141 (D : va_G) (ids : ClassId × ClassId × ClassId × ClassId) (n0 : Nat) {H : Heap} (h7 : ∀ (i : Nat) (e : va_E), (qX7 (G0 D ids n0) n0)[i]? = some e → va_at D vwCl (n0 + i, e) H) : va_at D vwCl (adr (G0 D ids n0) 3 7 8, cont (G0 D ids n0) h0m (3, 7, 8)) H := h7 141 _ (zc_141 D ids n0)
theorem z_142 (D : va_G) (ids : ClassId × ClassId × ClassId × ClassId) (n0 : Nat) {H : Heap} (h7 : ∀ (i : Nat) (e : va_E), (qX7 (G0 D ids n0) n0)[i]? = some e → va_at D vwCl (n0 + i, e) H) : va_at D vwCl (adr (G0 D ids n0) 3 7 9, cont (G0 D ids n0) h0m (3, 7, 9)) H := h7 142 _ (zc_142 D ids n0)
theorem z_143 (D : va_G) (ids : ClassId × ClassId × ClassId × ClassId) (n0 : Nat) {H : Heap} (h7 : ∀ (i : Nat) (e : va_E), (qX7 (G0 D ids n0) n0)[i]? = some e → va_at D vwCl (n0 + i, e) H) : va_at D vwCl (adr (G0 D ids n0) 3 7 10, cont (G0 D ids n0) h0m (3, 7, 10)) H := h7 143 _ (zc_143 D ids n0)
theorem z_144 (D : va_G) (ids : ClassId × ClassId × ClassId × ClassId) (n0 : Nat) {H : Heap} (h7 : ∀ (i : Nat) (e : va_E), (qX7 (G0 D ids n0) n0)[i]? = some e → va_at D vwCl (n0 + i, e) H) : va_at D vwCl (adr (G0 D ids n0) 3 8 0, cont (G0 D ids n0) h0m (3, 8, 0)) H := h7 144 _ (zc_144 D ids n0)
theorem z_145 (D : va_G) (ids : ClassId × ClassId × ClassId × ClassId) (n0 : Nat) {H : Heap} (h7 : ∀ (i : Nat) (e : va_E), (qX7 (G0 D ids n0) n0)[i]? = some e → va_at D vwCl (n0 + i, e) H) : va_at D vwCl (adr (G0 D ids n0) 3 8 1, cont (G0 D ids n0) h0m (3, 8, 1)) H := h7 145 _ (zc_145 D ids n0)
theorem z_146 (D : va_G) (ids : ClassId × ClassId × ClassId × ClassId) (n0 : Nat) {H : Heap} (h7 : ∀ (i : Nat) (e : va_E), (qX7 (G0 D ids n0) n0)[i]? = some e → va_at D vwCl (n0 + i, e) H) : va_at D vwCl (adr (G0 D ids n0) 3 8 2, cont (G0 D ids n0) h0m (3, 8, 2)) H := h7 146 _ (zc_146 D ids n0)
theorem z_147 (D : va_G) (ids : ClassId × ClassId × ClassId × ClassId) (n0 : Nat) {H : Heap} (h7 : ∀ (i : Nat) (e : va_E), (qX7 (G0 D ids n0) n0)[i]? = some e → va_at D vwCl (n0 + i, e) H) : va_at D vwCl (adr (G0 D ids n0) 3 8 3, cont (G0 D ids n0) h0m (3, 8, 3)) H := h7 147 _ (zc_147 D ids n0)
theorem z_148 (D : va_G) (ids : ClassId × ClassId × ClassId × ClassId) (n0 : Nat) {H : Heap} (h7 : ∀ (i : Nat) (e : va_E), (qX7 (G0 D ids n0) n0)[i]? = some e → va_at D vwCl (n0 + i, e) H) : va_at D vwCl (adr (G0 D ids n0) 3 8 4, cont (G0 D ids n0) h0m (3, 8, 4)) H := h7 148 _ (zc_148 D ids n0)
theorem z_149 (D : va_G) (ids : ClassId × ClassId × ClassId × ClassId) (n0 : Nat) {H : Heap} (h7 : ∀ (i : Nat) (e : va_E), (qX7 (G0 D ids n0) n0)[i]? = some e → va_at D vwCl (n0 + i, e) H) : va_at D vwCl (adr (G0 D ids n0) 3 8 5, cont (G0 D ids n0) h0m (3, 8, 5)) H := h7 149 _ (zc_149 D ids n0)
theorem z_150 (D : va_G) (ids : ClassId × ClassId × ClassId × ClassId) (n0 : Nat) {H : Heap} (h7 : ∀ (i : Nat) (e : va_E), (qX7 (G0 D ids n0) n0)[i]? = some e → va_at D vwCl (n0 + i, e) H) : va_at D vwCl (adr (G0 D ids n0) 3 8 6, cont (G0 D ids n0) h0m (3, 8, 6)) H := h7 150 _ (zc_150 D ids n0)
theorem z_151 (D : va_G) (ids : ClassId × ClassId × ClassId × ClassId) (n0 : Nat) {H : Heap} (h7 : ∀ (i : Nat) (e : va_E), (qX7 (G0 D ids n0) n0)[i]? = some e → va_at D vwCl (n0 + i, e) H) : va_at D vwCl (adr (G0 D ids n0) 3 8 7, cont (G0 D ids n0) h0m (3, 8, 7)) H := h7 151 _ (zc_151 D ids n0)
theorem z_152 (D : va_G) (ids : ClassId × ClassId × ClassId × ClassId) (n0 : Nat) {H : Heap} (h7 : ∀ (i : Nat) (e : va_E), (qX7 (G0 D ids n0) n0)[i]? = some e → va_at D vwCl (n0 + i, e) H) : va_at D vwCl (adr (G0 D ids n0) 3 8 8, cont (G0 D ids n0) h0m (3, 8, 8)) H := h7 152 _ (zc_152 D ids n0)
theorem z_153 (D : va_G) (ids : ClassId × ClassId × ClassId × ClassId) (n0 : Nat) {H : Heap} (h7 : ∀ (i : Nat) (e : va_E), (qX7 (G0 D ids n0) n0)[i]? = some e → va_at D vwCl (n0 + i, e) H) : va_at D vwCl (adr (G0 D ids n0) 3 8 9, cont (G0 D ids n0) h0m (3, 8, 9)) H := h7 153 _ (zc_153 D ids n0)
theorem z_154 (D : va_G) (ids : ClassId × ClassId × ClassId × ClassId) (n0 : Nat) {H : Heap} (h7 : ∀ (i : Nat) (e : va_E), (qX7 (G0 D ids n0) n0)[i]? = some e → va_at D vwCl (n0 + i, e) H) : va_at D vwCl (adr (G0 D ids n0) 3 8 10, cont (G0 D ids n0) h0m (3, 8, 10)) H := h7 154 _ (zc_154 D ids n0)
theorem z_155 (D : va_G) (ids : ClassId × ClassId × ClassId × ClassId) (n0 : Nat) {H : Heap} (h7 : ∀ (i : Nat) (e : va_E), (qX7 (G0 D ids n0) n0)[i]? = some e → va_at D vwCl (n0 + i, e) H) : va_at D vwCl (adr (G0 D ids n0) 3 9 0, cont (G0 D ids n0) h0m (3, 9, 0)) H := h7 155 _ (zc_155 D ids n0)
theorem z_156 (D : va_G) (ids : ClassId × ClassId × ClassId × ClassId) (n0 : Nat) {H : Heap} (h7 : ∀ (i : Nat) (e : va_E), (qX7 (G0 D ids n0) n0)[i]? = some e → va_at D vwCl (n0 + i, e) H) : va_at D vwCl (adr (G0 D ids n0) 3 9 1, cont (G0 D ids n0) h0m (3, 9, 1)) H := h7 156 _ (zc_156 D ids n0)
theorem z_157 (D : va_G) (ids : ClassId × ClassId × ClassId × ClassId) (n0 : Nat) {H : Heap} (h7 : ∀ (i : Nat) (e : va_E), (qX7 (G0 D ids n0) n0)[i]? = some e → va_at D vwCl (n0 + i, e) H) : va_at D vwCl (adr (G0 D ids n0) 3 9 2, cont (G0 D ids n0) h0m (3, 9, 2)) H := h7 157 _ (zc_157 D ids n0)
theorem z_158 (D : va_G) (ids : ClassId × ClassId × ClassId × ClassId) (n0 : Nat) {H : Heap} (h7 : ∀ (i : Nat) (e : va_E), (qX7 (G0 D ids n0) n0)[i]? = some e → va_at D vwCl (n0 + i, e) H) : va_at D vwCl (adr (G0 D ids n0) 3 9 3, cont (G0 D ids n0) h0m (3, 9, 3)) H := h7 158 _ (zc_158 D ids n0)
theorem z_159 (D : va_G) (ids : ClassId × ClassId × ClassId × ClassId) (n0 : Nat) {H : Heap} (h7 : ∀ (i : Nat) (e : va_E), (qX7 (G0 D ids n0) n0)[i]? = some e → va_at D vwCl (n0 + i, e) H) : va_at D vwCl (adr (G0 D ids n0) 3 9 4, cont (G0 D ids n0) h0m (3, 9, 4)) H := h7 159 _ (zc_159 D ids n0)
theorem z_160 (D : va_G) (ids : ClassId × ClassId × ClassId × ClassId) (n0 : Nat) {H : Heap} (h7 : ∀ (i : Nat) (e : va_E), (qX7 (G0 D ids n0) n0)[i]? = some e → va_at D vwCl (n0 + i, e) H) : va_at D vwCl (adr (G0 D ids n0) 3 9 5, cont (G0 D ids n0) h0m (3, 9, 5)) H := h7 160 _ (zc_160 D ids n0)
theorem z_161 (D : va_G) (ids : ClassId × ClassId × ClassId × ClassId) (n0 : Nat) {H : Heap} (h7 : ∀ (i : Nat) (e : va_E), (qX7 (G0 D ids n0) n0)[i]? = some e → va_at D vwCl (n0 + i, e) H) : va_at D vwCl (adr (G0 D ids n0) 3 9 6, cont (G0 D ids n0) h0m (3, 9, 6)) H := h7 161 _ (zc_161 D ids n0)
theorem z_162 (D : va_G) (ids : ClassId × ClassId × ClassId × ClassId) (n0 : Nat) {H : Heap} (h7 : ∀ (i : Nat) (e : va_E), (qX7 (G0 D ids n0) n0)[i]? = some e → va_at D vwCl (n0 + i, e) H) : va_at D vwCl (adr (G0 D ids n0) 3 9 7, cont (G0 D ids n0) h0m (3, 9, 7)) H := h7 162 _ (zc_162 D ids n0)
theorem z_163 (D : va_G) (ids : ClassId × ClassId × ClassId × ClassId) (n0 : Nat) {H : Heap} (h7 : ∀ (i : Nat) (e : va_E), (qX7 (G0 D ids n0) n0)[i]? = some e → va_at D vwCl (n0 + i, e) H) : va_at D vwCl (adr (G0 D ids n0) 3 9 8, cont (G0 D ids n0) h0m (3, 9, 8)) H := h7 163 _ (zc_163 D ids n0)
theorem z_164 (D : va_G) (ids : ClassId × ClassId × ClassId × ClassId) (n0 : Nat) {H : Heap} (h7 : ∀ (i : Nat) (e : va_E), (qX7 (G0 D ids n0) n0)[i]? = some e → va_at D vwCl (n0 + i, e) H) : va_at D vwCl (adr (G0 D ids n0) 3 9 9, cont (G0 D ids n0) h0m (3, 9, 9)) H := h7 164 _ (zc_164 D ids n0)
theorem z_165 (D : va_G) (ids : ClassId × ClassId × ClassId × ClassId) (n0 : Nat) {H : Heap} (h7 : ∀ (i : Nat) (e : va_E), (qX7 (G0 D ids n0) n0)[i]? = some e → va_at D vwCl (n0 + i, e) H) : va_at D vwCl (adr (G0 D ids n0) 3 9 10, cont (G0 D ids n0) h0m (3, 9, 10)) H := h7 165 _ (zc_165 D ids n0)
theorem z_1 (D : va_G) (ids : ClassId × ClassId × ClassId × ClassId) (n0 : Nat) {H : Heap} (h7 : ∀ (i : Nat) (e : va_E), (qX7 (G0 D ids n0) n0)[i]? = some e → va_at D vwCl (n0 + i, e) H) : va_at D vwCl (adr (G0 D ids n0) 4 0 0, cont (G0 D ids n0) h0m (4, 0, 0)) H := h7 1 _ (zc_1 D ids n0)
theorem z_2 (D : va_G) (ids : ClassId × ClassId × ClassId × ClassId) (n0 : Nat) {H : Heap} (h7 : ∀ (i : Nat) (e : va_E), (qX7 (G0 D ids n0) n0)[i]? = some e → va_at D vwCl (n0 + i, e) H) : va_at D vwCl (adr (G0 D ids n0) 4 0 1, cont (G0 D ids n0) h0m (4, 0, 1)) H := h7 2 _ (zc_2 D ids n0)
theorem z_3 (D : va_G) (ids : ClassId × ClassId × ClassId × ClassId) (n0 : Nat) {H : Heap} (h7 : ∀ (i : Nat) (e : va_E), (qX7 (G0 D ids n0) n0)[i]? = some e → va_at D vwCl (n0 + i, e) H) : va_at D vwCl (adr (G0 D ids n0) 4 0 2, cont (G0 D ids n0) h0m (4, 0, 2)) H := h7 3 _ (zc_3 D ids n0)
theorem z_21 (D : va_G) (ids : ClassId × ClassId × ClassId × ClassId) (n0 : Nat) {H : Heap} (h7 : ∀ (i : Nat) (e : va_E), (qX7 (G0 D ids n0) n0)[i]? = some e → va_at D vwCl (n0 + i, e) H) : va_at D vwCl (adr (G0 D ids n0) 5 0 0, cont (G0 D ids n0) h0m (5, 0, 0)) H := h7 21 _ (zc_21 D ids n0)
theorem z_22 (D : va_G) (ids : ClassId × ClassId × ClassId × ClassId) (n0 : Nat) {H : Heap} (h7 : ∀ (i : Nat) (e : va_E), (qX7 (G0 D ids n0) n0)[i]? = some e → va_at D vwCl (n0 + i, e) H) : va_at D vwCl (adr (G0 D ids n0) 5 0 1, cont (G0 D ids n0) h0m (5, 0, 1)) H := h7 22 _ (zc_22 D ids n0)
theorem z_23 (D : va_G) (ids : ClassId × ClassId × ClassId × ClassId) (n0 : Nat) {H : Heap} (h7 : ∀ (i : Nat) (e : va_E), (qX7 (G0 D ids n0) n0)[i]? = some e → va_at D vwCl (n0 + i, e) H) : va_at D vwCl (adr (G0 D ids n0) 5 0 2, cont (G0 D ids n0) h0m (5, 0, 2)) H := h7 23 _ (zc_23 D ids n0)
theorem z_24 (D : va_G) (ids : ClassId × ClassId × ClassId × ClassId) (n0 : Nat) {H : Heap} (h7 : ∀ (i : Nat) (e : va_E), (qX7 (G0 D ids n0) n0)[i]? = some e → va_at D vwCl (n0 + i, e) H) : va_at D vwCl (adr (G0 D ids n0) 5 0 3, cont (G0 D ids n0) h0m (5, 0, 3)) H := h7 24 _ (zc_24 D ids n0)
theorem z_25 (D : va_G) (ids : ClassId × ClassId × ClassId × ClassId) (n0 : Nat) {H : Heap} (h7 : ∀ (i : Nat) (e : va_E), (qX7 (G0 D ids n0) n0)[i]? = some e → va_at D vwCl (n0 + i, e) H) : va_at D vwCl (adr (G0 D ids n0) 5 0 4, cont (G0 D ids n0) h0m (5, 0, 4)) H := h7 25 _ (zc_25 D ids n0)
theorem z_26 (D : va_G) (ids : ClassId × ClassId × ClassId × ClassId) (n0 : Nat) {H : Heap} (h7 : ∀ (i : Nat) (e : va_E), (qX7 (G0 D ids n0) n0)[i]? = some e → va_at D vwCl (n0 + i, e) H) : va_at D vwCl (adr (G0 D ids n0) 5 0 5, cont (G0 D ids n0) h0m (5, 0, 5)) H := h7 26 _ (zc_26 D ids n0)
theorem z_27 (D : va_G) (ids : ClassId × ClassId × ClassId × ClassId) (n0 : Nat) {H : Heap} (h7 : ∀ (i : Nat) (e : va_E), (qX7 (G0 D ids n0) n0)[i]? = some e → va_at D vwCl (n0 + i, e) H) : va_at D vwCl (adr (G0 D ids n0) 5 0 6, cont (G0 D ids n0) h0m (5, 0, 6)) H := h7 27 _ (zc_27 D ids n0)
theorem z_28 (D : va_G) (ids : ClassId × ClassId × ClassId × ClassId) (n0 : Nat) {H : Heap} (h7 : ∀ (i : Nat) (e : va_E), (qX7 (G0 D ids n0) n0)[i]? = some e → va_at D vwCl (n0 + i, e) H) : va_at D vwCl (adr (G0 D ids n0) 5 0 7, cont (G0 D ids n0) h0m (5, 0, 7)) H := h7 28 _ (zc_28 D ids n0)
theorem z_29 (D : va_G) (ids : ClassId × ClassId × ClassId × ClassId) (n0 : Nat) {H : Heap} (h7 : ∀ (i : Nat) (e : va_E), (qX7 (G0 D ids n0) n0)[i]? = some e → va_at D vwCl (n0 + i, e) H) : va_at D vwCl (adr (G0 D ids n0) 5 0 8, cont (G0 D ids n0) h0m (5, 0, 8)) H := h7 29 _ (zc_29 D ids n0)
theorem z_30 (D : va_G) (ids : ClassId × ClassId × ClassId × ClassId) (n0 : Nat) {H : Heap} (h7 : ∀ (i : Nat) (e : va_E), (qX7 (G0 D ids n0) n0)[i]? = some e → va_at D vwCl (n0 + i, e) H) : va_at D vwCl (adr (G0 D ids n0) 5 0 9, cont (G0 D ids n0) h0m (5, 0, 9)) H := h7 30 _ (zc_30 D ids n0)
theorem z_38 (D : va_G) (ids : ClassId × ClassId × ClassId × ClassId) (n0 : Nat) {H : Heap} (h7 : ∀ (i : Nat) (e : va_E), (qX7 (G0 D ids n0) n0)[i]? = some e → va_at D vwCl (n0 + i, e) H) : va_at D vwCl (adr (G0 D ids n0) 5 1 0, cont (G0 D ids n0) h0m (5, 1, 0)) H := h7 38 _ (zc_38 D ids n0)
theorem z_39 (D : va_G) (ids : ClassId × ClassId × ClassId × ClassId) (n0 : Nat) {H : Heap} (h7 : ∀ (i : Nat) (e : va_E), (qX7 (G0 D ids n0) n0)[i]? = some e → va_at D vwCl (n0 + i, e) H) : va_at D vwCl (adr (G0 D ids n0) 5 1 1, cont (G0 D ids n0) h0m (5, 1, 1)) H := h7 39 _ (zc_39 D ids n0)
theorem z_40 (D : va_G) (ids : ClassId × ClassId × ClassId × ClassId) (n0 : Nat) {H : Heap} (h7 : ∀ (i : Nat) (e : va_E), (qX7 (G0 D ids n0) n0)[i]? = some e → va_at D vwCl (n0 + i, e) H) : va_at D vwCl (adr (G0 D ids n0) 5 1 2, cont (G0 D ids n0) h0m (5, 1, 2)) H := h7 40 _ (zc_40 D ids n0)
theorem z_41 (D : va_G) (ids : ClassId × ClassId × ClassId × ClassId) (n0 : Nat) {H : Heap} (h7 : ∀ (i : Nat) (e : va_E), (qX7 (G0 D ids n0) n0)[i]? = some e → va_at D vwCl (n0 + i, e) H) : va_at D vwCl (adr (G0 D ids n0) 5 1 3, cont (G0 D ids n0) h0m (5, 1, 3)) H := h7 41 _ (zc_41 D ids n0)
theorem z_42 (D : va_G) (ids : ClassId × ClassId × ClassId × ClassId) (n0 : Nat) {H : Heap} (h7 : ∀ (i : Nat) (e : va_E), (qX7 (G0 D ids n0) n0)[i]? = some e → va_at D vwCl (n0 + i, e) H) : va_at D vwCl (adr (G0 D ids n0) 5 1 4, cont (G0 D ids n0) h0m (5, 1, 4)) H := h7 42 _ (zc_42 D ids n0)
theorem z_43 (D : va_G) (ids : ClassId × ClassId × ClassId × ClassId) (n0 : Nat) {H : Heap} (h7 : ∀ (i : Nat) (e : va_E), (qX7 (G0 D ids n0) n0)[i]? = some e → va_at D vwCl (n0 + i, e) H) : va_at D vwCl (adr (G0 D ids n0) 5 1 5, cont (G0 D ids n0) h0m (5, 1, 5)) H := h7 43 _ (zc_43 D ids n0)
theorem z_44 (D : va_G) (ids : ClassId × ClassId × ClassId × ClassId) (n0 : Nat) {H : Heap} (h7 : ∀ (i : Nat) (e : va_E), (qX7 (G0 D ids n0) n0)[i]? = some e → va_at D vwCl (n0 + i, e) H) : va_at D vwCl (adr (G0 D ids n0) 5 1 6, cont (G0 D ids n0) h0m (5, 1, 6)) H := h7 44 _ (zc_44 D ids n0)
theorem z_45 (D : va_G) (ids : ClassId × ClassId × ClassId × ClassId) (n0 : Nat) {H : Heap} (h7 : ∀ (i : Nat) (e : va_E), (qX7 (G0 D ids n0) n0)[i]? = some e → va_at D vwCl (n0 + i, e) H) : va_at D vwCl (adr (G0 D ids n0) 5 1 7, cont (G0 D ids n0) h0m (5, 1, 7)) H := h7 45 _ (zc_45 D ids n0)
theorem z_46 (D : va_G) (ids : ClassId × ClassId × ClassId × ClassId) (n0 : Nat) {H : Heap} (h7 : ∀ (i : Nat) (e : va_E), (qX7 (G0 D ids n0) n0)[i]? = some e → va_at D vwCl (n0 + i, e) H) : va_at D vwCl (adr (G0 D ids n0) 5 1 8, cont (G0 D ids n0) h0m (5, 1, 8)) H := h7 46 _ (zc_46 D ids n0)
theorem z_47 (D : va_G) (ids : ClassId × ClassId × ClassId × ClassId) (n0 : Nat) {H : Heap} (h7 : ∀ (i : Nat) (e : va_E), (qX7 (G0 D ids n0) n0)[i]? = some e → va_at D vwCl (n0 + i, e) H) : va_at D vwCl (adr (G0 D ids n0) 5 1 9, cont (G0 D ids n0) h0m (5, 1, 9)) H := h7 47 _ (zc_47 D ids n0)
theorem z_12 (D : va_G) (ids : ClassId × ClassId × ClassId × ClassId) (n0 : Nat) {H : Heap} (h7 : ∀ (i : Nat) (e : va_E), (qX7 (G0 D ids n0) n0)[i]? = some e → va_at D vwCl (n0 + i, e) H) : va_at D vwCl (adr (G0 D ids n0) 6 0 0, cont (G0 D ids n0) h0m (6, 0, 0)) H := h7 12 _ (zc_12 D ids n0)
theorem z_13 (D : va_G) (ids : ClassId × ClassId × ClassId × ClassId) (n0 : Nat) {H : Heap} (h7 : ∀ (i : Nat) (e : va_E), (qX7 (G0 D ids n0) n0)[i]? = some e → va_at D vwCl (n0 + i, e) H) : va_at D vwCl (adr (G0 D ids n0) 6 0 1, cont (G0 D ids n0) h0m (6, 0, 1)) H := h7 13 _ (zc_13 D ids n0)
theorem z_14 (D : va_G) (ids : ClassId × ClassId × ClassId × ClassId) (n0 : Nat) {H : Heap} (h7 : ∀ (i : Nat) (e : va_E), (qX7 (G0 D ids n0) n0)[i]? = some e → va_at D vwCl (n0 + i, e) H) : va_at D vwCl (adr (G0 D ids n0) 6 0 2, cont (G0 D ids n0) h0m (6, 0, 2)) H := h7 14 _ (zc_14 D ids n0)
theorem z_15 (D : va_G) (ids : ClassId × ClassId × ClassId × ClassId) (n0 : Nat) {H : Heap} (h7 : ∀ (i : Nat) (e : va_E), (qX7 (G0 D ids n0) n0)[i]? = some e → va_at D vwCl (n0 + i, e) H) : va_at D vwCl (adr (G0 D ids n0) 6 0 3, cont (G0 D ids n0) h0m (6, 0, 3)) H := h7 15 _ (zc_15 D ids n0)
theorem z_0 (D : va_G) (ids : ClassId × ClassId × ClassId × ClassId) (n0 : Nat) {H : Heap} (h7 : ∀ (i : Nat) (e : va_E), (qX7 (G0 D ids n0) n0)[i]? = some e → va_at D vwCl (n0 + i, e) H) : va_at D vwCl (adr (G0 D ids n0) 7 0 0, cont (G0 D ids n0) h0m (7, 0, 0)) H := h7 0 _ (zc_0 D ids n0)
theorem z_16 (D : va_G) (ids : ClassId × ClassId × ClassId × ClassId) (n0 : Nat) {H : Heap} (h7 : ∀ (i : Nat) (e : va_E), (qX7 (G0 D ids n0) n0)[i]? = some e → va_at D vwCl (n0 + i, e) H) : va_at D vwCl (adr (G0 D ids n0) 7 0 1, cont (G0 D ids n0) h0m (7, 0, 1)) H := h7 16 _ (zc_16 D ids n0)
theorem z_17 (D : va_G) (ids : ClassId × ClassId × ClassId × ClassId) (n0 : Nat) {H : Heap} (h7 : ∀ (i : Nat) (e : va_E), (qX7 (G0 D ids n0) n0)[i]? = some e → va_at D vwCl (n0 + i, e) H) : va_at D vwCl (adr (G0 D ids n0) 7 0 2, cont (G0 D ids n0) h0m (7, 0, 2)) H := h7 17 _ (zc_17 D ids n0)
theorem z_18 (D : va_G) (ids : ClassId × ClassId × ClassId × ClassId) (n0 : Nat) {H : Heap} (h7 : ∀ (i : Nat) (e : va_E), (qX7 (G0 D ids n0) n0)[i]? = some e → va_at D vwCl (n0 + i, e) H) : va_at D vwCl (adr (G0 D ids n0) 7 0 3, cont (G0 D ids n0) h0m (7, 0, 3)) H := h7 18 _ (zc_18 D ids n0)
theorem z_19 (D : va_G) (ids : ClassId × ClassId × ClassId × ClassId) (n0 : Nat) {H : Heap} (h7 : ∀ (i : Nat) (e : va_E), (qX7 (G0 D ids n0) n0)[i]? = some e → va_at D vwCl (n0 + i, e) H) : va_at D vwCl (adr (G0 D ids n0) 7 0 4, cont (G0 D ids n0) h0m (7, 0, 4)) H := h7 19 _ (zc_19 D ids n0)
theorem z_20 (D : va_G) (ids : ClassId × ClassId × ClassId × ClassId) (n0 : Nat) {H : Heap} (h7 : ∀ (i : Nat) (e : va_E), (qX7 (G0 D ids n0) n0)[i]? = some e → va_at D vwCl (n0 + i, e) H) : va_at D vwCl (adr (G0 D ids n0) 7 0 5, cont (G0 D ids n0) h0m (7, 0, 5)) H := h7 20 _ (zc_20 D ids n0)
theorem z_88 (D : va_G) (ids : ClassId × ClassId × ClassId × ClassId) (n0 : Nat) {H : Heap} (h7 : ∀ (i : Nat) (e : va_E), (qX7 (G0 D ids n0) n0)[i]? = some e → va_at D vwCl (n0 + i, e) H) : va_at D vwCl (adr (G0 D ids n0) 7 0 6, cont (G0 D ids n0) h0m (7, 0, 6)) H := by
  have h := h7 88 _ (zc_88 D ids n0)
  have e : vp_cell ids.2.2.2 (7, .inr (.inr (.inr (.inr (stpF n0 7))))) = vp_cell ids.2.2.2 (7, .inr (.inr (.inr (.inr fun i => some (adr (G0 D ids n0) 3 (3 + i) 0))))) := by
    rw [vp_cell_q, vp_cell_q]
    unfold arrV
    congr 2
    funext j
    have hj := j.isLt
    show va_rf (stpF n0 7 j.val) = va_rf (some (n0 + offT 3 (3 + j.val) 0))
    unfold stpF offT
    rw [if_pos hj]
    show va_rf (some (n0 + (89 + 11 * j.val))) = va_rf (some (n0 + ((if 3 + j.val < 3 then 55 else 56) + 11 * (3 + j.val) + 0)))
    rw [if_neg (by omega)]
    congr 2
    omega
  have h2 : H[n0 + 88]? = some (vp_cell ids.2.2.2 (7, .inr (.inr (.inr (.inr (stpF n0 7)))))) := h
  rw [e] at h2
  exact h2
set_option maxRecDepth 100000 in
/-- the whole world out of its two blocks -/
theorem world0 {D : va_G} {ids : ClassId × ClassId × ClassId × ClassId} {n0 : Nat} {H : Heap} (h7 : ∀ (i : Nat) (e : va_E), (qX7 (G0 D ids n0) n0)[i]? = some e → va_at D vwCl (n0 + i, e) H) : va_P D vwCl (enc (G0 D ids n0) h0m) H := by
  have all : ∀ q ∈ litL, va_at D vwCl (adr (G0 D ids n0) q.1 q.2.1 q.2.2, cont (G0 D ids n0) h0m q) H := by
    refine List.forall_mem_cons.mpr ⟨z_31 D ids n0 h7, List.forall_mem_cons.mpr ⟨z_32 D ids n0 h7, List.forall_mem_cons.mpr ⟨z_33 D ids n0 h7, List.forall_mem_cons.mpr ⟨z_34 D ids n0 h7, List.forall_mem_cons.mpr ⟨z_35 D ids n0 h7, List.forall_mem_cons.mpr ⟨z_36 D ids n0 h7, List.forall_mem_cons.mpr ⟨z_37 D ids n0 h7, List.forall_mem_cons.mpr ⟨z_48 D ids n0 h7, List.forall_mem_cons.mpr ⟨z_49 D ids n0 h7, List.forall_mem_cons.mpr ⟨z_50 D ids n0 h7, List.forall_mem_cons.mpr ⟨z_51 D ids n0 h7, List.forall_mem_cons.mpr ⟨z_52 D ids n0 h7, List.forall_mem_cons.mpr ⟨z_53 D ids n0 h7, List.forall_mem_cons.mpr ⟨z_54 D ids n0 h7, List.forall_mem_cons.mpr ⟨z_4 D ids n0 h7, List.forall_mem_cons.mpr ⟨z_5 D ids n0 h7, List.forall_mem_cons.mpr ⟨z_6 D ids n0 h7, List.forall_mem_cons.mpr ⟨z_7 D ids n0 h7, List.forall_mem_cons.mpr ⟨z_8 D ids n0 h7, List.forall_mem_cons.mpr ⟨z_9 D ids n0 h7, List.forall_mem_cons.mpr ⟨z_10 D ids n0 h7, List.forall_mem_cons.mpr ⟨z_11 D ids n0 h7, List.forall_mem_cons.mpr ⟨z_55 D ids n0 h7, List.forall_mem_cons.mpr ⟨z_56 D ids n0 h7, List.forall_mem_cons.mpr ⟨z_57 D ids n0 h7, List.forall_mem_cons.mpr ⟨z_58 D ids n0 h7, List.forall_mem_cons.mpr ⟨z_59 D ids n0 h7, List.forall_mem_cons.mpr ⟨z_60 D ids n0 h7, List.forall_mem_cons.mpr ⟨z_61 D ids n0 h7, List.forall_mem_cons.mpr ⟨z_62 D ids n0 h7, List.forall_mem_cons.mpr ⟨z_63 D ids n0 h7, List.forall_mem_cons.mpr ⟨z_64 D ids n0 h7, List.forall_mem_cons.mpr ⟨z_65 D ids n0 h7, List.forall_mem_cons.mpr ⟨z_66 D ids n0 h7, List.forall_mem_cons.mpr ⟨z_67 D ids n0 h7, List.forall_mem_cons.mpr ⟨z_68 D ids n0 h7, List.forall_mem_cons.mpr ⟨z_69 D ids n0 h7, List.forall_mem_cons.mpr ⟨z_70 D ids n0 h7, List.forall_mem_cons.mpr ⟨z_71 D ids n0 h7, List.forall_mem_cons.mpr ⟨z_72 D ids n0 h7, List.forall_mem_cons.mpr ⟨z_73 D ids n0 h7, List.forall_mem_cons.mpr ⟨z_74 D ids n0 h7, List.forall_mem_cons.mpr ⟨z_75 D ids n0 h7, List.forall_mem_cons.mpr ⟨z_76 D ids n0 h7, List.forall_mem_cons.mpr ⟨z_77 D ids n0 h7, List.forall_mem_cons.mpr ⟨z_78 D ids n0 h7, List.forall_mem_cons.mpr ⟨z_79 D ids n0 h7, List.forall_mem_cons.mpr ⟨z_80 D ids n0 h7, List.forall_mem_cons.mpr ⟨z_81 D ids n0 h7, List.forall_mem_cons.mpr ⟨z_82 D ids n0 h7, List.forall_mem_cons.mpr ⟨z_83 D ids n0 h7, List.forall_mem_cons.mpr ⟨z_84 D ids n0 h7, List.forall_mem_cons.mpr ⟨z_85 D ids n0 h7, List.forall_mem_cons.mpr ⟨z_86 D ids n0 h7, List.forall_mem_cons.mpr ⟨z_87 D ids n0 h7, List.forall_mem_cons.mpr ⟨z_89 D ids n0 h7, List.forall_mem_cons.mpr ⟨z_90 D ids n0 h7, List.forall_mem_cons.mpr ⟨z_91 D ids n0 h7, List.forall_mem_cons.mpr ⟨z_92 D ids n0 h7, List.forall_mem_cons.mpr ⟨z_93 D ids n0 h7, List.forall_mem_cons.mpr ⟨z_94 D ids n0 h7, List.forall_mem_cons.mpr ⟨z_95 D ids n0 h7, List.forall_mem_cons.mpr ⟨z_96 D ids n0 h7, List.forall_mem_cons.mpr ⟨z_97 D ids n0 h7, List.forall_mem_cons.mpr ⟨z_98 D ids n0 h7, List.forall_mem_cons.mpr ⟨z_99 D ids n0 h7, List.forall_mem_cons.mpr ⟨z_100 D ids n0 h7, List.forall_mem_cons.mpr ⟨z_101 D ids n0 h7, List.forall_mem_cons.mpr ⟨z_102 D ids n0 h7, List.forall_mem_cons.mpr ⟨z_103 D ids n0 h7, List.forall_mem_cons.mpr ⟨z_104 D ids n0 h7, List.forall_mem_cons.mpr ⟨z_105 D ids n0 h7, List.forall_mem_cons.mpr ⟨z_106 D ids n0 h7, List.forall_mem_cons.mpr ⟨z_107 D ids n0 h7, List.forall_mem_cons.mpr ⟨z_108 D ids n0 h7, List.forall_mem_cons.mpr ⟨z_109 D ids n0 h7, List.forall_mem_cons.mpr ⟨z_110 D ids n0 h7, List.forall_mem_cons.mpr ⟨z_111 D ids n0 h7, List.forall_mem_cons.mpr ⟨z_112 D ids n0 h7, List.forall_mem_cons.mpr ⟨z_113 D ids n0 h7, List.forall_mem_cons.mpr ⟨z_114 D ids n0 h7, List.forall_mem_cons.mpr ⟨z_115 D ids n0 h7, List.forall_mem_cons.mpr ⟨z_116 D ids n0 h7, List.forall_mem_cons.mpr ⟨z_117 D ids n0 h7, List.forall_mem_cons.mpr ⟨z_118 D ids n0 h7, List.forall_mem_cons.mpr ⟨z_119 D ids n0 h7, List.forall_mem_cons.mpr ⟨z_120 D ids n0 h7, List.forall_mem_cons.mpr ⟨z_121 D ids n0 h7, List.forall_mem_cons.mpr ⟨z_122 D ids n0 h7, List.forall_mem_cons.mpr ⟨z_123 D ids n0 h7, List.forall_mem_cons.mpr ⟨z_124 D ids n0 h7, List.forall_mem_cons.mpr ⟨z_125 D ids n0 h7, List.forall_mem_cons.mpr ⟨z_126 D ids n0 h7, List.forall_mem_cons.mpr ⟨z_127 D ids n0 h7, List.forall_mem_cons.mpr ⟨z_128 D ids n0 h7, List.forall_mem_cons.mpr ⟨z_129 D ids n0 h7, List.forall_mem_cons.mpr ⟨z_130 D ids n0 h7, List.forall_mem_cons.mpr ⟨z_131 D ids n0 h7, List.forall_mem_cons.mpr ⟨z_132 D ids n0 h7, List.forall_mem_cons.mpr ⟨z_133 D ids n0 h7, List.forall_mem_cons.mpr ⟨z_134 D ids n0 h7, List.forall_mem_cons.mpr ⟨z_135 D ids n0 h7, List.forall_mem_cons.mpr ⟨z_136 D ids n0 h7, List.forall_mem_cons.mpr ⟨z_137 D ids n0 h7, List.forall_mem_cons.mpr ⟨z_138 D ids n0 h7, List.forall_mem_cons.mpr ⟨z_139 D ids n0 h7, List.forall_mem_cons.mpr ⟨z_140 D ids n0 h7, List.forall_mem_cons.mpr ⟨z_141 D ids n0 h7, List.forall_mem_cons.mpr ⟨z_142 D ids n0 h7, List.forall_mem_cons.mpr ⟨z_143 D ids n0 h7, List.forall_mem_cons.mpr ⟨z_144 D ids n0 h7, List.forall_mem_cons.mpr ⟨z_145 D ids n0 h7, List.forall_mem_cons.mpr ⟨z_146 D ids n0 h7, List.forall_mem_cons.mpr ⟨z_147 D ids n0 h7, List.forall_mem_cons.mpr ⟨z_148 D ids n0 h7, List.forall_mem_cons.mpr ⟨z_149 D ids n0 h7, List.forall_mem_cons.mpr ⟨z_150 D ids n0 h7, List.forall_mem_cons.mpr ⟨z_151 D ids n0 h7, List.forall_mem_cons.mpr ⟨z_152 D ids n0 h7, List.forall_mem_cons.mpr ⟨z_153 D ids n0 h7, List.forall_mem_cons.mpr ⟨z_154 D ids n0 h7, List.forall_mem_cons.mpr ⟨z_155 D ids n0 h7, List.forall_mem_cons.mpr ⟨z_156 D ids n0 h7, List.forall_mem_cons.mpr ⟨z_157 D ids n0 h7, List.forall_mem_cons.mpr ⟨z_158 D ids n0 h7, List.forall_mem_cons.mpr ⟨z_159 D ids n0 h7, List.forall_mem_cons.mpr ⟨z_160 D ids n0 h7, List.forall_mem_cons.mpr ⟨z_161 D ids n0 h7, List.forall_mem_cons.mpr ⟨z_162 D ids n0 h7, List.forall_mem_cons.mpr ⟨z_163 D ids n0 h7, List.forall_mem_cons.mpr ⟨z_164 D ids n0 h7, List.forall_mem_cons.mpr ⟨z_165 D ids n0 h7, List.forall_mem_cons.mpr ⟨z_1 D ids n0 h7, List.forall_mem_cons.mpr ⟨z_2 D ids n0 h7, List.forall_mem_cons.mpr ⟨z_3 D ids n0 h7, List.forall_mem_cons.mpr ⟨z_21 D ids n0 h7, List.forall_mem_cons.mpr ⟨z_22 D ids n0 h7, List.forall_mem_cons.mpr ⟨z_23 D ids n0 h7, List.forall_mem_cons.mpr ⟨z_24 D ids n0 h7, List.forall_mem_cons.mpr ⟨z_25 D ids n0 h7, List.forall_mem_cons.mpr ⟨z_26 D ids n0 h7, List.forall_mem_cons.mpr ⟨z_27 D ids n0 h7, List.forall_mem_cons.mpr ⟨z_28 D ids n0 h7, List.forall_mem_cons.mpr ⟨z_29 D ids n0 h7, List.forall_mem_cons.mpr ⟨z_30 D ids n0 h7, List.forall_mem_cons.mpr ⟨z_38 D ids n0 h7, List.forall_mem_cons.mpr ⟨z_39 D ids n0 h7, List.forall_mem_cons.mpr ⟨z_40 D ids n0 h7, List.forall_mem_cons.mpr ⟨z_41 D ids n0 h7, List.forall_mem_cons.mpr ⟨z_42 D ids n0 h7, List.forall_mem_cons.mpr ⟨z_43 D ids n0 h7, List.forall_mem_cons.mpr ⟨z_44 D ids n0 h7, List.forall_mem_cons.mpr ⟨z_45 D ids n0 h7, List.forall_mem_cons.mpr ⟨z_46 D ids n0 h7, List.forall_mem_cons.mpr ⟨z_47 D ids n0 h7, List.forall_mem_cons.mpr ⟨z_12 D ids n0 h7, List.forall_mem_cons.mpr ⟨z_13 D ids n0 h7, List.forall_mem_cons.mpr ⟨z_14 D ids n0 h7, List.forall_mem_cons.mpr ⟨z_15 D ids n0 h7, List.forall_mem_cons.mpr ⟨z_0 D ids n0 h7, List.forall_mem_cons.mpr ⟨z_16 D ids n0 h7, List.forall_mem_cons.mpr ⟨z_17 D ids n0 h7, List.forall_mem_cons.mpr ⟨z_18 D ids n0 h7, List.forall_mem_cons.mpr ⟨z_19 D ids n0 h7, List.forall_mem_cons.mpr ⟨z_20 D ids n0 h7, List.forall_mem_cons.mpr ⟨z_88 D ids n0 h7, fun _ h => absurd h List.not_mem_nil⟩⟩⟩⟩⟩⟩⟩⟩⟩⟩⟩⟩⟩⟩⟩⟩⟩⟩⟩⟩⟩⟩⟩⟩⟩⟩⟩⟩⟩⟩⟩⟩⟩⟩⟩⟩⟩⟩⟩⟩⟩⟩⟩⟩⟩⟩⟩⟩⟩⟩⟩⟩⟩⟩⟩⟩⟩⟩⟩⟩⟩⟩⟩⟩⟩⟩⟩⟩⟩⟩⟩⟩⟩⟩⟩⟩⟩⟩⟩⟩⟩⟩⟩⟩⟩⟩⟩⟩⟩⟩⟩⟩⟩⟩⟩⟩⟩⟩⟩⟩⟩⟩⟩⟩⟩⟩⟩⟩⟩⟩⟩⟩⟩⟩⟩⟩⟩⟩⟩⟩⟩⟩⟩⟩⟩⟩⟩⟩⟩⟩⟩⟩⟩⟩⟩⟩⟩⟩⟩⟩⟩⟩⟩⟩⟩⟩⟩⟩⟩⟩⟩⟩⟩⟩⟩⟩⟩⟩⟩⟩⟩⟩⟩⟩⟩⟩
  intro k q hk
  rw [enc, List.getElem?_map] at hk
  cases hz : locL[k]? with
  | none => rw [hz] at hk; cases hk
  | some z =>
    rw [hz] at hk
    cases hk
    exact all z (by rw [← lit_eq]; exact List.mem_of_getElem? hz)
