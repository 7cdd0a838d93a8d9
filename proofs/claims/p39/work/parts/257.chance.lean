-- PURE: how likely a gain is, by both
def chN (T : Txt) (S : Str) (seed : Int32) (n : Nat) : Nat → Int32
  | 0 => seed
  | i + 1 => (passG T (upI S 15 (chN T S seed n i)) n).2 15
def chC (T : Txt) (S : Str) (seed : Int32) (n c : Nat) (bound : Int32) : Nat → Nat
  | 0 => 0
  | i + 1 => if (passG T (upI S 15 (chN T S seed n i)) n).1 6 c < bound then chC T S seed n c bound i else chC T S seed n c bound i + 1
theorem chC_s (T : Txt) (S : Str) (seed : Int32) (n c : Nat) (bound : Int32) (i : Nat) : chC T S seed n c bound (i + 1) = if (passG T (upI S 15 (chN T S seed n i)) n).1 6 c < bound then chC T S seed n c bound i else chC T S seed n c bound i + 1 := rfl
def chaM (T : Txt) (S : Str) (seed n c bound : Int32) : Int32 := if (0 ≤ seed ∧ 1 ≤ n ∧ n ≤ 99) ∧ inC T c = true ∧ 0 ≤ bound ∧ bound ≤ 999999 then nI (chC T S seed n.toNatClampNeg c.toNatClampNeg bound 10) else -1
section Chance
variable {N : Nat} {h g : Hp} {t b : Nat} {ru : Int32} {T : Txt} {S I : Str} {X : Xs}
theorem cl_chance (hN : 1000 ≤ N) (r : RC h t T S I X) (hz : S.2 16 = 1) (seed n c bound : Int32) : ∃ g, f_X7_chance N h seed n c bound = some (chaM T S seed n c bound, g) ∧ Fr h g := by
  have hT := r.1.2.2.2.2.1
  have hc4 := hT.2.1.2
  unfold f_X7_chance chaM
  simp only [jn_e, cl_isIn, cl_isCroft r.1.2.1 r.1.2.2.2.1, bind_s, b2i0, decide_eq_false_iff_not, Classical.not_not]
  by_cases z : seed < 0
  · rw [if_pos z, if_neg (fun q => absurd q.1.1 (Int32.not_le.mpr z))]; exact ⟨h, rfl, Fr.rf h⟩
  rw [if_neg z]
  by_cases w : 1 ≤ n ∧ n ≤ 99
  rotate_left
  · rw [if_pos w, if_neg (fun q => w q.1.2)]; exact ⟨h, rfl, Fr.rf h⟩
  rw [if_neg (fun q => q w)]
  cases hc : inC T c with
  | false => rw [if_pos rfl, if_neg (fun q => Bool.noConfusion q.2.1)]; exact ⟨h, rfl, Fr.rf h⟩
  | true =>
    rw [if_neg (fun q => Bool.noConfusion q)]
    by_cases y : 0 ≤ bound ∧ bound ≤ 999999
    rotate_left
    · rw [if_neg y, if_neg (fun q => y q.2.2)]; exact ⟨h, rfl, Fr.rf h⟩
    rw [if_pos y, if_pos (show (0 ≤ seed ∧ 1 ≤ n ∧ n ≤ 99) ∧ true = true ∧ 0 ≤ bound ∧ bound ≤ 999999 from ⟨⟨Int32.not_lt.mp z, w⟩, rfl, y⟩)]
    obtain ⟨i, hi, rfl⟩ := inC_of hT hc
    obtain ⟨k, hk, rfl⟩ := rngN (a := n) (m := 99) (by omega) (Int32.le_trans (by decide) w.1) w.2
    rw [grd_p (show inb 0 7 by decide), lt_e, show 3 + (0 : Int32).toNatClampNeg = 3 from rfl, clN (show i < 2 ^ 31 by omega), clN (show k < 2 ^ 31 by omega)]
    refine iter_inv (bot := fun _ _ _ _ => none) (b := f_X7_chance_53 N (nI k) (nI i) bound 3) (fun m q => ∀ j g, j ≤ 10 → 10 < m + j → Fr h g → ∃ g', q (nI (chC T S seed k i bound j)) (chN T S seed k j) (nI j) g = some (nI (chC T S seed k i bound 10), g') ∧ Fr h g') (fun j _ _ _ => by omega) (fun m q ih j g hj hm f => ?_) N 0 h (by omega) (by omega) (Fr.rf h)
    unfold f_X7_chance_53
    by_cases v : j = 10
    · subst v
      rw [if_pos (show (10 : Int32) ≤ nI 10 by decide)]
      exact ⟨g, rfl, f⟩
    · rw [if_neg (show ¬ (10 : Int32) ≤ nI j from nleN (a := 10) (show j < 10 by omega) (by omega))]
      obtain ⟨g1, e1, c1, d1⟩ := (f.rc r).sd.copyC (o := 3) (by decide) hz (by decide)
      obtain ⟨f2, d2⟩ := d1.num 15 (chN T S seed k j)
      obtain ⟨g3, e3, f3, d3⟩ := d2.gales hN (n := k) (by omega)
      have a15 : gI g3 3 3 15 = chN T S seed k (j + 1) := d3.2.2.2.2.2.2.2 15 (by omega) (by omega)
      have a6 : gA g3 3 3 6 i = (passG T (upI S 15 (chN T S seed k j)) k).1 6 i := (d3.2.2.2.2.2.1 i hi).2.2.2.2.1
      have nx := ih (j + 1) g3 (by omega) (by omega) (f.tr (c1.1.tr ((f2.tr f3).fr (by decide))))
      rw [chC_s] at nx
      rw [e1, bind_s, lt_e, e3, bind_s, lt_e, a15]
      simp only [jn_e, lt_e, grd_p (inb_n (show i < 4 by omega) (show 4 < 2 ^ 31 by omega)), clN (show i < 2 ^ 31 by omega), a6, nI_1]
      by_cases u : (passG T (upI S 15 (chN T S seed k j)) k).1 6 i < bound
      · rw [if_pos u] at nx
        rw [if_pos u]; exact nx
      · rw [if_neg u] at nx
        rw [if_neg u]; exact nx
end Chance

