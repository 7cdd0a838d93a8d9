-- PURE: rests, rest: the class's answers, and by differences
theorem rcM_s (A B : Nat → Int32) (x : Nat) : rcM A B (x + 1) = if rsM A B x 4 = true then rcM A B x + 1 else rcM A B x := rfl
theorem rkM_s (A B : Nat → Int32) (k : Int32) (n x : Nat) : rkM A B k (n + 1) x = if rsM A B x 4 = true ∧ nI (rcM A B x) = k then nI (10 * (x / 4) + x % 4) else rkM A B k n (x + 1) := rfl
theorem rsM_cg {A B A' B' : Nat → Int32} {x : Nat} (hx : x < 16) (hA : ∀ i j, i < 16 → j < 16 → (A i < A j ↔ A' i < A' j)) (hB : ∀ i j, i < 16 → j < 16 → (B i < B j ↔ B' i < B' j)) : ∀ n, n ≤ 4 → rsM A B x n = rsM A' B' x n
  | 0, _ => rfl
  | n + 1, h => by
    rw [rsM_s, rsM_s, rsM_cg hx hA hB n (by omega)]
    have a := hA x (n * 4 + x % 4) hx (by omega)
    have b := hB x (x / 4 * 4 + n) hx (by omega)
    have ea : decide (¬ A x < A (n * 4 + x % 4)) = decide (¬ A' x < A' (n * 4 + x % 4)) := decide_eq_decide.mpr (not_congr a)
    have eb : decide (¬ B x < B (x / 4 * 4 + n)) = decide (¬ B' x < B' (x / 4 * 4 + n)) := decide_eq_decide.mpr (not_congr b)
    rw [ea, eb]
theorem rcM_cg {A B A' B' : Nat → Int32} (hA : ∀ i j, i < 16 → j < 16 → (A i < A j ↔ A' i < A' j)) (hB : ∀ i j, i < 16 → j < 16 → (B i < B j ↔ B' i < B' j)) : ∀ x, x ≤ 16 → rcM A B x = rcM A' B' x
  | 0, _ => rfl
  | x + 1, h => by rw [rcM_s, rcM_s, rcM_cg hA hB x (by omega), rsM_cg (show x < 16 by omega) hA hB 4 (by omega)]
theorem rkM_cg {A B A' B' : Nat → Int32} (hA : ∀ i j, i < 16 → j < 16 → (A i < A j ↔ A' i < A' j)) (hB : ∀ i j, i < 16 → j < 16 → (B i < B j ↔ B' i < B' j)) (k : Int32) : ∀ n x, n + x ≤ 16 → rkM A B k n x = rkM A' B' k n x
  | 0, _, _ => rfl
  | n + 1, x, h => by rw [rkM_s, rkM_s, rkM_cg hA hB k n (x + 1) (by omega), rcM_cg hA hB x (by omega), rsM_cg (show x < 16 by omega) hA hB 4 (by omega)]
def rssM (T : Txt) (S : Str) (a b n : Int32) : Int32 := if coM T S a b n = true then nI (rcM (gnM T S a.toNatClampNeg b.toNatClampNeg n.toNatClampNeg a.toNatClampNeg) (gnM T S a.toNatClampNeg b.toNatClampNeg n.toNatClampNeg b.toNatClampNeg) 16) else -1
def rstM (T : Txt) (S : Str) (a b n k : Int32) : Int32 := if coM T S a b n = true ∧ 0 ≤ k then rkM (gnM T S a.toNatClampNeg b.toNatClampNeg n.toNatClampNeg a.toNatClampNeg) (gnM T S a.toNatClampNeg b.toNatClampNeg n.toNatClampNeg b.toNatClampNeg) k 16 0 else -1
theorem coM_of {T : Txt} {S : Str} (hT : TOK T) {a b n : Int32} (h : coM T S a b n = true) : ∃ i j k, i < nCr T ∧ j < nCr T ∧ i ≠ j ∧ k ≤ 99 ∧ a = nI i ∧ b = nI j ∧ n = nI k := by
  unfold coM at h
  simp only [Bool.and_eq_true, decide_eq_true_eq] at h
  obtain ⟨⟨⟨⟨⟨h1, h2⟩, h3⟩, h4⟩, -⟩, -⟩ := h
  obtain ⟨i, hi, rfl⟩ := inC_of hT h1
  obtain ⟨j, hj, rfl⟩ := inC_of hT h2
  obtain ⟨k, hk, rfl⟩ := rngN (a := n) (m := 99) (by omega) (Int32.le_trans (by decide) h4.1) h4.2
  exact ⟨i, j, k, hi, hj, fun q => h3 (by rw [q]), hk, rfl, rfl, rfl⟩
section Rests
variable {N : Nat} {h : Hp} {t : Nat} {T : Txt} {S I : Str} {X : Xs}
theorem cl_rests (hN : 1000 ≤ N) (r : RC h t T S I X) (hz : S.2 16 = 1) (a b n : Int32) : ∃ g, f_X7_rests N h a b n = some (rssM T S a b n, g) ∧ Fr h g := by
  have hT := r.1.2.2.2.2.1
  have hc4 := hT.2.1.2
  unfold f_X7_rests rssM
  rw [cl_mayCome r, bind_s]
  cases hl : coM T S a b n with
  | false => rw [if_neg (show ¬ ¬ b2i false = 0 by decide), if_neg (fun q => Bool.noConfusion q)]; exact ⟨h, rfl, Fr.rf h⟩
  | true =>
    rw [if_pos (show ¬ b2i true = 0 by decide), if_pos (show true = true from rfl)]
    obtain ⟨i, j, k, hi, hj, hij, hk, rfl, rfl, rfl⟩ := coM_of hT hl
    obtain ⟨g, e, f, wa, wb⟩ := cl_workOut hN r.sd hz hi hj hk
    rw [e, bind_s, clN (show i < 2 ^ 31 by omega), clN (show j < 2 ^ 31 by omega), clN (show k < 2 ^ 31 by omega)]
    have hA : ∀ i' j', i' < 16 → j' < 16 → (gA g 7 0 2 i' < gA g 7 0 2 j' ↔ gnM T S i j k i i' < gnM T S i j k i j') := fun i' j' h1 h2 => by rw [wa i' h1, wa j' h2]
    have hB : ∀ i' j', i' < 16 → j' < 16 → (gA g 7 0 3 i' < gA g 7 0 3 j' ↔ gnM T S i j k j i' < gnM T S i j k j j') := fun i' j' h1 h2 => by rw [wb i' h1, wb j' h2]
    refine ⟨g, ?_, f⟩
    rw [← rcM_cg hA hB 16 (by omega)]
    refine iter_inv (bot := fun _ _ => none) (b := f_X7_rests_25 N g) (fun m r => ∀ x, x ≤ 16 → 16 < m + x → r (nI (rcM (gA g 7 0 2) (gA g 7 0 3) x)) (nI x) = some (nI (rcM (gA g 7 0 2) (gA g 7 0 3) 16), g)) (fun x _ _ => by omega) (fun m r ih x hx hm => ?_) N 0 (by omega) (by omega)
    unfold f_X7_rests_25
    by_cases z : x = 16
    · subst z
      rw [if_pos (show (16 : Int32) ≤ nI 16 by decide)]
    · have nx := ih (x + 1) (by omega) (by omega)
      rw [rcM_s] at nx
      rw [if_neg (show ¬ (16 : Int32) ≤ nI x from nleN (a := 16) (show x < 16 by omega) (by omega)), cl_isRest hN g (show x < 16 by omega), bind_s]
      simp only [jn_e, lt_e, nI_1]
      cases hr : rsM (gA g 7 0 2) (gA g 7 0 3) x 4 with
      | false =>
        rw [hr, if_neg (fun q => Bool.noConfusion q)] at nx
        rw [if_pos (show b2i false = 0 from rfl)]; exact nx
      | true =>
        rw [hr, if_pos rfl] at nx
        rw [if_neg (show ¬ b2i true = 0 by decide)]; exact nx
theorem cl_rest (hN : 1000 ≤ N) (r : RC h t T S I X) (hz : S.2 16 = 1) (a b n p : Int32) : ∃ g, f_X7_rest N h a b n p = some (rstM T S a b n p, g) ∧ Fr h g := by
  have hT := r.1.2.2.2.2.1
  have hc4 := hT.2.1.2
  unfold f_X7_rest rstM
  rw [cl_mayCome r, bind_s]
  simp only [jn_e]
  cases hl : coM T S a b n with
  | false => rw [if_pos (show b2i false = 0 from rfl), if_neg (fun q => Bool.noConfusion q.1)]; exact ⟨h, rfl, Fr.rf h⟩
  | true =>
    rw [if_neg (show ¬ b2i true = 0 by decide)]
    by_cases y : 0 ≤ p
    rotate_left
    · rw [if_neg y, if_neg (fun q => y q.2)]; exact ⟨h, rfl, Fr.rf h⟩
    rw [if_pos y, if_pos (show true = true ∧ 0 ≤ p from ⟨rfl, y⟩)]
    obtain ⟨i, j, k, hi, hj, hij, hk, rfl, rfl, rfl⟩ := coM_of hT hl
    obtain ⟨g, e, f, wa, wb⟩ := cl_workOut hN r.sd hz hi hj hk
    rw [e, bind_s, clN (show i < 2 ^ 31 by omega), clN (show j < 2 ^ 31 by omega), clN (show k < 2 ^ 31 by omega)]
    have hA : ∀ i' j', i' < 16 → j' < 16 → (gA g 7 0 2 i' < gA g 7 0 2 j' ↔ gnM T S i j k i i' < gnM T S i j k i j') := fun i' j' h1 h2 => by rw [wa i' h1, wa j' h2]
    have hB : ∀ i' j', i' < 16 → j' < 16 → (gA g 7 0 3 i' < gA g 7 0 3 j' ↔ gnM T S i j k j i' < gnM T S i j k j j') := fun i' j' h1 h2 => by rw [wb i' h1, wb j' h2]
    refine ⟨g, ?_, f⟩
    rw [← rkM_cg hA hB p 16 0 (by omega)]
    refine iter_inv (bot := fun _ _ => none) (b := f_X7_rest_30 N p g) (fun m r => ∀ x q, x + q = 16 → 16 < m + x → r (nI (rcM (gA g 7 0 2) (gA g 7 0 3) x)) (nI x) = some (rkM (gA g 7 0 2) (gA g 7 0 3) p q x, g)) (fun x _ _ _ => by omega) (fun m r ih x q hx hm => ?_) N 0 16 (by omega) (by omega)
    unfold f_X7_rest_30
    cases q with
    | zero =>
      have : x = 16 := by omega
      subst this
      rw [if_pos (show (16 : Int32) ≤ nI 16 by decide)]
      rfl
    | succ q =>
      have q4 : nI x / 4 = nI (x / 4) := nI_div (b := 4) (by omega) (by omega)
      have m4 : nI x - nI x / 4 * 4 = nI (x % 4) := nI_mod (b := 4) (by omega) (by omega)
      rw [q4] at m4
      have e10 : (10 : Int32) * nI (x / 4) + nI (x % 4) = nI (10 * (x / 4) + x % 4) := by rw [show (10 : Int32) = nI 10 from rfl, nI_mulN, nI_add]
      have nx := ih (x + 1) q (by omega) (by omega)
      rw [rcM_s] at nx
      rw [if_neg (show ¬ (16 : Int32) ≤ nI x from nleN (a := 16) (show x < 16 by omega) (by omega)), cl_isRest hN g (show x < 16 by omega), bind_s, rkM_s]
      simp only [jn_e, lt_e, nI_1, q4, m4, e10]
      cases hr : rsM (gA g 7 0 2) (gA g 7 0 3) x 4 with
      | false =>
        rw [hr, if_neg (fun q => Bool.noConfusion q)] at nx
        rw [if_pos (show b2i false = 0 from rfl), if_neg (fun q => Bool.noConfusion q.1)]; exact nx
      | true =>
        rw [hr, if_pos rfl] at nx
        rw [if_neg (show ¬ b2i true = 0 by decide)]
        by_cases w : nI (rcM (gA g 7 0 2) (gA g 7 0 3) x) = p
        · rw [if_neg (fun q => q w), if_pos ⟨rfl, w⟩]
        · rw [if_pos w, if_neg (fun q => w q.2)]; exact nx
end Rests

