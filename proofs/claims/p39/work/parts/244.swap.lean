-- PURE: the swap that makes lots fairer, by the class
def swS (S : Str) (s t : Nat) : Str := upA (upA S 1 s (S.1 1 t)) 1 t (S.1 1 s)
def uwM (T : Txt) (S : Str) (s t : Nat) : Int32 := spM (lotF T (swS S s t)) (nCr T)
abbrev Acc : Type := Int32 × Int32 × Int32
def swI (T : Txt) (S : Str) (a : Acc) (s : Nat) : Nat → Acc
  | 0 => a
  | t + 1 => if s < t ∧ uwM T S s t < (swI T S a s t).1 then (uwM T S s t, nI s, nI t) else swI T S a s t
def swO (T : Txt) (S : Str) : Nat → Acc
  | 0 => (spM (lotF T S) (nCr T), -2, -2)
  | s + 1 => swI T S (swO T S s) s (nSt T)
theorem swI_s (T : Txt) (S : Str) (a : Acc) (s t : Nat) : swI T S a s (t + 1) = if s < t ∧ uwM T S s t < (swI T S a s t).1 then (uwM T S s t, nI s, nI t) else swI T S a s t := rfl
theorem swI_0 (T : Txt) (S : Str) (a : Acc) (s : Nat) : ∀ t, t ≤ s + 1 → swI T S a s t = a
  | 0, _ => rfl
  | t + 1, h => by rw [swI_s, if_neg (fun q => by omega), swI_0 T S a s t (by omega)]
def swpM (T : Txt) (S : Str) (what : Int32) : Int32 := if 0 ≤ what ∧ what ≤ 2 then (if what = 0 then (swO T S (nSt T)).2.1 else if what = 1 then (swO T S (nSt T)).2.2 else if (swO T S (nSt T)).2.1 < 0 then -2 else (swO T S (nSt T)).1) else -1
theorem sq_of {T : Txt} {S S' : Str} (h : ∀ a j, S.1 a j = S'.1 a j) (e : S.2 = S'.2) : Sq T S S' := ⟨fun s _ => ⟨h 0 s, h 1 s⟩, fun c _ => ⟨h 2 c, h 3 c, h 4 c, h 5 c, h 6 c, h 7 c⟩, fun f _ => h 9 f, fun k _ _ => by rw [e]⟩
theorem sw_back (T : Txt) (S : Str) (s t : Nat) : Sq T (upA (upA (swS S s t) 1 s (S.1 1 s)) 1 t (S.1 1 t)) S := sq_of (fun a j => by
  unfold swS
  rw [upA_k, upA_k, upA_k, upA_k]
  by_cases x : a = 1 ∧ j = t
  · rw [if_pos x, x.1, x.2]
  rw [if_neg x]
  by_cases y : a = 1 ∧ j = s
  · rw [if_pos y, y.1, y.2]
  · rw [if_neg y, if_neg x, if_neg y]) rfl
def FD (a : Acc) (b : Bool) (g : Hp) : Prop := (b = true ∧ (∃ i, i < 8 ∧ a.2.1 = nI i) ∧ gA g 7 0 4 0 = a.2.1 ∧ gA g 7 0 4 1 = a.2.2 ∧ gA g 7 0 4 2 = a.1) ∨ (b = false ∧ a.2.1 = -2 ∧ a.2.2 = -2)
theorem FD.k {a : Acc} {b : Bool} {g g' : Hp} (f : FD a b g) (e : gA g' 7 0 4 = gA g 7 0 4) : FD a b g' := by
  unfold FD
  rw [e]
  exact f
theorem E8.ch {o t : Nat} {T : Txt} {h g : Hp} (a : E8 o h g) : Ch o t T h g := ⟨a.fr, fun _ _ _ s => a.sd s, fun k => a.2 7 0 k (by omega)⟩
section Swap
variable {N : Nat} {h g : Hp} {t : Nat} {T : Txt} {S I : Str} {X : Xs}
theorem cl_findSwap (hN : 1000 ≤ N) (h13 : gO h 7 0 13 = some t) (s1 : Sd h 1 t T S) (hz : S.2 16 = 1) : ∃ b g, f_X7_findSwap N h = some (b, g) ∧ Fr h g ∧ FD (swO T S (nSt T)) b g := by
  have hT := s1.2.2.2.1
  have h8 := hT.1.2
  have told : ∀ {g : Hp}, Sd g 1 t T S → gI g 5 t 11 = nI (nSt T) := fun d => by rw [← d.2.2.2.1.1.1, ← d.2.1]; rfl
  have t13 : ∀ {g : Hp}, Fr h g → gO g 7 0 13 = some t := fun f => (f.1 7 0 13 (Or.inl (by decide))).2.2.trans h13
  obtain ⟨g1, e1, c1, d1⟩ := s1.copyC (o := 3) (by decide) hz (by decide)
  have n1 := c1.2.1 1 S (by decide) s1
  obtain ⟨g2, e2, x2⟩ := cl_unlikeLots hN n1
  unfold f_X7_findSwap
  rw [grd_p (show inb 0 7 by decide), lt_e, show 3 + (0 : Int32).toNatClampNeg = 3 from rfl, e1, bind_s, e2, bd2_s]
  refine iter_inv (bot := fun _ _ _ _ => none) (b := f_X7_findSwap_28 N 3) (fun m r => ∀ s b g, s ≤ nSt T → nSt T < m + s → Fr h g → Sd g 1 t T S → Sd g 3 t T S → FD (swO T S s) b g → ∃ b' g', r (swO T S s).1 b (nI s) g = some (b', g') ∧ Fr h g' ∧ FD (swO T S (nSt T)) b' g') (fun s _ _ _ _ => by omega) (fun m r ih s b g hs hm f d1 d3 fd => ?_) N 0 false g2 (by omega) (by omega) (c1.1.tr x2.fr) (x2.sd n1) (x2.sd d1) (Or.inr ⟨rfl, rfl, rfl⟩)
  unfold f_X7_findSwap_28
  rw [t13 f, onO_s, told d1]
  by_cases z : nSt T = s
  · rw [← z, if_pos (leN (Nat.le_refl _) (by omega))]
    rw [← z] at fd
    exact ⟨b, g, rfl, f, fd⟩
  rw [if_neg (nleN (show s < nSt T by omega) (show nSt T < 2 ^ 31 by omega)), lt_e, nI_1]
  refine iter_inv (bot := fun _ _ _ _ => none) (b := f_X7_findSwap_46 N 3 r (nI s)) (fun m r' => ∀ u b g, s < u → u ≤ nSt T → nSt T < m + u → Fr h g → Sd g 1 t T S → Sd g 3 t T S → FD (swI T S (swO T S s) s u) b g → ∃ b' g', r' (swI T S (swO T S s) s u).1 b (nI u) g = some (b', g') ∧ Fr h g' ∧ FD (swO T S (nSt T)) b' g') (fun u _ _ _ _ _ => by omega) (fun m' r' ih' u b g hsu hu hm' f d1 d3 fd => ?_) N (s + 1) b g (by omega) (by omega) (by omega) f d1 d3 (by rw [swI_0 T S _ s (s + 1) (Nat.le_refl _)]; exact fd) |> (fun x => by rw [swI_0 T S _ s (s + 1) (Nat.le_refl _)] at x; exact x)
  unfold f_X7_findSwap_46
  rw [t13 f, onO_s, told d1]
  by_cases y : nSt T = u
  · rw [← y, if_pos (leN (Nat.le_refl _) (by omega)), lt_e, nI_1]
    rw [← y] at fd
    exact ih (s + 1) b g (by omega) (by omega) f d1 d3 fd
  rw [if_neg (nleN (show u < nSt T by omega) (show nSt T < 2 ^ 31 by omega))]
  have a1t : ∀ {g : Hp} {i : Nat}, Sd g 1 t T S → i < nSt T → gA g 3 1 1 i = S.1 1 i := fun d hi => (d.2.2.2.2.1 _ hi).2
  obtain ⟨f2, e3⟩ := d3.row 1 s (S.1 1 u)
  have k2 := f2.sd (p := 1) (by decide) d1
  obtain ⟨f3, e4⟩ := e3.row 1 u (S.1 1 s)
  have k3 := f3.sd (p := 1) (by decide) k2
  obtain ⟨g4, e5, x4⟩ := cl_unlikeLots hN e4
  have k4 := x4.sd k3
  obtain ⟨f5, e6⟩ := (x4.sd e4).row 1 s (S.1 1 s)
  have k5 := f5.sd (p := 1) (by decide) k4
  obtain ⟨f6, e7⟩ := e6.row 1 u (S.1 1 u)
  have k6 := f6.sd (p := 1) (by decide) k5
  have e8 := e7.eqv (sw_back T S s u)
  have cc : Ch 3 t T g _ := (((f2.ch (by decide)).tr (f3.ch (by decide))).tr x4.ch).tr ((f5.ch (by decide)).tr (f6.ch (by decide)))
  simp only [jn_e, lt_e, clN (show s < 2 ^ 31 by omega), clN (show u < 2 ^ 31 by omega), grd_p (inb_n (show s < 8 by omega) (show 8 < 2 ^ 31 by omega)), grd_p (inb_n (show u < 8 by omega) (show 8 < 2 ^ 31 by omega)), a1t d1 (show u < nSt T by omega), a1t k2 (show s < nSt T by omega), e5, bd2_s, a1t k4 (show s < nSt T by omega), a1t k5 (show u < nSt T by omega), nI_1, z7, grd_p (show inb 0 3 by decide), grd_p (show inb 1 3 by decide), grd_p (show inb 2 3 by decide)]
  have nx := ih' (u + 1)
  rw [swI_s] at nx
  have hu : spM (lotF T (upA (upA S 1 s (S.1 1 u)) 1 u (S.1 1 s))) (nCr T) = uwM T S s u := rfl
  rw [hu]
  by_cases v : (swI T S (swO T S s) s u).1 ≤ uwM T S s u
  · rw [if_neg (show ¬ (s < u ∧ uwM T S s u < (swI T S (swO T S s) s u).1) from fun q => absurd q.2 (Int32.not_lt.mpr v))] at nx
    rw [if_pos v]
    exact nx b _ (by omega) (by omega) (by omega) (f.tr cc.1) k6 e8 (fd.k (cc.2.2 4))
  · rw [if_pos (show s < u ∧ uwM T S s u < (swI T S (swO T S s) s u).1 from ⟨hsu, Int32.not_le.mp v⟩)] at nx
    rw [if_neg v]
    have w := ((W7.a (sA (sA g4 3 3 1 s (S.1 1 s)) 3 3 1 u (S.1 1 u)) 4 0 (nI s)).tr (W7.a _ 4 1 (nI u))).tr (W7.a _ 4 2 (uwM T S s u))
    refine nx true _ (by omega) (by omega) (by omega) ((f.tr cc.1).tr w.fr) (w.sd k6) (w.sd e8) (Or.inl ⟨rfl, ⟨s, by omega, rfl⟩, ?_, ?_, ?_⟩)
    · rw [A7_at, if_neg (fun q => absurd q.2 (by decide)), A7_at, if_neg (fun q => absurd q.2 (by decide)), A7_at, if_pos ⟨rfl, rfl⟩]
    · rw [A7_at, if_neg (fun q => absurd q.2 (by decide)), A7_at, if_pos ⟨rfl, rfl⟩]
    · rw [A7_at, if_pos ⟨rfl, rfl⟩]
theorem cl_swap (hN : 1000 ≤ N) (r : RC h t T S I X) (hz : S.2 16 = 1) (what : Int32) : ∃ g, f_X7_swap N h what = some (swpM T S what, g) ∧ Fr h g := by
  unfold f_X7_swap swpM
  simp only [jn_e, cl_isIn, bind_s, b2i0, decide_eq_false_iff_not, Classical.not_not]
  by_cases y : 0 ≤ what ∧ what ≤ 2
  rotate_left
  · rw [if_neg y, if_neg y]; exact ⟨h, rfl, Fr.rf h⟩
  rw [if_pos y, if_pos y]
  obtain ⟨b, g, e, f, fd⟩ := cl_findSwap hN r.1.2.1 r.sd hz
  rw [e, bd2_s]
  refine ⟨g, ?_, f⟩
  obtain ⟨q, hq, rfl⟩ := rngN (a := what) (m := 2) (by omega) y.1 y.2
  rcases fd with ⟨hb, ⟨i, hi, q1⟩, q2, q3, q4⟩ | ⟨hb, q1, q2⟩
  · rw [hb, if_neg (fun q => Bool.noConfusion q), grd_p (inb_n (show q < 3 by omega) (show 3 < 2 ^ 31 by omega)), if_neg (show ¬ (swO T S (nSt T)).2.1 < 0 by rw [q1]; exact Int32.not_lt.mpr (leN (a := 0) (by omega) (by omega)))]
    rcases (show q = 0 ∨ q = 1 ∨ q = 2 by omega) with rfl | rfl | rfl
    · show some (gA g 7 0 4 0, g) = some ((swO T S (nSt T)).2.1, g)
      rw [q2]
    · show some (gA g 7 0 4 1, g) = some ((swO T S (nSt T)).2.2, g)
      rw [q3]
    · show some (gA g 7 0 4 2, g) = some ((swO T S (nSt T)).1, g)
      rw [q4]
  · rw [hb, if_pos rfl, q1, q2, if_pos (show (-2 : Int32) < 0 by decide)]
    rcases (show q = 0 ∨ q = 1 ∨ q = 2 by omega) with rfl | rfl | rfl <;> rfl
end Swap

