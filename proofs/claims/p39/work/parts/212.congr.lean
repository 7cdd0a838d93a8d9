-- PURE: what doesn't count of a strand
/-- two strands alike in all that T's numbers reach -/
def Sq (T : Txt) (S S' : Str) : Prop := (∀ s, s < nSt T → S.1 0 s = S'.1 0 s ∧ S.1 1 s = S'.1 1 s) ∧ (∀ c, c < nCr T → S.1 2 c = S'.1 2 c ∧ S.1 3 c = S'.1 3 c ∧ S.1 4 c = S'.1 4 c ∧ S.1 5 c = S'.1 5 c ∧ S.1 6 c = S'.1 6 c ∧ S.1 7 c = S'.1 7 c) ∧ (∀ f, f < nFi T → S.1 9 f = S'.1 9 f) ∧ ∀ k, 11 ≤ k → k ≤ 16 → S.2 k = S'.2 k
section Congr
variable {T : Txt} {S S' : Str}
theorem Sq.rf (T : Txt) (S : Str) : Sq T S S := ⟨fun _ _ => ⟨rfl, rfl⟩, fun _ _ => ⟨rfl, rfl, rfl, rfl, rfl, rfl⟩, fun _ _ => rfl, fun _ _ _ => rfl⟩
theorem Sq.tr {S'' : Str} (q : Sq T S S') (r : Sq T S' S'') : Sq T S S'' := ⟨fun s h => ⟨(q.1 s h).1.trans (r.1 s h).1, (q.1 s h).2.trans (r.1 s h).2⟩, fun c h => by obtain ⟨a, b, c, d, e, f⟩ := q.2.1 c h; obtain ⟨a', b', c', d', e', f'⟩ := r.2.1 _ h; exact ⟨a.trans a', b.trans b', c.trans c', d.trans d', e.trans e', f.trans f'⟩, fun f h => (q.2.2.1 f h).trans (r.2.2.1 f h), fun k a b => (q.2.2.2 k a b).trans (r.2.2.2 k a b)⟩
theorem upA_k (S : Str) (k i : Nat) (v : Int32) (a j : Nat) : (upA S k i v).1 a j = if a = k ∧ j = i then v else S.1 a j := by
  by_cases z : a = k
  · subst z
    rw [upA_at]
    by_cases w : j = i
    · rw [if_pos w, if_pos ⟨rfl, w⟩]
    · rw [if_neg w, if_neg (fun q => w q.2)]
  · rw [upA_n S i v z, if_neg (fun q => z q.1)]
theorem upA_same (S : Str) (k i : Nat) (v : Int32) {S' : Str} {a j : Nat} (e : S.1 a j = S'.1 a j) : (upA S k i v).1 a j = (upA S' k i v).1 a j := by
  rw [upA_k, upA_k, e]
theorem Sq.upA (q : Sq T S S') (k i : Nat) (v : Int32) : Sq T (upA S k i v) (upA S' k i v) := by
  refine ⟨fun s h => ⟨upA_same S k i v (q.1 s h).1, upA_same S k i v (q.1 s h).2⟩, fun c h => ?_, fun f h => upA_same S k i v (q.2.2.1 f h), q.2.2.2⟩
  obtain ⟨a, b, c, d, e, f⟩ := q.2.1 c h
  exact ⟨upA_same S k i v a, upA_same S k i v b, upA_same S k i v c, upA_same S k i v d, upA_same S k i v e, upA_same S k i v f⟩
theorem Sq.upI (q : Sq T S S') (k : Nat) (v : Int32) : Sq T (upI S k v) (upI S' k v) := by
  refine ⟨q.1, q.2.1, q.2.2.1, fun a h1 h2 => ?_⟩
  show (if a = k then v else S.2 a) = (if a = k then v else S'.2 a)
  rw [q.2.2.2 a h1 h2]
theorem scM_sq (q : Sq T S S') (c : Int32) : ∀ j, j ≤ nSt T → scM T S c j = scM T S' c j
  | 0, _ => rfl
  | j + 1, h => by
    rw [scM_s, scM_s, scM_sq q c j (by omega), (q.1 j (by omega)).1, (q.1 j (by omega)).2, q.2.2.2 14 (by omega) (by omega)]
theorem srcM_sq (q : Sq T S S') (c : Int32) (b : Bool) : srcM T S c b = srcM T S' c b := by
  unfold srcM
  rw [scM_sq q c _ (Nat.le_refl _), q.2.2.2 14 (by omega) (by omega), q.2.2.2 12 (by omega) (by omega)]
theorem hrM_sq (q : Sq T S S') : hrM S = hrM S' := by
  unfold hrM
  rw [q.2.2.2 11 (by omega) (by omega)]
theorem nmP_ext {l c : Int32} (h : hrM S = hrM S') (h2 : ¬ c = -1 → S.1 2 c.toNatClampNeg = S'.1 2 c.toNatClampNeg ∧ S.1 3 c.toNatClampNeg = S'.1 3 c.toNatClampNeg) : nmP S l c = nmP S' l c := by
  funext i
  match i with
  | 0 => exact Eq.refl l.toInt64
  | 1 =>
    show (if c = -1 then (0 : Int64) else (S.1 2 c.toNatClampNeg).toInt64) = (if c = -1 then (0 : Int64) else (S'.1 2 c.toNatClampNeg).toInt64)
    by_cases z : c = -1
    · rw [if_pos z, if_pos z]
    · rw [if_neg z, if_neg z, (h2 z).1]
  | 2 =>
    show (if c = -1 then (0 : Int64) else (S.1 3 c.toNatClampNeg).toInt64) = (if c = -1 then (0 : Int64) else (S'.1 3 c.toNatClampNeg).toInt64)
    by_cases z : c = -1
    · rw [if_pos z, if_pos z]
    · rw [if_neg z, if_neg z, (h2 z).2]
  | 3 =>
    show (hrM S).toInt64 = (hrM S').toInt64
    rw [h]
  | _ + 4 => exact Eq.refl (0 : Int64)
theorem nmP_sq (q : Sq T S S') (l c : Int32) (hc : c = -1 ∨ ∃ k, k < nCr T ∧ k < 4 ∧ c = nI k) : nmP S l c = nmP S' l c := by
  refine nmP_ext (hrM_sq q) fun h => ?_
  rcases hc with e | ⟨k, hk, h4, rfl⟩
  · exact absurd e h
  · obtain ⟨a, b, -⟩ := q.2.1 k hk
    rw [clN (show k < 2 ^ 31 by omega)]
    exact ⟨a, b⟩
theorem nmF_sq (q : Sq T S S') (hT : TOK T) {f : Nat} (hf : f < nFi T) : nmF T S f = nmF T S' f := by
  obtain ⟨k, hk, e⟩ := hT.2.2.2.2.1 f hf
  have := hT.2.1.2
  obtain ⟨a, b, -⟩ := q.2.1 k hk
  unfold nmF
  rw [hrM_sq q, e, clN (show k < 2 ^ 31 by omega), a, b, q.2.2.1 f hf]
theorem worM_sq (q : Sq T S S') (hT : TOK T) {f : Nat} (hf : f < nFi T) : worM T S f = worM T S' f := by
  unfold worM
  rw [nmF_sq q hT hf, q.2.2.1 f hf]
theorem loadM_sq (q : Sq T S S') (hT : TOK T) {c : Nat} (hc : c < nCr T) (t : Int32) : loadM T S c t = loadM T S' c t := by
  have := hT.2.1.2
  obtain ⟨a, b, -⟩ := q.2.1 c hc
  unfold loadM
  rw [nmP_sq q t (nI c) (Or.inr ⟨c, hc, by omega, rfl⟩), a, b]
theorem bfM_sq (q : Sq T S S') (hT : TOK T) (c : Int32) : ∀ j, j ≤ nFi T → bfM T S c j = bfM T S' c j
  | 0, _ => rfl
  | j + 1, h => by rw [bfM_s, bfM_s, bfM_sq q hT c j (by omega), worM_sq q hT (show j < nFi T by omega)]
theorem thereM_sq (q : Sq T S S') {w : Int32} (hw : w = -3 ∨ ∃ j, j < nSt T ∧ j < 8 ∧ w = nI j) : thereM S w = thereM S' w := by
  unfold thereM
  rcases hw with rfl | ⟨j, hj, h8, rfl⟩
  · rw [if_pos rfl, if_pos rfl, q.2.2.2 12 (by omega) (by omega)]
  · rw [clN (show j < 2 ^ 31 by omega), (q.1 j hj).1, q.2.2.2 12 (by omega) (by omega)]
theorem lessM_sq (q : Sq T S S') (n : Int32) {w : Int32} (hw : w = -3 ∨ ∃ j, j < nSt T ∧ j < 8 ∧ w = nI j) : Sq T (lessM S w n) (lessM S' w n) := by
  unfold lessM
  rcases hw with rfl | ⟨j, hj, h8, rfl⟩
  · rw [if_pos rfl, if_pos rfl, q.2.2.2 12 (by omega) (by omega)]
    exact q.upI _ _
  · have g := nI_ne_neg (x := -3) (show j < 2 ^ 31 by omega) (by decide)
    rw [if_neg g, if_neg g, clN (show j < 2 ^ 31 by omega), (q.1 j hj).1]
    exact q.upA _ _ _
theorem cartM_sq (q : Sq T S S') (hT : TOK T) {c : Nat} (hc : c < nCr T) : Sq T (cartM T S c) (cartM T S' c) := by
  have h8 := hT.1.2
  have hf6 := hT.2.2.1.2
  have hc4 := hT.2.1.2
  unfold cartM
  rw [srcM_sq q, bfM_sq q hT _ _ (Nat.le_refl _)]
  by_cases z : srcM T S' (nI c) false = -2
  · rw [if_pos z, if_pos z]; exact q
  rw [if_neg z, if_neg z]
  rcases bfM_rng T S' (nI c) (nFi T) with h1 | ⟨f, hf, h1⟩
  · rw [h1, if_pos rfl, if_pos rfl]; exact q
  have hne := nI_ne_neg (x := -1) (show f < 2 ^ 31 by omega) (by decide)
  have hw : srcM T S' (nI c) false = -3 ∨ ∃ j, j < nSt T ∧ j < 8 ∧ srcM T S' (nI c) false = nI j := by
    rcases srcM_rng T S' (nI c) false with e | ⟨-, e⟩ | ⟨j, hj, e⟩
    · exact absurd e z
    · exact Or.inl e
    · exact Or.inr ⟨j, hj, by omega, e⟩
  rw [h1, if_neg hne, if_neg hne, clN (show f < 2 ^ 31 by omega), thereM_sq q hw, loadM_sq q hT hc]
  generalize loadM T S' c (thereM S' (srcM T S' (nI c) false)) = n
  have a := lessM_sq q n hw
  unfold gotM
  rw [a.2.2.1 f hf]
  have b := a.upA 9 f ((lessM S' (srcM T S' (nI c) false) n).1 9 f + n)
  rw [(b.2.1 c hc).2.2.2.2.1]
  exact b.upA _ _ _
theorem tonsM_sq (q : Sq T S S') (hT : TOK T) {c : Nat} (hc : c < nCr T) (l : Int32) : tonsM T S c l = tonsM T S' c l := by
  have hc4 := hT.2.1.2
  unfold tonsM
  rw [nmP_sq q l (nI c) (Or.inr ⟨c, hc, by omega, rfl⟩)]
theorem forkM_sq (q : Sq T S S') (hT : TOK T) {c : Nat} (hc : c < nCr T) : Sq T (forkM T S c) (forkM T S' c) := by
  have h8 := hT.1.2
  unfold forkM
  rw [srcM_sq q]
  rcases srcM_rng T S' (nI c) true with e | ⟨e, -⟩ | ⟨j, hj, e⟩
  · rw [e, if_neg (show ¬ (0 : Int32) ≤ -2 by decide), if_neg (show ¬ (0 : Int32) ≤ -2 by decide)]; exact q
  · exact Bool.noConfusion e
  rw [e, if_pos (nI_pos' (show j < 2 ^ 31 by omega)), if_pos (nI_pos' (show j < 2 ^ 31 by omega)), clN (show j < 2 ^ 31 by omega), (q.1 j hj).1, tonsM_sq q hT hc]
  unfold forkS
  rw [(q.1 j hj).1, q.2.2.2 12 (by omega) (by omega), (q.2.1 c hc).2.2.2.2.2]
  exact ((q.upA _ _ _).upI _ _).upA _ _ _
theorem goneM_sq (q : Sq T S S') (l : Int32) : goneM T S l = goneM T S' l := by
  unfold goneM
  rw [nmP_sq q l (-1) (Or.inl rfl)]
theorem ebM_sq (q : Sq T S S') : ∀ j, j ≤ nSt T → Sq T (ebM T S j) (ebM T S' j)
  | 0, _ => q
  | j + 1, h => by
    have I := ebM_sq q j (by omega)
    rw [ebM_s, ebM_s, (I.1 j (by omega)).1, I.2.2.2 13 (by omega) (by omega), goneM_sq I]
    exact (I.upA _ _ _).upI _ _
theorem sumM_sq {f g : Nat → Int32} : ∀ n, (∀ i, i < n → f i = g i) → sumM f n = sumM g n
  | 0, _ => rfl
  | n + 1, h => by
    show sumM f n + f n = sumM g n + g n
    rw [sumM_sq n (fun i hi => h i (by omega)), h n (by omega)]
theorem actM_sq (q : Sq T S S') (hT : TOK T) {c : Nat} (hc : c < nCr T) : Sq T (actM T S c) (actM T S' c) := by
  have e : doesM T S c = doesM T S' c := by
    unfold doesM
    rw [(q.2.1 c hc).2.2.2.1, q.2.2.2 14 (by omega) (by omega), sumM_sq (nSt T) (fun s hs => (q.1 s hs).1)]
  unfold actM
  rw [e]
  by_cases z : doesM T S' c = 1
  · rw [if_pos z, if_pos z]; exact cartM_sq q hT hc
  rw [if_neg z, if_neg z]
  by_cases w : doesM T S' c = 2
  · rw [if_pos w, if_pos w]; exact forkM_sq q hT hc
  · rw [if_neg w, if_neg w]; exact q
theorem crM_sq (q : Sq T S S') (hT : TOK T) : ∀ c, c ≤ nCr T → Sq T (crM T S c) (crM T S' c)
  | 0, _ => q
  | c + 1, h => by
    have I := crM_sq q hT c (by omega)
    rw [crM_s, crM_s, I.2.2.2 11 (by omega) (by omega), (I.2.1 c (by omega)).2.2.1]
    by_cases z : (crM T S' c).2 11 < (crM T S' c).1 4 c
    · rw [if_pos z, if_pos z]; exact I
    · rw [if_neg z, if_neg z]; exact actM_sq I hT (by omega)
theorem tdM_sq (q : Sq T S S') : Sq T (tdM T S) (tdM T S') := by
  unfold tdM
  rw [q.2.2.2 16 (by omega) (by omega), hrM_sq q]
  by_cases z : ¬ S'.2 16 = 0 ∧ tideM T (hrM S') = true
  · rw [if_pos z, if_pos z]; exact ebM_sq q _ (Nat.le_refl _)
  · rw [if_neg z, if_neg z]; exact q
theorem passM_sq (q : Sq T S S') (hT : TOK T) : Sq T (passM T S) (passM T S') := by
  have a := tdM_sq (crM_sq q hT _ (Nat.le_refl _))
  unfold passM
  rw [a.2.2.2 11 (by omega) (by omega)]
  exact a.upI _ _
theorem passN_sq (q : Sq T S S') (hT : TOK T) : ∀ n, Sq T (passN T S n) (passN T S' n)
  | 0 => q
  | n + 1 => passM_sq (passN_sq q hT n) hT
theorem drwM_sq (q : Sq T S S') : Sq T (drwM S) (drwM S') := by
  unfold drwM
  rw [q.2.2.2 15 (by omega) (by omega)]
  exact q.upI _ _
theorem blM_sq (q : Sq T S S') : ∀ j, j ≤ nSt T → Sq T (blM T S j) (blM T S' j)
  | 0, _ => q
  | j + 1, h => by
    have I := blM_sq q j (by omega)
    rw [blM_s, blM_s, (I.1 j (by omega)).1]
    exact I.upA _ _ _
theorem galeM_sq (q : Sq T S S') : Sq T (galeM T S) (galeM T S') := by
  have d := drwM_sq q
  unfold galeM
  rw [d.2.2.2 15 (by omega) (by omega)]
  by_cases z : T.2.1 17 ≤ 0
  · rw [if_pos z, if_pos z]; exact q
  rw [if_neg z, if_neg z]
  by_cases w : T.2.1 17 ≤ (drwM S').2 15 / 65536 - (drwM S').2 15 / 65536 / 100 * 100
  · rw [if_pos w, if_pos w]; exact d
  · rw [if_neg w, if_neg w]; exact blM_sq d _ (Nat.le_refl _)
theorem passG_sq (q : Sq T S S') (hT : TOK T) : ∀ n, Sq T (passG T S n) (passG T S' n)
  | 0 => q
  | n + 1 => passM_sq (galeM_sq (passG_sq q hT n)) hT
theorem SOK.sq {n : Nat} (K : SOK T n S) (q : Sq T S S') : SOK T n S' := by
  obtain ⟨a, b, c, d⟩ := K
  unfold SOK
  rw [← q.2.2.2 11 (by omega) (by omega), ← q.2.2.2 12 (by omega) (by omega)]
  refine ⟨fun s hs => ?_, fun c hc => ?_, fun f hf => ?_, d.1, d.2.1, d.2.2.1, d.2.2.2.1, fun c hc => ?_⟩
  · rw [← (q.1 s hs).1]; exact a s hs
  · obtain ⟨x2, x3, x4, x5, -⟩ := q.2.1 c hc
    rw [← x2, ← x3, ← x5]; exact b c hc
  · rw [← q.2.2.1 f hf]; exact c f hf
  · rw [← (q.2.1 c hc).2.2.2.2.2]; exact d.2.2.2.2 c hc
end Congr

