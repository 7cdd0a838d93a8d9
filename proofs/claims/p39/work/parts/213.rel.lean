-- PURE: what the class's memory tells, what the reference's; a strand copied
def bgM (T : Txt) : Str := (fun k i => if k = 0 then T.1 0 i else if k = 1 then (if T.2.1 12 ≤ 0 then -1 else nI i - nI i / T.2.1 12 * T.2.1 12) else if k = 2 then T.1 2 i else if k = 3 then T.1 3 i else if k = 4 then T.1 4 i else 0, fun k => if k = 12 then T.2.1 15 else if k = 14 then T.2.1 16 else if k = 15 then T.2.1 19 else if k = 16 then 1 else 0)
/-- undo's rows, seen's rows, the bytes; the numbers beside them -/
abbrev Xs : Type := (Nat → Nat → Int32) × (Nat → Int32)
def ex (h : Hp) (t : Nat) : Xs := (fun k => match k with | 0 => gA h 6 0 0 | 1 => gA h 6 0 1 | 2 => gA h 6 0 2 | 3 => gA h 2 0 0 | 4 => gA h 2 0 1 | 5 => gA h 2 0 2 | 6 => gA h 4 0 0 | _ => gA h 4 0 1, fun k => match k with | 0 => gI h 6 0 3 | 1 => gI h 2 0 4 | 2 => gI h 2 0 5 | 3 => gI h 4 0 2 | 4 => gI h 7 0 16 | 5 => gI h 7 0 17 | 6 => gI h 0 t 6 | _ => gI h 7 0 15)
def KC (h : Hp) (t : Nat) (T : Txt) : Prop := t < 2 ∧ gO h 7 0 13 = some t ∧ gO h 7 0 14 = some (1 - t) ∧ txt h t = T ∧ TOK T ∧ LOK (gA h 0 t)
def CSt (h : Hp) (o t : Nat) (T : Txt) (S : Str) : Prop := gO h 3 o 10 = some t ∧ Sq T (vw h o) S
def RC (h : Hp) (t : Nat) (T : Txt) (S I : Str) (X : Xs) : Prop := KC h t T ∧ CSt h 1 t T S ∧ CSt h 0 t T (bgM T) ∧ ex h t = X ∧ (¬ X.2 7 = 0 → CSt h 2 t T I)
/-- nothing of the reference changed (but long arrays) -/
def K8 (h h' : Hp) : Prop := ∀ k, gI h' 8 0 k = gI h 8 0 k ∧ gL h' 8 0 k = gL h 8 0 k ∧ gO h' 8 0 k = gO h 8 0 k ∧ gA h' 8 0 k = gA h 8 0 k
/-- a question to the class: what may change -/
def Fr (h h' : Hp) : Prop := (∀ c o k, (c ≠ 3 ∨ o < 3) → gI h' c o k = gI h c o k ∧ gL h' c o k = gL h c o k ∧ gO h' c o k = gO h c o k) ∧ ∀ c o k, c ≠ 7 → (c ≠ 3 ∨ (o < 3 ∧ k ≠ 8)) → (c = 2 → k ≠ 3) → gA h' c o k = gA h c o k
theorem Fr.rf (h : Hp) : Fr h h := ⟨fun _ _ _ _ => ⟨rfl, rfl, rfl⟩, fun _ _ _ _ _ _ => rfl⟩
theorem Fr.tr {h h' h'' : Hp} (a : Fr h h') (b : Fr h' h'') : Fr h h'' := ⟨fun c o k q => ⟨(b.1 c o k q).1.trans (a.1 c o k q).1, (b.1 c o k q).2.1.trans (a.1 c o k q).2.1, (b.1 c o k q).2.2.trans (a.1 c o k q).2.2⟩, fun c o k q r s => (b.2 c o k q r s).trans (a.2 c o k q r s)⟩
theorem Fr.k8 {h h' : Hp} (a : Fr h h') : K8 h h' := fun k => ⟨(a.1 8 0 k (Or.inl (by decide))).1, (a.1 8 0 k (Or.inl (by decide))).2.1, (a.1 8 0 k (Or.inl (by decide))).2.2, a.2 8 0 k (by decide) (Or.inl (by decide)) (fun q => absurd q (by decide))⟩
theorem Fr.tx {h h' : Hp} (a : Fr h h') (t : Nat) : txt h' t = txt h t := by
  unfold txt
  rw [show gA h' 5 t = gA h 5 t from funext fun k => a.2 5 t k (by decide) (Or.inl (by decide)) (fun q => absurd q (by decide)), show gI h' 5 t = gI h 5 t from funext fun k => (a.1 5 t k (Or.inl (by decide))).1, show gA h' 0 t = gA h 0 t from funext fun k => a.2 0 t k (by decide) (Or.inl (by decide)) (fun q => absurd q (by decide))]
theorem Fr.cst {h h' : Hp} (a : Fr h h') {o t : Nat} {T : Txt} {S : Str} (ho : o < 3) (q : CSt h o t T S) : CSt h' o t T S := by
  refine ⟨(a.1 3 o 10 (Or.inr ho)).2.2.trans q.1, Sq.tr ?_ q.2⟩
  have g : ∀ k, k ≠ 8 → (vw h' o).1 k = (vw h o).1 k := fun k hk => a.2 3 o k (by decide) (Or.inr ⟨ho, hk⟩) (fun q => absurd q (by decide))
  exact ⟨fun s _ => ⟨by rw [g 0 (by decide)], by rw [g 1 (by decide)]⟩, fun c _ => ⟨by rw [g 2 (by decide)], by rw [g 3 (by decide)], by rw [g 4 (by decide)], by rw [g 5 (by decide)], by rw [g 6 (by decide)], by rw [g 7 (by decide)]⟩, fun f _ => by rw [g 9 (by decide)], fun k _ _ => (a.1 3 o k (Or.inr ho)).1⟩
theorem Fr.xx {h h' : Hp} (a : Fr h h') (t : Nat) : ex h' t = ex h t := by
  have i : ∀ c o k, c ≠ 3 → gI h' c o k = gI h c o k := fun c o k q => (a.1 c o k (Or.inl q)).1
  have g : ∀ c o k, c ≠ 7 → c ≠ 3 → (c = 2 → k ≠ 3) → gA h' c o k = gA h c o k := fun c o k q r s => a.2 c o k q (Or.inl r) s
  unfold ex
  rw [g 6 0 0 (by decide) (by decide) (by decide), g 6 0 1 (by decide) (by decide) (by decide), g 6 0 2 (by decide) (by decide) (by decide), g 2 0 0 (by decide) (by decide) (by decide), g 2 0 1 (by decide) (by decide) (by decide), g 2 0 2 (by decide) (by decide) (by decide), g 4 0 0 (by decide) (by decide) (by decide), g 4 0 1 (by decide) (by decide) (by decide), i 6 0 3 (by decide), i 2 0 4 (by decide), i 2 0 5 (by decide), i 4 0 2 (by decide), i 7 0 16 (by decide), i 7 0 17 (by decide), i 0 t 6 (by decide), i 7 0 15 (by decide)]
theorem Fr.rc {h h' : Hp} (a : Fr h h') {t : Nat} {T : Txt} {S I : Str} {X : Xs} (r : RC h t T S I X) : RC h' t T S I X := by
  obtain ⟨⟨k1, k2, k3, k4, k5, k6⟩, r2, r3, r4, r5⟩ := r
  refine ⟨⟨k1, (a.1 7 0 13 (Or.inl (by decide))).2.2.trans k2, (a.1 7 0 14 (Or.inl (by decide))).2.2.trans k3, (a.tx t).trans k4, k5, ?_⟩, a.cst (by decide) r2, a.cst (by decide) r3, (a.xx t).trans r4, fun q => a.cst (by decide) (r5 q)⟩
  rw [show gA h' 0 t = gA h 0 t from funext fun k => a.2 0 t k (by decide) (Or.inl (by decide)) (fun q => absurd q (by decide))]
  exact k6
theorem Fr.m3 (h : Hp) {o : Nat} (ho : 3 ≤ o) (S : Str) (B : Scr) : Fr h (M3 h o S B) := by
  refine ⟨fun c o' k q => ⟨if_neg (fun z => ?_), rfl, rfl⟩, fun c o' k _ q _ => if_neg (fun z => ?_)⟩
  · rcases q with q | q
    · exact q z.1
    · omega
  · rcases q with q | q
    · exact q z.1
    · omega
theorem Fr.so (h : Hp) {o : Nat} (ho : 3 ≤ o) (k v : Nat) : Fr h (sO h 3 o k v) := by
  refine ⟨fun c o' k' q => ⟨rfl, rfl, if_neg (fun z => ?_)⟩, fun c o' k _ q _ => rfl⟩
  rcases q with q | q
  · exact q z.1
  · omega
/-- a copy: all rows, all numbers -/
def Cp (S S' : Str) : Prop := (∀ i, i < 8 → S'.1 0 i = S.1 0 i ∧ S'.1 1 i = S.1 1 i) ∧ (∀ i, i < 4 → S'.1 2 i = S.1 2 i ∧ S'.1 3 i = S.1 3 i ∧ S'.1 4 i = S.1 4 i ∧ S'.1 5 i = S.1 5 i ∧ S'.1 6 i = S.1 6 i ∧ S'.1 7 i = S.1 7 i) ∧ (∀ i, i < 6 → S'.1 9 i = S.1 9 i) ∧ ∀ k, 11 ≤ k → k ≤ 16 → S'.2 k = S.2 k
theorem Cp.sq {T : Txt} {S S' : Str} (hT : TOK T) (q : Cp S S') : Sq T S' S := by
  have h8 := hT.1.2
  have hc := hT.2.1.2
  have hf := hT.2.2.1.2
  exact ⟨fun s h => q.1 s (by omega), fun c h => q.2.1 c (by omega), fun f h => q.2.2.1 f (by omega), q.2.2.2⟩
def upF (S : Str) (k : Nat) (f : Nat → Int32) : Str := (fun k' => if k' = k then f else S.1 k', S.2)
theorem M3_sAf (h : Hp) (o : Nat) (S : Str) (B : Scr) (k : Nat) (f : Nat → Int32) : sAf (M3 h o S B) 3 o k f = M3 h o (upF S k f) B := by
  unfold sAf M3 upF at3
  refine Prod.ext rfl (Prod.ext rfl (Prod.ext rfl (Prod.ext ?_ rfl)))
  funext c o' k'
  show (if c = 3 ∧ o' = o ∧ k' = k then _ else if c = 3 ∧ o' = o then _ else _) = (if c = 3 ∧ o' = o then if k' = k then _ else _ else _)
  by_cases z : c = 3 ∧ o' = o
  · by_cases w : k' = k
    · rw [if_pos ⟨z.1, z.2, w⟩, if_pos z, if_pos w]
    · rw [if_neg (fun q => w q.2.2), if_pos z, if_pos z, if_neg w]
  · rw [if_neg (fun q => z ⟨q.1, q.2.1⟩), if_neg z, if_neg z]
theorem M3_Ip (h : Hp) {o p : Nat} (S : Str) (B : Scr) (k : Nat) (hp : ¬ p = o) : gI (M3 h o S B) 3 p k = gI h 3 p k := if_neg fun z => hp z.2
theorem M3_Ap (h : Hp) {o p : Nat} (S : Str) (B : Scr) (k : Nat) (hp : ¬ p = o) : gA (M3 h o S B) 3 p k = gA h 3 p k := if_neg fun z => hp z.2
theorem cpy_at (f g : Nat → Int32) {n i : Nat} (h : i < n) : va_cpy f g 0 0 n i = f i := by
  unfold va_cpy
  rw [if_pos ⟨by omega, by omega⟩, Nat.zero_add, Nat.sub_zero]
theorem cl_copy (h : Hp) {o p t : Nat} (hp : ¬ p = o) (ht : gO h 3 p 10 = some t) (hz : gI h 3 p 16 = 0 ∨ gI h 3 p 16 = 1) : ∃ S', f_X3_copy h o p = some (M3 (sO h 3 o 10 t) o S' h.2.2.2.2) ∧ Cp (vw h p) S' := by
  obtain ⟨g0, hg0⟩ : ∃ g0, g0 = sO h 3 o 10 t := ⟨_, rfl⟩
  have e0 : sO h 3 o 10 t = M3 g0 o (vw h o) h.2.2.2.2 := by
    have := M3_vw g0 o
    rw [hg0] at this ⊢
    exact this.symm
  have hI : ∀ S B k, gI (M3 g0 o S B) 3 p k = gI h 3 p k := fun S B k => by rw [M3_Ip g0 S B k hp, hg0]; rfl
  have hA : ∀ S B k, gA (M3 g0 o S B) 3 p k = gA h 3 p k := fun S B k => by rw [M3_Ap g0 S B k hp, hg0]; rfl
  have hZ : ∀ S B, b2i (gZ (M3 g0 o S B) 3 p 16) = gI h 3 p 16 := fun S B => by
    unfold gZ
    rw [hI]
    rcases hz with z | z <;> rw [z] <;> rfl
  have d8 : (8 : Int32).toNatClampNeg = 8 ∧ (6 : Int32).toNatClampNeg = 6 := by decide
  unfold f_X3_copy
  have e1 : g0 = M3 g0 o (vw h o) h.2.2.2.2 := hg0.trans e0
  rw [ht, onO_s, ← hg0, show (lt_ g0 : (Hp → Option Hp) → Option Hp) = lt_ (M3 g0 o (vw h o) h.2.2.2.2) from congrArg (fun x => (lt_ x : (Hp → Option Hp) → Option Hp)) e1]
  simp only [lt_e, hI, hA, sZ, hZ, M3_sI, M3_sAf, M3_A3, z7, d8, grd_p (show (((0 : Int32) ≤ 0 ∧ (0 : Int32) ≤ 0 ∧ (0 : Int32) ≤ 8) ∧ 0 + 8 ≤ 8 ∧ 0 + 8 ≤ 8) by decide), grd_p (show (((0 : Int32) ≤ 0 ∧ (0 : Int32) ≤ 0 ∧ (0 : Int32) ≤ 4) ∧ 0 + 4 ≤ 4 ∧ 0 + 4 ≤ 4) by decide), grd_p (show (((0 : Int32) ≤ 0 ∧ (0 : Int32) ≤ 0 ∧ (0 : Int32) ≤ 6) ∧ 0 + 6 ≤ 6 ∧ 0 + 6 ≤ 6) by decide)]
  refine ⟨_, rfl, ?_⟩
  refine ⟨fun i hi => ?_, fun i hi => ?_, fun i hi => ?_, fun k h1 h2 => ?_⟩
  · simp [upF, vw, cpy_at _ _ hi]
  · simp [upF, vw, cpy_at _ _ hi]
  · simp [upF, vw, cpy_at _ _ hi]
  · rcases (show k = 11 ∨ k = 12 ∨ k = 13 ∨ k = 14 ∨ k = 15 ∨ k = 16 by omega) with rfl | rfl | rfl | rfl | rfl | rfl <;> simp [upF, upI, vw]

