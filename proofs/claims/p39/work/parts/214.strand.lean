-- PURE: a strand of the class, by what counts of it
def Sd (g : Hp) (o t : Nat) (T : Txt) (S : Str) : Prop := gO g 3 o 10 = some t ∧ txt g t = T ∧ LOK (gA g 0 t) ∧ TOK T ∧ Sq T (vw g o) S
/-- nothing changed but strand o and long arrays -/
def Fo (o : Nat) (h g : Hp) : Prop := (∀ c o' k, ¬ (c = 3 ∧ o' = o) → gI g c o' k = gI h c o' k ∧ gA g c o' k = gA h c o' k) ∧ ∀ c o' k, gL g c o' k = gL h c o' k ∧ gO g c o' k = gO h c o' k
theorem Fo.rf (o : Nat) (h : Hp) : Fo o h h := ⟨fun _ _ _ _ => ⟨rfl, rfl⟩, fun _ _ _ => ⟨rfl, rfl⟩⟩
theorem Fo.tr {o : Nat} {h g k : Hp} (a : Fo o h g) (b : Fo o g k) : Fo o h k := ⟨fun c o' i q => ⟨(b.1 c o' i q).1.trans (a.1 c o' i q).1, (b.1 c o' i q).2.trans (a.1 c o' i q).2⟩, fun c o' i => ⟨(b.2 c o' i).1.trans (a.2 c o' i).1, (b.2 c o' i).2.trans (a.2 c o' i).2⟩⟩
theorem Fo.m3 (h : Hp) (o : Nat) (S : Str) (B : Scr) : Fo o h (M3 h o S B) := ⟨fun _ _ _ q => ⟨if_neg q, if_neg q⟩, fun _ _ _ => ⟨rfl, rfl⟩⟩
theorem Fo.fr {o : Nat} {h g : Hp} (a : Fo o h g) (ho : 3 ≤ o) : Fr h g := by
  refine ⟨fun c o' k q => ⟨(a.1 c o' k (fun z => ?_)).1, (a.2 c o' k).1, (a.2 c o' k).2⟩, fun c o' k _ q _ => (a.1 c o' k (fun z => ?_)).2⟩
  · rcases q with q | q
    · exact q z.1
    · omega
  · rcases q with q | q
    · exact q z.1
    · omega
theorem Fo.tx {o : Nat} {h g : Hp} (a : Fo o h g) (t : Nat) : txt g t = txt h t := by
  unfold txt
  rw [show gA g 5 t = gA h 5 t from funext fun k => (a.1 5 t k (by omega)).2, show gI g 5 t = gI h 5 t from funext fun k => (a.1 5 t k (by omega)).1, show gA g 0 t = gA h 0 t from funext fun k => (a.1 0 t k (by omega)).2]
theorem Fo.law {o : Nat} {h g : Hp} (a : Fo o h g) (t : Nat) : gA g 0 t = gA h 0 t := funext fun k => (a.1 0 t k (by omega)).2
/-- another strand than the one that changed -/
theorem Fo.sd {o p t : Nat} {h g : Hp} {T : Txt} {S : Str} (a : Fo o h g) (hp : ¬ p = o) (s : Sd h p t T S) : Sd g p t T S := by
  obtain ⟨s1, s2, s3, s4, s5⟩ := s
  refine ⟨(a.2 3 p 10).2.trans s1, (a.tx t).trans s2, by rw [a.law t]; exact s3, s4, ?_⟩
  rw [show vw g p = vw h p from Prod.ext (funext fun k => (a.1 3 p k (fun z => hp z.2)).2) (funext fun k => (a.1 3 p k (fun z => hp z.2)).1)]
  exact s5
theorem vw_M3 (h : Hp) (o : Nat) (S : Str) (B : Scr) : vw (M3 h o S B) o = S := Prod.ext (funext fun k => M3_A3 h o S B k) (funext fun k => M3_I3 h o S B k)
section Sd
variable {N : Nat} {g : Hp} {o t : Nat} {T : Txt} {S : Str}
theorem Sd.ck (s : Sd g o t T S) : CK g o t := by
  obtain ⟨s1, s2, s3, s4, -⟩ := s
  exact ⟨s1, by rw [s2]; exact s4, s3⟩
theorem Sd.m3 (s : Sd g o t T S) {S1 S2 : Str} (q : Sq T S1 S2) (B : Scr) : Sd (M3 g o S1 B) o t T S2 := by
  obtain ⟨s1, s2, s3, s4, -⟩ := s
  exact ⟨s1, by rw [txt_M3]; exact s2, by rw [show gA (M3 g o S1 B) 0 t = gA g 0 t from funext fun k => M3_A0 g o S1 B t k]; exact s3, s4, by rw [vw_M3]; exact q⟩
theorem Sd.eqv (s : Sd g o t T S) {S' : Str} (q : Sq T S S') : Sd g o t T S' := ⟨s.1, s.2.1, s.2.2.1, s.2.2.2.1, s.2.2.2.2.tr q⟩
theorem Sd.pass (hN : 1000 ≤ N) (s : Sd g o t T S) {n : Nat} (hn : n < 900) : ∃ g', f_X3_passHours N g o (nI n) = some g' ∧ Fo o g g' ∧ Sd g' o t T (passN T S n) := by
  obtain ⟨B', e⟩ := cl_passHours (S := vw g o) (B := g.2.2.2.2) hN s.ck hn
  rw [M3_vw, s.2.1] at e
  exact ⟨_, e, Fo.m3 g o _ _, s.m3 (passN_sq s.2.2.2.2 s.2.2.2.1 n) _⟩
theorem Sd.hour (hN : 1000 ≤ N) (s : Sd g o t T S) : ∃ g', f_X3_passHour N g o = some g' ∧ Fo o g g' ∧ Sd g' o t T (passM T S) := by
  obtain ⟨B', e⟩ := cl_passHour (S := vw g o) (B := g.2.2.2.2) hN s.ck
  rw [M3_vw, s.2.1] at e
  exact ⟨_, e, Fo.m3 g o _ _, s.m3 (passM_sq s.2.2.2.2 s.2.2.2.1) _⟩
theorem Sd.gales (hN : 1000 ≤ N) (s : Sd g o t T S) {n : Nat} (hn : n < 900) : ∃ g', f_X3_passHoursWithGales N g o (nI n) = some g' ∧ Fo o g g' ∧ Sd g' o t T (passG T S n) := by
  obtain ⟨B', e⟩ := cl_passG (S := vw g o) (B := g.2.2.2.2) hN s.ck hn
  rw [M3_vw, s.2.1] at e
  exact ⟨_, e, Fo.m3 g o _ _, s.m3 (passG_sq s.2.2.2.2 s.2.2.2.1 n) _⟩
theorem Sd.num (s : Sd g o t T S) (k : Nat) (v : Int32) : Fo o g (sI g 3 o k v) ∧ Sd (sI g 3 o k v) o t T (upI S k v) := by
  have e : sI g 3 o k v = M3 g o (upI (vw g o) k v) g.2.2.2.2 := by
    have := M3_sI g o (vw g o) g.2.2.2.2 k v
    rw [M3_vw] at this
    exact this
  rw [e]
  exact ⟨Fo.m3 g o _ _, s.m3 (s.2.2.2.2.upI k v) _⟩
theorem Sd.row (s : Sd g o t T S) (k i : Nat) (v : Int32) : Fo o g (sA g 3 o k i v) ∧ Sd (sA g 3 o k i v) o t T (upA S k i v) := by
  have e : sA g 3 o k i v = M3 g o (upA (vw g o) k i v) g.2.2.2.2 := by
    have := M3_sA g o (vw g o) g.2.2.2.2 k i v
    rw [M3_vw] at this
    exact this
  rw [e]
  exact ⟨Fo.m3 g o _ _, s.m3 (s.2.2.2.2.upA k i v) _⟩
theorem Sd.lying (hN : 1000 ≤ N) (s : Sd g o t T S) : f_X3_allLying N g o = some (sumM (S.1 0) (nSt T)) := by
  have e := cl_allLying (S := vw g o) (B := g.2.2.2.2) hN s.ck
  rw [M3_vw, s.2.1] at e
  rw [e, sumM_sq (nSt T) (fun i hi => (s.2.2.2.2.1 i hi).1)]
theorem Sd.got (hN : 1000 ≤ N) (s : Sd g o t T S) : f_X3_allGot N g o = some (sumM (S.1 9) (nFi T)) := by
  have e := cl_allGot (S := vw g o) (B := g.2.2.2.2) hN s.ck
  rw [M3_vw, s.2.1] at e
  rw [e, sumM_sq (nFi T) (fun i hi => s.2.2.2.2.2.2.1 i hi)]
theorem Sd.gains (hN : 1000 ≤ N) (s : Sd g o t T S) : f_X3_allGains N g o = some (sumM (S.1 6) (nCr T)) := by
  have e := cl_allGains (S := vw g o) (B := g.2.2.2.2) hN s.ck
  rw [M3_vw, s.2.1] at e
  rw [e, sumM_sq (nCr T) (fun i hi => (s.2.2.2.2.2.1 i hi).2.2.2.2.1)]
theorem Sd.source (hN : 1000 ≤ N) (s : Sd g o t T S) (c : Int32) (b : Bool) : f_X3_sourceOf N g o c b = some (srcM T S c b) := by
  have e := cl_sourceOf (S := vw g o) (B := g.2.2.2.2) hN s.ck c b
  rw [M3_vw, s.2.1] at e
  rw [e, srcM_sq s.2.2.2.2]
theorem Sd.worth (hN : 1000 ≤ N) (s : Sd g o t T S) {f : Nat} (hf : f < nFi T) : ∃ g', f_X3_worthOf N g o (nI f) = some (worM T S f, g') ∧ Fo o g g' ∧ Sd g' o t T S := by
  obtain ⟨B', e⟩ := cl_worthOf (S := vw g o) (B := g.2.2.2.2) hN s.ck (f := f) (by rw [s.2.1]; exact hf)
  rw [M3_vw, s.2.1] at e
  rw [worM_sq s.2.2.2.2 s.2.2.2.1 hf] at e
  exact ⟨_, e, Fo.m3 g o _ _, s.m3 s.2.2.2.2 _⟩
/-- the lots' sum -/
def lotM (S : Str) (c : Int32) : Nat → Int32
  | 0 => 0
  | j + 1 => if S.1 1 j = c then lotM S c j + S.1 0 j else lotM S c j
theorem lotM_s (S : Str) (c : Int32) (j : Nat) : lotM S c (j + 1) = if S.1 1 j = c then lotM S c j + S.1 0 j else lotM S c j := rfl
theorem Sd.lots (hN : 1000 ≤ N) (s : Sd g o t T S) (c : Int32) : f_X3_liesOnLots N g o c = some (lotM S c (nSt T)) := by
  obtain ⟨s1, s2, s3, s4, s5⟩ := s
  have h8 := s4.1.2
  have hs : gI g 5 t 11 = nI (nSt T) := by rw [← s4.1.1, ← s2]; rfl
  unfold f_X3_liesOnLots
  exact iter_inv (bot := fun _ _ => none) (b := f_X3_liesOnLots_4 g o c) (fun m r => ∀ j, j ≤ nSt T → nSt T < m + j → r (lotM S c j) (nI j) = some (lotM S c (nSt T))) (fun j _ _ => by omega) (fun m r ih j hj hm => by
    unfold f_X3_liesOnLots_4
    simp only [jn_e, lt_e, s1, onO_s, hs]
    by_cases z : nSt T = j
    · subst z
      rw [if_pos (leN (Nat.le_refl _) (by omega))]
    · have nx := ih (j + 1) (by omega) (by omega)
      rw [lotM_s] at nx
      have a := s5.1 j (by omega)
      have a1 : gA g 3 o 0 j = S.1 0 j := a.1
      have a2 : gA g 3 o 1 j = S.1 1 j := a.2
      simp only [if_neg (nleN (show j < nSt T by omega) (show nSt T < 2 ^ 31 by omega)), grd_p (inb_n (show j < 8 by omega) (show 8 < 2 ^ 31 by omega)), clN (show j < 2 ^ 31 by omega), nI_1, a1, a2]
      by_cases w : S.1 1 j = c
      · rw [if_pos w] at nx
        rw [if_neg (fun q => q w)]
        exact nx
      · rw [if_neg w] at nx
        rw [if_pos w]
        exact nx) N 0 (by omega) (by omega)
end Sd

