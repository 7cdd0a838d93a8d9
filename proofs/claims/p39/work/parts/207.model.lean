-- PURE: an hour by the reference, first part
def nmOK (nm : Nat → Int64) : Prop := ∀ i, i < 7 → ∃ x : Int32, nm i = x.toInt64
/-- the laws: what the reference works out is what L says -/
def LR (h : Hp) (L : Nat → (Nat → Int64) → Int64) : Prop := ∀ k, k < 4 → (gY h 8 0 13 k = false ∧ ∀ nm, L k nm = erM) ∨ (gY h 8 0 13 k = true ∧ ∀ (N : Nat) (g : Hp), 1000 ≤ N → (∀ a, 13 ≤ a → a ≤ 18 → gA g 8 0 a = gA h 8 0 a) → nmOK (gB g 8 0 21) → ∃ v e B', f_X8_lawOf N g (nI k) = some (v, sE g e B') ∧ (e = true → L k (gB g 8 0 21) = erM) ∧ (e = false → L k (gB g 8 0 21) = v ∧ ¬ v = erM))
def MT (h : Hp) (T : Txt) : Prop := T.2.1 11 = gI h 8 0 12 ∧ T.2.1 12 = gI h 8 0 13 ∧ T.2.1 13 = gI h 8 0 14 ∧ T.2.1 14 = gI h 8 0 15 ∧ (∀ f, f < nFi T → T.1 5 f = gA h 8 0 9 f ∧ T.1 6 f = gA h 8 0 10 f ∧ T.1 7 f = gA h 8 0 11 f) ∧ (∀ i, i < nTi T → T.1 8 i = gA h 8 0 12 i) ∧ T.2.1 17 = gA h 8 0 3 2 ∧ T.2.1 18 = gA h 8 0 3 3 ∧ LR h T.2.2
def MV (h : Hp) (b : Nat) (ru : Int32) (S : Str) : Prop := (∀ s, s < 8 → S.1 1 s = gA h 8 0 24 (8 * b + s)) ∧ (∀ c, c < 4 → S.1 2 c = gA h 8 0 25 (4 * b + c)) ∧ (∀ c, c < 4 → S.1 3 c = if gZ h 8 0 64 = true then 0 else gA h 8 0 7 c) ∧ (∀ c, c < 4 → S.1 4 c = if nI c = gI h 8 0 66 then 2147483647 else if gZ h 8 0 65 = true then 0 else gA h 8 0 26 (4 * b + c)) ∧ (∀ c, c < 4 → S.1 5 c = gA h 8 0 27 (4 * b + c)) ∧ S.2 14 = ru ∧ (S.2 16 = 0 ↔ gZ h 8 0 63 = true)
/-- what an hour doesn't change -/
def SameC (S S' : Str) : Prop := S'.1 1 = S.1 1 ∧ S'.1 2 = S.1 2 ∧ S'.1 3 = S.1 3 ∧ S'.1 4 = S.1 4 ∧ S'.1 5 = S.1 5 ∧ S'.2 14 = S.2 14 ∧ S'.2 16 = S.2 16
theorem SameC.rf (S : Str) : SameC S S := ⟨rfl, rfl, rfl, rfl, rfl, rfl, rfl⟩
theorem SameC.tr {S S' S'' : Str} (a : SameC S S') (b : SameC S' S'') : SameC S S'' := ⟨b.1.trans a.1, b.2.1.trans a.2.1, b.2.2.1.trans a.2.2.1, b.2.2.2.1.trans a.2.2.2.1, b.2.2.2.2.1.trans a.2.2.2.2.1, b.2.2.2.2.2.1.trans a.2.2.2.2.2.1, b.2.2.2.2.2.2.trans a.2.2.2.2.2.2⟩
theorem SameC.upA {S : Str} {k : Nat} (i : Nat) (v : Int32) (hk : k = 0 ∨ k = 6 ∨ k = 7 ∨ k = 9) : SameC S (upA S k i v) := ⟨upA_n S i v (by omega), upA_n S i v (by omega), upA_n S i v (by omega), upA_n S i v (by omega), upA_n S i v (by omega), rfl, rfl⟩
theorem SameC.upI {S : Str} {k : Nat} (v : Int32) (hk : k = 11 ∨ k = 12 ∨ k = 13 ∨ k = 15) : SameC S (upI S k v) := ⟨rfl, rfl, rfl, rfl, rfl, upI_n S v (by omega), upI_n S v (by omega)⟩
theorem MV.same {h : Hp} {b : Nat} {ru : Int32} {S S' : Str} (m : MV h b ru S) (c : SameC S S') : MV h b ru S' := by
  obtain ⟨m1, m2, m3, m4, m5, m6, m7⟩ := m
  obtain ⟨c1, c2, c3, c4, c5, c6, c7⟩ := c
  exact ⟨by rw [c1]; exact m1, by rw [c2]; exact m2, by rw [c3]; exact m3, by rw [c4]; exact m4, by rw [c5]; exact m5, by rw [c6]; exact m6, by rw [c7]; exact m7⟩
section Model
variable {N : Nat} {h : Hp} {b : Nat} {ru : Int32} {T : Txt} {S : Str} {e : Bool} {B : Scr}
theorem m_layNames (hb : b < 2) (V : MV h b ru S) (lie c : Int32) (hc : c = -1 ∨ ∃ k, k < 4 ∧ c = nI k) : ∃ B', f_X8_layNames (M8 h b S e B) (nI b) lie c = some (M8 h b S e B') ∧ ∀ i, i < 7 → B' 8 0 21 i = nmP S lie c i := by
  obtain ⟨-, m2, m3, -⟩ := V
  have hb31 : b < 2 ^ 31 := by omega
  unfold f_X8_layNames
  simp only [jn_e, lt_e, z7, grd_p i7.1, grd_p i7.2.1, grd_p i7.2.2.1, grd_p i7.2.2.2.1, grd_p i7.2.2.2.2.1, grd_p i7.2.2.2.2.2.1, grd_p i7.2.2.2.2.2.2, M8_sB, M8_A, arr8_33, clN hb31, wr_b, grd_p (inb_n hb (show 2 < 2 ^ 31 by omega)), b2i0, M8_Z h b S e _ 64 (by decide)]
  rcases hc with rfl | ⟨k, hk, rfl⟩
  · simp only [if_neg (show ¬ (0 : Int32) ≤ -1 by decide), if_pos (show (-1 : Int32) < 0 by decide)]
    refine ⟨_, rfl, ?_⟩
    refine lt7 ?_ ?_ ?_ ?_ ?_ ?_ ?_ <;> simp [at3_s, vp_updL, nmP, hrM]
  · have hk31 : k < 2 ^ 31 := by omega
    have hne : ¬ nI k = -1 := nI_ne_neg hk31 (by decide)
    have h8 : 4 * b + k < 8 := mul_lt hb hk
    have m2k := m2 k hk
    have m3k := m3 k hk
    simp only [if_pos (nI_pos' hk31), if_neg (nI_pos hk31), ix4 hb hk, grd_p (inb_n h8 (show 8 < 2 ^ 31 by omega)), grd_p (inb_n (show k < 8 by omega) (show 8 < 2 ^ 31 by omega)), clN (show 4 * b + k < 2 ^ 31 by omega), clN hk31, arr8_n b S (gA h 8 0) (show 25 < 23 ∨ 33 < 25 ∨ (23 < 25 ∧ 25 < 28) by omega), arr8_n b S (gA h 8 0) (show 7 < 23 ∨ 33 < 7 ∨ (23 < 7 ∧ 7 < 28) by omega), ← m2k]
    cases hz : gZ h 8 0 64 with
    | false =>
      rw [hz, if_neg (fun q => Bool.noConfusion q)] at m3k
      simp only [if_true, ← m3k]
      refine ⟨_, rfl, ?_⟩
      refine lt7 ?_ ?_ ?_ ?_ ?_ ?_ ?_ <;> simp [at3_s, vp_updL, nmP, hrM, hne, clN hk31]
    | true =>
      rw [hz, if_pos rfl] at m3k
      simp only [if_neg (show ¬ true = false from fun q => Bool.noConfusion q)]
      refine ⟨_, rfl, ?_⟩
      refine lt7 ?_ ?_ ?_ ?_ ?_ ?_ ?_ <;> simp [at3_s, vp_updL, nmP, hrM, hne, clN hk31, m3k]
theorem m_layField (hb : b < 2) (hT : TOK T) (X : MT h T) (V : MV h b ru S) {f : Nat} (hf : f < nFi T) : ∃ B', f_X8_layField (M8 h b S e B) (nI b) (nI f) = some (M8 h b S e B') ∧ ∀ i, i < 7 → B' 8 0 21 i = nmF T S f i := by
  obtain ⟨-, ⟨-, hc4⟩, ⟨-, hf6⟩, -, hfc, -⟩ := hT
  obtain ⟨k, hk, hk2⟩ := hfc f hf
  obtain ⟨-, -, -, -, hfs, -⟩ := X
  obtain ⟨f5, f6, f7⟩ := hfs f hf
  have hf31 : f < 2 ^ 31 := by omega
  have h12 : 6 * b + f < 12 := mul_lt hb (by omega)
  obtain ⟨B1, e1, n1⟩ := m_layNames (S := S) (e := e) (B := B) hb V 0 (nI k) (Or.inr ⟨k, by omega, rfl⟩)
  unfold f_X8_layField
  simp only [lt_e, z7, grd_p i7.2.2.2.2.1, grd_p i7.2.2.2.2.2.1, grd_p i7.2.2.2.2.2.2, clN hf31, M8_A, grd_p (inb_n (show f < 12 by omega) (show 12 < 2 ^ 31 by omega)), arr8_n b S (gA h 8 0) (show 9 < 23 ∨ 33 < 9 ∨ (23 < 9 ∧ 9 < 28) by omega), arr8_n b S (gA h 8 0) (show 10 < 23 ∨ 33 < 10 ∨ (23 < 10 ∧ 10 < 28) by omega), arr8_n b S (gA h 8 0) (show 11 < 23 ∨ 33 < 11 ∨ (23 < 11 ∧ 11 < 28) by omega), ← f5, hk2, e1, bind_s, ix6 hb (show f < 6 by omega), grd_p (inb_n h12 (show 12 < 2 ^ 31 by omega)), clN (show 6 * b + f < 2 ^ 31 by omega), M8_sB, arr8_30, wr_at (n := 6) (b := b) (S.1 9) (gA h 8 0 30) (show f < 6 by omega), ← f6, ← f7]
  refine ⟨_, rfl, ?_⟩
  have hne : ¬ nI k = -1 := nI_ne_neg (by omega) (by decide)
  have hk31 : k < 2 ^ 31 := by omega
  refine lt7 ?_ ?_ ?_ ?_ ?_ ?_ ?_
  · simp [at3_s, vp_updL, nmF, n1 0 (by omega), nmP]
  · simp [at3_s, vp_updL, nmF, n1 1 (by omega), nmP, hne, hk2]
  · simp [at3_s, vp_updL, nmF, n1 2 (by omega), nmP, hne, hk2]
  · simp [at3_s, vp_updL, nmF, n1 3 (by omega), nmP]
  · simp [at3_s, vp_updL, nmF]
  · simp [at3_s, vp_updL, nmF]
  · simp [at3_s, vp_updL, nmF]
theorem nmP_ok (S : Str) (lie c : Int32) : nmOK (nmP S lie c) := by
  refine lt7 ⟨lie, rfl⟩ ?_ ?_ ⟨hrM S, rfl⟩ ⟨0, rfl⟩ ⟨0, rfl⟩ ⟨0, rfl⟩
  · show ∃ x : Int32, (if c = -1 then (0 : Int64) else (S.1 2 c.toNatClampNeg).toInt64) = x.toInt64
    by_cases z : c = -1
    · exact ⟨0, by rw [if_pos z]; rfl⟩
    · exact ⟨_, if_neg z⟩
  · show ∃ x : Int32, (if c = -1 then (0 : Int64) else (S.1 3 c.toNatClampNeg).toInt64) = x.toInt64
    by_cases z : c = -1
    · exact ⟨0, by rw [if_pos z]; rfl⟩
    · exact ⟨_, if_neg z⟩
theorem nmF_ok (T : Txt) (S : Str) (f : Nat) : nmOK (nmF T S f) := lt7 ⟨0, rfl⟩ ⟨_, rfl⟩ ⟨_, rfl⟩ ⟨_, rfl⟩ ⟨_, rfl⟩ ⟨_, rfl⟩ ⟨_, rfl⟩
theorem m_boundLaw (hN : 1000 ≤ N) (hT : TOK T) (X : MT h T) {k : Nat} (hk : k < 4) (w m : Int32) {nm : Nat → Int64} (hnm : nmOK nm) (hB : ∀ i, i < 7 → B 8 0 21 i = nm i) : ∃ e' B', f_X8_boundLaw N (M8 h b S e B) (nI k) w m = some (if T.2.2 k nm = erM then w else pwM (T.2.2 k nm) m, M8 h b S e' B') := by
  have hk31 : k < 2 ^ 31 := by omega
  obtain ⟨-, -, -, -, -, -, -, -, hL⟩ := X
  have hc := hT.2.2.2.2.2 k (B 8 0 21) nm hB
  unfold f_X8_boundLaw
  simp only [nb2i0, b2i0, clN hk31, grd_p (inb_n (show k < 8 by omega) (show 8 < 2 ^ 31 by omega)), M8_Y, arr8_n b S (gA h 8 0) (show 13 < 23 ∨ 33 < 13 ∨ (23 < 13 ∧ 13 < 28) by omega)]
  rcases hL k hk with ⟨ht, hn⟩ | ⟨ht, hv⟩
  · have ht' : decide (¬ gA h 8 0 13 k = 0) = false := ht
    simp only [ht', hn nm, if_true]
    exact ⟨e, B, rfl⟩
  · have ht' : decide (¬ gA h 8 0 13 k = 0) = true := ht
    obtain ⟨v, e', B', e1, he1, he2⟩ := hv N (M8 h b S e B) hN (fun a a1 a2 => by rw [M8_A, arr8_n b S (gA h 8 0) (by omega)]) (fun i hi => by obtain ⟨x, hx⟩ := hnm i hi; exact ⟨x, by rw [← hx, ← hB i hi]; rfl⟩)
    rw [M8_sE] at e1
    have hc' : T.2.2 k (gB (M8 h b S e B) 8 0 21) = T.2.2 k nm := hc
    simp only [ht', Bool.true_eq_false, not_false_eq_true, if_true, if_false, e1, bd2_s, M8_E, jn_e, lg_cmp_ge, lg_cmp_le]
    refine ⟨e', B', ?_⟩
    cases e' with
    | true =>
      have := he1 rfl
      rw [hc'] at this
      rw [if_neg (fun q => Bool.noConfusion q), if_pos this]
    | false =>
      obtain ⟨h1, h2⟩ := he2 rfl
      rw [hc'] at h1
      rw [if_pos rfl, h1, if_neg h2]
      unfold pwM
      by_cases z : 0 ≤ v
      · rw [if_pos z, if_neg (Int64.not_lt.mpr z)]
        by_cases y : v ≤ m.toInt64
        · rw [if_pos y, if_neg (Int64.not_lt.mpr y)]
        · rw [if_neg y, if_pos (Int64.not_le.mp y)]
      · rw [if_neg z, if_pos (Int64.not_le.mp z)]
theorem m_liesAt (hb : b < 2) {w : Int32} (hw : w = -3 ∨ ∃ j, j < 8 ∧ w = nI j) : f_X8_liesAt (M8 h b S e B) (nI b) w = some (thereM S w) := by
  have hb31 : b < 2 ^ 31 := by omega
  unfold f_X8_liesAt thereM
  simp only [jn_e, M8_A, arr8_31, arr8_23, clN hb31, wr_b, grd_p (inb_n hb (show 2 < 2 ^ 31 by omega))]
  rcases hw with rfl | ⟨j, hj, rfl⟩
  · rw [if_neg (fun q => q rfl), if_pos rfl]
  · have hj31 : j < 2 ^ 31 := by omega
    have h3 : ¬ nI j = -3 := nI_ne_neg hj31 (by decide)
    have h16 : 8 * b + j < 16 := mul_lt hb hj
    rw [if_pos h3, if_neg h3, ix8 hb hj]
    simp only [grd_p (inb_n h16 (show 16 < 2 ^ 31 by omega)), clN (show 8 * b + j < 2 ^ 31 by omega), clN hj31]
    rw [wr_at (n := 8) (b := b) (S.1 0) (gA h 8 0 23) hj]
theorem m_lessAt (hb : b < 2) {w : Int32} (n : Int32) (hw : w = -3 ∨ ∃ j, j < 8 ∧ w = nI j) : f_X8_lessAt (M8 h b S e B) (nI b) w n = some (M8 h b (lessM S w n) e B) := by
  have hb31 : b < 2 ^ 31 := by omega
  unfold f_X8_lessAt lessM
  simp only [jn_e, lt_e, M8_A, arr8_31, arr8_23, clN hb31, wr_b, grd_p (inb_n hb (show 2 < 2 ^ 31 by omega)), M8_sheap]
  rcases hw with rfl | ⟨j, hj, rfl⟩
  · rw [if_neg (fun q => q rfl), if_pos rfl]
  · have hj31 : j < 2 ^ 31 := by omega
    have h3 : ¬ nI j = -3 := nI_ne_neg hj31 (by decide)
    have h16 : 8 * b + j < 16 := mul_lt hb hj
    rw [if_pos h3, if_neg h3, ix8 hb hj]
    simp only [grd_p (inb_n h16 (show 16 < 2 ^ 31 by omega)), clN (show 8 * b + j < 2 ^ 31 by omega), clN hj31]
    rw [wr_at (n := 8) (b := b) (S.1 0) (gA h 8 0 23) hj, M8_s0 h b S e B hj]
end Model

