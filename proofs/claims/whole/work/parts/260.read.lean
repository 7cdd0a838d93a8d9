-- PURE: the reference reads its real half
/-- V, but coming and tides as in S -/
def n4 (V S : Str) : Str := (fun k i => if k = 4 then S.1 4 i else V.1 k i, fun k => if k = 16 then S.2 16 else V.2 k)
theorem nmP_n4 (V S : Str) (l c : Int32) : nmP (n4 V S) l c = nmP V l c := funext fun i => match i with
  | 0 => rfl
  | 1 => rfl
  | 2 => rfl
  | 3 => rfl
  | _ + 4 => rfl
theorem nmF_n4 (T : Txt) (V S : Str) (f : Nat) : nmF T (n4 V S) f = nmF T V f := funext fun i => match i with
  | 0 => rfl
  | 1 => rfl
  | 2 => rfl
  | 3 => rfl
  | 4 => rfl
  | 5 => rfl
  | _ + 6 => rfl
theorem worM_n4 (T : Txt) (V S : Str) (f : Nat) : worM T (n4 V S) f = worM T V f := by unfold worM; rw [nmF_n4]; rfl
theorem scM_n4 (T : Txt) (V S : Str) (c : Int32) : ∀ j, scM T (n4 V S) c j = scM T V c j
  | 0 => rfl
  | j + 1 => by rw [scM_s, scM_s, scM_n4 T V S c j]; rfl
theorem srcM_n4 (T : Txt) (V S : Str) (c : Int32) (b : Bool) : srcM T (n4 V S) c b = srcM T V c b := by
  unfold srcM
  rw [scM_n4]
  rfl
theorem sE_at (g : Hp) (e : Bool) (B : Scr) (j : Nat) : gI (sE g e B) 8 0 j = if j = 49 then b2i e else gI g 8 0 j := by
  show at3 g.1 8 0 49 (b2i e) 8 0 j = _
  unfold at3
  by_cases z : j = 49
  · rw [if_pos z, if_pos ⟨rfl, rfl, z⟩]
  · rw [if_neg z, if_neg (fun q => z q.2.2)]
    rfl
theorem F8.e (g : Hp) (e : Bool) (B : Scr) : F8 g (sE g e B) := by
  refine ⟨fun c o k hc => ⟨if_neg (fun q => hc q.1), rfl, rfl, rfl⟩, fun k hk => ?_, ⟨rfl, rfl, fun _ => ?_⟩, fun _ _ => rfl, fun _ _ _ _ _ => rfl⟩
  · show at3 g.1 8 0 49 (b2i e) 8 0 k = gI g 8 0 k
    unfold at3
    rw [if_neg]
    · rfl
    · rintro ⟨-, -, rfl⟩
      exact absurd hk (by decide)
  · have : gI (sE g e B) 8 0 49 = b2i e := by rw [sE_at, if_pos rfl]
    unfold N49 gZ
    rw [this, Z_b]
section Read
variable {N : Nat} {g : Hp} {T : Txt} {S : Str}
theorem n4_sq (r : R8a g T S) (p64 : gZ g 8 0 64 = false) : Sq T (n4 (v8 g 0 (S.2 14)) S) S := by
  obtain ⟨q1, q2, q3, q4⟩ := r.2.2.2.1
  refine ⟨q1, fun c hc => ?_, q3, fun k k1 k2 => ?_⟩
  · obtain ⟨c1, c2, c3, c4, c5, c6⟩ := q2 c hc
    refine ⟨c1, ?_, rfl, c4, c5, c6⟩
    show (if gZ g 8 0 64 = true then 0 else gA g 8 0 7 c) = S.1 3 c
    rw [p64, if_neg (fun q => Bool.noConfusion q)]
    exact c2
  · rcases (show k = 11 ∨ k = 12 ∨ k = 13 ∨ k = 14 ∨ k = 15 ∨ k = 16 by omega) with rfl | rfl | rfl | rfl | rfl | rfl
    · exact (b8_11 g 0).symm.trans (q4 11 (by omega) (by omega))
    · exact (b8_12 g 0).symm.trans (q4 12 (by omega) (by omega))
    · exact (b8_13 g 0).symm.trans (q4 13 (by omega) (by omega))
    · rfl
    · exact (b8_15 g 0).symm.trans (q4 15 (by omega) (by omega))
    · rfl
theorem sE_of (r : R8a g T S) (ru : Int32) (e : Bool) (B : Scr) : M8 g 0 (v8 g 0 ru) e B = sE g e B := by
  have := M8_sE g 0 (v8 g 0 ru) (gZ g 8 0 49) g.2.2.2.2 e B
  rw [M8_v8 g 0 ru r.2.2.2.2] at this
  exact this.symm
theorem m_worth0 (hN : 1000 ≤ N) (r : R8a g T S) (p64 : gZ g 8 0 64 = false) (K : SOK T 0 S) {f : Nat} (hf : f < nFi T) : ∃ e B, f_X8_worthOf N g 0 (nI f) = some (worM T S f, sE g e B) := by
  have q := n4_sq r p64
  -- bounds of the rows that count
  have K' : SOK T 0 (v8 g 0 (S.2 14)) := by
    obtain ⟨a, b, c, d1, d2, d3, d4, d5⟩ := K.sq q.sy
    exact ⟨a, b, c, d1, d2, d3, d4, d5⟩
  obtain ⟨e, B, x⟩ := m_worthOf (b := 0) (e := gZ g 8 0 49) (B := g.2.2.2.2) hN (by decide) r.1 r.2.2.1 (v8_MV g 0 (S.2 14)) r.2.1 K' hf
  rw [M8_v8 g 0 (S.2 14) r.2.2.2.2, sE_of r (S.2 14) e B, ← worM_n4 T (v8 g 0 (S.2 14)) S f, worM_sq q r.1 hf] at x
  exact ⟨e, B, x⟩
theorem m_source0 (hN : 1000 ≤ N) (r : R8a g T S) (p64 : gZ g 8 0 64 = false) (K : SOK T 0 S) (c : Int32) (w : Bool) : f_X8_sourceOf N g 0 c (S.2 14) w = some (srcM T S c w) := by
  have q := n4_sq r p64
  have x := m_sourceOf (b := 0) (e := gZ g 8 0 49) (B := g.2.2.2.2) hN (by decide) r.1 r.2.2.1 (v8_MV g 0 (S.2 14)) (fun s hs => Int32.le_iff_toInt_le.mpr ((K.sq q.sy).1 s hs).1) c w
  rw [M8_v8 g 0 (S.2 14) r.2.2.2.2, ← srcM_n4 T (v8 g 0 (S.2 14)) S c w, srcM_sq q] at x
  exact x
/-- the law worked out, behind its names -/
theorem m_lawV (hN : 1000 ≤ N) (r : R8a g T S) {k : Nat} (hk : k < 4) (ht : gY g 8 0 13 k = true) {B : Scr} {nm : Nat → Int64} (hnm : nmOK nm) (hB : ∀ i, i < 7 → B 8 0 21 i = nm i) {ru : Int32} {e0 : Bool} : ∃ g', (bd2 (f_X8_lawOf N (M8 g 0 (v8 g 0 ru) e0 B) (nI k)) fun v5 h4 => if (b2i (gZ h4 8 0 49)) = 0 then some (v5, h4) else some ((-9223372036854775808 : Int64), h4)) = some (T.2.2 k nm, g') ∧ F8 g g' ∧ gZ g' 8 0 64 = gZ g 8 0 64 := by
  rcases r.2.2.1.2.2.2.2.2.2.2.2 k hk with ⟨q, -⟩ | ⟨-, q⟩
  · rw [ht] at q; exact Bool.noConfusion q
  · have hl : ∀ a, 13 ≤ a → a ≤ 18 → gA (M8 g 0 (v8 g 0 ru) e0 B) 8 0 a = gA g 8 0 a := fun a h1 h2 => by rw [M8_A, arr8_n 0 _ _ (by omega)]
    have hb : gB (M8 g 0 (v8 g 0 ru) e0 B) 8 0 21 = B 8 0 21 := rfl
    have hn : nmOK (gB (M8 g 0 (v8 g 0 ru) e0 B) 8 0 21) := by
      intro i hi
      obtain ⟨x, hx⟩ := hnm i hi
      exact ⟨x, by rw [hb, hB i hi]; exact hx⟩
    obtain ⟨v, e, B', ev, h1, h2⟩ := q N _ hN hl hn
    have cg : T.2.2 k (gB (M8 g 0 (v8 g 0 ru) e0 B) 8 0 21) = T.2.2 k nm := r.1.2.2.2.2.2 k _ _ (fun i hi => hB i hi)
    rw [cg] at h1 h2
    rw [ev, bd2_s, M8_sE, sE_of r]
    have z49 : gZ (sE g e B') 8 0 49 = e := by
      have : gI (sE g e B') 8 0 49 = b2i e := by rw [sE_at, if_pos rfl]
      unfold gZ
      rw [this, Z_b]
    have z64 : gZ (sE g e B') 8 0 64 = gZ g 8 0 64 := by
      have : gI (sE g e B') 8 0 64 = gI g 8 0 64 := by rw [sE_at, if_neg (by decide)]
      unfold gZ
      rw [this]
    rw [z49]
    cases e with
    | true => rw [if_neg (show ¬ b2i true = 0 by decide), h1 rfl]; exact ⟨_, rfl, F8.e g true B', z64⟩
    | false => rw [if_pos (show b2i false = 0 from rfl), (h2 rfl).1]; exact ⟨_, rfl, F8.e g false B', z64⟩
end Read
