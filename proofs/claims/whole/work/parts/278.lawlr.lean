-- PURE: laws told alike are worked out alike
theorem STP_grd {kn nu kt pt ot : Int32} {i : Nat} {s s' : List Nat} (st : STP kn nu kt pt ot i s s') (hi : i < 64) (hs : ∀ x, x ∈ s → x < i) : (kt = 1 → inb pt 7) ∧ (¬ kt = 0 → ¬ kt = 1 → inb pt 64) ∧ (¬ kt = 0 → ¬ kt = 1 → ¬ kt = 2 → inb ot 64) ∧ ∀ x, x ∈ s' → x < i + 1 := by
  rcases st with ⟨-, rfl, -, -, rfl⟩ | ⟨j, hj, -, rfl, rfl, rfl⟩ | ⟨x, r, rfl, -, rfl, rfl, rfl⟩ | ⟨x, y, r, rfl, hb, rfl, rfl, rfl⟩
  · exact ⟨fun q => absurd q (by decide), fun q => absurd rfl q, fun q => absurd rfl q, fun z hz => by
      rcases List.mem_cons.mp hz with rfl | h
      · omega
      · have := hs z h; omega⟩
  · exact ⟨fun _ => inb_n hj (by omega), fun _ q => absurd rfl q, fun _ q => absurd rfl q, fun z hz => by
      rcases List.mem_cons.mp hz with rfl | h
      · omega
      · have := hs z h; omega⟩
  · have hx := hs x (List.mem_cons_self ..)
    exact ⟨fun q => absurd q (by decide), fun _ _ => inb_n (by omega) (by omega), fun _ _ q => absurd rfl q, fun z hz => by
      rcases List.mem_cons.mp hz with rfl | h
      · omega
      · have := hs z (List.mem_cons_of_mem _ h); omega⟩
  · obtain ⟨b1, b2, b3, b4, b5, b6⟩ := bin_no hb
    have hy := hs y (List.mem_cons_self ..)
    have hx := hs x (List.mem_cons_of_mem _ (List.mem_cons_self ..))
    exact ⟨fun q => absurd q b5, fun _ _ => inb_n (by omega) (by omega), fun _ _ _ => inb_n (by omega) (by omega), fun z hz => by
      rcases List.mem_cons.mp hz with rfl | h
      · omega
      · have := hs z (List.mem_cons_of_mem _ (List.mem_cons_of_mem _ h)); omega⟩
theorem evC_s (kn nu : Nat → Int32) (nm : Nat → Int64) (n i top : Nat) (s : Nat → Int64) : evC kn nu nm (n + 1) i top s = match stC (kn i) (nu i) nm top s with
    | none => -9223372036854775808
    | some (t, v) => if 1000000000000 < v ∨ v < -1000000000000 then -9223372036854775808 else evC kn nu nm n (i + 1) (t + 1) (vp_updL s t v) := rfl
theorem LPA_LR {h : Hp} {L : Nat → (Nat → Int64) → Int64} (l : LPA (gA h 8 0 13) (gA h 8 0 14) (gA h 8 0 15) (gA h 8 0 16) (gA h 8 0 17) (gA h 8 0 18) L) : LR h L := by
  obtain ⟨A, rfl, la⟩ := l
  intro k hk
  rcases la k hk with ⟨t0, nt⟩ | ⟨t0, a, b, hab, hb, a2, a3, fa, lb, st, s0, ss, sb⟩
  · refine Or.inl ⟨?_, fun nm => ?_⟩
    · unfold gY; rw [t0]; decide
    · unfold lawM; rw [if_neg nt]; rfl
  · refine Or.inr ⟨?_, fun N g hN hx hn => ?_⟩
    · unfold gY; exact decide_eq_true t0
    have eL : ∀ nm, lawM A k nm = evC (A 0) (A 1) nm (b - a) a 0 (fun _ => 0) := fun nm => by
      unfold lawM
      rw [a2, a3, if_pos (Int32.not_le.mp (nleN hab (by omega))), clN (by omega), clN (by omega)]
    have g14 : gA g 8 0 14 k = nI a := by rw [hx 14 (by omega) (by omega)]; exact fa
    have g15 : gA g 8 0 15 k = nI b := by rw [hx 15 (by omega) (by omega)]; exact lb
    obtain ⟨nm, hnm⟩ : ∃ nm, nm = gB g 8 0 21 := ⟨_, rfl⟩
    rw [← hnm] at hn
    unfold f_X8_lawOf
    have e0 : sZ g 8 0 49 false = sE g false g.2.2.2.2 := rfl
    rw [lt_e, e0, grd_p (inb_n (show k < 8 by omega) (by omega)), lt_e, clN (show k < 2 ^ 31 by omega), sE_A, g14, ← hnm]
    refine iter_inv (bot := fun _ _ => none) (b := f_X8_lawOf_12 (nI k)) (fun m r => ∀ i e B, a ≤ i → i ≤ b → b < m + i → B 8 0 21 = nm → (∀ x, x ∈ st i → x < i) → (e = true → lawM A k nm = erM) → (e = false → ∃ cs, AL cs (B 8 0 22) (st i) ∧ lawM A k nm = evC (A 0) (A 1) nm (b - i) i (st i).length cs) → ∃ v e' B', r (nI i) (sE g e B) = some (v, sE g e' B') ∧ (e' = true → lawM A k nm = erM) ∧ (e' = false → lawM A k nm = v ∧ ¬ v = erM)) (fun i _ _ _ _ _ => by omega) (fun m r ih i e B h1 h2 hm hB hl he hf => ?_) N a false g.2.2.2.2 (Nat.le_refl a) (by omega) (by omega) hnm.symm (fun x hx => by rw [s0] at hx; exact absurd hx (List.not_mem_nil)) (fun q => Bool.noConfusion q) (fun _ => ⟨fun _ => 0, by rw [s0]; exact trivial, by rw [s0]; exact eL nm⟩)
    unfold f_X8_lawOf_12
    rw [grd_p (inb_n (show k < 8 by omega) (by omega))]
    simp only [clN (show k < 2 ^ 31 by omega), sE_A, g15, jn_e, sE_e]
    by_cases z : i = b
    · subst z
      rw [if_pos (leN (Nat.le_refl _) (by omega))]
      cases e with
      | true =>
        rw [if_neg (show ¬ b2i true = 0 by decide)]
        exact ⟨_, true, B, rfl, he, fun q => Bool.noConfusion q⟩
      | false =>
        obtain ⟨cs, al, ev⟩ := hf rfl
        rw [sb] at al ev
        obtain ⟨c1, c2, -⟩ := al
        have c1' : cs 0 = B 8 0 22 (i - 1) := c1
        have em : nI i - 1 = nI (i - 1) := by rw [show (1 : Int32) = nI 1 from rfl, nI_sub (by omega)]
        have ev' : lawM A k nm = cs 0 := by
          rw [ev, Nat.sub_self]
          rfl
        rw [if_pos (show b2i false = 0 from rfl), grd_p (inb_n (show k < 8 by omega) (by omega)), em, grd_p (inb_n (show i - 1 < 64 by omega) (by omega)), clN (show i - 1 < 2 ^ 31 by omega), sE_B]
        refine ⟨_, false, B, rfl, fun q => Bool.noConfusion q, fun _ => ⟨ev'.trans c1', fun q => ?_⟩⟩
        have : BD (B 8 0 22 (i - 1)) := c2
        rw [q] at this
        exact absurd this.1 (by decide)
    · have hi : i < b := by omega
      have sti := ss i h1 hi
      obtain ⟨q1, q2, q3, q4⟩ := STP_grd sti (by omega) hl
      have ek : gA g 8 0 16 i = gA h 8 0 16 i := by rw [hx 16 (by omega) (by omega)]
      have ep : gA g 8 0 17 i = gA h 8 0 17 i := by rw [hx 17 (by omega) (by omega)]
      have eo : gA g 8 0 18 i = gA h 8 0 18 i := by rw [hx 18 (by omega) (by omega)]
      rw [if_neg (nleN hi (by omega)), m_valueOf (show i < 128 by omega) ek ep eo q1 q2 q3, bd2_s, grd_p (inb_n (show i < 64 by omega) (by omega)), lt_e, lt_e, nI_1, clN (show i < 2 ^ 31 by omega), sE_sB, hB]
      have b21 : ∀ v, at3 B 8 0 22 (vp_updL (B 8 0 22) i v) 8 0 21 = nm := fun v => by
        unfold at3
        rw [if_neg (by decide)]
        exact hB
      have b22 : ∀ v, at3 B 8 0 22 (vp_updL (B 8 0 22) i v) 8 0 22 = vp_updL (B 8 0 22) i v := fun v => at3_s _ _ _ _ _
      refine ih (i + 1) _ _ (by omega) (by omega) (by omega) (b21 _) q4 (fun w => ?_) (fun w => ?_)
      · cases e with
        | true => exact he rfl
        | false =>
          obtain ⟨cs, al, ev⟩ := hf rfl
          obtain ⟨t, v, r', e1, e2, e3, e4, e5, e6, j1, j2⟩ := step_same sti (by omega) hl hn al
          rw [ev, show b - i = (b - (i + 1)) + 1 by omega, evC_s, e1]
          have := of_decide_eq_true (j1 w)
          show (if 1000000000000 < v ∨ v < -1000000000000 then _ else _) = erM
          rw [if_pos this]
          rfl
      · cases e with
        | true =>
          rw [vl_err] at w
          exact Bool.noConfusion w
        | false =>
          obtain ⟨cs, al, ev⟩ := hf rfl
          obtain ⟨t, v, r', e1, e2, e3, e4, e5, e6, j1, j2⟩ := step_same sti (by omega) hl hn al
          obtain ⟨j3, j4⟩ := j2 w
          have no : ¬ (1000000000000 < v ∨ v < -1000000000000) := of_decide_eq_false ((ov_bd v).mpr j4)
          refine ⟨vp_updL cs t v, ?_, ?_⟩
          · rw [b22, e2, j3]
            have vi : vp_updL (B 8 0 22) i v i = v := by unfold vp_updL; rw [if_pos rfl]
            have vt : vp_updL cs t v r'.length = v := by rw [e3]; unfold vp_updL; rw [if_pos rfl]
            exact ⟨by rw [vi, vt], by rw [vi]; exact j4, AL_upd r' e6 e5 (by omega)⟩
          · rw [ev, show b - i = (b - (i + 1)) + 1 by omega, evC_s, e1]
            show (if 1000000000000 < v ∨ v < -1000000000000 then _ else _) = _
            rw [if_neg no, e2]
            have : (i :: r').length = t + 1 := by rw [List.length_cons, e3]
            rw [this]
