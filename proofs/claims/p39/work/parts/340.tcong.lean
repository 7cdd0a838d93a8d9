-- PURE: what doesn't count of a text
/-- two texts alike in all that counts of them once a strand is begun -/
def Tq (T T0 : Txt) : Prop := (∀ k, 11 ≤ k → k ≤ 19 → T.2.1 k = T0.2.1 k) ∧ (∀ f, f < nFi T0 → T.1 5 f = T0.1 5 f ∧ T.1 6 f = T0.1 6 f ∧ T.1 7 f = T0.1 7 f) ∧ (∀ i, i < nTi T0 → T.1 8 i = T0.1 8 i) ∧ ∀ k, k < 4 → T.2.2 k = T0.2.2 k
theorem passN_t (T : Txt) (S : Str) (n : Nat) : passN T S (n + 1) = passM T (passN T S n) := rfl
theorem passG_t (T : Txt) (S : Str) (n : Nat) : passG T S (n + 1) = passM T (galeM T (passG T S n)) := rfl
theorem i32_of_nn {x : Int32} (h : 0 ≤ x) : x = nI x.toNatClampNeg ∧ x.toNatClampNeg < 2 ^ 31 := by
  obtain ⟨j, hj, e⟩ := nI_of (Int32.not_lt.mpr h)
  subst e
  rw [nI_clamp hj]
  exact ⟨rfl, hj⟩
section TC
variable {T T0 : Txt} {S : Str} {X : Xs}
theorem Tq.st (q : Tq T T0) : nSt T = nSt T0 := by unfold nSt; rw [q.1 11 (by decide) (by decide)]
theorem Tq.cr (q : Tq T T0) : nCr T = nCr T0 := by unfold nCr; rw [q.1 12 (by decide) (by decide)]
theorem Tq.fi (q : Tq T T0) : nFi T = nFi T0 := by unfold nFi; rw [q.1 13 (by decide) (by decide)]
theorem Tq.ti (q : Tq T T0) : nTi T = nTi T0 := by unfold nTi; rw [q.1 14 (by decide) (by decide)]
theorem Tq.sc (T T0 : Txt) (S : Str) (c : Int32) : ∀ n, scM T S c n = scM T0 S c n
  | 0 => rfl
  | n + 1 => by rw [scM_s, scM_s, Tq.sc T T0 S c n]
theorem Tq.src (q : Tq T T0) (S : Str) (c : Int32) (b : Bool) : srcM T S c b = srcM T0 S c b := by unfold srcM; rw [q.st, Tq.sc T T0]
theorem Tq.nm (q : Tq T T0) (S : Str) {f : Nat} (hf : f < nFi T0) : nmF T S f = nmF T0 S f := by
  obtain ⟨a, b, c⟩ := q.2.1 f hf
  funext i
  rcases i with _ | _ | _ | _ | _ | _ | i <;> simp only [nmF, a, b, c]
theorem Tq.wor (q : Tq T T0) (S : Str) {f : Nat} (hf : f < nFi T0) : worM T S f = worM T0 S f := by
  unfold worM; rw [q.nm S hf, q.2.2.2 3 (by decide), (q.2.1 f hf).2.1]
theorem Tq.load (q : Tq T T0) (S : Str) (c : Nat) (t : Int32) : loadM T S c t = loadM T0 S c t := by unfold loadM; rw [q.2.2.2 0 (by decide)]
theorem Tq.tons (q : Tq T T0) (S : Str) (c : Nat) (t : Int32) : tonsM T S c t = tonsM T0 S c t := by unfold tonsM; rw [q.2.2.2 1 (by decide)]
theorem Tq.gone (q : Tq T T0) (S : Str) (t : Int32) : goneM T S t = goneM T0 S t := by unfold goneM; rw [q.2.2.2 2 (by decide)]
theorem Tq.tide (q : Tq T T0) (x : Int32) : tideM T x = tideM T0 x := by
  unfold tideM; rw [q.ti]
  have : ∀ i ∈ List.range (nTi T0), decide (T.1 8 i = x) = decide (T0.1 8 i = x) := fun i hi => by rw [q.2.2.1 i (List.mem_range.mp hi)]
  generalize List.range (nTi T0) = l at this ⊢
  induction l with
  | nil => rfl
  | cons a l ih => rw [List.any_cons, List.any_cons, this a List.mem_cons_self, ih fun i hi => this i (List.mem_cons_of_mem _ hi)]
theorem Tq.bf (q : Tq T T0) (S : Str) (c : Int32) : ∀ n, n ≤ nFi T0 → bfM T S c n = bfM T0 S c n
  | 0, _ => rfl
  | n + 1, h => by rw [bfM_s, bfM_s, Tq.bf q S c n (by omega), (q.2.1 n h).1, q.wor S h]
theorem Tq.cart (q : Tq T T0) (S : Str) (c : Nat) : cartM T S c = cartM T0 S c := by
  unfold cartM; rw [q.src, q.fi, q.bf S (nI c) _ (Nat.le_refl _), q.load]
theorem Tq.fork (q : Tq T T0) (S : Str) (c : Nat) : forkM T S c = forkM T0 S c := by unfold forkM; rw [q.src, q.tons]
theorem Tq.eb (q : Tq T T0) (S : Str) : ∀ n, ebM T S n = ebM T0 S n
  | 0 => rfl
  | n + 1 => by rw [ebM_s, ebM_s, Tq.eb q S n, q.gone]
theorem Tq.does (q : Tq T T0) (S : Str) (c : Nat) : doesM T S c = doesM T0 S c := by unfold doesM; rw [q.st]
theorem Tq.act (q : Tq T T0) (S : Str) (c : Nat) : actM T S c = actM T0 S c := by unfold actM; rw [q.does, q.cart, q.fork]
theorem Tq.crs (q : Tq T T0) (S : Str) : ∀ n, crM T S n = crM T0 S n
  | 0 => rfl
  | n + 1 => by rw [crM_s, crM_s, Tq.crs q S n, q.act]
theorem Tq.td (q : Tq T T0) (S : Str) : tdM T S = tdM T0 S := by unfold tdM; rw [q.tide, q.st, q.eb]
theorem Tq.pass (q : Tq T T0) (S : Str) : passM T S = passM T0 S := by unfold passM; rw [q.cr, q.crs, q.td]
theorem Tq.passN_ (q : Tq T T0) (S : Str) : ∀ n, passN T S n = passN T0 S n
  | 0 => rfl
  | n + 1 => by rw [passN_t, passN_t, Tq.passN_ q S n, q.pass]
theorem Tq.bl (q : Tq T T0) (S : Str) : ∀ n, blM T S n = blM T0 S n
  | 0 => rfl
  | n + 1 => by rw [blM_s, blM_s, Tq.bl q S n, q.1 18 (by decide) (by decide)]
theorem Tq.gale (q : Tq T T0) (S : Str) : galeM T S = galeM T0 S := by unfold galeM; rw [q.1 17 (by decide) (by decide), q.bl, q.st]
theorem Tq.passG_ (q : Tq T T0) (S : Str) : ∀ n, passG T S n = passG T0 S n
  | 0 => rfl
  | n + 1 => by rw [passG_t, passG_t, Tq.passG_ q S n, q.gale, q.pass]
theorem Tq.go (q : Tq T T0) (S : Str) (n : Int32) : goA T S n = goA T0 S n ∧ goS T S n = goS T0 S n := by unfold goA goS; rw [q.passG_]; exact ⟨rfl, rfl⟩
theorem Tq.tab (q : Tq T T0) (S : Str) (r : Int32) (n : Nat) (w : Int32) : tabM T S r n w = tabM T0 S r n w := by unfold tabM; rw [q.passN_, q.fi, q.cr]
theorem Tq.inC_ (q : Tq T T0) (c : Int32) : inC T c = inC T0 c := by unfold inC; rw [q.1 12 (by decide) (by decide)]
theorem Tq.inS_ (q : Tq T T0) (c : Int32) : inS T c = inS T0 c := by unfold inS; rw [q.1 11 (by decide) (by decide)]
theorem Tq.inF_ (q : Tq T T0) (c : Int32) : inF T c = inF T0 c := by unfold inF; rw [q.1 13 (by decide) (by decide)]
theorem Tq.len (q : Tq T T0) (S : Str) (a b : Int32) : lenM T S a b = lenM T0 S a b := by unfold lenM; rw [q.inC_, q.inC_]
theorem Tq.lnd_ (q : Tq T T0) (S : Str) (a b n w : Int32) : lnd T S a b n w = lnd T0 S a b n w := by unfold lnd lndM; rw [q.len, q.passN_, q.passN_]
theorem Tq.tri_ (q : Tq T T0) (S : Str) (w c n : Int32) : tri T S w c n = tri T0 S w c n := by unfold tri trOK triM otM; rw [q.inC_, q.cr, q.passN_]
theorem Tq.plS_ (q : Tq T T0) (S : Str) (c n i : Nat) : ∀ k, plS T S c n i k = plS T0 S c n i k
  | 0 => rfl
  | k + 1 => by rw [plS_s, plS_s, Tq.plS_ q S c n i k, q.pass]
theorem Tq.plB_ (q : Tq T T0) (S : Str) (c n : Nat) : ∀ i, plB T S c n i = plB T0 S c n i
  | 0 => rfl
  | i + 1 => by rw [plB_s, plB_s, Tq.plB_ q S c n i, q.plS_]
theorem Tq.pln (q : Tq T T0) (S : Str) (c n : Int32) : plnM T S c n = plnM T0 S c n := by unfold plnM; rw [q.inC_, q.plB_]
theorem Tq.pld (q : Tq T T0) (S : Str) (c n k : Int32) : pldM T S c n k = pldM T0 S c n k := by unfold pldM; rw [q.inC_, q.plB_]
theorem Tq.gn (q : Tq T T0) (S : Str) (a b n p : Nat) : gnM T S a b n p = gnM T0 S a b n p := by
  funext x; unfold gnM; rw [q.passN_]
theorem Tq.rss (q : Tq T T0) (S : Str) (a b n : Int32) : rssM T S a b n = rssM T0 S a b n := by unfold rssM coM; rw [q.inC_, q.inC_, q.gn, q.gn]
theorem Tq.rst (q : Tq T T0) (S : Str) (a b n k : Int32) : rstM T S a b n k = rstM T0 S a b n k := by unfold rstM coM; rw [q.inC_, q.inC_, q.gn, q.gn]
theorem Tq.lot (q : Tq T T0) (S : Str) : lotF T S = lotF T0 S := by funext c; unfold lotF; rw [q.st]
theorem Tq.unl (q : Tq T T0) (S : Str) : spM (lotF T S) (nCr T) = spM (lotF T0 S) (nCr T0) := by rw [q.lot, q.cr]
theorem Tq.uw (q : Tq T T0) (S : Str) (s t : Nat) : uwM T S s t = uwM T0 S s t := by unfold uwM; rw [q.lot, q.cr]
theorem Tq.swI_ (q : Tq T T0) (S : Str) (a : Acc) (s : Nat) : ∀ t, swI T S a s t = swI T0 S a s t
  | 0 => rfl
  | t + 1 => by rw [swI_s, swI_s, Tq.swI_ q S a s t, q.uw]
theorem Tq.swO_ (q : Tq T T0) (S : Str) : ∀ s, swO T S s = swO T0 S s
  | 0 => by show (spM (lotF T S) (nCr T), _, _) = (spM (lotF T0 S) (nCr T0), _, _); rw [q.unl]
  | s + 1 => by show swI T S (swO T S s) s (nSt T) = swI T0 S (swO T0 S s) s (nSt T0); rw [Tq.swO_ q S s, q.st, q.swI_]
theorem Tq.swp (q : Tq T T0) (S : Str) (w : Int32) : swpM T S w = swpM T0 S w := by unfold swpM; rw [q.st, q.swO_]
theorem Tq.tuS_ (q : Tq T T0) (S : Str) (n i : Nat) : ∀ k, tuS T S n i k = tuS T0 S n i k
  | 0 => by show czL S (nCr T) = czL S (nCr T0); rw [q.cr]
  | k + 1 => by rw [tuS_s, tuS_s, Tq.tuS_ q S n i k, q.cr, q.pass]
theorem Tq.tuB_ (q : Tq T T0) (S : Str) (n : Nat) : ∀ i, tuB T S n i = tuB T0 S n i
  | 0 => rfl
  | i + 1 => by
    have e : tuU T S n i = tuU T0 S n i := by unfold tuU; rw [q.tuS_, q.cr]
    rw [tuB_s, tuB_s, Tq.tuB_ q S n i, q.tuS_, e]
theorem Tq.trs (q : Tq T T0) (S : Str) (n : Int32) : trsM T S n = trsM T0 S n := by unfold trsM; rw [q.cr, q.tuB_]
theorem Tq.trn (q : Tq T T0) (S : Str) (n k : Int32) : trnM T S n k = trnM T0 S n k := by unfold trnM; rw [q.cr, q.tuB_]
theorem Tq.odd (q : Tq T T0) (k w : Int32) : oddM T k w = oddM T0 k w := by unfold oddM odU; rw [q.1 17 (by decide) (by decide)]
theorem Tq.chN_ (q : Tq T T0) (S : Str) (sd : Int32) (n : Nat) : ∀ i, chN T S sd n i = chN T0 S sd n i
  | 0 => rfl
  | i + 1 => by show (passG T (upI S 15 (chN T S sd n i)) n).2 15 = (passG T0 (upI S 15 (chN T0 S sd n i)) n).2 15; rw [Tq.chN_ q S sd n i, q.passG_]
theorem Tq.chC_ (q : Tq T T0) (S : Str) (sd : Int32) (n c : Nat) (b : Int32) : ∀ i, chC T S sd n c b i = chC T0 S sd n c b i
  | 0 => rfl
  | i + 1 => by rw [chC_s, chC_s, Tq.chC_ q S sd n c b i, q.passG_, q.chN_]
theorem Tq.cha (q : Tq T T0) (S : Str) (sd n c b : Int32) : chaM T S sd n c b = chaM T0 S sd n c b := by unfold chaM; rw [q.inC_, q.chC_]
theorem Tq.crf (q : Tq T T0) (S : Str) (c w : Int32) : crfM T S c w = crfM T0 S c w := by unfold crfM; rw [q.inC_, q.st]
theorem Tq.sou (q : Tq T T0) (S : Str) (c w : Int32) : souM T S c w = souM T0 S c w := by unfold souM; rw [q.inC_, q.src]
theorem Tq.cou (q : Tq T T0) (S : Str) (X : Xs) (w : Int32) : couM T S X w = couM T0 S X w := by unfold couM; rw [q.1 11 (by decide) (by decide), q.1 12 (by decide) (by decide), q.1 13 (by decide) (by decide), q.1 14 (by decide) (by decide), q.st, q.fi, q.cr]
theorem Tq.actQ_ (q : Tq T T0) (S : Str) (c a : Int32) : actQ T S c a = actQ T0 S c a := by unfold actQ; rw [q.inC_]
theorem Tq.lotQ_ (q : Tq T T0) (S : Str) (s c : Int32) : lotQ T S s c = lotQ T0 S s c := by unfold lotQ; rw [q.inC_, q.inS_]
theorem Tq.fld (q : Tq T T0) (hT : TOK T0) (S : Str) (f w : Int32) : fldM T S f w = fldM T0 S f w := by
  unfold fldM
  rw [q.inF_]
  by_cases h : inF T0 f = true
  · have hf : f.toNatClampNeg < nFi T0 := by
      unfold inF at h
      have h := of_decide_eq_true h
      obtain ⟨e, he⟩ := i32_of_nn h.1
      rw [e, hT.2.2.1.1] at h
      exact (nI_ltI he (by have := hT.2.2.1.2; omega)).mp h.2
    obtain ⟨a, b, c⟩ := q.2.1 _ hf
    rw [a, b, c, q.wor S hf]
  · rw [if_neg h, if_neg h]
/-- a strand begun, of two texts alike -/
def Tb (T T0 : Txt) : Prop := (∀ s, s < nSt T0 → T.1 0 s = T0.1 0 s) ∧ ∀ c, c < nCr T0 → T.1 2 c = T0.1 2 c ∧ T.1 3 c = T0.1 3 c ∧ T.1 4 c = T0.1 4 c
theorem bg_1 (T : Txt) (i : Nat) : (bgM T).1 1 i = if T.2.1 12 ≤ 0 then -1 else nI i - nI i / T.2.1 12 * T.2.1 12 := rfl
theorem bg_2 (T : Txt) (k : Nat) : (bgM T).2 k = if k = 12 then T.2.1 15 else if k = 14 then T.2.1 16 else if k = 15 then T.2.1 19 else if k = 16 then 1 else 0 := rfl
theorem bg_a (T : Txt) (i : Nat) : (bgM T).1 0 i = T.1 0 i ∧ (bgM T).1 2 i = T.1 2 i ∧ (bgM T).1 3 i = T.1 3 i ∧ (bgM T).1 4 i = T.1 4 i ∧ (bgM T).1 5 i = 0 ∧ (bgM T).1 6 i = 0 ∧ (bgM T).1 7 i = 0 ∧ (bgM T).1 9 i = 0 := ⟨rfl, rfl, rfl, rfl, rfl, rfl, rfl, rfl⟩
theorem Tq.bg (q : Tq T T0) (b : Tb T T0) : Sq T0 (bgM T) (bgM T0) := by
  refine ⟨fun s hs => ⟨?_, ?_⟩, fun c hc => ?_, fun f _ => ?_, fun k h1 h2 => ?_⟩
  · rw [(bg_a T s).1, (bg_a T0 s).1]; exact b.1 s hs
  · rw [bg_1, bg_1, q.1 12 (by decide) (by decide)]
  · obtain ⟨x, y, z⟩ := b.2 c hc
    obtain ⟨-, a2, a3, a4, a5, a6, a7, -⟩ := bg_a T c
    obtain ⟨-, b2, b3, b4, b5, b6, b7, -⟩ := bg_a T0 c
    rw [a2, a3, a4, a5, a6, a7, b2, b3, b4, b5, b6, b7]
    exact ⟨x, y, z, rfl, rfl, rfl⟩
  · rw [(bg_a T f).2.2.2.2.2.2.2, (bg_a T0 f).2.2.2.2.2.2.2]
  · rw [bg_2, bg_2, q.1 15 (by decide) (by decide), q.1 16 (by decide) (by decide), q.1 19 (by decide) (by decide)]
theorem Tq.cam (q : Tq T T0) (b : Tb T T0) (hT : TOK T0) (X : Xs) (c : Int32) : camM T X c = camM T0 X c := by
  have e1 : ∀ c s t, caM T X c s t = caM T0 X c s t := by
    intro c s t
    induction t with
    | zero => rfl
    | succ t ih =>
      have e : (passN T (cmwS T c s) (t + 1)).2 12 = (passN T0 (cmwS T0 c s) (t + 1)).2 12 := by
        rw [q.passN_]
        exact (passN_sq ((q.bg b).upA 4 c (nI s)) hT (t + 1)).2.2.2 12 (by decide) (by decide)
      rw [caM_s, caM_s, ih, e]
  have e2 : ∀ c n, bitM T X c n = bitM T0 X c n := by
    intro c n
    induction n with
    | zero => rfl
    | succ n ih => rw [bitM_s, bitM_s, ih, e1]
  unfold camM
  rw [q.inC_, e2]
end TC
