-- PURE: what is told makes a state; a text taken by the class
/-- the numbers beside, after a text -/
def nxX (X : Xs) (a b c : Int32) : Xs := (X.1, fun j => if j = 0 then 0 else if j = 1 then 0 else if j = 2 then -1 else if j = 3 then 0 else if j = 4 then a else if j = 5 then b else if j = 6 then c else 0)
theorem eq9_le {m : Nat} (hm : m < 2 ^ 31) {a b : Int32} (q : Eq9 m a b) : 0 ≤ a.toInt ∧ a.toInt ≤ m ∧ a = b := by
  obtain ⟨v, hv, rfl, rfl⟩ := q
  rw [nI_toInt (by omega)]
  exact ⟨by omega, by omega, rfl⟩
section Told
variable {N : Nat} {h h' g : Hp} {u t n p : Nat} {T : Txt} {S I : Str} {X : Xs} {ri : Nat → Int32} {ra : Nat → Nat → Int32} {o7 : Int32}
theorem td_ok (d : TDd (gI h 5 u) (gA h 5 u) ri ra o7) : TOK (txt h u) ∧ TR (txt h u) ∧ SI (txt h u) (bgM (txt h u)) := by
  obtain ⟨s, c, f, t, ⟨s1, s2, s3, s4⟩, ⟨c1, c2, c3, c4⟩, ⟨f1, f2, f3, f4⟩, ⟨t1, t2, t3, t4⟩, ⟨o1, o2, o3, o4, o5⟩, -⟩ := d
  obtain ⟨T, hT⟩ : ∃ T, T = txt h u := ⟨_, rfl⟩
  have a5 : gA h 5 u = T.1 := by rw [hT]; rfl
  have i5 : gI h 5 u = T.2.1 := by rw [hT]; rfl
  rw [← hT]
  rw [i5] at s2 c2 f2 t2 o1 o2 o3 o4 o5
  rw [a5] at s4 c4 f4 t4
  have ns : nSt T = s := by unfold nSt; rw [s2, clN (by omega)]
  have nc : nCr T = c := by unfold nCr; rw [c2, clN (by omega)]
  have nf : nFi T = f := by unfold nFi; rw [f2, clN (by omega)]
  have nt : nTi T = t := by unfold nTi; rw [t2, clN (by omega)]
  have ok : TOK T := ⟨⟨by rw [ns]; exact s2, by omega⟩, ⟨by rw [nc]; exact c2, by omega⟩, ⟨by rw [nf]; exact f2, by omega⟩, ⟨by rw [nt]; exact t2, by omega⟩, fun i hi => by
    obtain ⟨j, j1, j2, -⟩ := (f4 i (by omega)).1
    exact ⟨j, by omega, j2⟩, fun k nm nm' q => by rw [hT]; exact lawM_congr _ k q⟩
  have h0 : (bgM T).2 11 = 0 := rfl
  have z0 : (0 : Int32).toInt = 0 := by decide
  refine ⟨ok, ⟨fun i hi => ?_, ?_⟩, ⟨⟨fun i hi => ?_, fun i hi => ?_, fun i hi => ?_, ?_, ?_, by omega, ?_, fun i hi => ?_⟩, fun i hi => ?_, fun i hi => ?_, ?_, rfl, fun i hi => ⟨rfl, rfl⟩⟩⟩
  · have := eq9_le (by omega) (f4 i (by omega)).2.1
    exact ⟨this.1, by have := this.2.1; omega⟩
  · have q3 := eq9_le (by omega) o3
    have q4 := eq9_le (by omega) o4
    exact ⟨q3.1, by have := q3.2.1; omega, q4.1, by have := q4.2.1; omega⟩
  · have := eq9_le (by omega) (s4 i (by omega))
    show 0 ≤ (T.1 0 i).toInt ∧ (T.1 0 i).toInt ≤ 9999
    exact ⟨this.1, by have := this.2.1; omega⟩
  · obtain ⟨-, q2, q3, q4⟩ := c4 i (by omega)
    have q2 := eq9_le (by omega) q2
    have q3 := eq9_le (by omega) q3
    show 0 ≤ (T.1 2 i).toInt ∧ (T.1 2 i).toInt ≤ 6 ∧ 0 ≤ (T.1 3 i).toInt ∧ (T.1 3 i).toInt ≤ 9 ∧ _
    exact ⟨q2.1, by have := q2.2.1; omega, q3.1, by have := q3.2.1; omega, Or.inl rfl⟩
  · show 0 ≤ (0 : Int32).toInt ∧ (0 : Int32).toInt ≤ 396 * (0 : Int32).toInt + 99 * (0 : Nat)
    rw [z0]; omega
  · rw [h0, z0]; omega
  · rw [h0, z0]; omega
  · have := eq9_le (by omega) o1
    show 0 ≤ (T.2.1 15).toInt ∧ (T.2.1 15).toInt ≤ 999 + 396 * (0 : Int32).toInt + 99 * (0 : Nat)
    rw [z0]
    exact ⟨this.1, by have := this.2.1; omega⟩
  · show 0 ≤ (0 : Int32).toInt ∧ (0 : Int32).toInt ≤ 99 * (0 : Int32).toInt + (if i < 0 then 99 else 0)
    rw [z0, if_neg (by omega)]; omega
  · have := eq9_le (by omega) (c4 i (by omega)).2.1
    show (T.1 2 i).toInt ≤ 5
    have := this.2.1; omega
  · show 0 ≤ (0 : Int32).toInt ∧ (0 : Int32).toInt ≤ 9801 * (0 : Int32).toInt
    rw [z0]; omega
  · rw [h0, z0]; omega
/-- the class behind a reading, before it answers -/
def rdH (h : Hp) : Hp := sI (sI (sI h 4 0 2 0) 7 0 16 (gI h 1 0 4)) 7 0 17 (gI h 1 0 5)
theorem text_e (r : RC h t T S I X) (hn : n ≤ 700) (e : X.2 3 = nI p) (hp : n ≤ p) (p7 : p ≤ 700) {b : Bool} {h2 : Hp} (a : f_X1_reads N h (nI n) (1 - t) = some (b, h2)) : f_X7_text N h (nI n) = if ¬ b2i b = 0 then (onO (gO (rdH h2) 7 0 13) fun o7 => onO (gO (rdH h2) 7 0 14) fun o8 => onO (gO (sO (sO (rdH h2) 7 0 13 o8) 7 0 14 o7) 7 0 13) fun o11 => (f_X3_begin N (sO (sO (rdH h2) 7 0 13 o8) 7 0 14 o7) 0 o11).bind fun h12 => (f_X3_copy h12 1 0).bind fun h13 => (f_X2_clear (sI (sZ h13 7 0 15 false) 6 0 3 0)).bind fun h16 => onO (gO h16 7 0 13) fun o17 => some ((gI h16 5 o17 10), h16)) else some (-1, rdH h2) := by
  have e2 : gI h 4 0 2 = nI p := by rw [← e, ← r.2.2.2.1]; rfl
  unfold f_X7_text
  simp only [jn_e, lt_e]
  rw [if_neg (show ¬ nI n < 0 from Int32.not_lt.mpr (leN (a := 0) (Nat.zero_le _) (by omega))), e2, if_pos (leN hp (by omega)), r.1.2.2.1, onO_s, a, bd2_s]
  rfl
theorem rdH_i (h : Hp) (c o k : Nat) (h1 : ¬ (c = 4 ∧ o = 0 ∧ k = 2)) (h2 : ¬ (c = 7 ∧ o = 0 ∧ (k = 16 ∨ k = 17))) : gI (rdH h) c o k = gI h c o k := by
  unfold rdH
  rw [GI, if_neg (by omega), GI, if_neg (by omega), GI, if_neg (by omega)]
theorem cl_textY (hN : 1000 ≤ N) (r : RC h t T S I X) (hn : n ≤ 700) (e : X.2 3 = nI p) (hp : n ≤ p) (p7 : p ≤ 700) {h2 : Hp} (a : f_X1_reads N h (nI n) (1 - t) = some (true, h2)) (f : RT (1 - t) h h2) (ok : TOK (txt h2 (1 - t))) (lk : LOK (gA h2 0 (1 - t))) : ∃ g, f_X7_text N h (nI n) = some (gI h2 5 (1 - t) 10, g) ∧ RC g (1 - t) (txt h2 (1 - t)) (bgM (txt h2 (1 - t))) I (nxX X (gI h2 1 0 4) (gI h2 1 0 5) (gI h2 0 (1 - t) 6)) ∧ K8 h g := by
  rw [text_e r hn e hp p7 a]
  obtain ⟨⟨k1, k2, k3, k4, k5, k6⟩, r2, r3, r4, r5⟩ := r
  obtain ⟨u, hu⟩ : ∃ u, u = 1 - t := ⟨_, rfl⟩
  rw [← hu] at k3 f ok lk ⊢
  have u2 : u < 2 := by omega
  have ut : 1 - u = t := by omega
  have a13 : gO (rdH h2) 7 0 13 = some t := (f.2.1 7 0 13 (by omega) (by omega)).trans k2
  have a14 : gO (rdH h2) 7 0 14 = some u := (f.2.1 7 0 14 (by omega) (by omega)).trans k3
  obtain ⟨hx, ehx⟩ : ∃ hx, hx = sO (sO (rdH h2) 7 0 13 u) 7 0 14 t := ⟨_, rfl⟩
  have x13 : gO hx 7 0 13 = some u := by rw [ehx]; rfl
  have x14 : gO hx 7 0 14 = some t := by rw [ehx]; rfl
  have xI : ∀ c o k, gI hx c o k = gI (rdH h2) c o k := fun c o k => by rw [ehx]; rfl
  have xA : ∀ c o k, gA hx c o k = gA h2 c o k := fun c o k => by rw [ehx]; rfl
  have xT : txt hx u = txt h2 u := by
    unfold txt
    rw [show gA hx 5 u = gA h2 5 u from funext fun k => xA 5 u k, show gA hx 0 u = gA h2 0 u from funext fun k => xA 0 u k, show gI hx 5 u = gI h2 5 u from funext fun k => (xI 5 u k).trans (rdH_i h2 5 u k (by omega) (by omega))]
  obtain ⟨h12, b1, b2, b3, b4⟩ := cl_begin hN hx u
  rw [xT] at b4
  have hz : gI h12 3 0 16 = 1 := b4.2.2.2 16 (by omega) (by omega)
  obtain ⟨S', c1, c2⟩ := cl_copy h12 (o := 1) (p := 0) (t := u) (by omega) b3 (Or.inr hz)
  obtain ⟨h13, eh13⟩ : ∃ h13, h13 = M3 (sO h12 3 1 10 u) 1 S' h12.2.2.2.2 := ⟨_, rfl⟩
  obtain ⟨g, eg⟩ : ∃ g, g = sI (sI (sI (sZ h13 7 0 15 false) 6 0 3 0) 2 0 4 0) 2 0 5 (-1) := ⟨_, rfl⟩
  have cc : f_X2_clear (sI (sZ h13 7 0 15 false) 6 0 3 0) = some g := by
    unfold f_X2_clear
    rw [lt_e, lt_e, ← eg]
  -- what stands in g
  have gAn : ∀ c o k, ¬ c = 3 → gA g c o k = gA h2 c o k := fun c o k q => by
    rw [eg]
    show gA h13 c o k = _
    rw [eh13, M3_A _ _ _ _ c o k q]
    show gA h12 c o k = _
    rw [(b2.1 c o k (by omega)).2.1, xA]
  have gIn : ∀ c o k, ¬ c = 3 → ¬ c = 7 → ¬ c = 6 → ¬ c = 2 → ¬ c = 4 → gI g c o k = gI h2 c o k := fun c o k q3 q7 q6 q2 q4 => by
    rw [eg, GI, if_neg (by omega), GI, if_neg (by omega), GI, if_neg (by omega)]
    show gI (sI h13 7 0 15 _) c o k = _
    rw [GI, if_neg (by omega), eh13, M3_I _ _ _ _ c o k q3]
    show gI h12 c o k = _
    rw [(b2.1 c o k (by omega)).1, xI, rdH_i h2 c o k (by omega) (by omega)]
  have gOn : ∀ c o k, ¬ c = 3 → gO g c o k = gO hx c o k := fun c o k q => by
    rw [eg]
    show gO h13 c o k = _
    rw [eh13]
    show gO (sO h12 3 1 10 u) c o k = _
    have : gO (sO h12 3 1 10 u) c o k = gO h12 c o k := if_neg (fun z => q z.1)
    rw [this]
    exact (b2.1 c o k (by omega)).2.2
  have g10 : gI g 5 u 10 = gI h2 5 u 10 := gIn 5 u 10 (by omega) (by omega) (by omega) (by omega) (by omega)
  refine ⟨g, ?_, ⟨⟨u2, ?_, ?_, ?_, ok, ?_⟩, ⟨?_, ?_⟩, ⟨?_, ?_⟩, ?_, fun q => absurd rfl q⟩, ?_⟩
  · rw [if_pos (show ¬ b2i true = 0 by decide), a13, onO_s, a14, onO_s, ← ehx, x13, onO_s, b1, bind_s, c1, bind_s, ← eh13, cc, bind_s, gOn 7 0 13 (by omega), x13, onO_s, g10]
  · rw [gOn 7 0 13 (by omega)]; exact x13
  · rw [gOn 7 0 14 (by omega), ut]; exact x14
  · unfold txt
    rw [show gA g 5 u = gA h2 5 u from funext fun k => gAn 5 u k (by omega), show gA g 0 u = gA h2 0 u from funext fun k => gAn 0 u k (by omega), show gI g 5 u = gI h2 5 u from funext fun k => gIn 5 u k (by omega) (by omega) (by omega) (by omega) (by omega)]
  · rw [show gA g 0 u = gA h2 0 u from funext fun k => gAn 0 u k (by omega)]; exact lk
  · rw [eg]
    show gO h13 3 1 10 = _
    rw [eh13]; rfl
  · have e1 : vw g 1 = S' := by
      rw [eg]
      refine Prod.ext (funext fun k => ?_) (funext fun k => ?_)
      · show gA h13 3 1 k = _
        rw [eh13, M3_A3]
      · show gI h13 3 1 k = _
        rw [eh13, M3_I3]
    rw [e1]
    exact (c2.sq ok).tr (b4.sq ok)
  · rw [eg]
    show gO h13 3 0 10 = _
    rw [eh13]
    show gO h12 3 0 10 = _
    exact b3
  · have e1 : vw g 0 = vw h12 0 := by
      rw [eg]
      refine Prod.ext (funext fun k => ?_) (funext fun k => ?_)
      · show gA h13 3 0 k = _
        rw [eh13, M3_Ap _ _ _ _ (by omega)]; rfl
      · show gI h13 3 0 k = _
        rw [eh13, M3_Ip _ _ _ _ (by omega)]; rfl
    rw [e1]
    exact b4.sq ok
  · refine Prod.ext (funext fun j => ?_) (fun8 (fun j hj => ?_) (fun _ => rfl) (fun j => rfl))
    · show (ex g u).1 j = X.1 j
      rw [← r4]
      have b : ∀ c k, ¬ c = 3 → ¬ c = 1 → ¬ c = 5 → ¬ c = 0 → gA g c 0 k = gA h c 0 k := fun c k w x y z => (gAn c 0 k w).trans (f.2.2.2 c 0 k x (by omega) (by omega))
      by_cases v7 : 7 ≤ j
      · obtain ⟨i, rfl⟩ : ∃ i, j = i + 7 := ⟨j - 7, by omega⟩
        exact b 4 1 (by omega) (by omega) (by omega) (by omega)
      rcases (show j = 0 ∨ j = 1 ∨ j = 2 ∨ j = 3 ∨ j = 4 ∨ j = 5 ∨ j = 6 by omega) with rfl | rfl | rfl | rfl | rfl | rfl | rfl
      · exact b 6 0 (by omega) (by omega) (by omega) (by omega)
      · exact b 6 1 (by omega) (by omega) (by omega) (by omega)
      · exact b 6 2 (by omega) (by omega) (by omega) (by omega)
      · exact b 2 0 (by omega) (by omega) (by omega) (by omega)
      · exact b 2 1 (by omega) (by omega) (by omega) (by omega)
      · exact b 2 2 (by omega) (by omega) (by omega) (by omega)
      · exact b 4 0 (by omega) (by omega) (by omega) (by omega)
    · have g7 : ∀ c k, c = 7 ∨ c = 4 → ¬ (c = 7 ∧ k = 15) → gI g c 0 k = gI (rdH h2) c 0 k := fun c k q q2 => by
        rw [eg, GI, if_neg (by omega), GI, if_neg (by omega), GI, if_neg (by omega)]
        show gI (sI h13 7 0 15 _) c 0 k = _
        rw [GI, if_neg (by omega), eh13, M3_I _ _ _ _ c 0 k (by omega)]
        show gI h12 c 0 k = _
        rw [(b2.1 c 0 k (by omega)).1, xI]
      rcases (show j = 0 ∨ j = 1 ∨ j = 2 ∨ j = 3 ∨ j = 4 ∨ j = 5 ∨ j = 6 ∨ j = 7 by omega) with rfl | rfl | rfl | rfl | rfl | rfl | rfl | rfl
      · show gI g 6 0 3 = 0
        rw [eg]; rfl
      · show gI g 2 0 4 = 0
        rw [eg]; rfl
      · show gI g 2 0 5 = -1
        rw [eg]; rfl
      · show gI g 4 0 2 = 0
        rw [g7 4 2 (by omega) (by omega)]; rfl
      · show gI g 7 0 16 = gI h2 1 0 4
        rw [g7 7 16 (by omega) (by omega)]; rfl
      · show gI g 7 0 17 = gI h2 1 0 5
        rw [g7 7 17 (by omega) (by omega)]; rfl
      · exact gIn 0 u 6 (by omega) (by omega) (by omega) (by omega) (by omega)
      · show gI g 7 0 15 = 0
        rw [eg]; rfl
  · have k2' : K8 h2 hx := by
      rw [ehx]
      unfold rdH
      exact ((((K8.i h2 4 0 2 _ (by decide)).tr (K8.i _ 7 0 16 _ (by decide))).tr (K8.i _ 7 0 17 _ (by decide))).tr (K8.so _ 7 0 13 u (by decide))).tr (K8.so _ 7 0 14 t (by decide))
    have k3' : K8 hx h12 := fun k => ⟨(b2.1 8 0 k (by omega)).1, b2.2 8 0 k, (b2.1 8 0 k (by omega)).2.2, (b2.1 8 0 k (by omega)).2.1⟩
    have k4' : K8 h12 h13 := by
      rw [eh13]
      refine (K8.so h12 3 1 10 u (by decide)).tr fun k => ⟨M3_I _ _ _ _ 8 0 k (by decide), rfl, rfl, M3_A _ _ _ _ 8 0 k (by decide)⟩
    have k5' : K8 h13 g := by
      rw [eg]
      exact (((K8.i h13 7 0 15 _ (by decide)).tr (K8.i _ 6 0 3 _ (by decide))).tr (K8.i _ 2 0 4 _ (by decide))).tr (K8.i _ 2 0 5 _ (by decide))
    exact (((f.1.tr k2').tr k3').tr k4').tr k5'
end Told

