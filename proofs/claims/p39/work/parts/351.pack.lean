-- PURE: four bytes a word, and back
/-- the words after i bytes -/
def wvA (f : Nat → Int32) : Nat → Nat → Int32
  | 0 => fun _ => 0
  | i + 1 => upd (wvA f i) (i / 4) (wvA f i (i / 4) ||| (f i <<< (nI (24 - 8 * (i % 4)) &&& 31)))
theorem wvA_s (f : Nat → Int32) (i : Nat) : wvA f (i + 1) = upd (wvA f i) (i / 4) (wvA f i (i / 4) ||| (f i <<< (nI (24 - 8 * (i % 4)) &&& 31))) := rfl
theorem bv_byte {V s b : Nat} (hV : V < 2 ^ 31) (e : V / 2 ^ s % 256 = b) : ((BitVec.ofNat 32 V) >>> s) &&& BitVec.ofNat 32 255 = BitVec.ofNat 32 b := by
  refine BitVec.eq_of_toNat_eq ?_
  rw [BitVec.toNat_and, BitVec.toNat_ushiftRight, BitVec.toNat_ofNat, BitVec.toNat_ofNat, BitVec.toNat_ofNat, Nat.mod_eq_of_lt (show V < 2 ^ 32 by omega), Nat.shiftRight_eq_div_pow, show (255 : Nat) % 2 ^ 32 = 2 ^ 8 - 1 by decide, Nat.and_two_pow_sub_one_eq_mod, Nat.mod_eq_of_lt (show b < 2 ^ 32 by omega), ← e]
theorem byB_n {V k : Nat} (hk : k < 4) (hV : V < 2 ^ 31) : byB (nI V) k = nI (V / 2 ^ (24 - 8 * k) % 256) := by
  unfold byB
  refine Int32.toBitVec_inj.mp ?_
  rcases (show k = 0 ∨ k = 1 ∨ k = 2 ∨ k = 3 by omega) with rfl | rfl | rfl | rfl
  · exact bv_byte (s := 24) hV rfl
  · exact bv_byte (s := 16) hV rfl
  · exact bv_byte (s := 8) hV rfl
  · exact bv_byte (s := 0) hV rfl
theorem shl_8 {b j : Nat} (hj : j < 4) (hb : b < 128) : nI b <<< (nI (24 - 8 * j) &&& 31) = nI (b * 2 ^ (24 - 8 * j)) := by
  refine Int32.toBitVec_inj.mp ?_
  rcases (show j = 0 ∨ j = 1 ∨ j = 2 ∨ j = 3 by omega) with rfl | rfl | rfl | rfl
  · exact bv_shl (d := b) (s := 24) (by omega)
  · exact bv_shl (d := b) (s := 16) (by omega)
  · exact bv_shl (d := b) (s := 8) (by omega)
  · exact bv_shl (d := b) (s := 0) (by omega)
/-- a word of four bytes -/
theorem wv4 {a b c d : Nat} (ha : a < 128) (hb : b < 128) (hc : c < 128) (hd : d < 128) : ((((0 : Int32) ||| (nI a <<< (nI (24 - 8 * 0) &&& 31))) ||| (nI b <<< (nI (24 - 8 * 1) &&& 31))) ||| (nI c <<< (nI (24 - 8 * 2) &&& 31))) ||| (nI d <<< (nI (24 - 8 * 3) &&& 31)) = nI (a * 2 ^ 24 + b * 2 ^ 16 + c * 2 ^ 8 + d) := by
  rw [shl_8 (by omega) ha, shl_8 (by omega) hb, shl_8 (by omega) hc, shl_8 (by omega) hd, show (0 : Int32) = nI 0 from rfl, nI_or, nI_or, nI_or, nI_or]
  congr 1
  show (((0 ||| a * 2 ^ 24) ||| b * 2 ^ 16) ||| c * 2 ^ 8) ||| d * 2 ^ 0 = _
  rw [Nat.zero_or, Nat.pow_zero, Nat.mul_one, Nat.mul_comm a, or_add (i := 24) (show b * 2 ^ 16 < 2 ^ 24 by omega)]
  rw [show 2 ^ 24 * a + b * 2 ^ 16 = 2 ^ 16 * (2 ^ 8 * a + b) by omega, or_add (i := 16) (show c * 2 ^ 8 < 2 ^ 16 by omega)]
  rw [show 2 ^ 16 * (2 ^ 8 * a + b) + c * 2 ^ 8 = 2 ^ 8 * (2 ^ 16 * a + 2 ^ 8 * b + c) by omega, or_add (i := 8) (show d < 2 ^ 8 by omega)]
theorem wvA_at (f : Nat → Int32) (hf : ∀ i, ∃ n : Nat, n < 128 ∧ f i = nI n) : ∀ j, j < 5 → ∀ m, m < 4 → byB (wvA f 20 j) m = f (4 * j + m) := by
  have key : ∀ j, j < 5 → wvA f 20 j = ((((0 : Int32) ||| (f (4 * j) <<< (nI (24 - 8 * 0) &&& 31))) ||| (f (4 * j + 1) <<< (nI (24 - 8 * 1) &&& 31))) ||| (f (4 * j + 2) <<< (nI (24 - 8 * 2) &&& 31))) ||| (f (4 * j + 3) <<< (nI (24 - 8 * 3) &&& 31)) := by
    intro j hj
    rcases (show j = 0 ∨ j = 1 ∨ j = 2 ∨ j = 3 ∨ j = 4 by omega) with rfl | rfl | rfl | rfl | rfl <;> rfl
  intro j hj m hm
  rw [key j hj]
  obtain ⟨a, ha, ea⟩ := hf (4 * j)
  obtain ⟨b, hb, eb⟩ := hf (4 * j + 1)
  obtain ⟨c, hc, ec⟩ := hf (4 * j + 2)
  obtain ⟨d, hd, ed⟩ := hf (4 * j + 3)
  rw [ea, eb, ec, ed, wv4 ha hb hc hd, byB_n hm (by omega)]
  rcases (show m = 0 ∨ m = 1 ∨ m = 2 ∨ m = 3 by omega) with rfl | rfl | rfl | rfl
  · rw [show 4 * j + 0 = 4 * j from rfl, ea]
    congr 1
    show (a * 2 ^ 24 + b * 2 ^ 16 + c * 2 ^ 8 + d) / 2 ^ 24 % 256 = a
    omega
  · rw [eb]
    congr 1
    show (a * 2 ^ 24 + b * 2 ^ 16 + c * 2 ^ 8 + d) / 2 ^ 16 % 256 = b
    omega
  · rw [ec]
    congr 1
    show (a * 2 ^ 24 + b * 2 ^ 16 + c * 2 ^ 8 + d) / 2 ^ 8 % 256 = c
    omega
  · rw [ed]
    congr 1
    show (a * 2 ^ 24 + b * 2 ^ 16 + c * 2 ^ 8 + d) / 2 ^ 0 % 256 = d
    omega
theorem fd4_at (F : Nat → Int32) (z : Nat) (w : Int32) (i : Nat) : fd4 F z w i = if z ≤ i ∧ i < z + 4 then byB w (i - z) else F i := rfl
theorem fdM_at (F f : Nat → Int32) (hf : ∀ i, ∃ n : Nat, n < 128 ∧ f i = nI n) (z i : Nat) : fdM F z (wvA f 20 0) (wvA f 20 1) (wvA f 20 2) (wvA f 20 3) (wvA f 20 4) i = if z ≤ i ∧ i < z + 20 then f (i - z) else F i := by
  unfold fdM
  simp only [fd4_at]
  have w := wvA_at f hf
  by_cases h4 : z + 16 ≤ i ∧ i < z + 16 + 4
  · rw [if_pos h4, if_pos ⟨by omega, by omega⟩, w 4 (by omega) _ (by omega)]
    congr 1; omega
  rw [if_neg h4]
  by_cases h3 : z + 12 ≤ i ∧ i < z + 12 + 4
  · rw [if_pos h3, if_pos ⟨by omega, by omega⟩, w 3 (by omega) _ (by omega)]
    congr 1; omega
  rw [if_neg h3]
  by_cases h2 : z + 8 ≤ i ∧ i < z + 8 + 4
  · rw [if_pos h2, if_pos ⟨by omega, by omega⟩, w 2 (by omega) _ (by omega)]
    congr 1; omega
  rw [if_neg h2]
  by_cases h1 : z + 4 ≤ i ∧ i < z + 4 + 4
  · rw [if_pos h1, if_pos ⟨by omega, by omega⟩, w 1 (by omega) _ (by omega)]
    congr 1; omega
  rw [if_neg h1]
  by_cases h0 : z ≤ i ∧ i < z + 4
  · rw [if_pos h0, if_pos ⟨by omega, by omega⟩, w 0 (by omega) _ (by omega)]
    congr 1; omega
  rw [if_neg h0, if_neg (by omega)]
/-- the bytes that the law's helper reads at k -/
def chB (n : Nat) (l : List Int32) (k : Nat) : Nat → Int32 := fun i => if k + i < n then l.getD (k + i) 0 else nI 32
/-- the class, so many of the text's bytes fed -/
def FQ (h : Hp) (n : Nat) (l : List Int32) (m : Nat) : Prop := ∃ t T S I X, RC h t T S I X ∧ SPL (X.1 7) ∧ X.2 3 = nI (20 * m) ∧ ∀ i, i < 20 * m → i < n → X.1 6 i = l.getD i 0
/-- any state of the class before a text -/
def AQ (h : Hp) : Prop := ∃ t T S I X, RC h t T S I X ∧ SPL (X.1 7) ∧ X.2 3 = 0
theorem AQ.f0 {h : Hp} (a : AQ h) (n : Nat) (l : List Int32) : FQ h n l 0 := by
  obtain ⟨t, T, S, I, X, r, s, e⟩ := a
  exact ⟨t, T, S, I, X, r, s, e, fun i hi => by omega⟩
theorem LQ.aq {h : Hp} {D : DT} {S : Str} {X0 : Xs} (s : LQ h D S X0) : AQ h := by
  obtain ⟨t, T, I, X, r, -, -, -, d⟩ := s
  exact ⟨t, T, S, I, X, r, d.1, d.2.1⟩
theorem FQ.feed {N : Nat} (hN : 1000 ≤ N) {h : Hp} {n m : Nat} {l : List Int32} (s : FQ h n l m) (hm : 20 * m + 20 ≤ 700) (hl : ∀ j, j < n → ∃ k : Nat, k < 128 ∧ l.getD j 0 = nI k) : ∃ g, f_X7_feed N h (wvA (chB n l (20 * m)) 20 0) (wvA (chB n l (20 * m)) 20 1) (wvA (chB n l (20 * m)) 20 2) (wvA (chB n l (20 * m)) 20 3) (wvA (chB n l (20 * m)) 20 4) = some (nI (20 * m + 20), g) ∧ FQ g n l (m + 1) := by
  obtain ⟨t, T, S, I, X, r, sp, e, b⟩ := s
  have hf : ∀ i, ∃ k : Nat, k < 128 ∧ chB n l (20 * m) i = nI k := fun i => by
    unfold chB
    by_cases z : 20 * m + i < n
    · rw [if_pos z]; exact hl _ z
    · rw [if_neg z]; exact ⟨32, by omega, rfl⟩
  have et : teN X = 20 * m := by unfold teN; rw [e, clN (by omega)]
  obtain ⟨g, a1, a2, -⟩ := cl_feed hN r ⟨20 * m, by omega, e⟩ (wvA (chB n l (20 * m)) 20 0) (wvA (chB n l (20 * m)) 20 1) (wvA (chB n l (20 * m)) 20 2) (wvA (chB n l (20 * m)) 20 3) (wvA (chB n l (20 * m)) 20 4)
  rw [et, if_pos hm] at a1
  rw [et, if_pos hm] at a2
  refine ⟨g, a1, t, T, S, I, _, a2, sp, ?_, fun i h1 h2 => ?_⟩
  · show nI (teN X + 20) = _
    rw [et]
    congr 1
  · show fdM (X.1 6) (teN X) _ _ _ _ _ i = _
    rw [et, fdM_at _ _ hf]
    by_cases z : 20 * m ≤ i ∧ i < 20 * m + 20
    · rw [if_pos z]
      unfold chB
      rw [if_pos (by omega), show 20 * m + (i - 20 * m) = i by omega]
    · rw [if_neg z]
      exact b i (by omega) h2
theorem FQ.text {N : Nat} (hN : 1000 ≤ N) {h : Hp} {n m : Nat} {l : List Int32} {D : DT} (s : FQ h n l m) (hn : n ≤ 20 * m) (hm : 20 * m ≤ 700) (hl : l.length = n) (e : pL 20 l D0 = some D) (k : DOK D) : ∃ g, f_X7_text N h (nI n) = some (nI (qLn D), g) ∧ LQ g D (bgM (T0 D)) X00 := by
  obtain ⟨t, T, S, I, X, r, sp, e3, b⟩ := s
  have lp : Lp (X.1 6) n 0 l := ⟨by omega, fun i hi => by rw [Nat.zero_add]; exact b i (by omega) (by omega)⟩
  obtain ⟨g, T', X', a1, a2, a3, a4, a5, a6, a7, x1, x2, x3, x4, x5, x6⟩ := cl_take hN r (by omega) e3 hn hm sp lp e k
  have s0 : LQ g D (bgM T') X00 := ⟨1 - t, T', I, X', a2, a3, a4, a6, by rw [x1]; exact sp, x5, ⟨0, by omega, x2⟩, x3, x4, fun k hk => absurd hk (Nat.not_lt_zero _)⟩
  exact ⟨g, a1, s0.sq (a3.bg a4)⟩
