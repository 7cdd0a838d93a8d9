def Eq9 (m : Nat) (a b : Int32) : Prop := ∃ v : Nat, v ≤ m ∧ a = nI v ∧ b = nI v
def TdS (s : Nat) (a0 b4 : Nat → Int32) : Prop := ∀ i, i < s → Eq9 999 (a0 i) (b4 (8 + i))
def TdC (c : Nat) (ca ra : Nat → Nat → Int32) : Prop := ∀ i, i < c → ca 1 i = ra 5 (4 + i) ∧ Eq9 5 (ca 2 i) (ra 6 (4 + i)) ∧ Eq9 9 (ca 3 i) (ra 7 (4 + i)) ∧ Eq9 99 (ca 4 i) (ra 8 (4 + i))
def TdF (c f : Nat) (ca ra : Nat → Nat → Int32) : Prop := ∀ i, i < f → (∃ j, j < c ∧ ca 5 i = nI j ∧ ra 9 (6 + i) = nI j) ∧ Eq9 99 (ca 6 i) (ra 10 (6 + i)) ∧ Eq9 9 (ca 7 i) (ra 11 (6 + i))
def TdT (t : Nat) (a8 b12 : Nat → Int32) : Prop := ∀ i, i < t → Eq9 23 (a8 i) (b12 (4 + i))
def TdO (ci : Nat → Int32) (b3 : Nat → Int32) : Prop := Eq9 999 (ci 15) (b3 5) ∧ Eq9 2 (ci 16) (b3 6) ∧ Eq9 100 (ci 17) (b3 7) ∧ Eq9 99 (ci 18) (b3 8) ∧ Eq9 99999 (ci 19) (b3 9)
def TdB (o7 : Int32) (b2 : Nat → Int32) : Prop := ∃ b : Nat → Bool, o7 = nI (16 * (b 0).toNat + 32 * (b 1).toNat + 64 * (b 2).toNat + 128 * (b 3).toNat) ∧ ∀ i, i < 4 → b2 i = b2i (b i)
def TDd (ci : Nat → Int32) (ca : Nat → Nat → Int32) (ri : Nat → Int32) (ra : Nat → Nat → Int32) (o7 : Int32) : Prop := ∃ s c f t : Nat, (s ≤ 8 ∧ ci 11 = nI s ∧ ri 17 = nI s ∧ TdS s (ca 0) (ra 4)) ∧ (c ≤ 4 ∧ ci 12 = nI c ∧ ri 18 = nI c ∧ TdC c ca ra) ∧ (f ≤ 6 ∧ ci 13 = nI f ∧ ri 19 = nI f ∧ TdF c f ca ra) ∧ (t ≤ 4 ∧ ci 14 = nI t ∧ ri 20 = nI t ∧ TdT t (ca 8) (ra 12)) ∧ TdO ci (ra 3) ∧ TdB o7 (ra 2)
theorem up_n {f : Nat → Int32} {k i : Nat} {v : Int32} (h : ¬ i = k) : upd f k v i = f i := if_neg h
theorem up_p (f : Nat → Int32) (k : Nat) (v : Int32) : upd f k v k = v := if_pos rfl
