-- PURE: words; laws told alike
/-- the words, in the reference's order, letter by letter -/
def wrdL : List (List Nat) := [[115, 116, 114, 105, 112, 101], [99, 114, 111, 102, 116], [102, 105, 101, 108, 100], [116, 105, 100, 101], [104, 101, 97, 112], [114, 117, 108, 101], [103, 97, 108, 101], [115, 101, 101, 100], [108, 97, 119], [102, 114, 101, 101], [108, 111, 116, 115], [115, 97, 118, 101, 100], [108, 111, 97, 100], [102, 111, 114, 107], [101, 98, 98], [119, 111, 114, 116, 104], [97, 110, 100], [111, 114], [110, 111, 116], [108, 105, 101, 115], [99, 97, 114, 116, 115], [104, 105, 108, 108], [104, 111, 117, 114], [103, 111, 116], [119, 97, 110, 116, 115], [115, 111, 114, 116]]
def wrdA : List Nat := wrdL.flatMap (fun w => w ++ [32])
def WRD (A : Nat → Int32) : Prop := ∀ i, i < 131 → A i = nI (wrdA.getD i 0)
/-- letters packed, five bits each, the first highest -/
def pckL : List Nat → Nat → Nat
  | _, 0 => 0
  | [], n + 1 => 32 * 0 * n
  | c :: l, n + 1 => (c - 96) * 2 ^ (5 * n) + pckL l n
/-- where the class keeps the reference's word k -/
def cwd (k : Nat) : Nat := if k < 16 then k else if k < 18 then k + 8 else if k = 18 then 23 else k - 3
/-- the class's spellings -/
def SPL (A : Nat → Int32) : Prop := ∀ k, k < 26 → A (cwd k) = nI (pckL (wrdL.getD k []) 6)
/-- which sign of the class is which of the reference -/
def bin2 (kn kt : Int32) : Prop := (kn = 280 ∧ kt = 3) ∨ (kn = 281 ∧ kt = 4) ∨ (kn = 60 ∧ kt = 5) ∨ (kn = 4 ∧ kt = 6) ∨ (kn = 61 ∧ kt = 7) ∨ (kn = 5 ∧ kt = 8) ∨ (kn = 6 ∧ kt = 9) ∨ (kn = 62 ∧ kt = 10) ∨ (kn = 43 ∧ kt = 11) ∨ (kn = 45 ∧ kt = 12) ∨ (kn = 42 ∧ kt = 13) ∨ (kn = 47 ∧ kt = 14)
/-- one knot: the class's, the reference's, the stack of places before and behind it -/
def STP (kn nu kt pt ot : Int32) (i : Nat) (s s' : List Nat) : Prop :=
  (kn = 2 ∧ kt = 0 ∧ pt = nu ∧ (∃ v, v ≤ 9999 ∧ nu = nI v) ∧ s' = i :: s) ∨ (∃ j, j < 7 ∧ kn = nI (272 + j) ∧ kt = 1 ∧ pt = nI j ∧ s' = i :: s) ∨ (∃ x r, s = x :: r ∧ kn = 279 ∧ kt = 2 ∧ pt = nI x ∧ s' = i :: r) ∨ (∃ x y r, s = y :: x :: r ∧ bin2 kn kt ∧ pt = nI x ∧ ot = nI y ∧ s' = i :: r)
/-- a law told by both: the class's rows A, the reference's first, last, knot, part, other -/
def LPK (A : Nat → Nat → Int32) (td fi la kn pa ot : Nat → Int32) (k : Nat) : Prop :=
  (td k = 0 ∧ ¬ A 2 k < A 3 k) ∨ (¬ td k = 0 ∧ ∃ a b : Nat, a < b ∧ b ≤ 64 ∧ A 2 k = nI a ∧ A 3 k = nI b ∧ fi k = nI a ∧ la k = nI b ∧ ∃ st : Nat → List Nat, st a = [] ∧ (∀ i, a ≤ i → i < b → STP (A 0 i) (A 1 i) (kn i) (pa i) (ot i) i (st i) (st (i + 1))) ∧ st b = [b - 1])
def LPA (td fi la kn pa ot : Nat → Int32) (L : Nat → (Nat → Int64) → Int64) : Prop := ∃ A, L = lawM A ∧ ∀ k, k < 4 → LPK A td fi la kn pa ot k

