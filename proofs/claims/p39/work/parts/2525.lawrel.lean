-- PURE: words; laws told alike
/-- the words, in the reference's order, letter by letter -/
def wrdL : List (List Nat) := [[115, 116, 114, 105, 112, 101], [99, 114, 111, 102, 116], [102, 105, 101, 108, 100], [116, 105, 100, 101], [104, 101, 97, 112], [114, 117, 108, 101], [103, 97, 108, 101], [115, 101, 101, 100], [108, 97, 119], [102, 114, 101, 101], [108, 111, 116, 115], [115, 97, 118, 101, 100], [108, 111, 97, 100], [102, 111, 114, 107], [101, 98, 98], [119, 111, 114, 116, 104], [97, 110, 100], [111, 114], [110, 111, 116], [108, 105, 101, 115], [99, 97, 114, 116, 115], [104, 105, 108, 108], [104, 111, 117, 114], [103, 111, 116], [119, 97, 110, 116, 115], [115, 111, 114, 116]]
/-- letters packed, five bits each, the first highest -/
def pckL : List Nat → Nat → Nat
  | _, 0 => 0
  | [], n + 1 => 32 * 0 * n
  | c :: l, n + 1 => (c - 96) * 2 ^ (5 * n) + pckL l n
/-- where the class keeps the reference's word k -/
def cwd (k : Nat) : Nat := if k < 16 then k else if k < 18 then k + 8 else if k = 18 then 23 else k - 3
/-- the class's spellings -/
def SPL (A : Nat → Int32) : Prop := ∀ k, k < 26 → A (cwd k) = nI (pckL (wrdL.getD k []) 6)
