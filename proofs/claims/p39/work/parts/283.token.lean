-- PURE: a token read, by both
def isSp (b : Int32) : Bool := decide (b = 32 ∨ b = 10)
def OC (f : Nat → Int32) (n a p' : Nat) (ck cn cl : Int32) : Prop := (a = n ∧ p' = n ∧ ck = 0) ∨ (a < n ∧ isL (f a) = true ∧ p' = rnE isL f (n - a) a ∧ ((6 < p' - a ∧ ck = 1) ∨ (p' - a ≤ 6 ∧ cl = nI (pckL (lst f (p' - a) a) 6) ∧ ((∃ k, IsW (lst f (p' - a) a) k ∧ ck = nI (256 + cwd k)) ∨ ((∀ k, ¬ IsW (lst f (p' - a) a) k) ∧ ck = 3))))) ∨ (a < n ∧ isL (f a) = false ∧ isD (f a) = true ∧ p' = rnE isD f (n - a) a ∧ ck = 2 ∧ cn = cnV f (n - a) a 0) ∨ (a < n ∧ isL (f a) = false ∧ isD (f a) = false ∧ p' = a + sgL (f a) (nxB f n a) ∧ ck = sgC (f a) (nxB f n a))
section Token
variable {N : Nat} {h g : Hp} {n : Nat}
theorem nx8 {α : Type} {h2 : Hp} {p : Nat} (e6 : gI h2 8 0 6 = nI n) (hn : n ≤ 700) (hp : p < n) (e7 : gI h2 8 0 7 = nI (p + 1)) (F : Int32 → Option α) : jn F (fun j => if (gI h2 8 0 6) ≤ (gI h2 8 0 7) then j 0 else grd (inb (gI h2 8 0 7) 700) <| j (gA h2 8 0 0 (gI h2 8 0 7).toNatClampNeg)) = F (nxB (gA h2 8 0 0) n p) := by
  rw [jn_e, e6, e7]
  unfold nxB
  by_cases z : p + 1 < n
  · rw [if_neg (nleN z (by omega)), if_pos z, grd_p (inb_n (by omega) (by omega)), clN (by omega)]
  · rw [if_pos (leN (by omega) (by omega)), if_neg z]
end Token

