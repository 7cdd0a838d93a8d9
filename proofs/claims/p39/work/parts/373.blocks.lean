-- the texts and digits among the premises, by their place
def sblk (own : String) (ix : Nat) (t : List Int32) : List Cond := [Cond.exactly (.string own ix) RJ0, Cond.eq (.field (.string own ix) RJ0 "coder" "B") (.int 0), Cond.arrayOf (.field (.string own ix) RJ0 "value" "[B") .byte, Cond.eq (.length (.field (.string own ix) RJ0 "value" "[B")) (.int (Int32.ofNat t.length))] ++ (List.range t.length).map fun j => Cond.eq (.elem (.field (.string own ix) RJ0 "value" "[B") (.int (Int32.ofNat j))) (.int (t.getD j 0))
def dbk (n : String) (f : Nat → Int32) : List Cond := [Cond.arrayOf (.static RJ6 n "[B") .byte, Cond.eq (.length (.static RJ6 n "[B")) (.int (Int32.ofNat 100))] ++ (List.range 100).map fun j => Cond.eq (.elem (.static RJ6 n "[B") (.int (Int32.ofNat j))) (.int (f j))
theorem bk_T : ((flatC gvn).drop 217).take 134 = sblk RX4 18 txtB := by decide +kernel
theorem bk_0 : ((flatC gvn).drop 388).take 11 = sblk RL (cix 0) (cst 0) := by decide +kernel
theorem bk_1 : ((flatC gvn).drop 402).take 13 = sblk RL (cix 1) (cst 1) := by decide +kernel
theorem bk_2 : ((flatC gvn).drop 419).take 5 = sblk RL (cix 2) (cst 2) := by decide +kernel
theorem bk_3 : ((flatC gvn).drop 429).take 15 = sblk RL (cix 3) (cst 3) := by decide +kernel
theorem bk_4 : ((flatC gvn).drop 450).take 7 = sblk RL (cix 4) (cst 4) := by decide +kernel
theorem bk_5 : ((flatC gvn).drop 464).take 52 = sblk RL (cix 5) (cst 5) := by decide +kernel
theorem bk_6 : ((flatC gvn).drop 524).take 29 = sblk RL (cix 6) (cst 6) := by decide +kernel
theorem bk_7 : ((flatC gvn).drop 562).take 19 = sblk RL (cix 7) (cst 7) := by decide +kernel
theorem bk_8 : ((flatC gvn).drop 591).take 100 = sblk RL (cix 8) (cst 8) := by decide +kernel
theorem bk_9 : ((flatC gvn).drop 702).take 69 = sblk RL (cix 9) (cst 9) := by decide +kernel
theorem bk_10 : ((flatC gvn).drop 783).take 42 = sblk RL (cix 10) (cst 10) := by decide +kernel
theorem bk_11 : ((flatC gvn).drop 838).take 67 = sblk RL (cix 11) (cst 11) := by decide +kernel
theorem bk_12 : ((flatC gvn).drop 919).take 43 = sblk RL (cix 12) (cst 12) := by decide +kernel
theorem bk_13 : ((flatC gvn).drop 977).take 78 = sblk RL (cix 13) (cst 13) := by decide +kernel
theorem bk_14 : ((flatC gvn).drop 1071).take 9 = sblk RL (cix 14) (cst 14) := by decide +kernel
theorem bk_15 : ((flatC gvn).drop 1097).take 30 = sblk RL (cix 15) (cst 15) := by decide +kernel
theorem bk_16 : ((flatC gvn).drop 1145).take 14 = sblk RL (cix 16) (cst 16) := by decide +kernel
theorem bk_17 : ((flatC gvn).drop 1178).take 33 = sblk RL (cix 17) (cst 17) := by decide +kernel
theorem bk_18 : ((flatC gvn).drop 1231).take 41 = sblk RL (cix 18) (cst 18) := by decide +kernel
theorem bk_O : ((flatC gvn).drop 12).take 102 = dbk "DigitOnes" (fun j => nI (48 + j % 10)) := by decide +kernel
theorem bk_D : ((flatC gvn).drop 115).take 102 = dbk "DigitTens" (fun j => nI (48 + j / 10)) := by decide +kernel
