-- what the class answers, on the closed texts
def S2_0 : Str := bgM (T0 D2)
theorem v2_0 : goA (T0 D2) S2_0 (nI 1) = nI 1 := by decide +kernel
def S2_1 : Str := goS (T0 D2) S2_0 (nI 1)
theorem v2_1 : couM (T0 D2) S2_1 X00 (nI 7) = nI 8 := by decide +kernel
theorem v2_2 : crfM (T0 D2) S2_1 (nI 0) (nI 5) = nI 8 := by decide +kernel
theorem v2_3 : couM (T0 D2) S2_1 X00 (nI 9) = nI 0 := by decide +kernel
theorem v2_4 : goA (T0 D2) S2_1 (nI 1) = nI 2 := by decide +kernel
def S2_2 : Str := goS (T0 D2) S2_1 (nI 1)
theorem v2_5 : couM (T0 D2) S2_2 X00 (nI 7) = nI 16 := by decide +kernel
theorem v2_6 : crfM (T0 D2) S2_2 (nI 0) (nI 5) = nI 16 := by decide +kernel
theorem v2_7 : couM (T0 D2) S2_2 X00 (nI 9) = nI 0 := by decide +kernel
theorem v2_8 : goA (T0 D2) S2_2 (nI 1) = nI 3 := by decide +kernel
def S2_3 : Str := goS (T0 D2) S2_2 (nI 1)
theorem v2_9 : couM (T0 D2) S2_3 X00 (nI 7) = nI 20 := by decide +kernel
theorem v2_10 : crfM (T0 D2) S2_3 (nI 0) (nI 5) = nI 20 := by decide +kernel
theorem v2_11 : couM (T0 D2) S2_3 X00 (nI 9) = nI 0 := by decide +kernel
theorem v2_12 : goA (T0 D2) S2_3 (nI 1) = nI 4 := by decide +kernel
def S2_4 : Str := goS (T0 D2) S2_3 (nI 1)
theorem v2_13 : couM (T0 D2) S2_4 X00 (nI 7) = nI 10 := by decide +kernel
theorem v2_14 : crfM (T0 D2) S2_4 (nI 0) (nI 5) = nI 20 := by decide +kernel
theorem v2_15 : couM (T0 D2) S2_4 X00 (nI 9) = nI 10 := by decide +kernel
theorem v2_16 : goA (T0 D2) S2_4 (nI 1) = nI 5 := by decide +kernel
def S2_5 : Str := goS (T0 D2) S2_4 (nI 1)
theorem v2_17 : couM (T0 D2) S2_5 X00 (nI 7) = nI 0 := by decide +kernel
theorem v2_18 : crfM (T0 D2) S2_5 (nI 0) (nI 5) = nI 20 := by decide +kernel
theorem v2_19 : couM (T0 D2) S2_5 X00 (nI 9) = nI 20 := by decide +kernel
theorem v2_20 : goA (T0 D2) S2_5 (nI 1) = nI 6 := by decide +kernel
def S2_6 : Str := goS (T0 D2) S2_5 (nI 1)
theorem v2_21 : couM (T0 D2) S2_6 X00 (nI 7) = nI 0 := by decide +kernel
theorem v2_22 : crfM (T0 D2) S2_6 (nI 0) (nI 5) = nI 20 := by decide +kernel
theorem v2_23 : couM (T0 D2) S2_6 X00 (nI 9) = nI 20 := by decide +kernel
theorem v2_24 : crfM (T0 D2) S2_6 (nI 0) (nI 4) = nI 900 := by decide +kernel
theorem v2_25 : souM (T0 D2) S2_6 (nI 0) (nI 0) = (-2) := by decide +kernel
theorem v2_26 : souM (T0 D2) S2_6 (nI 0) (nI 1) = (-2) := by decide +kernel
def S4_0 : Str := bgM (T0 D4)
theorem v4_0 : souM (T0 D4) S4_0 (nI 0) (nI 0) = nI 0 := by decide +kernel
theorem v4_1 : souM (T0 D4) S4_0 (nI 1) (nI 0) = nI 1 := by decide +kernel
theorem v4_2 : crfM (T0 D4) S4_0 (nI 0) (nI 6) = nI 7 := by decide +kernel
theorem v4_3 : crfM (T0 D4) S4_0 (nI 1) (nI 6) = nI 9 := by decide +kernel
theorem v4_4 : spM (lotF (T0 D4) S4_0) (nCr (T0 D4)) = nI 2 := by decide +kernel
theorem v4_5 : goA (T0 D4) S4_0 (nI 1) = nI 1 := by decide +kernel
def S4_1 : Str := goS (T0 D4) S4_0 (nI 1)
theorem v4_6 : (S4_1).1 0 0 = nI 0 := by decide +kernel
theorem v4_7 : (S4_1).1 0 1 = nI 4 := by decide +kernel
theorem v4_8 : souM (T0 D4) S4_1 (nI 0) (nI 0) = nI 2 := by decide +kernel
theorem v4_9 : souM (T0 D4) S4_1 (nI 0) (nI 1) = nI 2 := by decide +kernel
theorem v4_10 : goA (T0 D4) S4_1 (nI 1) = nI 2 := by decide +kernel
def S4_2 : Str := goS (T0 D4) S4_1 (nI 1)
theorem v4_11 : (S4_2).1 0 2 = nI 0 := by decide +kernel
theorem v4_12 : souM (T0 D4) S4_2 (nI 0) (nI 0) = (-3) := by decide +kernel
theorem v4_13 : souM (T0 D4) S4_2 (nI 0) (nI 1) = (-2) := by decide +kernel
theorem v4_14 : rulQ S4_2 (nI 0) = true := by decide +kernel
def S4_3 : Str := upI S4_2 14 (nI 0)
theorem v4_15 : souM (T0 D4) S4_3 (nI 0) (nI 0) = (-3) := by decide +kernel
def S5_0 : Str := bgM (T0 D5)
theorem v5_0 : spM (lotF (T0 D5) S5_0) (nCr (T0 D5)) = nI 8 := by decide +kernel
theorem v5_1 : swpM (T0 D5) S5_0 (nI 0) = nI 0 := by decide +kernel
theorem hS5_0 : S5_0.2 16 = 1 := by decide +kernel
theorem v5_2 : swpM (T0 D5) S5_0 (nI 1) = nI 3 := by decide +kernel
theorem v5_3 : swpM (T0 D5) S5_0 (nI 2) = nI 6 := by decide +kernel
theorem v5_4 : lotQ (T0 D5) S5_0 (nI 0) (nI 1) = true := by decide +kernel
def S5_1 : Str := upA S5_0 1 0 (nI 1)
theorem v5_5 : crfM (T0 D5) S5_1 (nI 1) (nI 6) = nI 14 := by decide +kernel
theorem v5_6 : spM (lotF (T0 D5) S5_1) (nCr (T0 D5)) = nI 12 := by decide +kernel
theorem v5_7 : swpM (T0 D5) S5_1 (nI 0) = nI 0 := by decide +kernel
theorem hS5_1 : S5_1.2 16 = 1 := by decide +kernel
theorem v5_8 : swpM (T0 D5) S5_1 (nI 1) = nI 2 := by decide +kernel
theorem v5_9 : swpM (T0 D5) S5_1 (nI 2) = nI 4 := by decide +kernel
def S6_0 : Str := bgM (T0 D6)
theorem v6_0 : plnM (T0 D6) S6_0 (nI 0) (nI 3) = nI 600 := by decide +kernel
theorem hS6_0 : S6_0.2 16 = 1 := by decide +kernel
theorem kS6_0 : SOK (T0 D6) 0 S6_0 ∧ (S6_0.2 11).toInt ≤ 9999 := by
  unfold SOK
  decide +kernel
theorem v6_1 : pldM (T0 D6) S6_0 (nI 0) (nI 3) (nI 0) = nI 1 := by decide +kernel
theorem v6_2 : pldM (T0 D6) S6_0 (nI 0) (nI 3) (nI 2) = nI 1 := by decide +kernel
theorem v6_3 : plnM (T0 D6) S6_0 (nI 0) (nI 5) = nI 600 := by decide +kernel
theorem v6_4 : pldM (T0 D6) S6_0 (nI 0) (nI 5) (nI 4) = nI 1 := by decide +kernel
theorem v6_5 : pldM (T0 D6) S6_0 (nI 0) (nI 5) (nI 5) = (-2) := by decide +kernel
theorem v6_6 : actQ (T0 D6) S6_0 (nI 0) (nI 3) = true := by decide +kernel
def S6_1 : Str := upA S6_0 5 0 (nI 3)
theorem v6_7 : tabM (T0 D6) S6_1 (nI 0) ((nI 3) : Int32).toNatClampNeg (nI 3) = nI 600 := by decide +kernel
theorem hS6_1 : S6_1.2 16 = 1 := by decide +kernel
theorem v6_8 : tri (T0 D6) S6_1 (nI 0) (nI 0) (nI 3) = nI 0 := by decide +kernel
theorem v6_9 : goA (T0 D6) S6_1 (nI 3) = nI 3 := by decide +kernel
def S6_2 : Str := goS (T0 D6) S6_1 (nI 3)
theorem v6_10 : crfM (T0 D6) S6_2 (nI 0) (nI 4) = nI 0 := by decide +kernel
theorem v6_11 : plnM (T0 D6) S6_2 (nI 0) (nI 1) = nI 300 := by decide +kernel
theorem hS6_2 : S6_2.2 16 = 1 := by decide +kernel
theorem kS6_2 : SOK (T0 D6) 0 S6_2 ∧ (S6_2.2 11).toInt ≤ 9999 := by
  unfold SOK
  decide +kernel
def S7_0 : Str := bgM (T0 D7)
theorem v7_0 : lnd (T0 D7) S7_0 (nI 0) (nI 1) (nI 4) (nI 0) = nI 0 := by decide +kernel
theorem hS7_0 : S7_0.2 16 = 1 := by decide +kernel
theorem v7_1 : lnd (T0 D7) S7_0 (nI 0) (nI 1) (nI 4) (nI 1) = nI 40 := by decide +kernel
theorem v7_2 : lnd (T0 D7) S7_0 (nI 0) (nI 1) (nI 4) (nI 2) = nI 1 := by decide +kernel
theorem v7_3 : lnd (T0 D7) S7_0 (nI 1) (nI 0) (nI 4) (nI 0) = nI 40 := by decide +kernel
theorem v7_4 : lnd (T0 D7) S7_0 (nI 1) (nI 0) (nI 4) (nI 1) = nI 0 := by decide +kernel
theorem v7_5 : lnd (T0 D7) S7_0 (nI 1) (nI 0) (nI 4) (nI 2) = (-2) := by decide +kernel
theorem v7_6 : lenM (T0 D7) S7_0 (nI 0) (nI 1) = true := by decide +kernel
def S7_1 : Str := mvM S7_0 0 1
theorem v7_7 : crfM (T0 D7) S7_1 (nI 1) (nI 0) = nI 2 := by decide +kernel
theorem v7_8 : goA (T0 D7) S7_1 (nI 4) = nI 4 := by decide +kernel
def S7_2 : Str := goS (T0 D7) S7_1 (nI 4)
theorem v7_9 : crfM (T0 D7) S7_2 (nI 1) (nI 4) = nI 80 := by decide +kernel
def S8_0 : Str := bgM (T0 D8)
theorem v8_0 : trsM (T0 D8) S8_0 (nI 1) = nI 8 := by decide +kernel
theorem hS8_0 : S8_0.2 16 = 1 := by decide +kernel
theorem kS8_0 : SOK (T0 D8) 0 S8_0 ∧ (S8_0.2 11).toInt ≤ 9999 := by
  unfold SOK
  decide +kernel
theorem v8_1 : trnM (T0 D8) S8_0 (nI 1) (nI 0) = nI 0 := by decide +kernel
theorem v8_2 : trsM (T0 D8) S8_0 (nI 2) = nI 16 := by decide +kernel
theorem v8_3 : trnM (T0 D8) S8_0 (nI 2) (nI 0) = nI 0 := by decide +kernel
theorem v8_4 : trnM (T0 D8) S8_0 (nI 2) (nI 1) = nI 1 := by decide +kernel
theorem v8_5 : trsM (T0 D8) S8_0 (nI 3) = nI 24 := by decide +kernel
theorem v8_6 : trnM (T0 D8) S8_0 (nI 3) (nI 0) = nI 0 := by decide +kernel
theorem v8_7 : trnM (T0 D8) S8_0 (nI 3) (nI 1) = nI 0 := by decide +kernel
theorem v8_8 : trnM (T0 D8) S8_0 (nI 3) (nI 2) = nI 1 := by decide +kernel
theorem v8_9 : trnM (T0 D8) S8_0 (nI 3) (nI 3) = (-2) := by decide +kernel
def S9_0 : Str := bgM (T0 D9)
theorem v9_0 : ¬ rssM (T0 D9) S9_0 (nI 0) (nI 1) (nI 9) < nI 1 := by decide +kernel
theorem hS9_0 : S9_0.2 16 = 1 := by decide +kernel
theorem v9_1 : rstM (T0 D9) S9_0 (nI 0) (nI 1) (nI 9) (nI 0) = nI 0 := by decide +kernel
theorem v9_2 : goA (T0 D9) S9_0 (nI 5) = nI 5 := by decide +kernel
def S9_1 : Str := goS (T0 D9) S9_0 (nI 5)
theorem v9_3 : rssM (T0 D9) S9_1 (nI 0) (nI 1) (nI 9) = (-1) := by decide +kernel
theorem hS9_1 : S9_1.2 16 = 1 := by decide +kernel
def S11_0 : Str := bgM (T0 D11)
theorem v11_0 : oddM (T0 D11) (nI 1) (nI 0) = nI 1 := by decide +kernel
theorem v11_1 : oddM (T0 D11) (nI 1) (nI 1) = nI 2 := by decide +kernel
theorem v11_2 : oddM (T0 D11) (nI 2) (nI 0) = nI 3 := by decide +kernel
theorem v11_3 : oddM (T0 D11) (nI 2) (nI 1) = nI 4 := by decide +kernel
theorem v11_4 : oddM (T0 D11) (nI 4) (nI 0) = nI 15 := by decide +kernel
theorem v11_5 : oddM (T0 D11) (nI 4) (nI 1) = nI 16 := by decide +kernel
def S12_0 : Str := bgM (T0 D12)
theorem v12_0 : goA (T0 D12) S12_0 (nI 4) = nI 4 := by decide +kernel
def S12_1 : Str := goS (T0 D12) S12_0 (nI 4)
theorem v12_1 : (S12_1).1 0 0 = nI 23 := by decide +kernel
theorem v12_2 : (S12_1).1 0 1 = nI 20 := by decide +kernel
theorem v12_3 : tabM (T0 D12) S12_1 (nI 0) ((nI 9) : Int32).toNatClampNeg (nI 1) = nI 0 := by decide +kernel
theorem hS12_1 : S12_1.2 16 = 1 := by decide +kernel
