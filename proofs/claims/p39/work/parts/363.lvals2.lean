-- what the class answers on the texts with one number
def S3_0 (t : Nat) : Str := bgM (T0 (D3 t))
def S3_1 (t : Nat) : Str := goS (T0 (D3 t)) (S3_0 t) (nI t)
def S3_2 (t : Nat) : Str := goS (T0 (D3 t)) (S3_1 t) (nI 1)
def S3_3 (t : Nat) : Str := goS (T0 (D3 t)) (S3_2 t) (nI 24)
theorem v3_0 : ∀ t : Fin 24, goA (T0 (D3 t)) (S3_0 t) (nI t) = nI t := by decide +kernel
theorem v3_1 : ∀ t : Fin 24, couM (T0 (D3 t)) (S3_1 t) X00 (nI 8) = nI 0 := by decide +kernel
theorem v3_2 : ∀ t : Fin 24, goA (T0 (D3 t)) (S3_1 t) (nI 1) = nI (t + 1) := by decide +kernel
theorem v3_3 : ∀ t : Fin 24, (S3_2 t).1 0 0 = nI 51 := by decide +kernel
theorem v3_4 : ∀ t : Fin 24, (S3_2 t).1 0 1 = nI 4 := by decide +kernel
theorem v3_5 : ∀ t : Fin 24, couM (T0 (D3 t)) (S3_2 t) X00 (nI 8) = nI 53 := by decide +kernel
theorem v3_6 : ∀ t : Fin 24, goA (T0 (D3 t)) (S3_2 t) (nI 24) = nI (t + 25) := by decide +kernel
theorem v3_7 : ∀ t : Fin 24, (S3_3 t).1 0 0 = nI 26 := by decide +kernel
theorem v3_8 : ∀ t : Fin 24, (S3_3 t).1 0 1 = nI 2 := by decide +kernel
theorem v10 : ∀ o : Fin 101, oddM (T0 (D10 o)) (nI 1) (nI 0) * nI 100 = nI o * oddM (T0 (D10 o)) (nI 1) (nI 1) := by decide +kernel
