-- differences never below 0, by cases
theorem pw_W : ∀ W : Fin 100, ∀ g : Fin 300, pwM ((nI W - nI g).toInt64) 99 = nI (W - g) := by decide +kernel
theorem mx_W : ∀ W : Fin 100, ∀ g : Fin 300, (if nI 0 < nI W - nI g then nI W - nI g else nI 0) = nI (W - g) := by decide +kernel
theorem pw_C : ∀ C : Fin 6, ∀ H : Fin 10, pwM ((5 * nI C - nI H).toInt64) 99 = nI (5 * C - H) := by decide +kernel
theorem mx_C : ∀ C : Fin 6, ∀ H : Fin 10, (if nI 0 < nI (5 * C) - nI H then nI (5 * C) - nI H else nI 0) = nI (5 * C - H) := by decide +kernel
