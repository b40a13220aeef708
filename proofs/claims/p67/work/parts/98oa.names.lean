/-! what is thrown, by the code -/
theorem nm1 {a b c : String} : nmOf a b c (nI 1) = a := if_pos rfl
theorem nm2 {a b c : String} : nmOf a b c (nI 2) = b := by unfold nmOf; rw [if_neg (by decide), if_pos rfl]
theorem nm3 {a b c : String} : nmOf a b c (nI 3) = c := by unfold nmOf; rw [if_neg (by decide), if_neg (by decide)]
