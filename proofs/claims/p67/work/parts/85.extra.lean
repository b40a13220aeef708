/-! small rows -/
theorem rMax_nI {a b : Nat} (ha : a < 2 ^ 31) (hb : b < 2 ^ 31) : rMax (nI a) (nI b) = nI (max a b) := by
  unfold rMax
  by_cases h : a < b
  · rw [if_pos (nI_lt h hb), Nat.max_eq_right (by omega)]
  · rw [if_neg (nI_nlt (by omega) ha), Nat.max_eq_left (by omega)]
theorem nI_nn {k : Nat} (h : k < 2 ^ 31) : ¬ nI k < 0 := fun z => by
  have := (nI_ltI (a := k) (b := 0) h (by decide)).mp (by rw [show nI 0 = 0 by decide]; exact z)
  omega
