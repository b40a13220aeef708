section SRk
variable {Γ : gE} {o : Nat} {ad : Nat → Nat} {V : Nat → Int32} {F : Nat → Nat → Int32}
theorem kwn_at : ∀ w, w < 10 → ∀ k, k < (kw w).length → kwn[kws w + k]? = (kw w)[k]? := by decide +kernel
theorem kws_s : ∀ w, w < 10 → kws (w + 1) = kws w + (kw w).length ∧ kws w ≤ 66 := by decide +kernel
theorem rMax_nI {a b : Nat} (ha : a < 2 ^ 31) (hb : b < 2 ^ 31) : rMax (nI a) (nI b) = nI (max a b) := by
  unfold rMax
  by_cases h : a < b
  · rw [if_pos (nI_lt h hb), Nat.max_eq_right (by omega)]
  · rw [if_neg (nI_nlt (by omega) ha), Nat.max_eq_left (by omega)]
end SRk
