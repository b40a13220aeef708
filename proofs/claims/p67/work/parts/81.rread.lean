/-! THE REFERENCE READS A PROGRAM -/
section SRd
variable {Γ : gE} {o : Nat} {ad : Nat → Nat} {V : Nat → Int32} {F : Nat → Nat → Int32}
theorem vU_id {k : Nat} {x : Int32} (h : V k = x) : vU V k x = V := by
  funext q
  unfold vU
  split
  · next e => rw [e, h]
  · rfl
theorem lh_in {sp n lo hi : Nat} {tx : Nat → Nat} (ht : sp < n → tx sp < 128) (hlo : lo < 128) (hhi : hi < 128) : (nI lo ≤ (if sp < n then nI (tx sp) else -1) ∧ (if sp < n then nI (tx sp) else -1) ≤ nI hi) ↔ (sp < n ∧ lo ≤ tx sp ∧ tx sp ≤ hi) := by
  by_cases h : sp < n
  · rw [if_pos h, nI_leI (by omega) (by have := ht h; omega), nI_leI (by have := ht h; omega) (by omega)]
    exact ⟨fun z => ⟨h, z⟩, fun z => z.2⟩
  · rw [if_neg h]
    refine ⟨fun z => ?_, fun z => absurd z.1 h⟩
    exact absurd (Int32.le_trans (nI_le (Nat.zero_le lo) (by omega)) z.1) (by decide)
theorem nmv_b {tx : Nat → Nat} {n p v : Nat} : ∀ k, k ≤ 4 → v < 10000 → (nmv tx n k p v).1 < 100000000 := fun k hk hv => by
  have := (nmv_le (tx := tx) (n := n) (k := k) (p := p) (v := v)).2.2
  have h4 : 10 ^ k ≤ 10000 := by
    have : k = 0 ∨ k = 1 ∨ k = 2 ∨ k = 3 ∨ k = 4 := by omega
    rcases this with rfl | rfl | rfl | rfl | rfl <;> decide
  have h5 : (v + 1) * 10 ^ k ≤ 10000 * 10000 := Nat.mul_le_mul (by omega) h4
  omega
end SRd
