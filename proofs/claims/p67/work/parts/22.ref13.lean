section S22ref13leantxt
variable {Γ : gE} {o : Nat} {ad : Nat → Nat} {V : Nat → Int32} {F : Nat → Nat → Int32}
theorem in_rg {p : Int32} {c : Nat} (hc : c ≤ 2000) (h : nI 0 ≤ p ∧ p ≤ nI c - nI 1) : ∃ k, k < c ∧ p = nI k := by
  rcases Nat.eq_zero_or_pos c with z | z
  · subst z
    have h1 := Int32.le_iff_toInt_le.mp h.1
    have h2 := Int32.le_iff_toInt_le.mp h.2
    have e : (nI 0 - nI 1).toInt = -1 := by decide
    have e0 : (nI 0).toInt = 0 := by decide
    omega
  · obtain ⟨b, rfl⟩ : ∃ b, c = b + 1 := ⟨c - 1, by omega⟩
    rw [n1_1, nI_pred] at h
    obtain ⟨k, hk, rfl⟩ := nI_of2 (M := nI b) (n := b) (nI_toInt (by omega)) (by rw [Int32.not_lt]; exact Int32.le_trans (by decide) h.1) h.2
    exact ⟨k, by omega, rfl⟩
theorem in_rgi {k c : Nat} (hc : c ≤ 2000) (h : k < c) : nI 0 ≤ nI k ∧ nI k ≤ nI c - nI 1 := by
  obtain ⟨b, rfl⟩ : ∃ b, c = b + 1 := ⟨c - 1, by omega⟩
  rw [n1_1, nI_pred]
  exact ⟨nI_le (by omega) (by omega), nI_le (by omega) (by omega)⟩
def rWr (N : Nat → Int32) (p t : Nat) : Bool := decide (¬ N (62 + 7 * p + 5) = -1 ∧ ¬ rRoute N (N (62 + 7 * p + 1)) t = N (62 + 7 * p + 5))
def rLt (N : Nat → Int32) (t : Nat) : Nat → Int32
  | 0 => nI 0
  | i + 1 => rLt N t i + (if N (62 + 7 * i + 5) = -1 ∧ N (62 + 7 * i + 3) = 0 ∧ ¬ rLR N i t = -1 ∧ N (8 + 3 * rIx (rLR N i t) + 0) ≤ N 0 then nI 1 else nI 0)
end S22ref13leantxt
