section S17ref8leantxt
variable {Γ : gE} {o : Nat} {ad : Nat → Nat} {V : Nat → Int32} {F : Nat → Nat → Int32}
def rOp (N : Nat → Int32) (rt : Int32) : Nat := (N (8 + 3 * rIx rt + 2)).toNatClampNeg
def rOK (N : Nat → Int32) : Prop := ∀ r, r ≤ 5 → ∃ b, b ≤ 3 ∧ N (8 + 3 * r + 2) = nI b
theorem rOK.get {N : Nat → Int32} (h : rOK N) (rt : Int32) : rOp N rt ≤ 3 ∧ N (8 + 3 * rIx rt + 2) = nI (rOp N rt) := by
  obtain ⟨b, hb, e⟩ := h (rIx rt) (rIx_le rt)
  unfold rOp
  rw [e, nI_clamp (by omega)]
  exact ⟨hb, rfl⟩
theorem nI_nm1 {n : Nat} (h : n < 2147483648) : ¬ nI n = -1 := fun z => by
  have h1 := nI_toInt (n := n) (by omega)
  rw [z] at h1
  have h2 : (-1 : Int32).toInt = -1 := by decide
  omega
theorem rIdx_of {N : Nat → Int32} {id : Int32} {c p : Nat} (hp : p < 20) (h : rPlace N id c = nI p) : rIdx N id c = p := by
  unfold rIdx
  rw [h, nI_clamp (by omega)]
theorem rBag_in {N : Nat → Int32} {rt w : Int32} {c b : Nat} (hb : b ≤ 3) (h : ¬ rBag N rt w c b = -1) : ∃ k, k ≤ 2 ∧ rBag N rt w c b = nI k := by
  have key : ∀ (p : Nat → Bool) (b i : Nat), rFst p b = some i → i < b := by
    intro p b
    induction b with
    | zero => intro i h; cases h
    | succ b ih =>
      intro i h
      unfold rFst at h
      split at h
      · next k hk => cases h; exact Nat.lt_succ_of_lt (ih i hk)
      · split at h
        · cases h; exact Nat.lt_succ_self _
        · cases h
  unfold rBag at h ⊢
  split
  · next i hi => exact ⟨i, by have := key _ _ _ hi; omega, rfl⟩
  · next hi =>
    rw [hi] at h
    dsimp only at h
    split
    · next h3 => exact ⟨b, by omega, rfl⟩
    · next h3 => rw [if_neg h3] at h; exact absurd rfl h
def rSrt (N : Nat → Int32) (id : Int32) (c t : Nat) : Int32 := rRoute N (N (62 + 7 * rIdx N id c + 1)) t
end S17ref8leantxt
