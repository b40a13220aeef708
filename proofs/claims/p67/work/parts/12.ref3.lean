section S12ref3leantxt
variable {Γ : gE} {o : Nat} {ad : Nat → Nat} {V : Nat → Int32} {F : Nat → Nat → Int32}
def rPlace (N : Nat → Int32) (id : Int32) : Nat → Int32
  | 0 => -1
  | i + 1 => if N (62 + 7 * i) = id then nI i else rPlace N id i
def rFind (N : Nat → Int32) (dg ln : Int32) : Nat → Int32
  | 0 => -1
  | i + 1 => if N (26 + 3 * i) = dg ∧ N (26 + 3 * i + 1) = ln then nI i else rFind N dg ln i
def rMatch (N : Nat → Int32) (dg ln most : Int32) : Nat → Int32
  | 0 => -1
  | i + 1 => if (N (26 + 3 * i + 1) ≤ most ∧ dg / rTens (rMax (nI 0) (ln - N (26 + 3 * i + 1))) = N (26 + 3 * i)) ∧ (rMatch N dg ln most i = -1 ∨ N (26 + 3 * (rMatch N dg ln most i).toNatClampNeg + 1) < N (26 + 3 * i + 1)) then nI i else rMatch N dg ln most i
theorem rMatch_s {N : Nat → Int32} {dg ln most : Int32} {i : Nat} : rMatch N dg ln most (i + 1) = if (N (26 + 3 * i + 1) ≤ most ∧ dg / rTens (rMax (nI 0) (ln - N (26 + 3 * i + 1))) = N (26 + 3 * i)) ∧ (rMatch N dg ln most i = -1 ∨ N (26 + 3 * (rMatch N dg ln most i).toNatClampNeg + 1) < N (26 + 3 * i + 1)) then nI i else rMatch N dg ln most i := rfl
theorem rPlace_in {N : Nat → Int32} {id : Int32} : ∀ {c : Nat}, rPlace N id c = -1 ∨ ∃ k, k < c ∧ rPlace N id c = nI k
  | 0 => Or.inl rfl
  | c + 1 => by
    unfold rPlace
    split
    · exact Or.inr ⟨c, by omega, rfl⟩
    · rcases rPlace_in (N := N) (id := id) (c := c) with h | ⟨k, h1, h2⟩
      · exact Or.inl h
      · exact Or.inr ⟨k, by omega, h2⟩
theorem rFind_in {N : Nat → Int32} {dg ln : Int32} : ∀ {c : Nat}, rFind N dg ln c = -1 ∨ ∃ k, k < c ∧ rFind N dg ln c = nI k
  | 0 => Or.inl rfl
  | c + 1 => by
    unfold rFind
    split
    · exact Or.inr ⟨c, by omega, rfl⟩
    · rcases rFind_in (N := N) (dg := dg) (ln := ln) (c := c) with h | ⟨k, h1, h2⟩
      · exact Or.inl h
      · exact Or.inr ⟨k, by omega, h2⟩
theorem rMatch_in {N : Nat → Int32} {dg ln most : Int32} : ∀ {c : Nat}, rMatch N dg ln most c = -1 ∨ ∃ k, k < c ∧ rMatch N dg ln most c = nI k
  | 0 => Or.inl rfl
  | c + 1 => by
    unfold rMatch
    split
    · exact Or.inr ⟨c, by omega, rfl⟩
    · rcases rMatch_in (N := N) (dg := dg) (ln := ln) (most := most) (c := c) with h | ⟨k, h1, h2⟩
      · exact Or.inl h
      · exact Or.inr ⟨k, by omega, h2⟩
end S12ref3leantxt
