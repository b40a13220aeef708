section S25ref16leantxt
variable {Γ : gE} {o : Nat} {ad : Nat → Nat} {V : Nat → Int32} {F : Nat → Nat → Int32}
def rFb (N : Nat → Int32) (rt : Int32) (c : Nat) : Nat → Int32
  | 0 => nI 0
  | k + 1 => if rWt N rt (rFb N rt c k) c < rWt N rt (nI (k + 1)) c then nI (k + 1) else rFb N rt c k
theorem rFb_s {N : Nat → Int32} {rt : Int32} {c k : Nat} : rFb N rt c (k + 1) = if rWt N rt (rFb N rt c k) c < rWt N rt (nI (k + 1)) c then nI (k + 1) else rFb N rt c k := rfl
def tFb (N : Nat → Int32) (rt : Int32) : Int32 := rT (bI (nI 0 ≤ rt ∧ rt ≤ nI 5)) (bI (0 < N (8 + 3 * rIx rt + 2))) (nI 1)
def rMo (N : Nat → Int32) (c a b : Nat) : Bool := decide (0 < rWt N (nI b) (-1) c - rWt N (nI a) (-1) c ∨ (rWt N (nI b) (-1) c - rWt N (nI a) (-1) c = 0 ∧ (0 < N (8 + 3 * b + 2) - N (8 + 3 * a + 2) ∨ (N (8 + 3 * b + 2) - N (8 + 3 * a + 2) = 0 ∧ nI b < nI a))))
def rAh (N : Nat → Int32) (c a : Nat) : Nat → Int32
  | 0 => nI 0
  | b + 1 => rAh N c a b + bI (rMo N c a b = true)
def rRk (N : Nat → Int32) (c : Nat) (rank : Int32) : Nat → Int32
  | 0 => -1
  | a + 1 => if rAh N c a 6 = rank then nI a else rRk N c rank a
theorem rRk_s {N : Nat → Int32} {c a : Nat} {rank : Int32} : rRk N c rank (a + 1) = if rAh N c a 6 = rank then nI a else rRk N c rank a := rfl
end S25ref16leantxt
