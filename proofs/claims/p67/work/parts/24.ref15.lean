section S24ref15leantxt
variable {Γ : gE} {o : Nat} {ad : Nat → Nat} {V : Nat → Int32} {F : Nat → Nat → Int32}
def rAb (N : Nat → Int32) (t i : Nat) : Int32 := rMatch N (N (26 + 3 * i + 0)) (N (26 + 3 * i + 1)) (N (26 + 3 * i + 1) - nI 1) t
def rCs (N : Nat → Int32) (rt : Int32) (t : Nat) : Nat → Int32
  | 0 => nI 0
  | i + 1 => rCs N rt t i + (if N (26 + 3 * i + 2) = rt then rTens (nI 4 - N (26 + 3 * i + 1)) else nI 0) - (if ¬ rAb N t i = -1 ∧ N (26 + 3 * (rAb N t i).toNatClampNeg + 2) = rt then rTens (nI 4 - N (26 + 3 * i + 1)) else nI 0)
theorem rCs_s {N : Nat → Int32} {rt : Int32} {t i : Nat} : rCs N rt t (i + 1) = rCs N rt t i + (if N (26 + 3 * i + 2) = rt then rTens (nI 4 - N (26 + 3 * i + 1)) else nI 0) - (if ¬ rAb N t i = -1 ∧ N (26 + 3 * (rAb N t i).toNatClampNeg + 2) = rt then rTens (nI 4 - N (26 + 3 * i + 1)) else nI 0) := rfl
theorem bI_nar (p : Prop) [Decidable p] : narrow FieldType.boolean (.int (bI p)) = .int (bI p) := by
  unfold bI
  split <;> rfl
theorem bI_cg {p q : Prop} [Decidable p] [Decidable q] (h : p ↔ q) : bI p = bI q := by
  by_cases z : p
  · rw [bI_t z, bI_t (h.mp z)]
  · rw [bI_f z, bI_f (fun y => z (h.mpr y))]
def tBg (N : Nat → Int32) (rt bg : Int32) : Int32 := rT (bI (nI 0 ≤ rt ∧ rt ≤ nI 5)) (bI (nI 0 ≤ bg ∧ bg ≤ N (8 + 3 * rIx rt + 2) - nI 1)) (nI 1)
def rHt (N : Nat → Int32) (rt : Int32) : Int32 := (N (8 + 3 * rIx rt + 1) - N 0 + nI 23) - (N (8 + 3 * rIx rt + 1) - N 0 + nI 23) / nI 24 * nI 24 + nI 1
def tHf (N : Nat → Int32) (id : Int32) (c t : Nat) : Int32 := rT (bI (¬ rPlace N id c = -1)) (bI (¬ rPlace N id c = -1 ∧ ¬ N (62 + 7 * rIdx N id c + 5) = -1 ∧ rWr N (rIdx N id c) t = false)) (nI 1)
def rMs (N : Nat → Int32) (t : Nat) : Nat → Int32
  | 0 => nI 0
  | i + 1 => rMs N t i + bI (rWr N i t = true)
end S24ref15leantxt
