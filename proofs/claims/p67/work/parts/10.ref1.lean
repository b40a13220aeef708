section S10ref1leantxt
variable {Γ : gE} {o : Nat} {ad : Nat → Nat} {V : Nat → Int32} {F : Nat → Nat → Int32}
def bI (p : Prop) [Decidable p] : Int32 := if p then nI 1 else nI 0
theorem bI_t {p : Prop} [Decidable p] (h : p) : bI p = nI 1 := if_pos h
theorem bI_f {p : Prop} [Decidable p] (h : ¬ p) : bI p = nI 0 := if_neg h
theorem bI_0 {p : Prop} [Decidable p] : bI p = 0 ↔ ¬ p := by
  unfold bI
  by_cases h : p
  · rw [if_pos h]; exact ⟨fun z => absurd z (by decide), fun z => absurd h z⟩
  · rw [if_neg h]; exact ⟨fun _ => h, fun _ => rfl⟩
theorem bI_n {p : Prop} [Decidable p] : ¬ bI p = 0 ↔ p := by rw [bI_0, Decidable.not_not]
theorem n0n1 : ¬ nI 0 = nI 1 := by decide
theorem vU_s {V : Nat → Int32} {k : Nat} {x : Int32} : vU V k x k = x := if_pos rfl
theorem vU_n {V : Nat → Int32} {k j : Nat} {x : Int32} (h : j ≠ k) : vU V k x j = V j := if_neg h
theorem vU_vU {V : Nat → Int32} {k : Nat} {x y : Int32} : vU (vU V k x) k y = vU V k y := by
  funext j
  unfold vU
  split <;> rfl
def rThr (p q r : Prop) [Decidable p] [Decidable q] [Decidable r] : Int32 := if p then (if q then (if r then nI 0 else nI 3) else nI 2) else nI 1
def rIx (x : Int32) : Nat := if nI 0 ≤ x ∧ x ≤ nI 5 then x.toNatClampNeg else 0
theorem rIx_le (x : Int32) : rIx x ≤ 5 := by
  unfold rIx
  split
  · next h =>
    have h1 := Int32.le_iff_toInt_le.mp h.1
    have h2 := Int32.le_iff_toInt_le.mp h.2
    have e : (nI 5).toInt = 5 := by decide
    have e0 : (nI 0).toInt = 0 := by decide
    have : x.toNatClampNeg = x.toInt.toNat := rfl
    omega
  · omega
theorem rIx_eq {x : Int32} (h : nI 0 ≤ x ∧ x ≤ nI 5) : x = nI (rIx x) := by
  have h1 := Int32.le_iff_toInt_le.mp h.1
  have h2 := Int32.le_iff_toInt_le.mp h.2
  have e : (nI 5).toInt = 5 := by decide
  have e0 : (nI 0).toInt = 0 := by decide
  unfold rIx
  rw [if_pos h]
  apply Int32.toInt_inj.mp
  have : x.toNatClampNeg = x.toInt.toNat := rfl
  rw [nI_toInt (by omega)]
  omega
theorem rIx_n {x : Int32} (h : ¬ (nI 0 ≤ x ∧ x ≤ nI 5)) : rIx x = 0 := if_neg h
def rTens (x : Int32) : Int32 := if x = 0 then nI 1 else if x = nI 1 then nI 10 else if x = nI 2 then nI 100 else if x = nI 3 then nI 1000 else nI 10000
theorem rTens_ne (x : Int32) : ¬ rTens x = 0 := by
  unfold rTens
  split <;> (try split) <;> (try split) <;> (try split) <;> decide
def rPfx (dg ln : Int32) : Prop := (nI 1 ≤ ln ∧ ln ≤ nI 4) ∧ (nI 0 ≤ dg ∧ dg ≤ rTens ln - nI 1)

def rPx (dg ln : Int32) : Bool := decide ((nI 1 ≤ ln ∧ ln ≤ nI 4) ∧ (nI 0 ≤ dg ∧ dg ≤ rTens ln - nI 1))
end S10ref1leantxt
