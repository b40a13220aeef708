/-! THE REFERENCE MADE -/
section SRi
variable {Γ : gE} {h : gHp}
def gNi (i q : Nat) : Int32 := if 8 ≤ q ∧ q < 8 + 3 * i then (if q % 3 = 2 then nI 24 else if q % 3 = 0 then nI 6 else 0) else 0
theorem gNi_0 : (fun _ => (0 : Int32)) = gNi 0 := by
  funext q
  unfold gNi
  rw [if_neg (by omega)]
theorem gNi_s {i : Nat} : upd (upd (gNi i) (8 + 3 * i) (nI 24)) (8 + 3 * i + 1) (nI 6) = gNi (i + 1) := by
  funext q
  unfold upd gNi
  by_cases h1 : q = 8 + 3 * i + 1
  · rw [if_pos h1, if_pos (by omega), if_neg (by omega), if_pos (by omega)]
  · rw [if_neg h1]
    by_cases h2 : q = 8 + 3 * i
    · rw [if_pos h2, if_pos (by omega), if_pos (by omega)]
    · rw [if_neg h2]
      by_cases h3 : 8 ≤ q ∧ q < 8 + 3 * i
      · rw [if_pos h3, if_pos (show 8 ≤ q ∧ q < 8 + 3 * (i + 1) by omega)]
      · rw [if_neg h3]
        by_cases h4 : 8 ≤ q ∧ q < 8 + 3 * (i + 1)
        · rw [if_pos h4, if_neg (by omega), if_neg (by omega)]
        · rw [if_neg h4]
def rV0 (k : Nat) : Int32 := if k = 7 ∨ k = 8 then -1 else 0
def rF0 (j : Nat) : Nat → Int32 := if j = 0 then gN0 else fun _ => 0
def mD0 : List Value := [.null, .null, .null, .null, .null, .int 0, .int 0, .int 0, .int 0, .null, .int 0, .null, .int 0, .int 0, .int 0, .int 0, .int 0, .int 0, .int 0, .null]
end SRi
