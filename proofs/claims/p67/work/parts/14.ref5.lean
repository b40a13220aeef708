section S14ref5leantxt
variable {Γ : gE} {o : Nat} {ad : Nat → Nat} {V : Nat → Int32} {F : Nat → Nat → Int32}
def rCp (f g : Nat → Int32) (a b n : Nat) : Nat → Int32 := fun q => if b ≤ q ∧ q < b + n then f (a + (q - b)) else g q
theorem rCp_0 {f g : Nat → Int32} {a b : Nat} : rCp f g a b 0 = g := by
  funext q
  unfold rCp
  exact if_neg (by omega)
theorem rCp_s {f g : Nat → Int32} {a b n : Nat} : upd (rCp f g a b n) (b + n) (f (a + n)) = rCp f g a b (n + 1) := by
  funext q
  unfold upd rCp
  by_cases e : q = b + n
  · rw [if_pos e, if_pos (by omega)]
    congr 1
    omega
  · rw [if_neg e]
    by_cases h : b ≤ q ∧ q < b + n
    · rw [if_pos h, if_pos (by omega)]
    · rw [if_neg h, if_neg (by omega)]
/-- one remembered row to the front of the next: the rows one place down -/
def rSh (f : Nat → Int32) (k : Nat) : Nat → Int32 := fun q => if q < k then f (q + 202) else f q
theorem rSh_s {f : Nat → Int32} {k : Nat} : upd (rSh f k) k (rSh f k (k + 202)) = rSh f (k + 1) := by
  funext q
  unfold upd rSh
  by_cases e : q = k
  · rw [if_pos e, if_neg (by omega), if_pos (by omega), e]
  · rw [if_neg e]
    by_cases h : q < k
    · rw [if_pos h, if_pos (by omega)]
    · rw [if_neg h, if_neg (by omega)]
theorem rSh_0 {f : Nat → Int32} : rSh f 0 = f := by
  funext q
  unfold rSh
  exact if_neg (by omega)
def rMem (h b : Nat → Int32) (r : Nat) : Nat → Int32 := if r = 8 then rCp b (rSh h 1414) 0 1414 202 else rCp b h 0 (r * 202) 202
def rMr (r : Nat) : Nat := if r = 8 then 8 else r + 1
end S14ref5leantxt
