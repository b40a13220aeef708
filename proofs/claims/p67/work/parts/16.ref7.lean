section S16ref7leantxt
variable {Γ : gE} {o : Nat} {ad : Nat → Nat} {V : Nat → Int32} {F : Nat → Nat → Int32}
theorem rT_iff (a b c : Int32) : rT a b c = 0 ↔ (¬ a = 0 ∧ ¬ b = 0 ∧ ¬ c = 0) := by
  unfold rT
  split
  · next h => exact ⟨fun z => absurd z (by decide), fun z => absurd h z.1⟩
  · next h =>
    split
    · next h2 => exact ⟨fun z => absurd z (by decide), fun z => absurd h2 z.2.1⟩
    · next h2 =>
      split
      · next h3 => exact ⟨fun z => absurd z (by decide), fun z => absurd h3 z.2.2⟩
      · next h3 => exact ⟨fun _ => ⟨h, h2, h3⟩, fun _ => by decide⟩
def rShf (N : Nat → Int32) (a k w : Nat) : Nat → Int32 := fun q => if a ≤ q ∧ q < k then N (q + w) else N q
theorem rShf_s {N : Nat → Int32} {a k w : Nat} (h : a ≤ k) (hw : 0 < w) : upd (rShf N a k w) k (rShf N a k w (k + w)) = rShf N a (k + 1) w := by
  funext q
  unfold upd rShf
  by_cases e : q = k
  · rw [if_pos e, if_neg (by omega), if_pos (by omega), e]
  · rw [if_neg e]
    by_cases h2 : a ≤ q ∧ q < k
    · rw [if_pos h2, if_pos (by omega)]
    · rw [if_neg h2, if_neg (by omega)]
theorem rShf_0 {N : Nat → Int32} {a w : Nat} : rShf N a a w = N := by
  funext q
  unfold rShf
  exact if_neg (by omega)
theorem rShf_lo {N : Nat → Int32} {a k w q : Nat} (h : q < a) : rShf N a k w q = N q := by
  unfold rShf
  exact if_neg (by omega)
def rRm (N : Nat → Int32) (p : Nat) : Nat → Int32 := upd (rShf N (26 + 3 * p) 59 3) 4 (N 4 - nI 1)
def rLv (N : Nat → Int32) (p : Nat) : Nat → Int32 := upd (rShf N (62 + 7 * p) 195 7) 3 (N 3 - nI 1)
end S16ref7leantxt
