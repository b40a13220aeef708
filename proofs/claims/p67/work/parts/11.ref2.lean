section S11ref2leantxt
variable {Γ : gE} {o : Nat} {ad : Nat → Nat} {V : Nat → Int32} {F : Nat → Nat → Int32}
theorem n1_0 : (nI 1 = 0) = False := by simp only [eq_iff_iff, iff_false]; decide
theorem n2_0 : (nI 2 = 0) = False := by simp only [eq_iff_iff, iff_false]; decide
theorem n3_0 : (nI 3 = 0) = False := by simp only [eq_iff_iff, iff_false]; decide
theorem n0_0 : (nI 0 = 0) = True := by simp only [eq_iff_iff, iff_true]; decide
def rT (a b c : Int32) : Int32 := if a = 0 then nI 1 else if b = 0 then nI 2 else if c = 0 then nI 3 else nI 0
end S11ref2leantxt
