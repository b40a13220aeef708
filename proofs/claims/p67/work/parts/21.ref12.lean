section S21ref12leantxt
variable {Γ : gE} {o : Nat} {ad : Nat → Nat} {V : Nat → Int32} {F : Nat → Nat → Int32}
def cV (V : Nat → Int32) (τ : Int32) (r : Nat) : Nat → Int32 := if τ = 0 then vU (vU V 13 τ) 6 (nI (rMr r)) else vU V 13 τ
def cF (F : Nat → Nat → Int32) (τ : Int32) (N : Nat → Int32) (r : Nat) : Nat → Nat → Int32 := if τ = 0 then fR (fR (fR F 1 (F 0)) 0 N) 4 (rMem (F 4) (F 0) r) else fR F 1 (F 0)
end S21ref12leantxt
