section S27ref18leantxt
variable {Γ : gE} {o : Nat} {ad : Nat → Nat} {V : Nat → Int32} {F : Nat → Nat → Int32}
def fmA : Option (Nat × Nat) → List Nat
  | none => []
  | some (a, b) => [32] ++ [114] ++ dgt a ++ [46] ++ dgt b
def fmQ (q : Nat) : List Nat := if q = 0 then [] else [32] ++ [42] ++ dgt q
def fmt (pr m cd w : Nat) (A : Option (Nat × Nat)) (q : Nat) : List Nat := [if pr = 1 then 80 else 83] ++ dgt m ++ [58] ++ dgu cd 3 ++ [32] ++ dgt w ++ [103] ++ fmA A ++ fmQ q
theorem dgt_len (n : Nat) : (dgt n).length = tpd n + 1 := dgu_len n _
theorem fR_n0 {F : Nat → Nat → Int32} {g : Nat → Int32} : fR F 11 g 0 = F 0 := rfl
theorem wr_nil {L : Nat → Int32} {k : Nat} : wr L k [] = L := rfl
theorem wr_at {L : Nat → Int32} {k : Nat} {xs ys : List Nat} (h : k = xs.length) : wr (wr L 0 xs) k ys = wr L 0 (xs ++ ys) := by
  rw [wr_app, h, Nat.zero_add]
theorem wr_eqk {L : Nat → Int32} {k k' : Nat} {l : List Nat} (e : k = k') : wr L k l = wr L k' l := by rw [e]
end S27ref18leantxt
