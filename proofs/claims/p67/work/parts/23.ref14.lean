section S23ref14leantxt
variable {Γ : gE} {o : Nat} {ad : Nat → Nat} {V : Nat → Int32} {F : Nat → Nat → Int32}
def rTr (N : Nat → Int32) (p : Int32) (c : Nat) : Nat → Int32 × Int32
  | 0 => (p, -1)
  | k + 1 => if N (62 + 7 * (k % c) + 5) = -1 ∧ N (62 + 7 * (k % c) + 3) = (if k < c then nI 1 else nI 0) then ((rTr N p c k).1 + -1, if (rTr N p c k).1 = 0 then N (62 + 7 * (k % c)) else (rTr N p c k).2) else rTr N p c k
theorem rTr_s {N : Nat → Int32} {p : Int32} {c k : Nat} : rTr N p c (k + 1) = if N (62 + 7 * (k % c) + 5) = -1 ∧ N (62 + 7 * (k % c) + 3) = (if k < c then nI 1 else nI 0) then ((rTr N p c k).1 + -1, if (rTr N p c k).1 = 0 then N (62 + 7 * (k % c)) else (rTr N p c k).2) else rTr N p c k := rfl
def rML (N : Nat → Int32) (code : Int32) (t : Nat) : Int32 := if rMatch N code (nI 4) (nI 4) t = -1 then nI 0 else N (26 + 3 * (rMatch N code (nI 4) (nI 4) t).toNatClampNeg + 1)
end S23ref14leantxt
