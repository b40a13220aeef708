section S15ref6leantxt
variable {Γ : gE} {o : Nat} {ad : Nat → Nat} {V : Nat → Int32} {F : Nat → Nat → Int32}
def rAcc (N : Nat → Int32) (code w pr : Int32) (c : Nat) : Nat → Int32 :=
  upd (upd (upd (upd (upd (upd (upd (upd (upd N (62 + 7 * c) (N 2)) (62 + 7 * c + 1) code) (62 + 7 * c + 2) w) (62 + 7 * c + 3) pr) (62 + 7 * c + 4) (nI 0)) (62 + 7 * c + 5) (-1)) (62 + 7 * c + 6) (nI 0)) 3 (N 3 + nI 1)) 2 (N 2 + nI 1)
def rAddN (N : Nat → Int32) (dg ln rt : Int32) (t : Nat) : Nat → Int32 := upd (upd (upd (upd N (26 + 3 * t) dg) (26 + 3 * t + 1) ln) (26 + 3 * t + 2) rt) 4 (N 4 + nI 1)
theorem i32_as (x : Int32) : x + nI 1 - nI 1 = x := by
  apply Int32.toBitVec_inj.mp
  simp [nI]
end S15ref6leantxt
