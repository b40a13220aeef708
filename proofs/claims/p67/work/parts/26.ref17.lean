section S26ref17leantxt
variable {Γ : gE} {o : Nat} {ad : Nat → Nat} {V : Nat → Int32} {F : Nat → Nat → Int32}
def wr (L : Nat → Int32) : Nat → List Nat → (Nat → Int32)
  | _, [] => L
  | k, x :: xs => wr (upd L k (nI x)) (k + 1) xs
theorem wr_app {L : Nat → Int32} {k : Nat} {xs ys : List Nat} : wr L k (xs ++ ys) = wr (wr L k xs) (k + xs.length) ys := by
  induction xs generalizing L k with
  | nil => rfl
  | cons x xs ih =>
    show wr (upd L k (nI x)) (k + 1) (xs ++ ys) = _
    rw [ih]
    show _ = wr (wr (upd L k (nI x)) (k + 1) xs) (k + (xs.length + 1)) ys
    rw [show k + 1 + xs.length = k + (xs.length + 1) by omega]
def dgu (n : Nat) : Nat → List Nat
  | 0 => [48 + n / 10 ^ 0 % 10]
  | j + 1 => (48 + n / 10 ^ (j + 1) % 10) :: dgu n j
def tpd (n : Nat) : Nat := if n < 10 then 0 else if n < 100 then 1 else if n < 1000 then 2 else if n < 10000 then 3 else 4
def dgt (n : Nat) : List Nat := dgu n (tpd n)
theorem dgu_len (n j : Nat) : (dgu n j).length = j + 1 := by
  induction j with
  | zero => rfl
  | succ j ih => show (dgu n j).length + 1 = _; rw [ih]
theorem tpd_le (n : Nat) : tpd n ≤ 4 := by
  unfold tpd
  split <;> (try split) <;> (try split) <;> (try split) <;> omega
theorem tpd_9 {n : Nat} (h : n < 10) : tpd n = 0 := if_pos h
theorem tpd_99 {n : Nat} (h : n < 100) : tpd n ≤ 1 := by
  unfold tpd
  split <;> (try split) <;> omega
theorem tpd_c (n : Nat) : (n < 10 ∧ tpd n = 0) ∨ (10 ≤ n ∧ n < 100 ∧ tpd n = 1) ∨ (100 ≤ n ∧ n < 1000 ∧ tpd n = 2) ∨ (1000 ≤ n ∧ n < 10000 ∧ tpd n = 3) ∨ (10000 ≤ n ∧ tpd n = 4) := by
  unfold tpd
  split <;> (try split) <;> (try split) <;> (try split) <;> omega
theorem tpd_iff {n j : Nat} (hn : n < 100000) (hj : j ≤ tpd n) : n / 10 ^ j ≤ 9 ↔ j = tpd n := by
  have h4 := tpd_le n
  have e : j = 0 ∨ j = 1 ∨ j = 2 ∨ j = 3 ∨ j = 4 := by omega
  have z := tpd_c n
  rcases e with rfl | rfl | rfl | rfl | rfl <;> simp only [Nat.pow_zero, Nat.reducePow] <;> omega
theorem pow_lt4 {j : Nat} (h : j ≤ 4) : 0 < 10 ^ j ∧ 10 ^ j < 100000 := by
  have : j = 0 ∨ j = 1 ∨ j = 2 ∨ j = 3 ∨ j = 4 := by omega
  rcases this with rfl | rfl | rfl | rfl | rfl <;> decide
theorem pow_d10 {j : Nat} (h : j ≤ 3) : nI (10 ^ (j + 1)) / nI 10 = nI (10 ^ j) := by
  have := pow_lt4 (j := j + 1) (by omega)
  rw [pk_div (by omega) (by omega) (by omega), Nat.pow_succ, Nat.mul_div_cancel _ (by decide)]
theorem one_d10 : nI (10 ^ 0) / nI 10 = nI 0 := by decide
end S26ref17leantxt
