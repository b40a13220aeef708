/-! A PROGRAM READ: what both readers make of a text -/
section GPa
def kw : Nat → List Nat
  | 0 => [112, 114, 105, 111, 114, 105, 116, 121, 32]
  | 1 => [115, 116, 97, 110, 100, 97, 114, 100, 32]
  | 2 => [112, 114, 101, 102, 105, 120, 32]
  | 3 => [117, 110, 112, 114, 101, 102, 105, 120, 32]
  | 4 => [115, 111, 114, 116]
  | 5 => [112, 108, 97, 99, 101, 32]
  | 6 => [112, 117, 108, 108, 32]
  | 7 => [99, 117, 116, 111, 102, 102, 32]
  | 8 => [100, 101, 112, 97, 114, 116, 117, 114, 101, 32]
  | _ => [104, 111, 117, 114, 115, 32]
def kws (w : Nat) : Nat := ((List.range w).map (fun i => (kw i).length)).sum
def kwn : List Nat := (List.range 10).flatMap kw
theorem kw_ne : ∀ w, w < 10 → ∀ u, u < 10 → w ≠ u → ∃ i, i < 4 ∧ i < (kw w).length ∧ i < (kw u).length ∧ (kw w)[i]? ≠ (kw u)[i]? := by decide +kernel
theorem kw_len : ∀ w, w < 10 → 4 ≤ (kw w).length ∧ (kw w).length ≤ 10 := by decide +kernel
theorem kw_128 : ∀ w, w < 10 → ∀ x ∈ kw w, x < 128 := by decide +kernel
/-- how many letters of a word stand at a place -/
def cm (tx : Nat → Nat) (n : Nat) : List Nat → Nat → Nat
  | [], _ => 0
  | x :: xs, p => if p < n ∧ tx p = x then cm tx n xs (p + 1) + 1 else 0
theorem cm_le {tx : Nat → Nat} {n : Nat} : ∀ {W : List Nat} {p : Nat}, cm tx n W p ≤ W.length ∧ (cm tx n W p = 0 ∨ p + cm tx n W p ≤ n)
  | [], p => ⟨Nat.le_refl _, Or.inl rfl⟩
  | x :: xs, p => by
    unfold cm
    by_cases h : p < n ∧ tx p = x
    · rw [if_pos h]
      obtain ⟨a, b⟩ := cm_le (tx := tx) (n := n) (W := xs) (p := p + 1)
      refine ⟨Nat.succ_le_succ a, Or.inr ?_⟩
      rcases b with b | b
      · rw [b]; omega
      · omega
    · rw [if_neg h]
      exact ⟨Nat.zero_le _, Or.inl rfl⟩
theorem cm_at {tx : Nat → Nat} {n : Nat} : ∀ {W : List Nat} {p i : Nat}, i < cm tx n W p → W[i]? = some (tx (p + i))
  | [], p, i, h => by unfold cm at h; omega
  | x :: xs, p, i, h => by
    unfold cm at h
    by_cases c : p < n ∧ tx p = x
    · rw [if_pos c] at h
      cases i with
      | zero => rw [← c.2]; rfl
      | succ i =>
        have := cm_at (tx := tx) (n := n) (W := xs) (p := p + 1) (i := i) (by omega)
        rw [show p + (i + 1) = p + 1 + i by omega]
        exact this
    · rw [if_neg c] at h
      omega
theorem cm_st {tx : Nat → Nat} {n : Nat} : ∀ {W : List Nat} {p k : Nat} {x : Nat}, k ≤ cm tx n W p → W[k]? = some x → (k < cm tx n W p ↔ p + k < n ∧ tx (p + k) = x)
  | [], p, k, x, h, hx => by cases hx
  | y :: ys, p, k, x, h, hx => by
    unfold cm at h ⊢
    by_cases c : p < n ∧ tx p = y
    · rw [if_pos c] at h ⊢
      cases k with
      | zero =>
        cases hx
        exact ⟨fun _ => c, fun _ => by omega⟩
      | succ k =>
        have := cm_st (tx := tx) (n := n) (W := ys) (p := p + 1) (k := k) (x := x) (by omega) hx
        rw [show p + (k + 1) = p + 1 + k by omega, ← this]
        omega
    · rw [if_neg c] at h ⊢
      have k0 : k = 0 := by omega
      subst k0
      cases hx
      exact ⟨fun z => absurd z (by omega), fun z => absurd z c⟩
/-- two words don't stand at one place -/
theorem cm_two {tx : Nat → Nat} {n w u p : Nat} (hw : w < 10) (hu : u < 10) (hne : w ≠ u) (h : cm tx n (kw w) p = (kw w).length) : cm tx n (kw u) p < (kw w).length ∧ ¬ cm tx n (kw u) p = (kw u).length := by
  obtain ⟨i, i4, i1, i2, i3⟩ := kw_ne w hw u hu hne
  have a := cm_at (tx := tx) (n := n) (W := kw w) (p := p) (i := i) (by omega)
  have b : cm tx n (kw u) p ≤ i := by
    refine Nat.le_of_not_lt (fun z => ?_)
    have := cm_at (tx := tx) (n := n) (W := kw u) (p := p) (i := i) z
    exact i3 (a.trans this.symm)
  exact ⟨by omega, by omega⟩
def kdL (tx : Nat → Nat) (n p : Nat) : Nat → Nat
  | 0 => 0
  | w + 1 => max (kdL tx n p w) (cm tx n (kw w) p)
def kd (tx : Nat → Nat) (n p : Nat) : Nat → Option Nat
  | 0 => none
  | w + 1 => if cm tx n (kw w) p = (kw w).length then some w else kd tx n p w
theorem kdL_s {tx : Nat → Nat} {n p w : Nat} : kdL tx n p (w + 1) = max (kdL tx n p w) (cm tx n (kw w) p) := rfl
theorem kd_s {tx : Nat → Nat} {n p w : Nat} : kd tx n p (w + 1) = if cm tx n (kw w) p = (kw w).length then some w else kd tx n p w := rfl
theorem kd_in {tx : Nat → Nat} {n p : Nat} : ∀ {w u : Nat}, kd tx n p w = some u → u < w ∧ cm tx n (kw u) p = (kw u).length
  | 0, u, h => by cases h
  | w + 1, u, h => by
    rw [kd_s] at h
    by_cases c : cm tx n (kw w) p = (kw w).length
    · rw [if_pos c] at h
      cases h
      exact ⟨by omega, c⟩
    · rw [if_neg c] at h
      have := kd_in h
      exact ⟨by omega, this.2⟩
theorem kd_no {tx : Nat → Nat} {n p : Nat} : ∀ {w : Nat}, kd tx n p w = none → ∀ u, u < w → ¬ cm tx n (kw u) p = (kw u).length
  | 0, _, u, h => by omega
  | w + 1, h, u, hu => by
    rw [kd_s] at h
    by_cases c : cm tx n (kw w) p = (kw w).length
    · rw [if_pos c] at h; cases h
    · rw [if_neg c] at h
      by_cases y : u = w
      · rw [y]; exact c
      · exact kd_no h u (by omega)
theorem kd_some {tx : Nat → Nat} {n p : Nat} : ∀ {w u : Nat}, u < w → w ≤ 10 → cm tx n (kw u) p = (kw u).length → kd tx n p w = some u
  | 0, u, h, _, _ => by omega
  | w + 1, u, h, hw, hc => by
    rw [kd_s]
    by_cases y : u = w
    · subst y
      rw [if_pos hc]
    · rw [if_neg (cm_two (by omega) (by omega) y hc).2]
      exact kd_some (by omega) (by omega) hc
/-- behind the word that stands there nothing is longer -/
theorem kdL_max {tx : Nat → Nat} {n p u : Nat} (hu : u < 10) (hc : cm tx n (kw u) p = (kw u).length) : ∀ w, w ≤ 10 → kdL tx n p w ≤ (kw u).length ∧ (u < w → kdL tx n p w = (kw u).length)
  | 0, _ => ⟨Nat.zero_le _, fun z => absurd z (by omega)⟩
  | w + 1, hw => by
    obtain ⟨a, b⟩ := kdL_max hu hc w (by omega)
    rw [kdL_s]
    by_cases y : w = u
    · subst y
      rw [hc]
      exact ⟨by omega, fun _ => by omega⟩
    · have := (cm_two hu (by omega) (Ne.symm y) hc).1
      exact ⟨by omega, fun z => by have := b (by omega); omega⟩
theorem kdL_le {tx : Nat → Nat} {n p : Nat} (hp : p ≤ n) : ∀ w, w ≤ 10 → p + kdL tx n p w ≤ n ∧ kdL tx n p w ≤ 10
  | 0, _ => ⟨hp, Nat.zero_le _⟩
  | w + 1, hw => by
    obtain ⟨a, b⟩ := kdL_le (tx := tx) hp w (by omega)
    obtain ⟨c, d⟩ := cm_le (tx := tx) (n := n) (W := kw w) (p := p)
    have e := (kw_len w (by omega)).2
    rw [kdL_s]
    rcases d with d | d <;> exact ⟨by omega, by omega⟩
/-- digits -/
def isD (tx : Nat → Nat) (n p : Nat) : Bool := decide (p < n ∧ 48 ≤ tx p ∧ tx p ≤ 57)
theorem isD_t {tx : Nat → Nat} {n p : Nat} : isD tx n p = true ↔ (p < n ∧ 48 ≤ tx p ∧ tx p ≤ 57) := ⟨fun z => of_decide_eq_true z, fun z => decide_eq_true z⟩
def nmv (tx : Nat → Nat) (n : Nat) : Nat → Nat → Nat → Nat × Nat
  | 0, _, v => (v, 0)
  | k + 1, p, v => if isD tx n p = true then ((nmv tx n k (p + 1) (10 * v + (tx p - 48))).1, (nmv tx n k (p + 1) (10 * v + (tx p - 48))).2 + 1) else (v, 0)
theorem nmv_s {tx : Nat → Nat} {n k p v : Nat} : nmv tx n (k + 1) p v = if isD tx n p = true then ((nmv tx n k (p + 1) (10 * v + (tx p - 48))).1, (nmv tx n k (p + 1) (10 * v + (tx p - 48))).2 + 1) else (v, 0) := rfl
theorem nmv_le {tx : Nat → Nat} {n : Nat} : ∀ {k p v : Nat}, (nmv tx n k p v).2 ≤ k ∧ ((nmv tx n k p v).2 = 0 ∨ p + (nmv tx n k p v).2 ≤ n) ∧ (nmv tx n k p v).1 + 1 ≤ (v + 1) * 10 ^ k
  | 0, p, v => ⟨Nat.le_refl _, Or.inl rfl, by show v + 1 ≤ (v + 1) * 10 ^ 0; omega⟩
  | k + 1, p, v => by
    rw [nmv_s]
    by_cases h : isD tx n p = true
    · rw [if_pos h]
      obtain ⟨a, b, c⟩ := nmv_le (tx := tx) (n := n) (k := k) (p := p + 1) (v := 10 * v + (tx p - 48))
      have hd := isD_t.mp h
      refine ⟨Nat.succ_le_succ a, Or.inr ?_, Nat.le_trans c ?_⟩
      · show p + ((nmv tx n k (p + 1) (10 * v + (tx p - 48))).2 + 1) ≤ n
        rcases b with b | b <;> omega
      · rw [Nat.pow_succ, Nat.mul_comm (10 ^ k) 10, ← Nat.mul_assoc]
        exact Nat.mul_le_mul_right _ (by omega)
    · rw [if_neg h]
      refine ⟨Nat.zero_le _, Or.inl rfl, ?_⟩
      show v + 1 ≤ (v + 1) * 10 ^ (k + 1)
      exact Nat.le_mul_of_pos_right _ (Nat.pow_pos (by decide))
def kd1 (w : Nat) : Nat := if w < 4 then 4 else if w = 7 ∨ w = 8 then 1 else 2
def kd2 (w : Nat) : Nat := if w < 2 then 2 else if w = 2 ∨ w = 5 then 1 else if w = 7 ∨ w = 8 then 2 else 0
/-- a command: its kind, its numbers, how many digits the first has -/
abbrev pcT : Type := Nat × Nat × Nat × Nat
/-- the numbers of a command from a place on: the first wrong place, or the command and the place behind -/
def pnR (tx : Nat → Nat) (n w p : Nat) : Nat ⊕ (pcT × Nat) :=
  if (nmv tx n (kd1 w) p 0).2 = 0 then .inl p
  else if kd2 w = 0 then .inr ((w, (nmv tx n (kd1 w) p 0).1, 0, (nmv tx n (kd1 w) p 0).2), p + (nmv tx n (kd1 w) p 0).2)
  else if ¬ (p + (nmv tx n (kd1 w) p 0).2 < n ∧ tx (p + (nmv tx n (kd1 w) p 0).2) = 32) then .inl (p + (nmv tx n (kd1 w) p 0).2)
  else if (nmv tx n (kd2 w) (p + (nmv tx n (kd1 w) p 0).2 + 1) 0).2 = 0 then .inl (p + (nmv tx n (kd1 w) p 0).2 + 1)
  else .inr ((w, (nmv tx n (kd1 w) p 0).1, (nmv tx n (kd2 w) (p + (nmv tx n (kd1 w) p 0).2 + 1) 0).1, (nmv tx n (kd1 w) p 0).2), p + (nmv tx n (kd1 w) p 0).2 + 1 + (nmv tx n (kd2 w) (p + (nmv tx n (kd1 w) p 0).2 + 1) 0).2)
def pcR (tx : Nat → Nat) (n p : Nat) : Nat ⊕ (pcT × Nat) := match kd tx n p 10 with
  | none => .inl (p + kdL tx n p 10)
  | some w => if w = 4 then (if p + 4 < n ∧ tx (p + 4) = 32 then pnR tx n 4 (p + 5) else .inr ((4, 0, 0, 0), p + 4)) else pnR tx n w (p + (kw w).length)
theorem pcR_no {tx : Nat → Nat} {n p : Nat} (h : kd tx n p 10 = none) : pcR tx n p = .inl (p + kdL tx n p 10) := by
  unfold pcR
  rw [h]
theorem pcR_4 {tx : Nat → Nat} {n p : Nat} (h : kd tx n p 10 = some 4) : pcR tx n p = if p + 4 < n ∧ tx (p + 4) = 32 then pnR tx n 4 (p + 5) else .inr ((4, 0, 0, 0), p + 4) := by
  unfold pcR
  rw [h]
  exact if_pos rfl
theorem pcR_w {tx : Nat → Nat} {n p w : Nat} (h : kd tx n p 10 = some w) (h4 : ¬ w = 4) : pcR tx n p = pnR tx n w (p + (kw w).length) := by
  unfold pcR
  rw [h]
  exact if_neg h4
theorem pnR_in {tx : Nat → Nat} {n w p p' : Nat} {c : pcT} (h : pnR tx n w p = .inr (c, p')) : p < p' ∧ p' ≤ n := by
  obtain ⟨a1, a2, a3⟩ := nmv_le (tx := tx) (n := n) (k := kd1 w) (p := p) (v := 0)
  obtain ⟨b1, b2, b3⟩ := nmv_le (tx := tx) (n := n) (k := kd2 w) (p := p + (nmv tx n (kd1 w) p 0).2 + 1) (v := 0)
  unfold pnR at h
  by_cases c1 : (nmv tx n (kd1 w) p 0).2 = 0
  · rw [if_pos c1] at h; cases h
  · rw [if_neg c1] at h
    by_cases c2 : kd2 w = 0
    · rw [if_pos c2] at h
      cases h
      exact ⟨by omega, by omega⟩
    · rw [if_neg c2] at h
      by_cases c3 : ¬ (p + (nmv tx n (kd1 w) p 0).2 < n ∧ tx (p + (nmv tx n (kd1 w) p 0).2) = 32)
      · rw [if_pos c3] at h; cases h
      · rw [if_neg c3] at h
        by_cases c4 : (nmv tx n (kd2 w) (p + (nmv tx n (kd1 w) p 0).2 + 1) 0).2 = 0
        · rw [if_pos c4] at h; cases h
        · rw [if_neg c4] at h
          cases h
          exact ⟨by omega, by omega⟩
theorem pcR_in {tx : Nat → Nat} {n p p' : Nat} {c : pcT} (h : pcR tx n p = .inr (c, p')) : p + 4 ≤ p' ∧ p' ≤ n := by
  cases e : kd tx n p 10 with
  | none => rw [pcR_no e] at h; cases h
  | some w =>
    obtain ⟨hw, hc⟩ := kd_in e
    have hl := kw_len w hw
    have hle := (cm_le (tx := tx) (n := n) (W := kw w) (p := p)).2
    rw [hc] at hle
    by_cases y : w = 4
    · subst y
      have l4 : (kw 4).length = 4 := rfl
      rw [l4] at hle
      rw [pcR_4 e] at h
      by_cases z : p + 4 < n ∧ tx (p + 4) = 32
      · rw [if_pos z] at h
        have := pnR_in h
        exact ⟨by omega, this.2⟩
      · rw [if_neg z] at h
        cases h
        exact ⟨Nat.le_refl _, by omega⟩
    · rw [pcR_w e y] at h
      have := pnR_in h
      exact ⟨by omega, this.2⟩
/-- the whole program -/
def ppR (tx : Nat → Nat) (n : Nat) : Nat → Nat → List pcT → Nat ⊕ List pcT
  | 0, _, _ => .inl 0
  | f + 1, p, acc => match pcR tx n p with
    | .inl e => .inl e
    | .inr (c, p') => if n ≤ p' then .inr (acc ++ [c]) else if tx p' = 59 then ppR tx n f (p' + 1) (acc ++ [c]) else .inl p'
theorem ppR_no {tx : Nat → Nat} {n f p e : Nat} {acc : List pcT} (h : pcR tx n p = .inl e) : ppR tx n (f + 1) p acc = .inl e := by
  unfold ppR
  rw [h]
theorem ppR_s {tx : Nat → Nat} {n f p p' : Nat} {c : pcT} {acc : List pcT} (h : pcR tx n p = .inr (c, p')) : ppR tx n (f + 1) p acc = if n ≤ p' then .inr (acc ++ [c]) else if tx p' = 59 then ppR tx n f (p' + 1) (acc ++ [c]) else .inl p' := by
  conv => lhs; unfold ppR
  rw [h]
end GPa
