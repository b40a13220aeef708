/-! THE REFERENCE RUNS A PROGRAM -/
section SRr
def pcK (c : pcT) : Prop := c.1 < 10 ∧ c.2.2.2 ≤ 4 ∧ c.2.1 < 10000 ∧ c.2.2.1 < 100
theorem pnR_K {tx : Nat → Nat} {n w p p' : Nat} {c : pcT} (hw : w < 10) (h : pnR tx n w p = .inr (c, p')) : pcK c := by
  obtain ⟨a1, a2, a3⟩ := nmv_le (tx := tx) (n := n) (k := kd1 w) (p := p) (v := 0)
  obtain ⟨b1, b2, b3⟩ := nmv_le (tx := tx) (n := n) (k := kd2 w) (p := p + (nmv tx n (kd1 w) p 0).2 + 1) (v := 0)
  have k1 : ∀ w, w < 10 → kd1 w ≤ 4 := by decide
  have k2 : ∀ w, w < 10 → kd2 w ≤ 2 := by decide
  have k1 := k1 w hw
  have k2 := k2 w hw
  have p1 : 10 ^ kd1 w ≤ 10 ^ 4 := Nat.pow_le_pow_right (by decide) k1
  have p2 : 10 ^ kd2 w ≤ 10 ^ 2 := Nat.pow_le_pow_right (by decide) k2
  unfold pnR at h
  by_cases c1 : (nmv tx n (kd1 w) p 0).2 = 0
  · rw [if_pos c1] at h; cases h
  · rw [if_neg c1] at h
    by_cases c2 : kd2 w = 0
    · rw [if_pos c2] at h
      cases h
      exact ⟨hw, by show (nmv tx n (kd1 w) p 0).2 ≤ 4; omega, by show (nmv tx n (kd1 w) p 0).1 < 10000; omega, by show 0 < 100; decide⟩
    · rw [if_neg c2] at h
      by_cases c3 : ¬ (p + (nmv tx n (kd1 w) p 0).2 < n ∧ tx (p + (nmv tx n (kd1 w) p 0).2) = 32)
      · rw [if_pos c3] at h; cases h
      · rw [if_neg c3] at h
        by_cases c4 : (nmv tx n (kd2 w) (p + (nmv tx n (kd1 w) p 0).2 + 1) 0).2 = 0
        · rw [if_pos c4] at h; cases h
        · rw [if_neg c4] at h
          cases h
          exact ⟨hw, by show (nmv tx n (kd1 w) p 0).2 ≤ 4; omega, by show (nmv tx n (kd1 w) p 0).1 < 10000; omega, by show (nmv tx n (kd2 w) _ 0).1 < 100; omega⟩
theorem pcR_K {tx : Nat → Nat} {n p p' : Nat} {c : pcT} (h : pcR tx n p = .inr (c, p')) : pcK c := by
  cases e : kd tx n p 10 with
  | none => rw [pcR_no e] at h; cases h
  | some w =>
    obtain ⟨hw, hc⟩ := kd_in e
    by_cases y : w = 4
    · subst y
      rw [pcR_4 e] at h
      by_cases z : p + 4 < n ∧ tx (p + 4) = 32
      · rw [if_pos z] at h
        exact pnR_K (by decide) h
      · rw [if_neg z] at h
        cases h
        exact ⟨by decide, by decide, by decide, by decide⟩
    · rw [pcR_w e y] at h
      exact pnR_K hw h
theorem ppR_K {tx : Nat → Nat} {n : Nat} : ∀ {f p : Nat} {acc cs : List pcT}, (∀ c ∈ acc, pcK c) → ppR tx n f p acc = .inr cs → ∀ c ∈ cs, pcK c
  | 0, p, acc, cs, ha, h => by cases h
  | f + 1, p, acc, cs, ha, h => by
    cases e : pcR tx n p with
    | inl x => rw [ppR_no e] at h; cases h
    | inr x =>
      obtain ⟨c, p'⟩ := x
      rw [ppR_s e] at h
      have ha2 : ∀ y ∈ acc ++ [c], pcK y := by
        intro y hy
        rcases List.mem_append.mp hy with z | z
        · exact ha y z
        · rw [List.mem_singleton.mp z]; exact pcR_K e
      split at h
      · cases h; exact ha2
      · split at h
        · exact ppR_K ha2 h
        · cases h
/-- the commands one by one: the place of the one that fails, or the row they leave -/
def exR (N : Nat → Int32) : List pcT → Nat → Nat ⊕ (Nat → Int32)
  | [], _ => .inr N
  | x :: xs, i => if (dT N (rc N) (rtt N) x).1 = 0 then exR (dT N (rc N) (rtt N) x).2.2 xs (i + 1) else .inl i
theorem exR_s {N : Nat → Int32} {x : pcT} {xs : List pcT} {i : Nat} : exR N (x :: xs) i = if (dT N (rc N) (rtt N) x).1 = 0 then exR (dT N (rc N) (rtt N) x).2.2 xs (i + 1) else .inl i := rfl
theorem exR_G : ∀ {cs : List pcT} {N N' : Nat → Int32} {c t nx i : Nat}, rIV N c t nx → nx + cs.length ≤ 100000 → (∀ x ∈ cs, pcK x) → exR N cs i = .inr N' → ∃ c' t' n', rIV N' c' t' n' ∧ n' ≤ nx + cs.length
  | [], N, N', c, t, nx, i, h, hn, hk, e => by
    cases e
    exact ⟨c, t, nx, h, Nat.le_refl _⟩
  | x :: xs, N, N', c, t, nx, i, h, hn, hk, e => by
    rw [List.length_cons] at hn
    rw [exR_s] at e
    split at e
    · next z =>
      rw [h.c_eq, h.t_eq] at z e
      obtain ⟨c', t', n', a, h1, h2, -, -⟩ := dT_G h (by omega) (hk x List.mem_cons_self).1 z
      obtain ⟨c2, t2, n2, g1, g2⟩ := exR_G h1 (by omega) (fun y hy => hk y (List.mem_cons_of_mem _ hy)) e
      exact ⟨c2, t2, n2, g1, by rw [List.length_cons]; omega⟩
    · cases e
theorem exR_i : ∀ {cs : List pcT} {N : Nat → Int32} {i j : Nat}, exR N cs i = .inl j → i ≤ j ∧ j < i + cs.length
  | [], N, i, j, e => by cases e
  | x :: xs, N, i, j, e => by
    rw [exR_s] at e
    split at e
    · have := exR_i e
      rw [List.length_cons]
      omega
    · cases e
      rw [List.length_cons]
      omega
def runZ (V : Nat → Int32) (F : Nat → Nat → Int32) (R : Nat ⊕ List pcT) (r : Nat) (v : Option Value) (V1 : Nat → Int32) (F1 : Nat → Nat → Int32) : Prop := (∀ j, j < 13 → j ≠ 6 → j ≠ 7 → j ≠ 8 → j ≠ 10 → V1 j = V j) ∧ V1 10 = nI 0 ∧ (∀ j, j ≠ 0 → j ≠ 1 → j ≠ 4 → j ≠ 19 → F1 j = F j) ∧ match R with
  | .inl e => v = some (.int (nI 0)) ∧ V1 13 = nI 1 ∧ V1 7 = nI e ∧ V1 8 = V 8 ∧ V1 6 = V 6 ∧ F1 0 = F 0 ∧ F1 4 = F 4
  | .inr cs => V1 7 = V 7 ∧ match exR (F 0) cs 0 with
    | .inl i => v = some (.int (nI 0)) ∧ V1 13 = nI 2 ∧ V1 8 = nI i ∧ V1 6 = V 6 ∧ F1 0 = F 0 ∧ F1 4 = F 4
    | .inr N' => v = some (.int (nI cs.length)) ∧ V1 13 = nI 0 ∧ V1 8 = V 8 ∧ V1 6 = nI (rMr r) ∧ F1 0 = N' ∧ F1 4 = rMem (F 4) (F 0) r
variable {Γ : gE} {o : Nat} {ad : Nat → Nat} {V : Nat → Int32} {F : Nat → Nat → Int32}
end SRr
