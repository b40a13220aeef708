section S20ref11leantxt
variable {Γ : gE} {o : Nat} {ad : Nat → Nat} {V : Nat → Int32} {F : Nat → Nat → Int32}
theorem rIx_nI {i : Nat} (h : i ≤ 5) : rIx (nI i) = i := by
  unfold rIx
  rw [if_pos ⟨nI_le (by omega) (by omega), nI_le h (by omega)⟩, nI_clamp (by omega)]
def rc (N : Nat → Int32) : Nat := (N 3).toNatClampNeg
def rtt (N : Nat → Int32) : Nat := (N 4).toNatClampNeg
def rGd (N : Nat → Int32) : Prop := (∃ c, c ≤ 20 ∧ N 3 = nI c) ∧ (∃ t, t ≤ 12 ∧ N 4 = nI t) ∧ rOK N
theorem rGd.c {N : Nat → Int32} (h : rGd N) : rc N ≤ 20 ∧ N 3 = nI (rc N) := by
  obtain ⟨⟨c, h1, h2⟩, -, -⟩ := h
  unfold rc
  rw [h2, nI_clamp (by omega)]
  exact ⟨h1, rfl⟩
theorem rGd.t {N : Nat → Int32} (h : rGd N) : rtt N ≤ 12 ∧ N 4 = nI (rtt N) := by
  obtain ⟨-, ⟨c, h1, h2⟩, -⟩ := h
  unfold rtt
  rw [h2, nI_clamp (by omega)]
  exact ⟨h1, rfl⟩
theorem rDE_g {N : Nat → Int32} (h : rGd N) (i : Nat) (hi : i ≤ 5) : rGd (rDE (nI i) (rDL (nI i) (rtt N) (rc N) N 0 (nI 0))) := by
  have hc := h.c
  obtain ⟨⟨c', a, b⟩, k⟩ := rDL_g (rt := nI i) (t := rtt N) (rc N) 0 (rc N) N (nI 0) (by omega) hc.2
  have hx5 := rIx_le (nI i)
  unfold rDE
  refine ⟨⟨c', by omega, ?_⟩, ⟨rtt N, h.t.1, ?_⟩, fun r hr => ?_⟩
  · rw [pk_un (by omega), pk_un (by omega)]; exact b
  · rw [pk_un (by omega), pk_un (by omega), k 4 (by omega) (by omega) (by omega) (by omega)]; exact h.t.2
  · rw [pk_un (by omega)]
    by_cases e : r = rIx (nI i)
    · subst e
      rw [pk_us]
      exact ⟨0, by omega, rfl⟩
    · rw [pk_un (by omega), k _ (by omega) (by omega) (by omega) (by omega)]
      exact h.2.2 r hr
def rRt (X : (Nat → Int32) × Int32) (i : Nat) : (Nat → Int32) × Int32 := if X.1 (8 + 3 * i + 1) = X.1 0 then (rDE (nI i) (rDL (nI i) (rtt X.1) (rc X.1) X.1 0 (nI 0)), X.2 + (rDL (nI i) (rtt X.1) (rc X.1) X.1 0 (nI 0)).2) else X
theorem rRt_g {X : (Nat → Int32) × Int32} (h : rGd X.1) (i : Nat) (hi : i ≤ 5) : rGd (rRt X i).1 := by
  unfold rRt
  split
  · exact rDE_g h i hi
  · exact h
def rRF : Nat → Nat → (Nat → Int32) × Int32 → (Nat → Int32) × Int32
  | 0, _, X => X
  | n + 1, i, X => rRF n (i + 1) (rRt X i)
theorem rRF_g : ∀ (n i : Nat) (X : (Nat → Int32) × Int32), i + n = 6 → rGd X.1 → rGd (rRF n i X).1
  | 0, _, _, _, h => h
  | n + 1, i, X, e, h => rRF_g n (i + 1) (rRt X i) (by omega) (rRt_g h i (by omega))
def rTick (N : Nat → Int32) : Nat → Int32 := upd (upd N 1 (N 1 + (if N 0 = nI 23 then nI 1 else nI 0))) 0 (N 0 + nI 1 - (N 0 + nI 1) / nI 24 * nI 24)
theorem rTick_g {N : Nat → Int32} (h : rGd N) : rGd (rTick N) := by
  unfold rTick
  refine ⟨⟨rc N, h.c.1, ?_⟩, ⟨rtt N, h.t.1, ?_⟩, fun r hr => ?_⟩
  · rw [pk_un (by omega), pk_un (by omega)]; exact h.c.2
  · rw [pk_un (by omega), pk_un (by omega)]; exact h.t.2
  · rw [pk_un (by omega), pk_un (by omega)]; exact h.2.2 r hr
def rHF : Nat → (Nat → Int32) × Int32 → (Nat → Int32) × Int32
  | 0, X => X
  | n + 1, X => rHF n (rRF 6 0 (rTick X.1, X.2))
theorem rHF_g : ∀ (n : Nat) (X : (Nat → Int32) × Int32), rGd X.1 → rGd (rHF n X).1
  | 0, _, h => h
  | n + 1, X, h => rHF_g n _ (rRF_g 6 0 _ rfl (rTick_g h))
end S20ref11leantxt
