section SRm
variable {Γ : gE} {o : Nat} {ad : Nat → Nat} {V : Nat → Int32} {F : Nat → Nat → Int32} {c t nx : Nat}
theorem rSm_S {N : Nat → Int32} : ∀ {c : Nat}, rLv1 N c → ∃ S, rSm N c = nI S ∧ S ≤ 50 * c
  | 0, _ => ⟨0, rfl, Nat.le_refl _⟩
  | c + 1, h => by
    obtain ⟨S, e, hS⟩ := rSm_S (N := N) (c := c) (fun i hi => h i (by omega))
    obtain ⟨m, cd, w, pr, q, e1, h1, e2, h2, e3, h3, h3', -⟩ := h c (by omega)
    exact ⟨S + w, by show rSm N c + N (62 + 7 * c + 2) = _; rw [e, e3, nI_add], by omega⟩
theorem nI_c1 : ∀ {c : Nat}, c < 128 → ((nI c).toUInt32 % 65536).toInt32 = nI c := by decide +kernel
/-- the mean weight of c letters -/
def rMw (N : Nat → Int32) (c : Nat) : UInt64 := FP.ddiv (FP.i2d (rSm N c)) (FP.i2d (nI c))
theorem rMw_n {N : Nat → Int32} {c nx t : Nat} (h : rIV N c t nx) (hn : nx ≤ 100000) (h0 : ¬ c = 0) : vf_n64 (rMw N c) := by
  obtain ⟨S, e, hS⟩ := rSm_S (h.lv hn)
  have := h.hc
  unfold rMw
  rw [e]
  exact f64_ok (by omega) (by omega) h0
def rSh2 (N : Nat → Int32) : UInt32 := FP.fdiv (FP.i2f (N 5)) (FP.i2f (N 2))
theorem rSh2_n {N : Nat → Int32} {c nx t : Nat} (h : rIV N c t nx) (hn : nx < 10000) (h0 : ¬ nx = 0) : vf_n32 (rSh2 N) := by
  obtain ⟨dl, dd, e5, -, e⟩ := h.sum
  unfold rSh2
  rw [e5, h.n2]
  exact f32_ok (by omega) (by omega) h0
end SRm
