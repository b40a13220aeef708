/-! AN OFFICE COPIED, COMMANDED -/
section GFd
variable {Γ : gE} {de : Nat} {h : gHp} {N : Nat → Int32} {c t o nx : Nat} {fp : List Nat}
theorem gOf.dup {mi : Nat} (hpl : gPall Γ de mi) (H : gOf Γ de h N c t o fp) (I : rIV N c t nx) (hn : nx ≤ 100000) : gC Γ M_X4_duplicate [.ref o] h 9 60 2230 (fun v h' => ∃ b fp', v = some (.ref b) ∧ gOf Γ de h' N c t b fp' ∧ (∀ q ∈ fp', h q = none) ∧ gAll h h') (fun _ _ => False) := by
  obtain ⟨la, ta, ca, da, ba, pa, ep, fl, fq, ls, ps, H, rfl, nd⟩ := H
  refine gC_post (of_duplicate hpl H I.hc I.ht (I.lv hn)) (fun v h' z => ?_) (fun _ _ z => z)
  obtain ⟨b, lb, tb, cb, db, bb, pb, eb, flb, fqb, lsb, z1, z2, z3, z4, z5⟩ := z
  exact ⟨b, _, z1, ⟨lb, tb, cb, db, bb, pb, eb, flb, fqb, lsb, ps, z2, rfl, gNd_to z2 z3⟩, z4, z5⟩
/-- what a change of an office leaves -/
def ofZ (Γ : gE) (de : Nat) (h : gHp) (o : Nat) (fp : List Nat) (nx : Nat) (X : trT) (v : Option Value) (h' : gHp) : Prop := (X.1 = 0 ∧ v = some (.int X.2.1) ∧ ∃ c' t' fp', trG nx c' t' X ∧ gOf Γ de h' X.2.2 c' t' o fp' ∧ (∀ q ∈ fp', q ∈ fp ∨ h q = none) ∧ gKeep (fun q => q ∈ fp) h h') ∨ (¬ X.1 = 0 ∧ (∃ z, v = some (.int z) ∧ z < 0) ∧ h' = h)
end GFd
