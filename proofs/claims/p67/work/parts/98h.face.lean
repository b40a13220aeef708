/-! AN OFFICE AS ONE THING -/
section GFc
variable {Γ : gE} {de : Nat} {h h' : gHp} {N : Nat → Int32} {c t o : Nat} {fp : List Nat}
/-- an office at o, row N, with its footprint -/
def gOf (Γ : gE) (de : Nat) (h : gHp) (N : Nat → Int32) (c t o : Nat) (fp : List Nat) : Prop := ∃ la ta ca da ba pa ep fl fq ls ps, gOx Γ de h o N c t la ta ca da ba pa ep fl fq ls ps ∧ fp = gFp o ta ca da ba fl fq ls ∧ fp.Nodup
theorem gOf.kp {S : Nat → Prop} (H : gOf Γ de h N c t o fp) (hk : gKeep S h h') (hd : ∀ q ∈ fp, ¬ S q) (hS : ∀ q, S q → ∀ fs, h q ≠ some (gJ 9 fs)) : gOf Γ de h' N c t o fp := by
  obtain ⟨la, ta, ca, da, ba, pa, ep, fl, fq, ls, ps, H, rfl, nd⟩ := H
  exact ⟨la, ta, ca, da, ba, pa, ep, fl, fq, ls, ps, gOx_kp H hk hd hS, rfl, nd⟩
theorem gOf.kind (H : gOf Γ de h N c t o fp) : ∀ q ∈ fp, ∃ e, h q = some e ∧ ∀ fs, e ≠ gJ 9 fs := by
  obtain ⟨la, ta, ca, da, ba, pa, ep, fl, fq, ls, ps, H, rfl, nd⟩ := H
  exact gFp_kind H
/-- another office stands still when this one is written -/
theorem gOf.other {N2 : Nat → Int32} {c2 t2 o2 : Nat} {fp2 : List Nat} (H : gOf Γ de h N c t o fp) (H2 : gOf Γ de h N2 c2 t2 o2 fp2) (hk : gKeep (fun q => q ∈ fp) h h') (hd : ∀ q ∈ fp2, q ∉ fp) : gOf Γ de h' N2 c2 t2 o2 fp2 :=
  H2.kp hk hd (fun q hq fs e => by
    obtain ⟨e9, z1, z2⟩ := H.kind q hq
    rw [z1] at e
    exact z2 fs (Option.some.inj e))
theorem gOf.mem (H : gOf Γ de h N c t o fp) : o ∈ fp := by
  obtain ⟨la, ta, ca, da, ba, pa, ep, fl, fq, ls, ps, H, rfl, nd⟩ := H
  exact gFp_m.mpr (Or.inl rfl)
/-- what a change leaves is an office again -/
theorem gPost.of {la ta ca da ba pa ep : Nat} {N' : Nat → Int32} {c' t' : Nat} (H : gPost Γ de h o la ta ca da ba pa ep fp N' c' t' h') : ∃ fp', gOf Γ de h' N' c' t' o fp' ∧ (∀ q ∈ fp', q ∈ fp ∨ h q = none) ∧ gKeep (fun q => q ∈ fp) h h' := by
  obtain ⟨fl', fq', ls', ps', H', nd, hf, hk⟩ := H
  exact ⟨_, ⟨la, ta, ca, da, ba, pa, ep, fl', fq', ls', ps', H', rfl, nd⟩, hf, hk⟩
/-- a list of offices' pictures: rows, addresses, footprints, all apart -/
def gOfs (Γ : gE) (de : Nat) (h : gHp) : List ((Nat → Int32) × Nat × List Nat) → Prop
  | [] => True
  | (N, o, fp) :: r => (∃ c t nx, gOf Γ de h N c t o fp ∧ rIV N c t nx ∧ nx < 10000) ∧ (∀ x ∈ r, ∀ q ∈ x.2.2, q ∉ fp) ∧ gOfs Γ de h r
theorem gOfs.kp {S : Nat → Prop} : ∀ {l : List ((Nat → Int32) × Nat × List Nat)}, gOfs Γ de h l → gKeep S h h' → (∀ x ∈ l, ∀ q ∈ x.2.2, ¬ S q) → (∀ q, S q → ∀ fs, h q ≠ some (gJ 9 fs)) → gOfs Γ de h' l
  | [], _, _, _, _ => trivial
  | (N, o, fp) :: r, H, hk, hd, hS => by
    obtain ⟨⟨c, t, nx, h1, h2, h3⟩, h4, h5⟩ := H
    exact ⟨⟨c, t, nx, h1.kp hk (fun q hq => hd _ List.mem_cons_self q hq) hS, h2, h3⟩, h4, gOfs.kp h5 hk (fun x hx q hq => hd x (List.mem_cons_of_mem _ hx) q hq) hS⟩
end GFc
