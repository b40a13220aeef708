section S18ref9leantxt
variable {Γ : gE} {o : Nat} {ad : Nat → Nat} {V : Nat → Int32} {F : Nat → Nat → Int32}
theorem rInto_keep {N : Nat → Int32} {k c b q : Nat} {rt : Int32} (h5 : q ≠ 62 + 7 * k + 5) (h6 : q ≠ 62 + 7 * k + 6) (h2 : q ≠ 8 + 3 * rIx rt + 2) : rInto N k rt c b q = N q := by
  unfold rInto
  rw [pk_un h2, pk_un h6, pk_un h5]
theorem rInto_OK {N : Nat → Int32} {k c : Nat} {rt : Int32} (hOK : rOK N) (hg : rGo N k rt c (rOp N rt) = true) : rOK (rInto N k rt c (rOp N rt)) := by
  have hb := hOK.get rt
  obtain ⟨-, -, -, hn⟩ := of_decide_eq_true hg
  obtain ⟨j, hj, ej⟩ := rBag_in hb.1 hn
  have hx5 := rIx_le rt
  intro r hr
  by_cases e : r = rIx rt
  · subst e
    unfold rInto
    rw [pk_us, hb.2, ej, nI_add]
    unfold rMax
    split
    · exact ⟨j + 1, by omega, rfl⟩
    · exact ⟨rOp N rt, hb.1, rfl⟩
  · rw [rInto_keep (by omega) (by omega) (by omega)]
    exact hOK r hr
def rLR (N : Nat → Int32) (i t : Nat) : Int32 := rRoute N (N (62 + 7 * i + 1)) t
def rSK (N0 : Nat → Int32) (pr : Int32) (c t : Nat) : Nat → (Nat → Int32) × Int32
  | 0 => (N0, nI 0)
  | i + 1 => if (rSK N0 pr c t i).1 (62 + 7 * i + 3) = pr ∧ rGo (rSK N0 pr c t i).1 i (rLR (rSK N0 pr c t i).1 i t) c (rOp (rSK N0 pr c t i).1 (rLR (rSK N0 pr c t i).1 i t)) = true then (rInto (rSK N0 pr c t i).1 i (rLR (rSK N0 pr c t i).1 i t) c (rOp (rSK N0 pr c t i).1 (rLR (rSK N0 pr c t i).1 i t)), (rSK N0 pr c t i).2 + nI 1) else rSK N0 pr c t i
theorem rSK_s {N0 : Nat → Int32} {pr : Int32} {c t i : Nat} : rSK N0 pr c t (i + 1) = if (rSK N0 pr c t i).1 (62 + 7 * i + 3) = pr ∧ rGo (rSK N0 pr c t i).1 i (rLR (rSK N0 pr c t i).1 i t) c (rOp (rSK N0 pr c t i).1 (rLR (rSK N0 pr c t i).1 i t)) = true then (rInto (rSK N0 pr c t i).1 i (rLR (rSK N0 pr c t i).1 i t) c (rOp (rSK N0 pr c t i).1 (rLR (rSK N0 pr c t i).1 i t)), (rSK N0 pr c t i).2 + nI 1) else rSK N0 pr c t i := rfl
theorem rSK_low {N0 : Nat → Int32} {pr : Int32} {c t q : Nat} (hq : q < 8) : ∀ i, (rSK N0 pr c t i).1 q = N0 q
  | 0 => rfl
  | i + 1 => by
    rw [rSK_s]
    split
    · exact (rInto_keep (by omega) (by omega) (by omega)).trans (rSK_low hq i)
    · exact rSK_low hq i
theorem rSK_OK {N0 : Nat → Int32} {pr : Int32} {c t : Nat} (hOK : rOK N0) : ∀ i, rOK (rSK N0 pr c t i).1
  | 0 => hOK
  | i + 1 => by
    rw [rSK_s]
    split
    · next h => exact rInto_OK (rSK_OK hOK i) h.2
    · exact rSK_OK hOK i
def rSA (N : Nat → Int32) (c t : Nat) : (Nat → Int32) × Int32 := ((rSK (rSK N (nI 1) c t c).1 (nI 0) c t c).1, (rSK N (nI 1) c t c).2 + (rSK (rSK N (nI 1) c t c).1 (nI 0) c t c).2)
def rBk (N : Nat → Int32) (p : Nat) : Nat → Int32 := upd (upd (upd (upd N (62 + 7 * p + 4) (N (62 + 7 * p + 4) + nI 1)) (62 + 7 * p + 5) (-1)) 7 (N 7 + nI 1)) 6 (N 6 + (if N (62 + 7 * p + 4) + nI 1 = nI 3 then nI 1 else nI 0))
end S18ref9leantxt
