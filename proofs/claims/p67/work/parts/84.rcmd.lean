section SRc
variable {Γ : gE} {o : Nat} {ad : Nat → Nat} {V : Nat → Int32} {F : Nat → Nat → Int32}
theorem lh_eq {sp n x : Nat} {tx : Nat → Nat} (ht : sp < n → tx sp < 128) (hx : x < 128) : ((if sp < n then nI (tx sp) else -1) = nI x) ↔ (sp < n ∧ tx sp = x) := by
  by_cases h : sp < n
  · rw [if_pos h, nI_eq (by have := ht h; omega) (by omega)]
    exact ⟨fun z => ⟨h, z⟩, fun z => z.2⟩
  · rw [if_neg h]
    exact ⟨fun z => absurd z.symm (nI_nm1 (by omega)), fun z => absurd z.1 h⟩
theorem pnR_w {tx : Nat → Nat} {n w p p' : Nat} {c : pcT} (h : pnR tx n w p = .inr (c, p')) : c.1 = w ∧ (kd2 w = 0 → c.2.2.1 = 0) := by
  unfold pnR at h
  by_cases c1 : (nmv tx n (kd1 w) p 0).2 = 0
  · rw [if_pos c1] at h; cases h
  · rw [if_neg c1] at h
    by_cases c2 : kd2 w = 0
    · rw [if_pos c2] at h
      cases h
      exact ⟨rfl, fun _ => rfl⟩
    · rw [if_neg c2] at h
      by_cases c3 : ¬ (p + (nmv tx n (kd1 w) p 0).2 < n ∧ tx (p + (nmv tx n (kd1 w) p 0).2) = 32)
      · rw [if_pos c3] at h; cases h
      · rw [if_neg c3] at h
        by_cases c4 : (nmv tx n (kd2 w) (p + (nmv tx n (kd1 w) p 0).2 + 1) 0).2 = 0
        · rw [if_pos c4] at h; cases h
        · rw [if_neg c4] at h
          cases h
          exact ⟨rfl, fun z => absurd z c2⟩
def rowOK (f : Nat → Int32) (k : Nat) (c : pcT) : Prop := f (4 * k) = nI c.1 ∧ f (4 * k + 3) = nI c.2.2.2 ∧ (¬ (c.1 = 4 ∧ c.2.2.2 = 0) → f (4 * k + 1) = nI c.2.1) ∧ (¬ kd2 c.1 = 0 → f (4 * k + 2) = nI c.2.2.1)
def rcZ (V : Nat → Int32) (F : Nat → Nat → Int32) (tx : Nat → Nat) (n sp k : Nat) (V1 : Nat → Int32) (F1 : Nat → Nat → Int32) : Prop := (∀ j, j ≠ 19 → F1 j = F j) ∧ (∀ j, j < 15 ∨ 18 < j → V1 j = V j) ∧ V1 17 = nI (k + 1) ∧ (∀ q, q < 4 * k → F1 19 q = F 19 q) ∧ (∀ e, pcR tx n sp = .inl e → V1 16 = nI e) ∧ ∀ c p', pcR tx n sp = .inr (c, p') → V1 16 = -1 ∧ V1 15 = nI p' ∧ rowOK (F1 19) k c
theorem rc_of_rn {V' V1 : Nat → Int32} {F1 : Nat → Nat → Int32} {tx : Nat → Nat} {n w sp sp' k : Nat} (h : rnZ V' (fU (fU F 19 (4 * k) (nI w)) 19 (4 * k + 3) (nI 0)) tx n w sp' k V1 F1) (hR : pcR tx n sp = pnR tx n w sp') (hV : ∀ j, j < 15 ∨ 18 < j → V' j = V j) (h17 : V' 17 = nI (k + 1)) : rcZ V F tx n sp k V1 F1 := by
  obtain ⟨h1, h2, h3, h4, h5⟩ := h
  refine ⟨fun j hj => by rw [h1 j hj, fU_o hj, fU_o hj], fun j hj => by rw [h2 j (by omega) (by omega) (by omega), hV j hj], by rw [h2 17 (by decide) (by decide) (by decide), h17], fun q hq => by rw [h3 q (by omega), fU_s, fU_s, pk_un (by omega), pk_un (by omega)], fun e he => h4 e (by rw [← hR, he]), fun c p' hc => ?_⟩
  rw [hR] at hc
  obtain ⟨a1, a2, a3, a4, a5⟩ := h5 c p' hc
  obtain ⟨b1, b2⟩ := pnR_w hc
  refine ⟨a1, a2, ?_, a4, fun _ => a3, fun z => a5 (by rw [← b1]; exact z)⟩
  rw [h3 (4 * k) (by omega), fU_s, fU_s, pk_un (by omega), pk_us, b1]
theorem rc_no {tx : Nat → Nat} {n sp k e0 : Nat} {a b x : Int32} (h : pcR tx n sp = .inl e0) : rcZ V F tx n sp k (vU (vU (vU V 16 (nI e0)) 15 x) 17 (nI (k + 1))) (fU (fU F 19 (4 * k) a) 19 (4 * k + 3) b) := by
  refine ⟨fun j hj => by rw [fU_o hj, fU_o hj], fun j hj => by unfold vU; rw [if_neg (by omega), if_neg (by omega), if_neg (by omega)], vU_s, fun q hq => by rw [fU_s, fU_s, pk_un (by omega), pk_un (by omega)], fun e he => ?_, fun c p' he => ?_⟩
  · rw [h] at he
    cases he
    rw [vU_n (by decide), vU_n (by decide), vU_s]
  · rw [h] at he
    cases he
theorem rc_44 {tx : Nat → Nat} {n sp k : Nat} (h : pcR tx n sp = .inr ((4, 0, 0, 0), sp + 4)) : rcZ V F tx n sp k (vU (vU (vU V 16 (-1)) 15 (nI (sp + 4))) 17 (nI (k + 1))) (fU (fU F 19 (4 * k) (nI 4)) 19 (4 * k + 3) (nI 0)) := by
  refine ⟨fun j hj => by rw [fU_o hj, fU_o hj], fun j hj => by unfold vU; rw [if_neg (by omega), if_neg (by omega), if_neg (by omega)], vU_s, fun q hq => by rw [fU_s, fU_s, pk_un (by omega), pk_un (by omega)], fun e he => ?_, fun c p' he => ?_⟩
  · rw [h] at he
    cases he
  · rw [h] at he
    cases he
    exact ⟨by rw [vU_n (by decide), vU_n (by decide), vU_s], by rw [vU_n (by decide), vU_s], by rw [fU_s, fU_s, pk_un (by omega), pk_us], by rw [fU_s, pk_us], fun z => absurd ⟨rfl, rfl⟩ z, fun z => absurd rfl z⟩
end SRc
