section SRn
variable {Γ : gE} {o : Nat} {ad : Nat → Nat} {V : Nat → Int32} {F : Nat → Nat → Int32}
theorem fU_o {j q i : Nat} {x : Int32} (h : i ≠ j) : fU F j q x i = F i := if_neg h
theorem fU_s {j q : Nat} {x : Int32} : fU F j q x j = upd (F j) q x := by
  funext i
  unfold fU upd
  rw [if_pos rfl]
theorem nmv_0 {tx : Nat → Nat} {n k p v : Nat} : (nmv tx n (k + 1) p v).2 = 0 ↔ ¬ isD tx n p = true := by
  rw [nmv_s]
  by_cases h : isD tx n p = true
  · rw [if_pos h]
    exact ⟨fun z => absurd z (by simp), fun z => absurd h z⟩
  · rw [if_neg h]
    exact ⟨fun _ => h, fun _ => rfl⟩
theorem pnR_A {tx : Nat → Nat} {n w p : Nat} (h : (nmv tx n (kd1 w) p 0).2 = 0) : pnR tx n w p = .inl p := by unfold pnR; rw [if_pos h]
theorem pnR_B0 {tx : Nat → Nat} {n w p : Nat} (h : ¬ (nmv tx n (kd1 w) p 0).2 = 0) (h2 : kd2 w = 0) : pnR tx n w p = .inr ((w, (nmv tx n (kd1 w) p 0).1, 0, (nmv tx n (kd1 w) p 0).2), p + (nmv tx n (kd1 w) p 0).2) := by unfold pnR; rw [if_neg h, if_pos h2]
theorem pnR_B1 {tx : Nat → Nat} {n w p : Nat} (h : ¬ (nmv tx n (kd1 w) p 0).2 = 0) (h2 : ¬ kd2 w = 0) (h3 : ¬ (p + (nmv tx n (kd1 w) p 0).2 < n ∧ tx (p + (nmv tx n (kd1 w) p 0).2) = 32)) : pnR tx n w p = .inl (p + (nmv tx n (kd1 w) p 0).2) := by unfold pnR; rw [if_neg h, if_neg h2, if_pos h3]
theorem pnR_B2 {tx : Nat → Nat} {n w p : Nat} (h : ¬ (nmv tx n (kd1 w) p 0).2 = 0) (h2 : ¬ kd2 w = 0) (h3 : p + (nmv tx n (kd1 w) p 0).2 < n ∧ tx (p + (nmv tx n (kd1 w) p 0).2) = 32) (h4 : (nmv tx n (kd2 w) (p + (nmv tx n (kd1 w) p 0).2 + 1) 0).2 = 0) : pnR tx n w p = .inl (p + (nmv tx n (kd1 w) p 0).2 + 1) := by unfold pnR; rw [if_neg h, if_neg h2, if_neg (fun z => z h3), if_pos h4]
theorem pnR_B3 {tx : Nat → Nat} {n w p : Nat} (h : ¬ (nmv tx n (kd1 w) p 0).2 = 0) (h2 : ¬ kd2 w = 0) (h3 : p + (nmv tx n (kd1 w) p 0).2 < n ∧ tx (p + (nmv tx n (kd1 w) p 0).2) = 32) (h4 : ¬ (nmv tx n (kd2 w) (p + (nmv tx n (kd1 w) p 0).2 + 1) 0).2 = 0) : pnR tx n w p = .inr ((w, (nmv tx n (kd1 w) p 0).1, (nmv tx n (kd2 w) (p + (nmv tx n (kd1 w) p 0).2 + 1) 0).1, (nmv tx n (kd1 w) p 0).2), p + (nmv tx n (kd1 w) p 0).2 + 1 + (nmv tx n (kd2 w) (p + (nmv tx n (kd1 w) p 0).2 + 1) 0).2) := by unfold pnR; rw [if_neg h, if_neg h2, if_neg (fun z => z h3), if_neg h4]
def rnZ (V : Nat → Int32) (F : Nat → Nat → Int32) (tx : Nat → Nat) (n w sp k : Nat) (V1 : Nat → Int32) (F1 : Nat → Nat → Int32) : Prop := (∀ j, j ≠ 19 → F1 j = F j) ∧ (∀ j, j ≠ 15 → j ≠ 16 → j ≠ 18 → V1 j = V j) ∧ (∀ q, q < 4 * k + 1 ∨ 4 * k + 4 ≤ q → F1 19 q = F 19 q) ∧ (∀ e, pnR tx n w sp = .inl e → V1 16 = nI e) ∧ ∀ c p', pnR tx n w sp = .inr (c, p') → V1 16 = -1 ∧ V1 15 = nI p' ∧ F1 19 (4 * k + 1) = nI c.2.1 ∧ F1 19 (4 * k + 3) = nI c.2.2.2 ∧ (¬ kd2 w = 0 → F1 19 (4 * k + 2) = nI c.2.2.1)
theorem rnF {k : Nat} {a c : Int32} : (∀ j, j ≠ 19 → fU (fU F 19 (4 * k + 1) a) 19 (4 * k + 3) c j = F j) ∧ (∀ q, q < 4 * k + 1 ∨ 4 * k + 4 ≤ q → fU (fU F 19 (4 * k + 1) a) 19 (4 * k + 3) c 19 q = F 19 q) ∧ fU (fU F 19 (4 * k + 1) a) 19 (4 * k + 3) c 19 (4 * k + 1) = a ∧ fU (fU F 19 (4 * k + 1) a) 19 (4 * k + 3) c 19 (4 * k + 3) = c := by
  refine ⟨fun j hj => by rw [fU_o hj, fU_o hj], fun q hq => ?_, ?_, ?_⟩
  · rw [fU_s, fU_s, pk_un (by omega), pk_un (by omega)]
  · rw [fU_s, fU_s, pk_un (by omega), pk_us]
  · rw [fU_s, pk_us]
theorem rnF3 {k : Nat} {a c b : Int32} : (∀ j, j ≠ 19 → fU (fU (fU F 19 (4 * k + 1) a) 19 (4 * k + 3) c) 19 (4 * k + 2) b j = F j) ∧ (∀ q, q < 4 * k + 1 ∨ 4 * k + 4 ≤ q → fU (fU (fU F 19 (4 * k + 1) a) 19 (4 * k + 3) c) 19 (4 * k + 2) b 19 q = F 19 q) ∧ fU (fU (fU F 19 (4 * k + 1) a) 19 (4 * k + 3) c) 19 (4 * k + 2) b 19 (4 * k + 1) = a ∧ fU (fU (fU F 19 (4 * k + 1) a) 19 (4 * k + 3) c) 19 (4 * k + 2) b 19 (4 * k + 3) = c ∧ fU (fU (fU F 19 (4 * k + 1) a) 19 (4 * k + 3) c) 19 (4 * k + 2) b 19 (4 * k + 2) = b := by
  refine ⟨fun j hj => by rw [fU_o hj, fU_o hj, fU_o hj], fun q hq => ?_, ?_, ?_, ?_⟩
  · rw [fU_s, fU_s, fU_s, pk_un (by omega), pk_un (by omega), pk_un (by omega)]
  · rw [fU_s, fU_s, fU_s, pk_un (by omega), pk_un (by omega), pk_us]
  · rw [fU_s, fU_s, pk_un (by omega), pk_us]
  · rw [fU_s, pk_us]
end SRn
