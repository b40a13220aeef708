section SRa
variable {Γ : gE} {o : Nat} {ad : Nat → Nat} {V : Nat → Int32} {F : Nat → Nat → Int32}
/-- a reader that stands behind k commands -/
def raI (tx : Nat → Nat) (n : Nat) (f : Nat → Int32) (R : Nat ⊕ List pcT) (v15 v16 v17 : Int32) (m : Nat) : Prop :=
  (∃ e, R = .inl e ∧ e ≤ 60 ∧ v16 = nI e) ∨ (v16 = -1 ∧ ∃ (acc : List pcT) (p fu : Nat), v15 = nI p ∧ v17 = nI acc.length ∧ p ≤ n ∧ n < p + m ∧ n < p + fu ∧ 5 * acc.length ≤ p + 1 ∧ (∀ i c, acc[i]? = some c → rowOK f i c) ∧ R = (if n ≤ p then .inr acc else if tx p = 59 then ppR tx n fu (p + 1) acc else .inl p))
theorem pcR_e {tx : Nat → Nat} {n p e : Nat} (hp : p ≤ n) (h : pcR tx n p = .inl e) : e ≤ n := by
  have key : ∀ {w q e : Nat}, q ≤ n → pnR tx n w q = .inl e → e ≤ n := by
    intro w q e hq h
    obtain ⟨a1, a2, a3⟩ := nmv_le (tx := tx) (n := n) (k := kd1 w) (p := q) (v := 0)
    unfold pnR at h
    by_cases c1 : (nmv tx n (kd1 w) q 0).2 = 0
    · rw [if_pos c1] at h; cases h; exact hq
    · rw [if_neg c1] at h
      by_cases c2 : kd2 w = 0
      · rw [if_pos c2] at h; cases h
      · rw [if_neg c2] at h
        by_cases c3 : ¬ (q + (nmv tx n (kd1 w) q 0).2 < n ∧ tx (q + (nmv tx n (kd1 w) q 0).2) = 32)
        · rw [if_pos c3] at h; cases h; omega
        · rw [if_neg c3] at h
          have c3' := Decidable.not_not.mp c3
          by_cases c4 : (nmv tx n (kd2 w) (q + (nmv tx n (kd1 w) q 0).2 + 1) 0).2 = 0
          · rw [if_pos c4] at h; cases h; omega
          · rw [if_neg c4] at h; cases h
  cases hk : kd tx n p 10 with
  | none =>
    rw [pcR_no hk] at h
    have he := Sum.inl.inj h
    rw [← he]
    exact (kdL_le hp 10 (Nat.le_refl _)).1
  | some w =>
    obtain ⟨hw, hc⟩ := kd_in hk
    have hl := kw_len w hw
    have hle := (cm_le (tx := tx) (n := n) (W := kw w) (p := p)).2
    rw [hc] at hle
    by_cases y : w = 4
    · subst y
      have l4 : (kw 4).length = 4 := rfl
      rw [l4] at hle
      rw [pcR_4 hk] at h
      by_cases z : p + 4 < n ∧ tx (p + 4) = 32
      · rw [if_pos z] at h
        exact key (by omega) h
      · rw [if_neg z] at h; cases h
    · rw [pcR_w hk y] at h
      exact key (by omega) h
theorem rowOK_c {f g : Nat → Int32} {k : Nat} {c : pcT} (h : rowOK f k c) (e : ∀ q, 4 * k ≤ q → q < 4 * k + 4 → g q = f q) : rowOK g k c :=
  ⟨by rw [e _ (by omega) (by omega)]; exact h.1, by rw [e _ (by omega) (by omega)]; exact h.2.1, fun z => by rw [e _ (by omega) (by omega)]; exact h.2.2.1 z, fun z => by rw [e _ (by omega) (by omega)]; exact h.2.2.2 z⟩
/-- one more command read -/
theorem raI_c {tx : Nat → Nat} {n fu p m : Nat} {acc : List pcT} {V1 : Nat → Int32} {F1 : Nat → Nat → Int32} (hn : n ≤ 60) (hp : p ≤ n) (hm : n < p + m + 1) (hf : n < p + fu + 1) (h5 : 5 * acc.length ≤ p) (hrow : ∀ i c, acc[i]? = some c → rowOK (F 19) i c) (h : rcZ V F tx n p acc.length V1 F1) : raI tx n (F1 19) (ppR tx n (fu + 1) p acc) (V1 15) (V1 16) (V1 17) m := by
  obtain ⟨h1, h2, h3, h4, h5', h6⟩ := h
  cases hc : pcR tx n p with
  | inl e =>
    have := pcR_e hp hc
    exact Or.inl ⟨e, ppR_no hc, by omega, h5' e hc⟩
  | inr cp =>
    obtain ⟨c, p'⟩ := cp
    obtain ⟨a1, a2, a3⟩ := h6 c p' hc
    have hin := pcR_in hc
    refine Or.inr ⟨a1, acc ++ [c], p', fu, a2, by rw [h3, List.length_append]; rfl, hin.2, by omega, by omega, by rw [List.length_append]; show 5 * (acc.length + 1) ≤ _; omega, ?_, ppR_s hc⟩
    intro i c' hi
    by_cases hl : i < acc.length
    · rw [List.getElem?_append_left hl] at hi
      exact rowOK_c (hrow i c' hi) (fun q _ hq => h4 q (by omega))
    · rw [List.getElem?_append_right (by omega)] at hi
      have hi0 : i = acc.length := by
        rcases Nat.lt_or_ge (i - acc.length) 1 with z | z
        · omega
        · rw [List.getElem?_eq_none (by simpa using z)] at hi; cases hi
      subst hi0
      rw [Nat.sub_self] at hi
      cases hi
      exact a3
def raZ (V : Nat → Int32) (F : Nat → Nat → Int32) (tx : Nat → Nat) (n : Nat) (V1 : Nat → Int32) (F1 : Nat → Nat → Int32) : Prop := (∀ j, j ≠ 19 → F1 j = F j) ∧ (∀ j, j < 14 → j ≠ 10 → V1 j = V j) ∧ V1 10 = nI 0 ∧ (∀ e, ppR tx n (n + 1) 0 [] = .inl e → e ≤ 60 ∧ V1 16 = nI e) ∧ ∀ cs, ppR tx n (n + 1) 0 [] = .inr cs → V1 16 = -1 ∧ V1 17 = nI cs.length ∧ cs.length ≤ 12 ∧ ∀ i c, cs[i]? = some c → rowOK (F1 19) i c
end SRa
