section SRa
variable {Γ : gE} {o : Nat} {ad : Nat → Nat} {V : Nat → Int32} {F : Nat → Nat → Int32}
/-- a reader that stands behind k commands -/
def raI (tx : Nat → Nat) (n : Nat) (f : Nat → Int32) (R : Nat ⊕ List pcT) (v15 v16 v17 : Int32) (m : Nat) : Prop :=
  (∃ e, R = .inl e ∧ e ≤ 60 ∧ v16 = nI e) ∨ (v16 = -1 ∧ ∃ (acc : List pcT) (p fu : Nat), v15 = nI p ∧ v17 = nI acc.length ∧ p ≤ n ∧ n < p + m ∧ n < p + fu ∧ 5 * acc.length ≤ p + 1 ∧ (∀ i c, acc[i]? = some c → rowOK f i c) ∧ R = (if n ≤ p then .inr acc else if tx p = 59 then ppR tx n fu (p + 1) acc else .inl p))
theorem pcR_e {tx : Nat → Nat} {n p e : Nat} (hp : p ≤ n) (h : pcR tx n p = .inl e) : e ≤ n := by
  have key : ∀ {w q e : Nat}, q ≤ n → pnR tx n w q = .inl e → e ≤ n := by
    intro w q e hq h
    obtain ⟨a1, a2, a3⟩ := nmv_le (tx := tx) (n := n) (k := kd1 w) (p := q) (v := 0)
    unfold pnR at h
    by_cases c1 : (nmv tx n (kd1 w) q 0).2 = 0
    · rw [if_pos c1] at h; cases h; exact hq
    · rw [if_neg c1] at h
      by_cases c2 : kd2 w = 0
      · rw [if_pos c2] at h; cases h
      · rw [if_neg c2] at h
        by_cases c3 : ¬ (q + (nmv tx n (kd1 w) q 0).2 < n ∧ tx (q + (nmv tx n (kd1 w) q 0).2) = 32)
        · rw [if_pos c3] at h; cases h; omega
        · rw [if_neg c3] at h
          have c3' := Decidable.not_not.mp c3
          by_cases c4 : (nmv tx n (kd2 w) (q + (nmv tx n (kd1 w) q 0).2 + 1) 0).2 = 0
          · rw [if_pos c4] at h; cases h; omega
          · rw [if_neg c4] at h; cases h
  cases hk : kd tx n p 10 with
  | none =>
    rw [pcR_no hk] at h
    have he := Sum.inl.inj h
    rw [← he]
    exact (kdL_le hp 10 (Nat.le_refl _)).1
  | some w =>
    obtain ⟨hw, hc⟩ := kd_in hk
    have hl := kw_len w hw
    have hle := (cm_le (tx := tx) (n := n) (W := kw w) (p := p)).2
    rw [hc] at hle
    by_cases y : w = 4
    · subst y
      have l4 : (kw 4).length = 4 := rfl
      rw [l4] at hle
      rw [pcR_4 hk] at h
      by_cases z : p + 4 < n ∧ tx (p + 4) = 32
      · rw [if_pos z] at h
        exact key (by omega) h
      · rw [if_neg z] at h; cases h
    · rw [pcR_w hk y] at h
      exact key (by omega) h
theorem rowOK_c {f g : Nat → Int32} {k : Nat} {c : pcT} (h : rowOK f k c) (e : ∀ q, 4 * k ≤ q → q < 4 * k + 4 → g q = f q) : rowOK g k c :=
  ⟨by rw [e _ (by omega) (by omega)]; exact h.1, by rw [e _ (by omega) (by omega)]; exact h.2.1, fun z => by rw [e _ (by omega) (by omega)]; exact h.2.2.1 z, fun z => by rw [e _ (by omega) (by omega)]; exact h.2.2.2 z⟩
/-- one more command read -/
theorem raI_c {tx : Nat → Nat} {n fu p m : Nat} {acc : List pcT} {V1 : Nat → Int32} {F1 : Nat → Nat → Int32} (hn : n ≤ 60) (hp : p ≤ n) (hm : n < p + m + 1) (hf : n < p + fu + 1) (h5 : 5 * acc.length ≤ p) (hrow : ∀ i c, acc[i]? = some c → rowOK (F 19) i c) (h : rcZ V F tx n p acc.length V1 F1) : raI tx n (F1 19) (ppR tx n (fu + 1) p acc) (V1 15) (V1 16) (V1 17) m := by
  obtain ⟨h1, h2, h3, h4, h5', h6⟩ := h
  cases hc : pcR tx n p with
  | inl e =>
    have := pcR_e hp hc
    exact Or.inl ⟨e, ppR_no hc, by omega, h5' e hc⟩
  | inr cp =>
    obtain ⟨c, p'⟩ := cp
    obtain ⟨a1, a2, a3⟩ := h6 c p' hc
    have hin := pcR_in hc
    refine Or.inr ⟨a1, acc ++ [c], p', fu, a2, by rw [h3, List.length_append]; rfl, hin.2, by omega, by omega, by rw [List.length_append]; show 5 * (acc.length + 1) ≤ _; omega, ?_, ppR_s hc⟩
    intro i c' hi
    by_cases hl : i < acc.length
    · rw [List.getElem?_append_left hl] at hi
      exact rowOK_c (hrow i c' hi) (fun q _ hq => h4 q (by omega))
    · rw [List.getElem?_append_right (by omega)] at hi
      have hi0 : i = acc.length := by
        rcases Nat.lt_or_ge (i - acc.length) 1 with z | z
        · omega
        · rw [List.getElem?_eq_none (by simpa using z)] at hi; cases hi
      subst hi0
      rw [Nat.sub_self] at hi
      cases hi
      exact a3
def raZ (V : Nat → Int32) (F : Nat → Nat → Int32) (tx : Nat → Nat) (n : Nat) (V1 : Nat → Int32) (F1 : Nat → Nat → Int32) : Prop := (∀ j, j ≠ 19 → F1 j = F j) ∧ (∀ j, j < 14 → j ≠ 10 → V1 j = V j) ∧ V1 10 = nI 0 ∧ (∀ e, ppR tx n (n + 1) 0 [] = .inl e → e ≤ 60 ∧ V1 16 = nI e) ∧ ∀ cs, ppR tx n (n + 1) 0 [] = .inr cs → V1 16 = -1 ∧ V1 17 = nI cs.length ∧ cs.length ≤ 12 ∧ ∀ i c, cs[i]? = some c → rowOK (F1 19) i c
theorem r_readsAll {d1 d10 : Nat} {vf : Value} (hp : gPsb Γ d1 d10 vf) {nm : Nat} (hnm : gPnm Γ nm) {n : Nat} {tx : Nat → Nat} (e10 : V 10 = nI n) (hn : n ≤ 60) (hT : ∀ i, i < n → F 9 i = nI (tx i) ∧ tx i < 128) : mE Γ o ad M_X10_readsAll [] V F 6 (fun v V1 F1 => v = none ∧ raZ V F tx n V1 F1) := by
  have loop : ∀ m (U : Nat → Int32) (W : Nat → Nat → Int32), (∀ j, j ≠ 19 → W j = F j) → (∀ j, j < 14 → j ≠ 10 → U j = V j) → U 10 = nI 0 → U 14 = nI n → raI tx n (W 19) (ppR tx n (n + 1) 0 []) (U 15) (U 16) (U 17) m → mH Γ o ad M_X10_readsAll 6 (fun v V1 F1 => v = none ∧ raZ V F tx n V1 F1) 32 [some (.ref o), none] [] U W := by
    intro m
    induction m with
    | zero =>
      intro U W hW hU h10 h14 hI
      rcases hI with ⟨e, hR, he, e16⟩ | ⟨e16, acc, p, fu, e15, e17, hpn, hm, hfu, h5, hrow, hR⟩
      · refine n_blk [(.aload_n 0, .null)] (Nat.le_of_ble_eq_true rfl) (by decide +kernel) ?_
        refine gx_aload_n_0 ((gx_nil ?_))
        refine n_getI fX10_221 (by decide +kernel) rfl ?_
        try simp only [vU_s, vU_n, ne_eq, Nat.reduceEqDiff, not_false_eq_true, e16, nI_add, pk_mul, Nat.add_zero, Nat.zero_add, Nat.reduceAdd, Nat.reduceMul]
        refine n_blk [(.iconst (-1), .int (-1))] (Nat.le_of_ble_eq_true rfl) (by decide +kernel) ?_
        refine gx_iconst ((gx_nil ?_))
        refine n_icmp_ne (off := 38) (tgt := 75) (by decide +kernel) (by decide) (fun c37 => ?_) (fun c37 => ?_)
        · try simp only [bI_0, Decidable.not_not] at c37
          refine n_end none rfl ⟨by decide +kernel, rfl⟩ ?_
          exact ⟨rfl, hW, hU, h10, fun e' he' => (by rw [hR] at he'; cases he'; exact ⟨he, e16⟩), fun cs hcs => (by rw [hR] at hcs; cases hcs)⟩
        · try simp only [bI_0, Decidable.not_not] at c37
          exact absurd c37 (nI_nm1 (by omega))
      · omega
    | succ m ih =>
      intro U W hW hU h10 h14 hI
      rcases hI with ⟨e, hR, he, e16⟩ | ⟨e16, acc, p, fu, e15, e17, hpn, hm, hfu, h5, hrow, hR⟩
      · refine n_blk [(.aload_n 0, .null)] (Nat.le_of_ble_eq_true rfl) (by decide +kernel) ?_
        refine gx_aload_n_0 ((gx_nil ?_))
        refine n_getI fX10_221 (by decide +kernel) rfl ?_
        try simp only [vU_s, vU_n, ne_eq, Nat.reduceEqDiff, not_false_eq_true, e16, nI_add, pk_mul, Nat.add_zero, Nat.zero_add, Nat.reduceAdd, Nat.reduceMul]
        refine n_blk [(.iconst (-1), .int (-1))] (Nat.le_of_ble_eq_true rfl) (by decide +kernel) ?_
        refine gx_iconst ((gx_nil ?_))
        refine n_icmp_ne (off := 38) (tgt := 75) (by decide +kernel) (by decide) (fun c37 => ?_) (fun c37 => ?_)
        · try simp only [bI_0, Decidable.not_not] at c37
          refine n_end none rfl ⟨by decide +kernel, rfl⟩ ?_
          exact ⟨rfl, hW, hU, h10, fun e' he' => (by rw [hR] at he'; cases he'; exact ⟨he, e16⟩), fun cs hcs => (by rw [hR] at hcs; cases hcs)⟩
        · try simp only [bI_0, Decidable.not_not] at c37
          exact absurd c37 (nI_nm1 (by omega))
      · by_cases hge : n ≤ p
        · refine n_blk [(.aload_n 0, .null)] (Nat.le_of_ble_eq_true rfl) (by decide +kernel) ?_
          refine gx_aload_n_0 ((gx_nil ?_))
          refine n_getI fX10_221 (by decide +kernel) rfl ?_
          try simp only [vU_s, vU_n, ne_eq, Nat.reduceEqDiff, not_false_eq_true, e16, e15, h14, nI_add, pk_mul, Nat.add_zero, Nat.zero_add, Nat.reduceAdd, Nat.reduceMul]
          refine n_blk [(.iconst (-1), .int (-1))] (Nat.le_of_ble_eq_true rfl) (by decide +kernel) ?_
          refine gx_iconst ((gx_nil ?_))
          refine n_icmp_ne (off := 38) (tgt := 75) (by decide +kernel) (by decide) (fun c37 => ?_) (fun c37 => ?_)
          · try simp only [bI_0, Decidable.not_not] at c37
            exact absurd trivial c37
          · try simp only [bI_0, Decidable.not_not] at c37
            refine n_blk [(.aload_n 0, .null)] (Nat.le_of_ble_eq_true rfl) (by decide +kernel) ?_
            refine gx_aload_n_0 ((gx_nil ?_))
            refine n_getI fX10_215 (by decide +kernel) rfl ?_
            try simp only [vU_s, vU_n, ne_eq, Nat.reduceEqDiff, not_false_eq_true, e16, e15, h14, nI_add, pk_mul, Nat.add_zero, Nat.zero_add, Nat.reduceAdd, Nat.reduceMul]
            refine n_blk [(.aload_n 0, .null)] (Nat.le_of_ble_eq_true rfl) (by decide +kernel) ?_
            refine gx_aload_n_0 ((gx_nil ?_))
            refine n_getI fX10_218 (by decide +kernel) rfl ?_
            try simp only [vU_s, vU_n, ne_eq, Nat.reduceEqDiff, not_false_eq_true, e16, e15, h14, nI_add, pk_mul, Nat.add_zero, Nat.zero_add, Nat.reduceAdd, Nat.reduceMul]
            refine n_icmp_ge (off := 27) (tgt := 75) (by decide +kernel) (by decide) (fun c48 => ?_) (fun c48 => ?_)
            · try simp only [bI_0, Decidable.not_not] at c48
              refine n_end none rfl ⟨by decide +kernel, rfl⟩ ?_
              exact ⟨rfl, hW, hU, h10, fun e' he' => (by rw [hR, if_pos hge] at he'; cases he'), fun cs hcs => (by rw [hR, if_pos hge] at hcs; cases hcs; exact ⟨e16, e17, by omega, hrow⟩)⟩
            · try simp only [bI_0, Decidable.not_not] at c48
              exact absurd (nI_le hge (by omega)) c48
        · have hlt : p < n := by omega
          by_cases h59 : tx p = 59
          · refine n_blk [(.aload_n 0, .null)] (Nat.le_of_ble_eq_true rfl) (by decide +kernel) ?_
            refine gx_aload_n_0 ((gx_nil ?_))
            refine n_getI fX10_221 (by decide +kernel) rfl ?_
            try simp only [vU_s, vU_n, ne_eq, Nat.reduceEqDiff, not_false_eq_true, e16, e15, h14, nI_add, pk_mul, Nat.add_zero, Nat.zero_add, Nat.reduceAdd, Nat.reduceMul]
            refine n_blk [(.iconst (-1), .int (-1))] (Nat.le_of_ble_eq_true rfl) (by decide +kernel) ?_
            refine gx_iconst ((gx_nil ?_))
            refine n_icmp_ne (off := 38) (tgt := 75) (by decide +kernel) (by decide) (fun c37 => ?_) (fun c37 => ?_)
            · try simp only [bI_0, Decidable.not_not] at c37
              exact absurd trivial c37
            · try simp only [bI_0, Decidable.not_not] at c37
              refine n_blk [(.aload_n 0, .null)] (Nat.le_of_ble_eq_true rfl) (by decide +kernel) ?_
              refine gx_aload_n_0 ((gx_nil ?_))
              refine n_getI fX10_215 (by decide +kernel) rfl ?_
              try simp only [vU_s, vU_n, ne_eq, Nat.reduceEqDiff, not_false_eq_true, e16, e15, h14, nI_add, pk_mul, Nat.add_zero, Nat.zero_add, Nat.reduceAdd, Nat.reduceMul]
              refine n_blk [(.aload_n 0, .null)] (Nat.le_of_ble_eq_true rfl) (by decide +kernel) ?_
              refine gx_aload_n_0 ((gx_nil ?_))
              refine n_getI fX10_218 (by decide +kernel) rfl ?_
              try simp only [vU_s, vU_n, ne_eq, Nat.reduceEqDiff, not_false_eq_true, e16, e15, h14, nI_add, pk_mul, Nat.add_zero, Nat.zero_add, Nat.reduceAdd, Nat.reduceMul]
              refine n_icmp_ge (off := 27) (tgt := 75) (by decide +kernel) (by decide) (fun c48 => ?_) (fun c48 => ?_)
              · try simp only [bI_0, Decidable.not_not] at c48
                exact absurd c48 (nI_ge hlt (by omega))
              · try simp only [bI_0, Decidable.not_not] at c48
                refine n_blk [(.aload_n 0, .null), (.bipush 59, .int (nI 59)), (.bipush 59, .int (nI 59))] (Nat.le_of_ble_eq_true rfl) (by decide +kernel) ?_
                refine gx_aload_n_0 (gx_bipush (gx_bipush ((gx_nil ?_))))
                refine n_call kX10_227 (r_reads_ok (V := U) (F := W) e15 h14 hpn hn (fun i hi => by rw [hW 9 (by decide)]; exact hT i hi) (lo := 59) (hi := 59) (by decide) (by decide) e16 ⟨hlt, by omega, by omega⟩) (by decide +kernel) rfl rfl (Nat.le_of_ble_eq_true rfl) (Nat.le_of_ble_eq_true rfl) (Nat.le_of_ble_eq_true rfl) rfl ?_
                try simp only [Option.toList_some, Option.toList_none, List.cons_append, List.nil_append, bI_0, n1_0, n0_0, Decidable.not_not, not_true_eq_false, not_false_eq_true, e16, e15, h14, nI_add, pk_mul, Nat.add_zero, Nat.zero_add, Nat.reduceAdd, Nat.reduceMul]
                refine n_blk [(.istore_n 1, .null), (.aload_n 0, .null)] (Nat.le_of_ble_eq_true rfl) (by decide +kernel) ?_
                refine gx_istore_n_1 rfl (gx_aload_n_0 ((gx_nil ?_)))
                refine n_getI fX10_221 (by decide +kernel) rfl ?_
                try simp only [vU_s, vU_n, ne_eq, Nat.reduceEqDiff, not_false_eq_true, e16, e15, h14, nI_add, pk_mul, Nat.add_zero, Nat.zero_add, Nat.reduceAdd, Nat.reduceMul]
                refine n_blk [(.iconst (-1), .int (-1))] (Nat.le_of_ble_eq_true rfl) (by decide +kernel) ?_
                refine gx_iconst ((gx_nil ?_))
                refine n_icmp_ne (off := 7) (tgt := 72) (by decide +kernel) (by decide) (fun c65 => ?_) (fun c65 => ?_)
                · try simp only [bI_0, Decidable.not_not] at c65
                  exact absurd trivial c65
                · try simp only [bI_0, Decidable.not_not] at c65
                  refine n_blk [(.aload_n 0, .null)] (Nat.le_of_ble_eq_true rfl) (by decide +kernel) ?_
                  refine gx_aload_n_0 ((gx_nil ?_))
                  refine n_callE kX10_257 (r_readsCommand (V := vU U 15 (nI (p + 1))) (F := W) (sp := p + 1) (k := acc.length) hp hnm rfl h14 (by omega) hn (fun i hi => by rw [hW 9 (by decide)]; exact hT i hi) e16 e17 (by omega)) (by decide +kernel) rfl rfl (Nat.le_of_ble_eq_true rfl) (Nat.le_of_ble_eq_true rfl) (Nat.le_of_ble_eq_true rfl) rfl (fun wv V1 F1 hQ => ?_)
                  obtain ⟨rfl, hQ⟩ := hQ
                  simp only [Option.toList_none, List.nil_append]
                  obtain ⟨fu, rfl⟩ : ∃ z, fu = z + 1 := ⟨fu - 1, by omega⟩
                  have hI := raI_c (fu := fu) (m := m) hn (by omega) (by omega) (by omega) (by omega) hrow hQ
                  rw [show ppR tx n (fu + 1) (p + 1) acc = ppR tx n (n + 1) 0 [] by rw [hR, if_neg hge, if_pos h59]] at hI
                  
                  refine n_blk [(.goto (-40), .retAddr 32)] (Nat.le_of_ble_eq_true rfl) (by decide +kernel) ?_
                  refine gx_goto ((gx_nil ?_))
                  refine n_weak (by simp [gLe]) (ih V1 F1 (fun j hj => by rw [hQ.1 j hj, hW j hj]) (fun j hj hj2 => ?_) ?_ ?_ hI)
                  · rw [hQ.2.1 j (by omega), vU_n (by omega), hU j hj hj2]
                  · rw [hQ.2.1 10 (by omega), vU_n (by omega), h10]
                  · rw [hQ.2.1 14 (by omega), vU_n (by omega), h14]
          · refine n_blk [(.aload_n 0, .null)] (Nat.le_of_ble_eq_true rfl) (by decide +kernel) ?_
            refine gx_aload_n_0 ((gx_nil ?_))
            refine n_getI fX10_221 (by decide +kernel) rfl ?_
            try simp only [vU_s, vU_n, ne_eq, Nat.reduceEqDiff, not_false_eq_true, e16, e15, h14, nI_add, pk_mul, Nat.add_zero, Nat.zero_add, Nat.reduceAdd, Nat.reduceMul]
            refine n_blk [(.iconst (-1), .int (-1))] (Nat.le_of_ble_eq_true rfl) (by decide +kernel) ?_
            refine gx_iconst ((gx_nil ?_))
            refine n_icmp_ne (off := 38) (tgt := 75) (by decide +kernel) (by decide) (fun c37 => ?_) (fun c37 => ?_)
            · try simp only [bI_0, Decidable.not_not] at c37
              exact absurd trivial c37
            · try simp only [bI_0, Decidable.not_not] at c37
              refine n_blk [(.aload_n 0, .null)] (Nat.le_of_ble_eq_true rfl) (by decide +kernel) ?_
              refine gx_aload_n_0 ((gx_nil ?_))
              refine n_getI fX10_215 (by decide +kernel) rfl ?_
              try simp only [vU_s, vU_n, ne_eq, Nat.reduceEqDiff, not_false_eq_true, e16, e15, h14, nI_add, pk_mul, Nat.add_zero, Nat.zero_add, Nat.reduceAdd, Nat.reduceMul]
              refine n_blk [(.aload_n 0, .null)] (Nat.le_of_ble_eq_true rfl) (by decide +kernel) ?_
              refine gx_aload_n_0 ((gx_nil ?_))
              refine n_getI fX10_218 (by decide +kernel) rfl ?_
              try simp only [vU_s, vU_n, ne_eq, Nat.reduceEqDiff, not_false_eq_true, e16, e15, h14, nI_add, pk_mul, Nat.add_zero, Nat.zero_add, Nat.reduceAdd, Nat.reduceMul]
              refine n_icmp_ge (off := 27) (tgt := 75) (by decide +kernel) (by decide) (fun c48 => ?_) (fun c48 => ?_)
              · try simp only [bI_0, Decidable.not_not] at c48
                exact absurd c48 (nI_ge hlt (by omega))
              · try simp only [bI_0, Decidable.not_not] at c48
                refine n_blk [(.aload_n 0, .null), (.bipush 59, .int (nI 59)), (.bipush 59, .int (nI 59))] (Nat.le_of_ble_eq_true rfl) (by decide +kernel) ?_
                refine gx_aload_n_0 (gx_bipush (gx_bipush ((gx_nil ?_))))
                refine n_call kX10_227 (r_reads_no (V := U) (F := W) e15 h14 hpn hn (fun i hi => by rw [hW 9 (by decide)]; exact hT i hi) (lo := 59) (hi := 59) (by decide) (by decide) (fun z => h59 (by omega))) (by decide +kernel) rfl rfl (Nat.le_of_ble_eq_true rfl) (Nat.le_of_ble_eq_true rfl) (Nat.le_of_ble_eq_true rfl) rfl ?_
                try simp only [Option.toList_some, Option.toList_none, List.cons_append, List.nil_append, bI_0, n1_0, n0_0, Decidable.not_not, not_true_eq_false, not_false_eq_true, e16, e15, h14, nI_add, pk_mul, Nat.add_zero, Nat.zero_add, Nat.reduceAdd, Nat.reduceMul]
                refine n_blk [(.istore_n 1, .null), (.aload_n 0, .null)] (Nat.le_of_ble_eq_true rfl) (by decide +kernel) ?_
                refine gx_istore_n_1 rfl (gx_aload_n_0 ((gx_nil ?_)))
                refine n_getI fX10_221 (by decide +kernel) rfl ?_
                try simp only [vU_s, vU_n, ne_eq, Nat.reduceEqDiff, not_false_eq_true, e16, e15, h14, nI_add, pk_mul, Nat.add_zero, Nat.zero_add, Nat.reduceAdd, Nat.reduceMul]
                refine n_blk [(.iconst (-1), .int (-1))] (Nat.le_of_ble_eq_true rfl) (by decide +kernel) ?_
                refine gx_iconst ((gx_nil ?_))
                refine n_icmp_ne (off := 7) (tgt := 72) (by decide +kernel) (by decide) (fun c65 => ?_) (fun c65 => ?_)
                · try simp only [bI_0, Decidable.not_not] at c65
                  refine n_blk [(.goto (-40), .retAddr 32)] (Nat.le_of_ble_eq_true rfl) (by decide +kernel) ?_
                  refine gx_goto ((gx_nil ?_))
                  rw [if_pos trivial]
                  refine n_weak (by simp [gLe]) (ih (vU U 16 (nI p)) W hW (fun j hj hj2 => by rw [vU_n (by omega), hU j hj hj2]) h10 h14 ?_)
                  exact Or.inl ⟨p, by rw [hR, if_neg hge, if_neg h59], by omega, vU_s⟩
                · try simp only [bI_0, Decidable.not_not] at c65
                  exact absurd (show nI p = -1 from by rw [if_pos trivial] at c65; exact c65) (nI_nm1 (by omega))
  refine mE_of (by decide) rfl (Nat.le_of_ble_eq_true rfl) [some (.ref o), none] rfl ?_
  refine n_blk [(.aload_n 0, .null), (.aload_n 0, .null)] (Nat.le_of_ble_eq_true rfl) (by decide +kernel) ?_
  refine gx_aload_n_0 (gx_aload_n_0 ((gx_nil ?_)))
  refine n_getI fX10_212 (by decide +kernel) rfl ?_
  try simp only [vU_s, vU_n, ne_eq, Nat.reduceEqDiff, not_false_eq_true, e10, nI_add, pk_mul, Nat.add_zero, Nat.zero_add, Nat.reduceAdd, Nat.reduceMul]
  refine n_putI fX10_218 (by decide +kernel) rfl (by decide) rfl rfl ?_
  refine n_blk [(.aload_n 0, .null), (.iconst 0, .int (nI 0))] (Nat.le_of_ble_eq_true rfl) (by decide +kernel) ?_
  refine gx_aload_n_0 (gx_iconst ((gx_nil ?_)))
  refine n_putI fX10_212 (by decide +kernel) rfl (by decide) rfl rfl ?_
  refine n_blk [(.aload_n 0, .null), (.iconst 0, .int (nI 0))] (Nat.le_of_ble_eq_true rfl) (by decide +kernel) ?_
  refine gx_aload_n_0 (gx_iconst ((gx_nil ?_)))
  refine n_putI fX10_215 (by decide +kernel) rfl (by decide) rfl rfl ?_
  refine n_blk [(.aload_n 0, .null), (.iconst (-1), .int (-1))] (Nat.le_of_ble_eq_true rfl) (by decide +kernel) ?_
  refine gx_aload_n_0 (gx_iconst ((gx_nil ?_)))
  refine n_putI fX10_221 (by decide +kernel) rfl (by decide) rfl rfl ?_
  refine n_blk [(.aload_n 0, .null), (.iconst 0, .int (nI 0))] (Nat.le_of_ble_eq_true rfl) (by decide +kernel) ?_
  refine gx_aload_n_0 (gx_iconst ((gx_nil ?_)))
  refine n_putI fX10_247 (by decide +kernel) rfl (by decide) rfl rfl ?_
  refine n_blk [(.aload_n 0, .null)] (Nat.le_of_ble_eq_true rfl) (by decide +kernel) ?_
  refine gx_aload_n_0 ((gx_nil ?_))
  refine n_callE kX10_257 (r_readsCommand (V := vU (vU (vU (vU (vU V 14 (nI n)) 10 (nI 0)) 15 (nI 0)) 16 (-1)) 17 (nI 0)) (F := F) (sp := 0) (k := 0) hp hnm rfl rfl (Nat.zero_le _) hn hT rfl rfl (by decide)) (by decide +kernel) rfl rfl (Nat.le_of_ble_eq_true rfl) (Nat.le_of_ble_eq_true rfl) (Nat.le_of_ble_eq_true rfl) rfl (fun wv V1 F1 hQ => ?_)
  obtain ⟨rfl, hQ⟩ := hQ
  simp only [Option.toList_none, List.nil_append]
  have hI := raI_c (fu := n) (m := n + 1) (p := 0) (acc := []) hn (Nat.zero_le _) (by omega) (by omega) (Nat.zero_le _) (fun i c z => by cases z) hQ
  refine n_weak (by simp [gLe]) (loop (n + 1) V1 F1 hQ.1 (fun j hj hj2 => ?_) ?_ ?_ hI)
  · rw [hQ.2.1 j (by omega), vU_n (by omega), vU_n (by omega), vU_n (by omega), vU_n (by omega), vU_n (by omega)]
  · rw [hQ.2.1 10 (by omega)]; rfl
  · rw [hQ.2.1 14 (by omega)]; rfl
end SRa
