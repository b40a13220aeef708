section SRo
variable {Γ : gE} {o : Nat} {ad : Nat → Nat} {V : Nat → Int32} {F : Nat → Nat → Int32} {c t nx : Nat}
theorem rp_deliveredShare (h : rIV (F 0) c t nx) (hn : nx < 10000) : mC Γ o ad M_X10_deliveredShare [] V F 3 (some (.float (if nx = 0 then FP.fconst0 else rSh2 (F 0)))) (vU V 13 (if nx = 0 then nI 1 else nI 0)) (F) := by
  have h2 := h.n2
  by_cases h0 : nx = 0
  · refine mC_of (by decide) rfl (Nat.le_of_ble_eq_true rfl) [some (.ref o)] rfl ?_
    refine m_blk [(.aload_n 0, .null), (.aload_n 0, .null)] (Nat.le_of_ble_eq_true rfl) (by decide +kernel) ?_
    refine gx_aload_n_0 (gx_aload_n_0 ((gx_nil ?_)))
    refine m_getR fX10_9 (by decide +kernel) rfl ?_
    refine m_blk [(.iconst 2, .int (nI 2))] (Nat.le_of_ble_eq_true rfl) (by decide +kernel) ?_
    refine gx_iconst ((gx_nil ?_))
    refine m_al (j := 0) rfl (by decide +kernel) (show _ < 202 from by omega) ?_
    rw [h2]
    refine m_if_le (off := 7) (tgt := 14) (by decide +kernel) (by decide) (fun c7 => ?_) (fun c7 => ?_)
    · try simp only [bI_0, Decidable.not_not] at c7
      refine m_blk [(.iconst 0, .int (nI 0))] (Nat.le_of_ble_eq_true rfl) (by decide +kernel) ?_
      refine gx_iconst ((gx_nil ?_))
      refine m_call kX10_62 (r_goes _) (by decide +kernel) rfl rfl (Nat.le_of_ble_eq_true rfl) (Nat.le_of_ble_eq_true rfl) (Nat.le_of_ble_eq_true rfl) rfl ?_
      rw [show bI (¬ nI 0 = 0) = nI 0 from by decide]
      simp only [Option.toList_some, List.cons_append, List.nil_append]
      refine m_if_eq (off := 21) (tgt := 39) (by decide +kernel) (by decide) (fun c18 => ?_) (fun c18 => ?_)
      · try simp only [bI_0, Decidable.not_not] at c18
        refine m_fconst0 (by decide +kernel) ?_
        refine m_end (some (.float _)) rfl ⟨by decide +kernel, rfl⟩ ?_ ?_ ?_
        · rw [if_pos h0]
        · rw [if_pos h0]; rfl
        · rfl
      · exact absurd (by decide) c18
    · try simp only [bI_0, Decidable.not_not] at c7
      exact absurd (by rw [h0]; decide) c7
  · refine mC_of (by decide) rfl (Nat.le_of_ble_eq_true rfl) [some (.ref o)] rfl ?_
    refine m_blk [(.aload_n 0, .null), (.aload_n 0, .null)] (Nat.le_of_ble_eq_true rfl) (by decide +kernel) ?_
    refine gx_aload_n_0 (gx_aload_n_0 ((gx_nil ?_)))
    refine m_getR fX10_9 (by decide +kernel) rfl ?_
    refine m_blk [(.iconst 2, .int (nI 2))] (Nat.le_of_ble_eq_true rfl) (by decide +kernel) ?_
    refine gx_iconst ((gx_nil ?_))
    refine m_al (j := 0) rfl (by decide +kernel) (show _ < 202 from by omega) ?_
    rw [h2]
    refine m_if_le (off := 7) (tgt := 14) (by decide +kernel) (by decide) (fun c7 => ?_) (fun c7 => ?_)
    · try simp only [bI_0, Decidable.not_not] at c7
      exact absurd (Int32.not_le.mpr ((show (0 : Int32) = nI 0 by decide) ▸ (nI_ltI (by decide) (by omega)).mpr (Nat.pos_of_ne_zero h0))) (fun z => z c7)
    · try simp only [bI_0, Decidable.not_not] at c7
      refine m_blk [(.iconst 1, .int (nI 1)), (.goto 4, .retAddr 15)] (Nat.le_of_ble_eq_true rfl) (by decide +kernel) ?_
      refine gx_iconst (gx_goto ((gx_nil ?_)))
      refine m_call kX10_62 (r_goes _) (by decide +kernel) rfl rfl (Nat.le_of_ble_eq_true rfl) (Nat.le_of_ble_eq_true rfl) (Nat.le_of_ble_eq_true rfl) rfl ?_
      rw [show bI (¬ nI 1 = 0) = nI 1 from by decide]
      simp only [Option.toList_some, List.cons_append, List.nil_append]
      refine m_if_eq (off := 21) (tgt := 39) (by decide +kernel) (by decide) (fun c18 => ?_) (fun c18 => ?_)
      · exact absurd c18 (by decide)
      · try simp only [bI_0, Decidable.not_not] at c18
        refine m_blk [(.aload_n 0, .null)] (Nat.le_of_ble_eq_true rfl) (by decide +kernel) ?_
        refine gx_aload_n_0 ((gx_nil ?_))
        refine m_getR fX10_9 (by decide +kernel) rfl ?_
        refine m_blk [(.iconst 5, .int (nI 5))] (Nat.le_of_ble_eq_true rfl) (by decide +kernel) ?_
        refine gx_iconst ((gx_nil ?_))
        refine m_al (j := 0) rfl (by decide +kernel) (show _ < 202 from by omega) ?_
        refine m_blk [(.i2f, .null), (.aload_n 0, .null)] (Nat.le_of_ble_eq_true rfl) (by decide +kernel) ?_
        refine gx_i2f (gx_aload_n_0 ((gx_nil ?_)))
        refine m_getR fX10_9 (by decide +kernel) rfl ?_
        refine m_blk [(.iconst 2, .int (nI 2))] (Nat.le_of_ble_eq_true rfl) (by decide +kernel) ?_
        refine gx_iconst ((gx_nil ?_))
        refine m_al (j := 0) rfl (by decide +kernel) (show _ < 202 from by omega) ?_
        refine m_blk [(.i2f, .null)] (Nat.le_of_ble_eq_true rfl) (by decide +kernel) ?_
        refine gx_i2f ((gx_nil ?_))
        refine m_fdiv (rSh2_n h hn h0) (by decide +kernel) ?_
        refine m_blk [(.goto 4, .retAddr 40)] (Nat.le_of_ble_eq_true rfl) (by decide +kernel) ?_
        refine gx_goto ((gx_nil ?_))
        refine m_end (some (.float _)) rfl ⟨by decide +kernel, rfl⟩ ?_ ?_ ?_
        · rw [if_neg h0]; rfl
        · rw [if_neg h0]; rfl
        · rfl
theorem rp_append_ok {n : Nat} (h10 : V 10 = nI n) (x : Int32) (hn : n < 60) (hx : nI 32 ≤ x ∧ x ≤ nI 126) : mC Γ o ad M_X10_append [.int x] V F 2 (some (.int (nI (n + 1)))) (vU (vU V 13 (nI 0)) 10 (nI (n + 1))) (fU F 9 n x) := by
  refine mC_of (by decide) rfl (Nat.le_of_ble_eq_true rfl) [some (.ref o), some (.int x)] rfl ?_
  refine m_blk [(.aload_n 0, .null), (.iload_n 1, .null), (.bipush 32, .int (nI 32)), (.bipush 126, .int (nI 126))] (Nat.le_of_ble_eq_true rfl) (by decide +kernel) ?_
  refine gx_aload_n_0 (gx_iload_n_1 (gx_bipush (gx_bipush ((gx_nil ?_)))))
  refine m_callS kX10_70 (r_isIn _ _ _) (by decide +kernel) rfl rfl (Nat.le_of_ble_eq_true rfl) (Nat.le_of_ble_eq_true rfl) (Nat.le_of_ble_eq_true rfl) rfl ?_
  simp only [Option.toList_some, List.cons_append, List.nil_append]
  rw [bI_t hx]
  refine m_blk [(.aload_n 0, .null)] (Nat.le_of_ble_eq_true rfl) (by decide +kernel) ?_
  refine gx_aload_n_0 ((gx_nil ?_))
  refine m_getI fX10_212 (by decide +kernel) rfl ?_
  try simp only [vU_s, vU_n, ne_eq, Nat.reduceEqDiff, not_false_eq_true, h10, nI_add, pk_mul, Nat.add_zero, Nat.zero_add, Nat.reduceAdd, Nat.reduceMul]
  refine m_blk [(.bipush 60, .int (nI 60))] (Nat.le_of_ble_eq_true rfl) (by decide +kernel) ?_
  refine gx_bipush ((gx_nil ?_))
  refine m_icmp_ge (off := 7) (tgt := 22) (by decide +kernel) (by decide) (fun c15 => ?_) (fun c15 => ?_)
  · try simp only [bI_0, Decidable.not_not] at c15
    exact absurd c15 (nI_ge hn (by omega))
  · try simp only [bI_0, Decidable.not_not] at c15
    refine m_blk [(.iconst 1, .int (nI 1)), (.goto 4, .retAddr 23), (.iconst 1, .int (nI 1))] (Nat.le_of_ble_eq_true rfl) (by decide +kernel) ?_
    refine gx_iconst (gx_goto (gx_iconst ((gx_nil ?_))))
    refine m_call kX10_48 (r_holds _ _ _) (by decide +kernel) rfl rfl (Nat.le_of_ble_eq_true rfl) (Nat.le_of_ble_eq_true rfl) (Nat.le_of_ble_eq_true rfl) rfl ?_
    simp only [Option.toList_some, List.cons_append, List.nil_append]
    rw [show bI (¬ nI 1 = 0 ∧ ¬ nI 1 = 0 ∧ ¬ nI 1 = 0) = nI 1 from by decide]
    refine m_if_ne (off := 5) (tgt := 32) (by decide +kernel) (by decide) (fun c27 => ?_) (fun c27 => ?_)
    · try simp only [bI_0, Decidable.not_not] at c27
      refine m_blk [(.aload_n 0, .null)] (Nat.le_of_ble_eq_true rfl) (by decide +kernel) ?_
      refine gx_aload_n_0 ((gx_nil ?_))
      refine m_getR fX10_32 (by decide +kernel) rfl ?_
      refine m_blk [(.aload_n 0, .null)] (Nat.le_of_ble_eq_true rfl) (by decide +kernel) ?_
      refine gx_aload_n_0 ((gx_nil ?_))
      refine m_getI fX10_212 (by decide +kernel) rfl ?_
      try simp only [vU_s, vU_n, ne_eq, Nat.reduceEqDiff, not_false_eq_true, h10, nI_add, pk_mul, Nat.add_zero, Nat.zero_add, Nat.reduceAdd, Nat.reduceMul]
      refine m_blk [(.iload_n 1, .null)] (Nat.le_of_ble_eq_true rfl) (by decide +kernel) ?_
      refine gx_iload_n_1 ((gx_nil ?_))
      refine m_as (j := 9) rfl (by decide +kernel) (show _ < 60 from by omega) ?_
      refine m_blk [(.aload_n 0, .null), (.dup, .null)] (Nat.le_of_ble_eq_true rfl) (by decide +kernel) ?_
      refine gx_aload_n_0 (gx_dupr ((gx_nil ?_)))
      refine m_getI fX10_212 (by decide +kernel) rfl ?_
      try simp only [vU_s, vU_n, ne_eq, Nat.reduceEqDiff, not_false_eq_true, h10, nI_add, pk_mul, Nat.add_zero, Nat.zero_add, Nat.reduceAdd, Nat.reduceMul]
      refine m_blk [(.iconst 1, .int (nI 1)), (.iadd, .null)] (Nat.le_of_ble_eq_true rfl) (by decide +kernel) ?_
      refine gx_iconst (gx_iadd ((gx_nil ?_)))
      try simp only [h10, nI_add, pk_mul, Nat.add_zero, Nat.zero_add, Nat.reduceAdd, Nat.reduceMul]
      refine m_putI fX10_212 (by decide +kernel) rfl (by decide) rfl rfl ?_
      refine m_blk [(.aload_n 0, .null)] (Nat.le_of_ble_eq_true rfl) (by decide +kernel) ?_
      refine gx_aload_n_0 ((gx_nil ?_))
      refine m_getI fX10_212 (by decide +kernel) rfl ?_
      try simp only [vU_s, vU_n, ne_eq, Nat.reduceEqDiff, not_false_eq_true, h10, nI_add, pk_mul, Nat.add_zero, Nat.zero_add, Nat.reduceAdd, Nat.reduceMul]
      refine m_end (some (.int _)) rfl ⟨by decide +kernel, _, rfl, rfl⟩ ?_ ?_ ?_
      · rfl
      · rfl
      · rfl
    · try simp only [bI_0, Decidable.not_not] at c27
      exact absurd c27 (by decide)
theorem rp_append_full {n : Nat} (h10 : V 10 = nI n) (x : Int32) (hn : n = 60) (hx : nI 32 ≤ x ∧ x ≤ nI 126) : mC Γ o ad M_X10_append [.int x] V F 2 (some (.int (nI 0))) (vU V 13 (nI 2)) (F) := by
  refine mC_of (by decide) rfl (Nat.le_of_ble_eq_true rfl) [some (.ref o), some (.int x)] rfl ?_
  refine m_blk [(.aload_n 0, .null), (.iload_n 1, .null), (.bipush 32, .int (nI 32)), (.bipush 126, .int (nI 126))] (Nat.le_of_ble_eq_true rfl) (by decide +kernel) ?_
  refine gx_aload_n_0 (gx_iload_n_1 (gx_bipush (gx_bipush ((gx_nil ?_)))))
  refine m_callS kX10_70 (r_isIn _ _ _) (by decide +kernel) rfl rfl (Nat.le_of_ble_eq_true rfl) (Nat.le_of_ble_eq_true rfl) (Nat.le_of_ble_eq_true rfl) rfl ?_
  simp only [Option.toList_some, List.cons_append, List.nil_append]
  rw [bI_t hx]
  refine m_blk [(.aload_n 0, .null)] (Nat.le_of_ble_eq_true rfl) (by decide +kernel) ?_
  refine gx_aload_n_0 ((gx_nil ?_))
  refine m_getI fX10_212 (by decide +kernel) rfl ?_
  try simp only [vU_s, vU_n, ne_eq, Nat.reduceEqDiff, not_false_eq_true, h10, nI_add, pk_mul, Nat.add_zero, Nat.zero_add, Nat.reduceAdd, Nat.reduceMul]
  refine m_blk [(.bipush 60, .int (nI 60))] (Nat.le_of_ble_eq_true rfl) (by decide +kernel) ?_
  refine gx_bipush ((gx_nil ?_))
  refine m_icmp_ge (off := 7) (tgt := 22) (by decide +kernel) (by decide) (fun c15 => ?_) (fun c15 => ?_)
  · try simp only [bI_0, Decidable.not_not] at c15
    refine m_blk [(.iconst 0, .int (nI 0)), (.iconst 1, .int (nI 1))] (Nat.le_of_ble_eq_true rfl) (by decide +kernel) ?_
    refine gx_iconst (gx_iconst ((gx_nil ?_)))
    refine m_call kX10_48 (r_holds _ _ _) (by decide +kernel) rfl rfl (Nat.le_of_ble_eq_true rfl) (Nat.le_of_ble_eq_true rfl) (Nat.le_of_ble_eq_true rfl) rfl ?_
    simp only [Option.toList_some, List.cons_append, List.nil_append]
    rw [show bI (¬ nI 1 = 0 ∧ ¬ nI 0 = 0 ∧ ¬ nI 1 = 0) = nI 0 from by decide]
    refine m_if_ne (off := 5) (tgt := 32) (by decide +kernel) (by decide) (fun c27 => ?_) (fun c27 => ?_)
    · try simp only [bI_0, Decidable.not_not] at c27
      exact absurd (by decide) c27
    · try simp only [bI_0, Decidable.not_not] at c27
      refine m_blk [(.iconst 0, .int (nI 0))] (Nat.le_of_ble_eq_true rfl) (by decide +kernel) ?_
      refine gx_iconst ((gx_nil ?_))
      refine m_end (some (.int _)) rfl ⟨by decide +kernel, _, rfl, rfl⟩ ?_ ?_ ?_
      · rfl
      · rfl
      · rfl
  · try simp only [bI_0, Decidable.not_not] at c15
    exact absurd (by rw [hn]; exact Int32.le_refl _) c15
theorem rp_append_bad {n : Nat} (h10 : V 10 = nI n) (x : Int32) (hx : ¬ (nI 32 ≤ x ∧ x ≤ nI 126)) : mC Γ o ad M_X10_append [.int x] V F 2 (some (.int (nI 0))) (vU V 13 (nI 1)) (F) := by
  refine mC_of (by decide) rfl (Nat.le_of_ble_eq_true rfl) [some (.ref o), some (.int x)] rfl ?_
  refine m_blk [(.aload_n 0, .null), (.iload_n 1, .null), (.bipush 32, .int (nI 32)), (.bipush 126, .int (nI 126))] (Nat.le_of_ble_eq_true rfl) (by decide +kernel) ?_
  refine gx_aload_n_0 (gx_iload_n_1 (gx_bipush (gx_bipush ((gx_nil ?_)))))
  refine m_callS kX10_70 (r_isIn _ _ _) (by decide +kernel) rfl rfl (Nat.le_of_ble_eq_true rfl) (Nat.le_of_ble_eq_true rfl) (Nat.le_of_ble_eq_true rfl) rfl ?_
  simp only [Option.toList_some, List.cons_append, List.nil_append]
  rw [bI_f hx]
  refine m_blk [(.aload_n 0, .null)] (Nat.le_of_ble_eq_true rfl) (by decide +kernel) ?_
  refine gx_aload_n_0 ((gx_nil ?_))
  refine m_getI fX10_212 (by decide +kernel) rfl ?_
  try simp only [vU_s, vU_n, ne_eq, Nat.reduceEqDiff, not_false_eq_true, h10, nI_add, pk_mul, Nat.add_zero, Nat.zero_add, Nat.reduceAdd, Nat.reduceMul]
  refine m_blk [(.bipush 60, .int (nI 60))] (Nat.le_of_ble_eq_true rfl) (by decide +kernel) ?_
  refine gx_bipush ((gx_nil ?_))
  refine m_icmp_ge (off := 7) (tgt := 22) (by decide +kernel) (by decide) (fun c15 => ?_) (fun c15 => ?_)
  · try simp only [bI_0, Decidable.not_not] at c15
    refine m_blk [(.iconst 0, .int (nI 0)), (.iconst 1, .int (nI 1))] (Nat.le_of_ble_eq_true rfl) (by decide +kernel) ?_
    refine gx_iconst (gx_iconst ((gx_nil ?_)))
    refine m_call kX10_48 (r_holds _ _ _) (by decide +kernel) rfl rfl (Nat.le_of_ble_eq_true rfl) (Nat.le_of_ble_eq_true rfl) (Nat.le_of_ble_eq_true rfl) rfl ?_
    simp only [Option.toList_some, List.cons_append, List.nil_append]
    first | rw [show bI (¬ nI 0 = 0 ∧ ¬ nI 0 = 0 ∧ ¬ nI 1 = 0) = nI 0 from by decide] | rw [show bI (¬ nI 0 = 0 ∧ ¬ nI 1 = 0 ∧ ¬ nI 1 = 0) = nI 0 from by decide]
    refine m_if_ne (off := 5) (tgt := 32) (by decide +kernel) (by decide) (fun c27 => ?_) (fun c27 => ?_)
    · try simp only [bI_0, Decidable.not_not] at c27
      exact absurd (by decide) c27
    · try simp only [bI_0, Decidable.not_not] at c27
      refine m_blk [(.iconst 0, .int (nI 0))] (Nat.le_of_ble_eq_true rfl) (by decide +kernel) ?_
      refine gx_iconst ((gx_nil ?_))
      refine m_end (some (.int _)) rfl ⟨by decide +kernel, _, rfl, rfl⟩ ?_ ?_ ?_
      · rfl
      · rfl
      · rfl
  · try simp only [bI_0, Decidable.not_not] at c15
    refine m_blk [(.iconst 1, .int (nI 1)), (.goto 4, .retAddr 23), (.iconst 1, .int (nI 1))] (Nat.le_of_ble_eq_true rfl) (by decide +kernel) ?_
    refine gx_iconst (gx_goto (gx_iconst ((gx_nil ?_))))
    refine m_call kX10_48 (r_holds _ _ _) (by decide +kernel) rfl rfl (Nat.le_of_ble_eq_true rfl) (Nat.le_of_ble_eq_true rfl) (Nat.le_of_ble_eq_true rfl) rfl ?_
    simp only [Option.toList_some, List.cons_append, List.nil_append]
    first | rw [show bI (¬ nI 0 = 0 ∧ ¬ nI 0 = 0 ∧ ¬ nI 1 = 0) = nI 0 from by decide] | rw [show bI (¬ nI 0 = 0 ∧ ¬ nI 1 = 0 ∧ ¬ nI 1 = 0) = nI 0 from by decide]
    refine m_if_ne (off := 5) (tgt := 32) (by decide +kernel) (by decide) (fun c27 => ?_) (fun c27 => ?_)
    · try simp only [bI_0, Decidable.not_not] at c27
      exact absurd (by decide) c27
    · try simp only [bI_0, Decidable.not_not] at c27
      refine m_blk [(.iconst 0, .int (nI 0))] (Nat.le_of_ble_eq_true rfl) (by decide +kernel) ?_
      refine gx_iconst ((gx_nil ?_))
      refine m_end (some (.int _)) rfl ⟨by decide +kernel, _, rfl, rfl⟩ ?_ ?_ ?_
      · rfl
      · rfl
      · rfl
end SRo
