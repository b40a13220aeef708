section S15ref6leantxt
variable {Γ : gE} {o : Nat} {ad : Nat → Nat} {V : Nat → Int32} {F : Nat → Nat → Int32}
def rAcc (N : Nat → Int32) (code w pr : Int32) (c : Nat) : Nat → Int32 :=
  upd (upd (upd (upd (upd (upd (upd (upd (upd N (62 + 7 * c) (N 2)) (62 + 7 * c + 1) code) (62 + 7 * c + 2) w) (62 + 7 * c + 3) pr) (62 + 7 * c + 4) (nI 0)) (62 + 7 * c + 5) (-1)) (62 + 7 * c + 6) (nI 0)) 3 (N 3 + nI 1)) 2 (N 2 + nI 1)
def rAddN (N : Nat → Int32) (dg ln rt : Int32) (t : Nat) : Nat → Int32 := upd (upd (upd (upd N (26 + 3 * t) dg) (26 + 3 * t + 1) ln) (26 + 3 * t + 2) rt) 4 (N 4 + nI 1)
theorem i32_as (x : Int32) : x + nI 1 - nI 1 = x := by
  apply Int32.toBitVec_inj.mp
  simp [nI]
theorem r_accepts {c : Nat} (hc : c ≤ 20) (h3 : F 0 3 = nI c) (code wt pr : Int32) : mC Γ o ad M_X10_accepts [.int code, .int wt, .int pr] V F 2 (some (.int (if rT (bI ((nI 0 ≤ code ∧ code ≤ nI 9999) ∧ (nI 1 ≤ wt ∧ wt ≤ nI 50))) (bI (F 0 3 < nI 20)) (nI 1) = 0 then F 0 2 else nI 0))) (vU V 13 (rT (bI ((nI 0 ≤ code ∧ code ≤ nI 9999) ∧ (nI 1 ≤ wt ∧ wt ≤ nI 50))) (bI (F 0 3 < nI 20)) (nI 1))) (fR F 0 (if rT (bI ((nI 0 ≤ code ∧ code ≤ nI 9999) ∧ (nI 1 ≤ wt ∧ wt ≤ nI 50))) (bI (F 0 3 < nI 20)) (nI 1) = 0 then rAcc (F 0) code wt pr c else F 0)) := by
  refine mC_of (by decide) rfl (Nat.le_of_ble_eq_true rfl) [some (.ref o), some (.int code), some (.int wt), some (.int pr), none] rfl ?_
  refine m_blk [(.aload_n 0, .null), (.iload_n 1, .null)] (Nat.le_of_ble_eq_true rfl) (by decide +kernel) ?_
  refine gx_aload_n_0 (gx_iload_n_1 ((gx_nil ?_)))
  refine m_callS kX10_106 (r_isCode _) (by decide +kernel) rfl rfl (Nat.le_of_ble_eq_true rfl) (Nat.le_of_ble_eq_true rfl) (Nat.le_of_ble_eq_true rfl) rfl ?_
  try simp only [Option.toList_some, Option.toList_none, List.cons_append, List.nil_append, bI_0, n1_0, n0_0, Decidable.not_not, not_true_eq_false, not_false_eq_true, nI_add, pk_mul, Nat.add_zero, Nat.zero_add, Nat.reduceAdd, Nat.reduceMul]
  refine m_if_eq (off := 17) (tgt := 22) (by decide +kernel) (by decide) (fun c5 => ?_) (fun c5 => ?_)
  · try simp only [bI_0, Decidable.not_not] at c5
    refine m_blk [(.iconst 0, .int (nI 0)), (.aload_n 0, .null)] (Nat.le_of_ble_eq_true rfl) (by decide +kernel) ?_
    refine gx_iconst (gx_aload_n_0 ((gx_nil ?_)))
    refine m_getR fX10_9 (by decide +kernel) rfl ?_
    refine m_blk [(.iconst 3, .int (nI 3))] (Nat.le_of_ble_eq_true rfl) (by decide +kernel) ?_
    refine gx_iconst ((gx_nil ?_))
    refine m_al (j := 0) rfl (by decide +kernel) (show _ < 202 from by omega) ?_
    refine m_blk [(.bipush 20, .int (nI 20))] (Nat.le_of_ble_eq_true rfl) (by decide +kernel) ?_
    refine gx_bipush ((gx_nil ?_))
    refine m_icmp_ge (off := 7) (tgt := 38) (by decide +kernel) (by decide) (fun c31 => ?_) (fun c31 => ?_)
    · try simp only [bI_0, Decidable.not_not] at c31
      refine m_blk [(.iconst 0, .int (nI 0)), (.iconst 1, .int (nI 1))] (Nat.le_of_ble_eq_true rfl) (by decide +kernel) ?_
      refine gx_iconst (gx_iconst ((gx_nil ?_)))
      refine m_call kX10_48 (r_holds _ _ _) (by decide +kernel) rfl rfl (Nat.le_of_ble_eq_true rfl) (Nat.le_of_ble_eq_true rfl) (Nat.le_of_ble_eq_true rfl) rfl ?_
      rw [show bI (¬ nI 0 = 0 ∧ ¬ nI 0 = 0 ∧ ¬ nI 1 = 0) = nI 0 from by decide]
      simp only [Option.toList_some, List.cons_append, List.nil_append]
      refine m_if_ne (off := 5) (tgt := 48) (by decide +kernel) (by decide) (fun c43 => ?_) (fun c43 => ?_)
      · exact absurd (by decide) c43
      · try simp only [bI_0, Decidable.not_not] at c43
        refine m_blk [(.iconst 0, .int (nI 0))] (Nat.le_of_ble_eq_true rfl) (by decide +kernel) ?_
        refine gx_iconst ((gx_nil ?_))
        have hτ : rT (bI ((nI 0 ≤ code ∧ code ≤ nI 9999) ∧ (nI 1 ≤ wt ∧ wt ≤ nI 50))) (bI (F 0 3 < nI 20)) (nI 1) = nI 1 := by
          rw [bI_f (fun z => c5 z.1), bI_f (fun z => absurd z (Int32.not_lt.mpr c31))]
          rfl
        refine m_end (some (.int _)) rfl ⟨by decide +kernel, _, rfl, rfl⟩ ?_ ?_ ?_
        · rw [hτ, if_neg (by decide)]
        · rw [hτ]
          rfl
        · rw [hτ, if_neg (by decide), fR_self]
    · try simp only [bI_0, Decidable.not_not] at c31
      have hc20 : c < 20 := by
        rw [h3] at c31
        rcases Nat.lt_or_ge c 20 with q | q
        · exact q
        · exact absurd (nI_le q (by omega)) c31
      refine m_blk [(.iconst 1, .int (nI 1)), (.goto 4, .retAddr 39), (.iconst 1, .int (nI 1))] (Nat.le_of_ble_eq_true rfl) (by decide +kernel) ?_
      refine gx_iconst (gx_goto (gx_iconst ((gx_nil ?_))))
      refine m_call kX10_48 (r_holds _ _ _) (by decide +kernel) rfl rfl (Nat.le_of_ble_eq_true rfl) (Nat.le_of_ble_eq_true rfl) (Nat.le_of_ble_eq_true rfl) rfl ?_
      rw [show bI (¬ nI 0 = 0 ∧ ¬ nI 1 = 0 ∧ ¬ nI 1 = 0) = nI 0 from by decide]
      simp only [Option.toList_some, List.cons_append, List.nil_append]
      refine m_if_ne (off := 5) (tgt := 48) (by decide +kernel) (by decide) (fun c43 => ?_) (fun c43 => ?_)
      · exact absurd (by decide) c43
      · try simp only [bI_0, Decidable.not_not] at c43
        refine m_blk [(.iconst 0, .int (nI 0))] (Nat.le_of_ble_eq_true rfl) (by decide +kernel) ?_
        refine gx_iconst ((gx_nil ?_))
        have hτ : rT (bI ((nI 0 ≤ code ∧ code ≤ nI 9999) ∧ (nI 1 ≤ wt ∧ wt ≤ nI 50))) (bI (F 0 3 < nI 20)) (nI 1) = nI 1 := by
          rw [bI_f (fun z => c5 z.1), bI_t (Int32.not_le.mp c31)]
          rfl
        refine m_end (some (.int _)) rfl ⟨by decide +kernel, _, rfl, rfl⟩ ?_ ?_ ?_
        · rw [hτ, if_neg (by decide)]
        · rw [hτ]
          rfl
        · rw [hτ, if_neg (by decide), fR_self]
  · try simp only [bI_0, Decidable.not_not] at c5
    refine m_blk [(.iload_n 2, .null), (.iconst 1, .int (nI 1)), (.bipush 50, .int (nI 50))] (Nat.le_of_ble_eq_true rfl) (by decide +kernel) ?_
    refine gx_iload_n_2 (gx_iconst (gx_bipush ((gx_nil ?_))))
    refine m_callS kX10_70 (r_isIn _ _ _) (by decide +kernel) rfl rfl (Nat.le_of_ble_eq_true rfl) (Nat.le_of_ble_eq_true rfl) (Nat.le_of_ble_eq_true rfl) rfl ?_
    try simp only [Option.toList_some, Option.toList_none, List.cons_append, List.nil_append, bI_0, n1_0, n0_0, Decidable.not_not, not_true_eq_false, not_false_eq_true, nI_add, pk_mul, Nat.add_zero, Nat.zero_add, Nat.reduceAdd, Nat.reduceMul]
    refine m_if_eq (off := 7) (tgt := 22) (by decide +kernel) (by decide) (fun c15 => ?_) (fun c15 => ?_)
    · try simp only [bI_0, Decidable.not_not] at c15
      refine m_blk [(.iconst 0, .int (nI 0)), (.aload_n 0, .null)] (Nat.le_of_ble_eq_true rfl) (by decide +kernel) ?_
      refine gx_iconst (gx_aload_n_0 ((gx_nil ?_)))
      refine m_getR fX10_9 (by decide +kernel) rfl ?_
      refine m_blk [(.iconst 3, .int (nI 3))] (Nat.le_of_ble_eq_true rfl) (by decide +kernel) ?_
      refine gx_iconst ((gx_nil ?_))
      refine m_al (j := 0) rfl (by decide +kernel) (show _ < 202 from by omega) ?_
      refine m_blk [(.bipush 20, .int (nI 20))] (Nat.le_of_ble_eq_true rfl) (by decide +kernel) ?_
      refine gx_bipush ((gx_nil ?_))
      refine m_icmp_ge (off := 7) (tgt := 38) (by decide +kernel) (by decide) (fun c31 => ?_) (fun c31 => ?_)
      · try simp only [bI_0, Decidable.not_not] at c31
        refine m_blk [(.iconst 0, .int (nI 0)), (.iconst 1, .int (nI 1))] (Nat.le_of_ble_eq_true rfl) (by decide +kernel) ?_
        refine gx_iconst (gx_iconst ((gx_nil ?_)))
        refine m_call kX10_48 (r_holds _ _ _) (by decide +kernel) rfl rfl (Nat.le_of_ble_eq_true rfl) (Nat.le_of_ble_eq_true rfl) (Nat.le_of_ble_eq_true rfl) rfl ?_
        rw [show bI (¬ nI 0 = 0 ∧ ¬ nI 0 = 0 ∧ ¬ nI 1 = 0) = nI 0 from by decide]
        simp only [Option.toList_some, List.cons_append, List.nil_append]
        refine m_if_ne (off := 5) (tgt := 48) (by decide +kernel) (by decide) (fun c43 => ?_) (fun c43 => ?_)
        · exact absurd (by decide) c43
        · try simp only [bI_0, Decidable.not_not] at c43
          refine m_blk [(.iconst 0, .int (nI 0))] (Nat.le_of_ble_eq_true rfl) (by decide +kernel) ?_
          refine gx_iconst ((gx_nil ?_))
          have hτ : rT (bI ((nI 0 ≤ code ∧ code ≤ nI 9999) ∧ (nI 1 ≤ wt ∧ wt ≤ nI 50))) (bI (F 0 3 < nI 20)) (nI 1) = nI 1 := by
            rw [bI_f (fun z => c15 z.2), bI_f (fun z => absurd z (Int32.not_lt.mpr c31))]
            rfl
          refine m_end (some (.int _)) rfl ⟨by decide +kernel, _, rfl, rfl⟩ ?_ ?_ ?_
          · rw [hτ, if_neg (by decide)]
          · rw [hτ]
            rfl
          · rw [hτ, if_neg (by decide), fR_self]
      · try simp only [bI_0, Decidable.not_not] at c31
        have hc20 : c < 20 := by
          rw [h3] at c31
          rcases Nat.lt_or_ge c 20 with q | q
          · exact q
          · exact absurd (nI_le q (by omega)) c31
        refine m_blk [(.iconst 1, .int (nI 1)), (.goto 4, .retAddr 39), (.iconst 1, .int (nI 1))] (Nat.le_of_ble_eq_true rfl) (by decide +kernel) ?_
        refine gx_iconst (gx_goto (gx_iconst ((gx_nil ?_))))
        refine m_call kX10_48 (r_holds _ _ _) (by decide +kernel) rfl rfl (Nat.le_of_ble_eq_true rfl) (Nat.le_of_ble_eq_true rfl) (Nat.le_of_ble_eq_true rfl) rfl ?_
        rw [show bI (¬ nI 0 = 0 ∧ ¬ nI 1 = 0 ∧ ¬ nI 1 = 0) = nI 0 from by decide]
        simp only [Option.toList_some, List.cons_append, List.nil_append]
        refine m_if_ne (off := 5) (tgt := 48) (by decide +kernel) (by decide) (fun c43 => ?_) (fun c43 => ?_)
        · exact absurd (by decide) c43
        · try simp only [bI_0, Decidable.not_not] at c43
          refine m_blk [(.iconst 0, .int (nI 0))] (Nat.le_of_ble_eq_true rfl) (by decide +kernel) ?_
          refine gx_iconst ((gx_nil ?_))
          have hτ : rT (bI ((nI 0 ≤ code ∧ code ≤ nI 9999) ∧ (nI 1 ≤ wt ∧ wt ≤ nI 50))) (bI (F 0 3 < nI 20)) (nI 1) = nI 1 := by
            rw [bI_f (fun z => c15 z.2), bI_t (Int32.not_le.mp c31)]
            rfl
          refine m_end (some (.int _)) rfl ⟨by decide +kernel, _, rfl, rfl⟩ ?_ ?_ ?_
          · rw [hτ, if_neg (by decide)]
          · rw [hτ]
            rfl
          · rw [hτ, if_neg (by decide), fR_self]
    · try simp only [bI_0, Decidable.not_not] at c15
      refine m_blk [(.iconst 1, .int (nI 1)), (.goto 4, .retAddr 23), (.aload_n 0, .null)] (Nat.le_of_ble_eq_true rfl) (by decide +kernel) ?_
      refine gx_iconst (gx_goto (gx_aload_n_0 ((gx_nil ?_))))
      refine m_getR fX10_9 (by decide +kernel) rfl ?_
      refine m_blk [(.iconst 3, .int (nI 3))] (Nat.le_of_ble_eq_true rfl) (by decide +kernel) ?_
      refine gx_iconst ((gx_nil ?_))
      refine m_al (j := 0) rfl (by decide +kernel) (show _ < 202 from by omega) ?_
      refine m_blk [(.bipush 20, .int (nI 20))] (Nat.le_of_ble_eq_true rfl) (by decide +kernel) ?_
      refine gx_bipush ((gx_nil ?_))
      refine m_icmp_ge (off := 7) (tgt := 38) (by decide +kernel) (by decide) (fun c31 => ?_) (fun c31 => ?_)
      · try simp only [bI_0, Decidable.not_not] at c31
        refine m_blk [(.iconst 0, .int (nI 0)), (.iconst 1, .int (nI 1))] (Nat.le_of_ble_eq_true rfl) (by decide +kernel) ?_
        refine gx_iconst (gx_iconst ((gx_nil ?_)))
        refine m_call kX10_48 (r_holds _ _ _) (by decide +kernel) rfl rfl (Nat.le_of_ble_eq_true rfl) (Nat.le_of_ble_eq_true rfl) (Nat.le_of_ble_eq_true rfl) rfl ?_
        rw [show bI (¬ nI 1 = 0 ∧ ¬ nI 0 = 0 ∧ ¬ nI 1 = 0) = nI 0 from by decide]
        simp only [Option.toList_some, List.cons_append, List.nil_append]
        refine m_if_ne (off := 5) (tgt := 48) (by decide +kernel) (by decide) (fun c43 => ?_) (fun c43 => ?_)
        · exact absurd (by decide) c43
        · try simp only [bI_0, Decidable.not_not] at c43
          refine m_blk [(.iconst 0, .int (nI 0))] (Nat.le_of_ble_eq_true rfl) (by decide +kernel) ?_
          refine gx_iconst ((gx_nil ?_))
          have hτ : rT (bI ((nI 0 ≤ code ∧ code ≤ nI 9999) ∧ (nI 1 ≤ wt ∧ wt ≤ nI 50))) (bI (F 0 3 < nI 20)) (nI 1) = nI 2 := by
            rw [bI_t ⟨c5, c15⟩, bI_f (fun z => absurd z (Int32.not_lt.mpr c31))]
            rfl
          refine m_end (some (.int _)) rfl ⟨by decide +kernel, _, rfl, rfl⟩ ?_ ?_ ?_
          · rw [hτ, if_neg (by decide)]
          · rw [hτ]
            rfl
          · rw [hτ, if_neg (by decide), fR_self]
      · try simp only [bI_0, Decidable.not_not] at c31
        have hc20 : c < 20 := by
          rw [h3] at c31
          rcases Nat.lt_or_ge c 20 with q | q
          · exact q
          · exact absurd (nI_le q (by omega)) c31
        refine m_blk [(.iconst 1, .int (nI 1)), (.goto 4, .retAddr 39), (.iconst 1, .int (nI 1))] (Nat.le_of_ble_eq_true rfl) (by decide +kernel) ?_
        refine gx_iconst (gx_goto (gx_iconst ((gx_nil ?_))))
        refine m_call kX10_48 (r_holds _ _ _) (by decide +kernel) rfl rfl (Nat.le_of_ble_eq_true rfl) (Nat.le_of_ble_eq_true rfl) (Nat.le_of_ble_eq_true rfl) rfl ?_
        rw [show bI (¬ nI 1 = 0 ∧ ¬ nI 1 = 0 ∧ ¬ nI 1 = 0) = nI 1 from by decide]
        simp only [Option.toList_some, List.cons_append, List.nil_append]
        refine m_if_ne (off := 5) (tgt := 48) (by decide +kernel) (by decide) (fun c43 => ?_) (fun c43 => ?_)
        · try simp only [bI_0, Decidable.not_not] at c43
          refine m_blk [(.aload_n 0, .null)] (Nat.le_of_ble_eq_true rfl) (by decide +kernel) ?_
          refine gx_aload_n_0 ((gx_nil ?_))
          refine m_getR fX10_9 (by decide +kernel) rfl ?_
          refine m_blk [(.iconst 3, .int (nI 3))] (Nat.le_of_ble_eq_true rfl) (by decide +kernel) ?_
          refine gx_iconst ((gx_nil ?_))
          refine m_al (j := 0) rfl (by decide +kernel) (show _ < 202 from by omega) ?_
          refine m_top h3 ?_
          refine m_callS kX10_94 (r_letterAt _) (by decide +kernel) rfl rfl (Nat.le_of_ble_eq_true rfl) (Nat.le_of_ble_eq_true rfl) (Nat.le_of_ble_eq_true rfl) rfl ?_
          try simp only [Option.toList_some, Option.toList_none, List.cons_append, List.nil_append, bI_0, n1_0, n0_0, Decidable.not_not, not_true_eq_false, not_false_eq_true, nI_add, pk_mul, Nat.add_zero, Nat.zero_add, Nat.reduceAdd, Nat.reduceMul]
          refine m_blk [(.istore 4, .null), (.aload_n 0, .null)] (Nat.le_of_ble_eq_true rfl) (by decide +kernel) ?_
          refine gx_istore_4 rfl (gx_aload_n_0 ((gx_nil ?_)))
          refine m_getR fX10_9 (by decide +kernel) rfl ?_
          refine m_blk [(.iload 4, .null), (.iconst 0, .int (nI 0)), (.iadd, .null), (.aload_n 0, .null)] (Nat.le_of_ble_eq_true rfl) (by decide +kernel) ?_
          refine gx_iload_4 (gx_iconst (gx_iadd (gx_aload_n_0 ((gx_nil ?_)))))
          try simp only [nI_add, pk_mul, Nat.add_zero, Nat.zero_add, Nat.reduceAdd, Nat.reduceMul]
          refine m_getR fX10_9 (by decide +kernel) rfl ?_
          refine m_blk [(.iconst 2, .int (nI 2))] (Nat.le_of_ble_eq_true rfl) (by decide +kernel) ?_
          refine gx_iconst ((gx_nil ?_))
          refine m_al (j := 0) rfl (by decide +kernel) (show _ < 202 from by omega) ?_
          refine m_as (j := 0) rfl (by decide +kernel) (show _ < 202 from by omega) ?_
          refine m_blk [(.aload_n 0, .null)] (Nat.le_of_ble_eq_true rfl) (by decide +kernel) ?_
          refine gx_aload_n_0 ((gx_nil ?_))
          refine m_getR fX10_9 (by decide +kernel) rfl ?_
          refine m_blk [(.iload 4, .null), (.iconst 1, .int (nI 1)), (.iadd, .null), (.iload_n 1, .null)] (Nat.le_of_ble_eq_true rfl) (by decide +kernel) ?_
          refine gx_iload_4 (gx_iconst (gx_iadd (gx_iload_n_1 ((gx_nil ?_)))))
          try simp only [nI_add, pk_mul, Nat.add_zero, Nat.zero_add, Nat.reduceAdd, Nat.reduceMul]
          refine m_as (j := 0) rfl (by decide +kernel) (show _ < 202 from by omega) ?_
          refine m_blk [(.aload_n 0, .null)] (Nat.le_of_ble_eq_true rfl) (by decide +kernel) ?_
          refine gx_aload_n_0 ((gx_nil ?_))
          refine m_getR fX10_9 (by decide +kernel) rfl ?_
          refine m_blk [(.iload 4, .null), (.iconst 2, .int (nI 2)), (.iadd, .null), (.iload_n 2, .null)] (Nat.le_of_ble_eq_true rfl) (by decide +kernel) ?_
          refine gx_iload_4 (gx_iconst (gx_iadd (gx_iload_n_2 ((gx_nil ?_)))))
          try simp only [nI_add, pk_mul, Nat.add_zero, Nat.zero_add, Nat.reduceAdd, Nat.reduceMul]
          refine m_as (j := 0) rfl (by decide +kernel) (show _ < 202 from by omega) ?_
          refine m_blk [(.aload_n 0, .null)] (Nat.le_of_ble_eq_true rfl) (by decide +kernel) ?_
          refine gx_aload_n_0 ((gx_nil ?_))
          refine m_getR fX10_9 (by decide +kernel) rfl ?_
          refine m_blk [(.iload 4, .null), (.iconst 3, .int (nI 3)), (.iadd, .null), (.iload_n 3, .null)] (Nat.le_of_ble_eq_true rfl) (by decide +kernel) ?_
          refine gx_iload_4 (gx_iconst (gx_iadd (gx_iload_n_3 ((gx_nil ?_)))))
          try simp only [nI_add, pk_mul, Nat.add_zero, Nat.zero_add, Nat.reduceAdd, Nat.reduceMul]
          refine m_as (j := 0) rfl (by decide +kernel) (show _ < 202 from by omega) ?_
          refine m_blk [(.aload_n 0, .null)] (Nat.le_of_ble_eq_true rfl) (by decide +kernel) ?_
          refine gx_aload_n_0 ((gx_nil ?_))
          refine m_getR fX10_9 (by decide +kernel) rfl ?_
          refine m_blk [(.iload 4, .null), (.iconst 4, .int (nI 4)), (.iadd, .null), (.iconst 0, .int (nI 0))] (Nat.le_of_ble_eq_true rfl) (by decide +kernel) ?_
          refine gx_iload_4 (gx_iconst (gx_iadd (gx_iconst ((gx_nil ?_)))))
          try simp only [nI_add, pk_mul, Nat.add_zero, Nat.zero_add, Nat.reduceAdd, Nat.reduceMul]
          refine m_as (j := 0) rfl (by decide +kernel) (show _ < 202 from by omega) ?_
          refine m_blk [(.aload_n 0, .null)] (Nat.le_of_ble_eq_true rfl) (by decide +kernel) ?_
          refine gx_aload_n_0 ((gx_nil ?_))
          refine m_getR fX10_9 (by decide +kernel) rfl ?_
          refine m_blk [(.iload 4, .null), (.iconst 5, .int (nI 5)), (.iadd, .null), (.iconst (-1), .int (-1))] (Nat.le_of_ble_eq_true rfl) (by decide +kernel) ?_
          refine gx_iload_4 (gx_iconst (gx_iadd (gx_iconst ((gx_nil ?_)))))
          try simp only [nI_add, pk_mul, Nat.add_zero, Nat.zero_add, Nat.reduceAdd, Nat.reduceMul]
          refine m_as (j := 0) rfl (by decide +kernel) (show _ < 202 from by omega) ?_
          refine m_blk [(.aload_n 0, .null)] (Nat.le_of_ble_eq_true rfl) (by decide +kernel) ?_
          refine gx_aload_n_0 ((gx_nil ?_))
          refine m_getR fX10_9 (by decide +kernel) rfl ?_
          refine m_blk [(.iload 4, .null), (.bipush 6, .int (nI 6)), (.iadd, .null), (.iconst 0, .int (nI 0))] (Nat.le_of_ble_eq_true rfl) (by decide +kernel) ?_
          refine gx_iload_4 (gx_bipush (gx_iadd (gx_iconst ((gx_nil ?_)))))
          try simp only [nI_add, pk_mul, Nat.add_zero, Nat.zero_add, Nat.reduceAdd, Nat.reduceMul]
          refine m_as (j := 0) rfl (by decide +kernel) (show _ < 202 from by omega) ?_
          refine m_blk [(.aload_n 0, .null)] (Nat.le_of_ble_eq_true rfl) (by decide +kernel) ?_
          refine gx_aload_n_0 ((gx_nil ?_))
          refine m_getR fX10_9 (by decide +kernel) rfl ?_
          refine m_blk [(.iconst 3, .int (nI 3)), (.dup2, .null)] (Nat.le_of_ble_eq_true rfl) (by decide +kernel) ?_
          refine gx_iconst (gx_dup2ir ((gx_nil ?_)))
          refine m_al (j := 0) rfl (by decide +kernel) (show _ < 202 from by omega) ?_
          simp only [fU_row, fR_fR, fR_s]
          rw [pk_un (by omega), pk_un (by omega), pk_un (by omega), pk_un (by omega), pk_un (by omega), pk_un (by omega), pk_un (by omega)]
          refine m_blk [(.iconst 1, .int (nI 1)), (.iadd, .null)] (Nat.le_of_ble_eq_true rfl) (by decide +kernel) ?_
          refine gx_iconst (gx_iadd ((gx_nil ?_)))
          try simp only [nI_add, pk_mul, Nat.add_zero, Nat.zero_add, Nat.reduceAdd, Nat.reduceMul]
          refine m_as (j := 0) rfl (by decide +kernel) (show _ < 202 from by omega) ?_
          refine m_blk [(.aload_n 0, .null)] (Nat.le_of_ble_eq_true rfl) (by decide +kernel) ?_
          refine gx_aload_n_0 ((gx_nil ?_))
          refine m_getR fX10_9 (by decide +kernel) rfl ?_
          refine m_blk [(.iconst 2, .int (nI 2)), (.dup2, .null)] (Nat.le_of_ble_eq_true rfl) (by decide +kernel) ?_
          refine gx_iconst (gx_dup2ir ((gx_nil ?_)))
          refine m_al (j := 0) rfl (by decide +kernel) (show _ < 202 from by omega) ?_
          simp only [fU_row, fR_fR, fR_s]
          rw [pk_un (by omega), pk_un (by omega), pk_un (by omega), pk_un (by omega), pk_un (by omega), pk_un (by omega), pk_un (by omega), pk_un (by omega)]
          refine m_blk [(.iconst 1, .int (nI 1)), (.iadd, .null)] (Nat.le_of_ble_eq_true rfl) (by decide +kernel) ?_
          refine gx_iconst (gx_iadd ((gx_nil ?_)))
          try simp only [nI_add, pk_mul, Nat.add_zero, Nat.zero_add, Nat.reduceAdd, Nat.reduceMul]
          refine m_as (j := 0) rfl (by decide +kernel) (show _ < 202 from by omega) ?_
          refine m_blk [(.aload_n 0, .null)] (Nat.le_of_ble_eq_true rfl) (by decide +kernel) ?_
          refine gx_aload_n_0 ((gx_nil ?_))
          refine m_getR fX10_9 (by decide +kernel) rfl ?_
          refine m_blk [(.iconst 2, .int (nI 2))] (Nat.le_of_ble_eq_true rfl) (by decide +kernel) ?_
          refine gx_iconst ((gx_nil ?_))
          refine m_al (j := 0) rfl (by decide +kernel) (show _ < 202 from by omega) ?_
          simp only [fU_row, fR_fR, fR_s]
          rw [pk_us]
          try simp only [i32_as]
          refine m_blk [(.iconst 1, .int (nI 1)), (.isub, .null)] (Nat.le_of_ble_eq_true rfl) (by decide +kernel) ?_
          refine gx_iconst (gx_isub ((gx_nil ?_)))
          try simp only [i32_as]
          have hτ : rT (bI ((nI 0 ≤ code ∧ code ≤ nI 9999) ∧ (nI 1 ≤ wt ∧ wt ≤ nI 50))) (bI (F 0 3 < nI 20)) (nI 1) = nI 0 := by
            rw [bI_t ⟨c5, c15⟩, bI_t (Int32.not_le.mp c31)]
            rfl
          refine m_end (some (.int _)) rfl ⟨by decide +kernel, _, rfl, rfl⟩ ?_ ?_ ?_
          · rw [hτ, if_pos (by decide)]
          · rw [hτ]
            rfl
          · rw [hτ, if_pos (by decide)]
            rfl
        · exact absurd c43 (by decide)
theorem r_adds {t : Nat} (ht : t ≤ 12) (h4 : F 0 4 = nI t) (dg ln rt : Int32) : mC Γ o ad M_X10_adds [.int dg, .int ln, .int rt] V F 2 (some (.int (if rT (bI (rPx dg ln = true)) (bI (nI 0 ≤ rt ∧ rt ≤ nI 5)) (bI (F 0 4 < nI 12 ∧ rFind (F 0) dg ln t = -1)) = 0 then F 0 4 + nI 1 else nI 0))) (vU V 13 (rT (bI (rPx dg ln = true)) (bI (nI 0 ≤ rt ∧ rt ≤ nI 5)) (bI (F 0 4 < nI 12 ∧ rFind (F 0) dg ln t = -1)))) (fR F 0 (if rT (bI (rPx dg ln = true)) (bI (nI 0 ≤ rt ∧ rt ≤ nI 5)) (bI (F 0 4 < nI 12 ∧ rFind (F 0) dg ln t = -1)) = 0 then rAddN (F 0) dg ln rt t else F 0)) := by
  refine mC_of (by decide) rfl (Nat.le_of_ble_eq_true rfl) [some (.ref o), some (.int dg), some (.int ln), some (.int rt), none, none] rfl ?_
  refine m_blk [(.aload_n 0, .null)] (Nat.le_of_ble_eq_true rfl) (by decide +kernel) ?_
  refine gx_aload_n_0 ((gx_nil ?_))
  refine m_getR fX10_9 (by decide +kernel) rfl ?_
  refine m_blk [(.iconst 4, .int (nI 4))] (Nat.le_of_ble_eq_true rfl) (by decide +kernel) ?_
  refine gx_iconst ((gx_nil ?_))
  refine m_al (j := 0) rfl (by decide +kernel) (show _ < 202 from by omega) ?_
  refine m_blk [(.bipush 12, .int (nI 12))] (Nat.le_of_ble_eq_true rfl) (by decide +kernel) ?_
  refine gx_bipush ((gx_nil ?_))
  refine m_icmp_ge (off := 17) (tgt := 25) (by decide +kernel) (by decide) (fun c8 => ?_) (fun c8 => ?_)
  · try simp only [bI_0, Decidable.not_not] at c8
    refine m_blk [(.iconst 0, .int (nI 0)), (.istore 4, .null), (.aload_n 0, .null), (.iload_n 1, .null), (.iload_n 2, .null)] (Nat.le_of_ble_eq_true rfl) (by decide +kernel) ?_
    refine gx_iconst (gx_istore_4 rfl (gx_aload_n_0 (gx_iload_n_1 (gx_iload_n_2 ((gx_nil ?_))))))
    refine m_callS kX10_121 (r_isPrefix _ _) (by decide +kernel) rfl rfl (Nat.le_of_ble_eq_true rfl) (Nat.le_of_ble_eq_true rfl) (Nat.le_of_ble_eq_true rfl) rfl ?_
    try simp only [Option.toList_some, Option.toList_none, List.cons_append, List.nil_append, bI_0, n1_0, n0_0, Decidable.not_not, not_true_eq_false, not_false_eq_true, nI_add, pk_mul, Nat.add_zero, Nat.zero_add, Nat.reduceAdd, Nat.reduceMul]
    refine m_blk [(.iload_n 3, .null)] (Nat.le_of_ble_eq_true rfl) (by decide +kernel) ?_
    refine gx_iload_n_3 ((gx_nil ?_))
    refine m_callS kX10_74 (r_isRoute _) (by decide +kernel) rfl rfl (Nat.le_of_ble_eq_true rfl) (Nat.le_of_ble_eq_true rfl) (Nat.le_of_ble_eq_true rfl) rfl ?_
    try simp only [Option.toList_some, Option.toList_none, List.cons_append, List.nil_append, bI_0, n1_0, n0_0, Decidable.not_not, not_true_eq_false, not_false_eq_true, nI_add, pk_mul, Nat.add_zero, Nat.zero_add, Nat.reduceAdd, Nat.reduceMul]
    refine m_blk [(.iload 4, .null)] (Nat.le_of_ble_eq_true rfl) (by decide +kernel) ?_
    refine gx_iload_4 ((gx_nil ?_))
    refine m_call kX10_48 (r_holds _ _ _) (by decide +kernel) rfl rfl (Nat.le_of_ble_eq_true rfl) (Nat.le_of_ble_eq_true rfl) (Nat.le_of_ble_eq_true rfl) rfl ?_
    try simp only [Option.toList_some, Option.toList_none, List.cons_append, List.nil_append, bI_0, n1_0, n0_0, Decidable.not_not, not_true_eq_false, not_false_eq_true, nI_add, pk_mul, Nat.add_zero, Nat.zero_add, Nat.reduceAdd, Nat.reduceMul]
    refine m_if_ne (off := 5) (tgt := 48) (by decide +kernel) (by decide) (fun c43 => ?_) (fun c43 => ?_)
    · try simp only [bI_0, Decidable.not_not] at c43
      exact c43.2.2.elim
    · try simp only [bI_0, Decidable.not_not] at c43
      refine m_blk [(.iconst 0, .int (nI 0))] (Nat.le_of_ble_eq_true rfl) (by decide +kernel) ?_
      refine gx_iconst ((gx_nil ?_))
      have q3 : bI (F 0 4 < nI 12 ∧ rFind (F 0) dg ln t = -1) = nI 0 := bI_f (fun z => absurd z.1 (Int32.not_lt.mpr c8))
      rw [q3]
      have hτ : ¬ rT (bI (rPx dg ln = true)) (bI (nI 0 ≤ rt ∧ rt ≤ nI 5)) (nI 0) = 0 := by
        unfold rT
        intro z
        split at z
        · exact absurd z (by decide)
        · split at z
          · exact absurd z (by decide)
          · rw [if_pos (by decide)] at z
            exact absurd z (by decide)
      refine m_end (some (.int _)) rfl ⟨by decide +kernel, _, rfl, rfl⟩ ?_ ?_ ?_
      · rw [if_neg hτ]
      · rfl
      · rw [if_neg hτ, fR_self]
  · try simp only [bI_0, Decidable.not_not] at c8
    have ht12 : t < 12 := by
      rw [h4] at c8
      rcases Nat.lt_or_ge t 12 with q | q
      · exact q
      · exact absurd (nI_le q (by omega)) c8
    refine m_blk [(.aload_n 0, .null), (.iload_n 1, .null), (.iload_n 2, .null)] (Nat.le_of_ble_eq_true rfl) (by decide +kernel) ?_
    refine gx_aload_n_0 (gx_iload_n_1 (gx_iload_n_2 ((gx_nil ?_))))
    refine m_call kX10_118 (r_find ht h4 _ _) (by decide +kernel) rfl rfl (Nat.le_of_ble_eq_true rfl) (Nat.le_of_ble_eq_true rfl) (Nat.le_of_ble_eq_true rfl) rfl ?_
    try simp only [Option.toList_some, Option.toList_none, List.cons_append, List.nil_append, bI_0, n1_0, n0_0, Decidable.not_not, not_true_eq_false, not_false_eq_true, nI_add, pk_mul, Nat.add_zero, Nat.zero_add, Nat.reduceAdd, Nat.reduceMul]
    refine m_blk [(.iconst (-1), .int (-1))] (Nat.le_of_ble_eq_true rfl) (by decide +kernel) ?_
    refine gx_iconst ((gx_nil ?_))
    refine m_icmp_ne (off := 7) (tgt := 25) (by decide +kernel) (by decide) (fun c18 => ?_) (fun c18 => ?_)
    · try simp only [bI_0, Decidable.not_not] at c18
      refine m_blk [(.iconst 0, .int (nI 0)), (.istore 4, .null), (.aload_n 0, .null), (.iload_n 1, .null), (.iload_n 2, .null)] (Nat.le_of_ble_eq_true rfl) (by decide +kernel) ?_
      refine gx_iconst (gx_istore_4 rfl (gx_aload_n_0 (gx_iload_n_1 (gx_iload_n_2 ((gx_nil ?_))))))
      refine m_callS kX10_121 (r_isPrefix _ _) (by decide +kernel) rfl rfl (Nat.le_of_ble_eq_true rfl) (Nat.le_of_ble_eq_true rfl) (Nat.le_of_ble_eq_true rfl) rfl ?_
      try simp only [Option.toList_some, Option.toList_none, List.cons_append, List.nil_append, bI_0, n1_0, n0_0, Decidable.not_not, not_true_eq_false, not_false_eq_true, nI_add, pk_mul, Nat.add_zero, Nat.zero_add, Nat.reduceAdd, Nat.reduceMul]
      refine m_blk [(.iload_n 3, .null)] (Nat.le_of_ble_eq_true rfl) (by decide +kernel) ?_
      refine gx_iload_n_3 ((gx_nil ?_))
      refine m_callS kX10_74 (r_isRoute _) (by decide +kernel) rfl rfl (Nat.le_of_ble_eq_true rfl) (Nat.le_of_ble_eq_true rfl) (Nat.le_of_ble_eq_true rfl) rfl ?_
      try simp only [Option.toList_some, Option.toList_none, List.cons_append, List.nil_append, bI_0, n1_0, n0_0, Decidable.not_not, not_true_eq_false, not_false_eq_true, nI_add, pk_mul, Nat.add_zero, Nat.zero_add, Nat.reduceAdd, Nat.reduceMul]
      refine m_blk [(.iload 4, .null)] (Nat.le_of_ble_eq_true rfl) (by decide +kernel) ?_
      refine gx_iload_4 ((gx_nil ?_))
      refine m_call kX10_48 (r_holds _ _ _) (by decide +kernel) rfl rfl (Nat.le_of_ble_eq_true rfl) (Nat.le_of_ble_eq_true rfl) (Nat.le_of_ble_eq_true rfl) rfl ?_
      try simp only [Option.toList_some, Option.toList_none, List.cons_append, List.nil_append, bI_0, n1_0, n0_0, Decidable.not_not, not_true_eq_false, not_false_eq_true, nI_add, pk_mul, Nat.add_zero, Nat.zero_add, Nat.reduceAdd, Nat.reduceMul]
      refine m_if_ne (off := 5) (tgt := 48) (by decide +kernel) (by decide) (fun c43 => ?_) (fun c43 => ?_)
      · try simp only [bI_0, Decidable.not_not] at c43
        exact c43.2.2.elim
      · try simp only [bI_0, Decidable.not_not] at c43
        refine m_blk [(.iconst 0, .int (nI 0))] (Nat.le_of_ble_eq_true rfl) (by decide +kernel) ?_
        refine gx_iconst ((gx_nil ?_))
        have q3 : bI (F 0 4 < nI 12 ∧ rFind (F 0) dg ln t = -1) = nI 0 := bI_f (fun z => c18 z.2)
        rw [q3]
        have hτ : ¬ rT (bI (rPx dg ln = true)) (bI (nI 0 ≤ rt ∧ rt ≤ nI 5)) (nI 0) = 0 := by
          unfold rT
          intro z
          split at z
          · exact absurd z (by decide)
          · split at z
            · exact absurd z (by decide)
            · rw [if_pos (by decide)] at z
              exact absurd z (by decide)
        refine m_end (some (.int _)) rfl ⟨by decide +kernel, _, rfl, rfl⟩ ?_ ?_ ?_
        · rw [if_neg hτ]
        · rfl
        · rw [if_neg hτ, fR_self]
    · try simp only [bI_0, Decidable.not_not] at c18
      refine m_blk [(.iconst 1, .int (nI 1)), (.goto 4, .retAddr 26), (.istore 4, .null), (.aload_n 0, .null), (.iload_n 1, .null), (.iload_n 2, .null)] (Nat.le_of_ble_eq_true rfl) (by decide +kernel) ?_
      refine gx_iconst (gx_goto (gx_istore_4 rfl (gx_aload_n_0 (gx_iload_n_1 (gx_iload_n_2 ((gx_nil ?_)))))))
      refine m_callS kX10_121 (r_isPrefix _ _) (by decide +kernel) rfl rfl (Nat.le_of_ble_eq_true rfl) (Nat.le_of_ble_eq_true rfl) (Nat.le_of_ble_eq_true rfl) rfl ?_
      try simp only [Option.toList_some, Option.toList_none, List.cons_append, List.nil_append, bI_0, n1_0, n0_0, Decidable.not_not, not_true_eq_false, not_false_eq_true, nI_add, pk_mul, Nat.add_zero, Nat.zero_add, Nat.reduceAdd, Nat.reduceMul]
      refine m_blk [(.iload_n 3, .null)] (Nat.le_of_ble_eq_true rfl) (by decide +kernel) ?_
      refine gx_iload_n_3 ((gx_nil ?_))
      refine m_callS kX10_74 (r_isRoute _) (by decide +kernel) rfl rfl (Nat.le_of_ble_eq_true rfl) (Nat.le_of_ble_eq_true rfl) (Nat.le_of_ble_eq_true rfl) rfl ?_
      try simp only [Option.toList_some, Option.toList_none, List.cons_append, List.nil_append, bI_0, n1_0, n0_0, Decidable.not_not, not_true_eq_false, not_false_eq_true, nI_add, pk_mul, Nat.add_zero, Nat.zero_add, Nat.reduceAdd, Nat.reduceMul]
      refine m_blk [(.iload 4, .null)] (Nat.le_of_ble_eq_true rfl) (by decide +kernel) ?_
      refine gx_iload_4 ((gx_nil ?_))
      refine m_call kX10_48 (r_holds _ _ _) (by decide +kernel) rfl rfl (Nat.le_of_ble_eq_true rfl) (Nat.le_of_ble_eq_true rfl) (Nat.le_of_ble_eq_true rfl) rfl ?_
      try simp only [Option.toList_some, Option.toList_none, List.cons_append, List.nil_append, bI_0, n1_0, n0_0, Decidable.not_not, not_true_eq_false, not_false_eq_true, nI_add, pk_mul, Nat.add_zero, Nat.zero_add, Nat.reduceAdd, Nat.reduceMul]
      refine m_if_ne (off := 5) (tgt := 48) (by decide +kernel) (by decide) (fun c43 => ?_) (fun c43 => ?_)
      · try simp only [bI_0, Decidable.not_not] at c43
        refine m_blk [(.bipush 26, .int (nI 26)), (.iconst 3, .int (nI 3)), (.aload_n 0, .null)] (Nat.le_of_ble_eq_true rfl) (by decide +kernel) ?_
        refine gx_bipush (gx_iconst (gx_aload_n_0 ((gx_nil ?_))))
        refine m_getR fX10_9 (by decide +kernel) rfl ?_
        refine m_blk [(.iconst 4, .int (nI 4))] (Nat.le_of_ble_eq_true rfl) (by decide +kernel) ?_
        refine gx_iconst ((gx_nil ?_))
        refine m_al (j := 0) rfl (by decide +kernel) (show _ < 202 from by omega) ?_
        refine m_top h4 ?_
        refine m_blk [(.imul, .null), (.iadd, .null), (.istore 5, .null), (.aload_n 0, .null)] (Nat.le_of_ble_eq_true rfl) (by decide +kernel) ?_
        refine gx_imul (gx_iadd (gx_istore_5 rfl (gx_aload_n_0 ((gx_nil ?_)))))
        try simp only [nI_add, pk_mul, Nat.add_zero, Nat.zero_add, Nat.reduceAdd, Nat.reduceMul]
        refine m_getR fX10_9 (by decide +kernel) rfl ?_
        refine m_blk [(.iload 5, .null), (.iconst 0, .int (nI 0)), (.iadd, .null), (.iload_n 1, .null)] (Nat.le_of_ble_eq_true rfl) (by decide +kernel) ?_
        refine gx_iload_5 (gx_iconst (gx_iadd (gx_iload_n_1 ((gx_nil ?_)))))
        try simp only [nI_add, pk_mul, Nat.add_zero, Nat.zero_add, Nat.reduceAdd, Nat.reduceMul]
        refine m_as (j := 0) rfl (by decide +kernel) (show _ < 202 from by omega) ?_
        refine m_blk [(.aload_n 0, .null)] (Nat.le_of_ble_eq_true rfl) (by decide +kernel) ?_
        refine gx_aload_n_0 ((gx_nil ?_))
        refine m_getR fX10_9 (by decide +kernel) rfl ?_
        refine m_blk [(.iload 5, .null), (.iconst 1, .int (nI 1)), (.iadd, .null), (.iload_n 2, .null)] (Nat.le_of_ble_eq_true rfl) (by decide +kernel) ?_
        refine gx_iload_5 (gx_iconst (gx_iadd (gx_iload_n_2 ((gx_nil ?_)))))
        try simp only [nI_add, pk_mul, Nat.add_zero, Nat.zero_add, Nat.reduceAdd, Nat.reduceMul]
        refine m_as (j := 0) rfl (by decide +kernel) (show _ < 202 from by omega) ?_
        refine m_blk [(.aload_n 0, .null)] (Nat.le_of_ble_eq_true rfl) (by decide +kernel) ?_
        refine gx_aload_n_0 ((gx_nil ?_))
        refine m_getR fX10_9 (by decide +kernel) rfl ?_
        refine m_blk [(.iload 5, .null), (.iconst 2, .int (nI 2)), (.iadd, .null), (.iload_n 3, .null)] (Nat.le_of_ble_eq_true rfl) (by decide +kernel) ?_
        refine gx_iload_5 (gx_iconst (gx_iadd (gx_iload_n_3 ((gx_nil ?_)))))
        try simp only [nI_add, pk_mul, Nat.add_zero, Nat.zero_add, Nat.reduceAdd, Nat.reduceMul]
        refine m_as (j := 0) rfl (by decide +kernel) (show _ < 202 from by omega) ?_
        refine m_blk [(.aload_n 0, .null)] (Nat.le_of_ble_eq_true rfl) (by decide +kernel) ?_
        refine gx_aload_n_0 ((gx_nil ?_))
        refine m_getR fX10_9 (by decide +kernel) rfl ?_
        refine m_blk [(.iconst 4, .int (nI 4)), (.dup2, .null)] (Nat.le_of_ble_eq_true rfl) (by decide +kernel) ?_
        refine gx_iconst (gx_dup2ir ((gx_nil ?_)))
        refine m_al (j := 0) rfl (by decide +kernel) (show _ < 202 from by omega) ?_
        simp only [fU_row, fR_fR, fR_s]
        rw [pk_un (by omega), pk_un (by omega), pk_un (by omega)]
        refine m_blk [(.iconst 1, .int (nI 1)), (.iadd, .null)] (Nat.le_of_ble_eq_true rfl) (by decide +kernel) ?_
        refine gx_iconst (gx_iadd ((gx_nil ?_)))
        try simp only [nI_add, pk_mul, Nat.add_zero, Nat.zero_add, Nat.reduceAdd, Nat.reduceMul]
        refine m_as (j := 0) rfl (by decide +kernel) (show _ < 202 from by omega) ?_
        refine m_blk [(.aload_n 0, .null)] (Nat.le_of_ble_eq_true rfl) (by decide +kernel) ?_
        refine gx_aload_n_0 ((gx_nil ?_))
        refine m_getR fX10_9 (by decide +kernel) rfl ?_
        refine m_blk [(.iconst 4, .int (nI 4))] (Nat.le_of_ble_eq_true rfl) (by decide +kernel) ?_
        refine gx_iconst ((gx_nil ?_))
        refine m_al (j := 0) rfl (by decide +kernel) (show _ < 202 from by omega) ?_
        simp only [fU_row, fR_fR, fR_s]
        rw [pk_us]
        have q3 : bI (F 0 4 < nI 12 ∧ rFind (F 0) dg ln t = -1) = nI 1 := bI_t ⟨Int32.not_le.mp c8, c18⟩
        rw [q3, bI_t c43.1, bI_t c43.2.1]
        refine m_end (some (.int _)) rfl ⟨by decide +kernel, _, rfl, rfl⟩ ?_ ?_ ?_
        · rw [if_pos (by decide)]
        · rfl
        · rw [if_pos (by decide)]
          rfl
      · try simp only [bI_0, Decidable.not_not] at c43
        refine m_blk [(.iconst 0, .int (nI 0))] (Nat.le_of_ble_eq_true rfl) (by decide +kernel) ?_
        refine gx_iconst ((gx_nil ?_))
        have q3 : bI (F 0 4 < nI 12 ∧ rFind (F 0) dg ln t = -1) = nI 1 := bI_t ⟨Int32.not_le.mp c8, c18⟩
        rw [q3]
        have hτ : ¬ rT (bI (rPx dg ln = true)) (bI (nI 0 ≤ rt ∧ rt ≤ nI 5)) (nI 1) = 0 := by
          unfold rT
          intro z
          split at z
          · exact absurd z (by decide)
          · split at z
            · exact absurd z (by decide)
            · next a1 a2 => exact c43 ⟨bI_n.mp a1, bI_n.mp a2, trivial⟩
        refine m_end (some (.int _)) rfl ⟨by decide +kernel, _, rfl, rfl⟩ ?_ ?_ ?_
        · rw [if_neg hτ]
        · rfl
        · rw [if_neg hτ, fR_self]
end S15ref6leantxt
