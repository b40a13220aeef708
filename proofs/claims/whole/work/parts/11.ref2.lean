section S11ref2leantxt
variable {Γ : gE} {o : Nat} {ad : Nat → Nat} {V : Nat → Int32} {F : Nat → Nat → Int32}
theorem n1_0 : (nI 1 = 0) = False := by simp only [eq_iff_iff, iff_false]; decide
theorem n2_0 : (nI 2 = 0) = False := by simp only [eq_iff_iff, iff_false]; decide
theorem n3_0 : (nI 3 = 0) = False := by simp only [eq_iff_iff, iff_false]; decide
theorem n0_0 : (nI 0 = 0) = True := by simp only [eq_iff_iff, iff_true]; decide
def rT (a b c : Int32) : Int32 := if a = 0 then nI 1 else if b = 0 then nI 2 else if c = 0 then nI 3 else nI 0
theorem r_holds (a b c : Int32) : mC Γ o ad M_X10_holds [.int a, .int b, .int c] V F 0 (some (.int (bI (¬ a = 0 ∧ ¬ b = 0 ∧ ¬ c = 0)))) (vU V 13 (rT a b c)) (F) := by
  refine mC_of (by decide) rfl (Nat.le_of_ble_eq_true rfl) [some (.ref o), some (.int a), some (.int b), some (.int c)] rfl ?_
  refine m_blk [(.aload_n 0, .null), (.iload_n 1, .null)] (Nat.le_of_ble_eq_true rfl) (by decide +kernel) ?_
  refine gx_aload_n_0 (gx_iload_n_1 ((gx_nil ?_)))
  refine m_if_ne (off := 7) (tgt := 9) (by decide +kernel) (by decide) (fun c2 => ?_) (fun c2 => ?_)
  · try simp only [bI_0, Decidable.not_not] at c2
    refine m_blk [(.iload_n 2, .null)] (Nat.le_of_ble_eq_true rfl) (by decide +kernel) ?_
    refine gx_iload_n_2 ((gx_nil ?_))
    refine m_if_ne (off := 7) (tgt := 17) (by decide +kernel) (by decide) (fun c10 => ?_) (fun c10 => ?_)
    · try simp only [bI_0, Decidable.not_not] at c10
      refine m_blk [(.iload_n 3, .null)] (Nat.le_of_ble_eq_true rfl) (by decide +kernel) ?_
      refine gx_iload_n_3 ((gx_nil ?_))
      refine m_if_ne (off := 7) (tgt := 25) (by decide +kernel) (by decide) (fun c18 => ?_) (fun c18 => ?_)
      · try simp only [bI_0, Decidable.not_not] at c18
        refine m_blk [(.iconst 0, .int (nI 0))] (Nat.le_of_ble_eq_true rfl) (by decide +kernel) ?_
        refine gx_iconst ((gx_nil ?_))
        refine m_putI fX10_45 (by decide +kernel) rfl (by decide) rfl rfl ?_
        refine m_blk [(.aload_n 0, .null)] (Nat.le_of_ble_eq_true rfl) (by decide +kernel) ?_
        refine gx_aload_n_0 ((gx_nil ?_))
        refine m_getI fX10_45 (by decide +kernel) rfl ?_
        try simp only [vU_s, vU_n, ne_eq, Nat.reduceEqDiff, not_false_eq_true, nI_add, pk_mul, Nat.add_zero, Nat.zero_add, Nat.reduceAdd, Nat.reduceMul]
        refine m_if_ne (off := 7) (tgt := 40) (by decide +kernel) (by decide) (fun c33 => ?_) (fun c33 => ?_)
        · try simp only [bI_0, Decidable.not_not] at c33
          refine m_blk [(.iconst 0, .int (nI 0))] (Nat.le_of_ble_eq_true rfl) (by decide +kernel) ?_
          refine gx_iconst ((gx_nil ?_))
          refine m_end (some (.int _)) rfl ⟨by decide +kernel, _, rfl, by first | rfl | (unfold bI; split <;> rfl)⟩ ?_ ?_ ?_
          all_goals first | rfl | (simp_all [rT, bI, n1_0, n0_0, n2_0, n3_0]; done) | (simp only [Option.some.injEq, Value.int.injEq, bI, Int32.lt_iff_toInt_lt, Int32.le_iff_toInt_le, Int32.not_lt, Int32.not_le] at *; split <;> first | rfl | omega)
        · try simp only [bI_0, Decidable.not_not] at c33
          refine m_blk [(.iconst 1, .int (nI 1)), (.goto 4, .retAddr 41)] (Nat.le_of_ble_eq_true rfl) (by decide +kernel) ?_
          refine gx_iconst (gx_goto ((gx_nil ?_)))
          refine m_end (some (.int _)) rfl ⟨by decide +kernel, _, rfl, by first | rfl | (unfold bI; split <;> rfl)⟩ ?_ ?_ ?_
          all_goals first | rfl | (simp_all [rT, bI, n1_0, n0_0, n2_0, n3_0]; done) | (simp only [Option.some.injEq, Value.int.injEq, bI, Int32.lt_iff_toInt_lt, Int32.le_iff_toInt_le, Int32.not_lt, Int32.not_le] at *; split <;> first | rfl | omega)
      · try simp only [bI_0, Decidable.not_not] at c18
        refine m_blk [(.iconst 3, .int (nI 3)), (.goto 4, .retAddr 26)] (Nat.le_of_ble_eq_true rfl) (by decide +kernel) ?_
        refine gx_iconst (gx_goto ((gx_nil ?_)))
        refine m_putI fX10_45 (by decide +kernel) rfl (by decide) rfl rfl ?_
        refine m_blk [(.aload_n 0, .null)] (Nat.le_of_ble_eq_true rfl) (by decide +kernel) ?_
        refine gx_aload_n_0 ((gx_nil ?_))
        refine m_getI fX10_45 (by decide +kernel) rfl ?_
        try simp only [vU_s, vU_n, ne_eq, Nat.reduceEqDiff, not_false_eq_true, nI_add, pk_mul, Nat.add_zero, Nat.zero_add, Nat.reduceAdd, Nat.reduceMul]
        refine m_if_ne (off := 7) (tgt := 40) (by decide +kernel) (by decide) (fun c33 => ?_) (fun c33 => ?_)
        · try simp only [bI_0, Decidable.not_not] at c33
          refine m_blk [(.iconst 0, .int (nI 0))] (Nat.le_of_ble_eq_true rfl) (by decide +kernel) ?_
          refine gx_iconst ((gx_nil ?_))
          refine m_end (some (.int _)) rfl ⟨by decide +kernel, _, rfl, by first | rfl | (unfold bI; split <;> rfl)⟩ ?_ ?_ ?_
          all_goals first | rfl | (simp_all [rT, bI, n1_0, n0_0, n2_0, n3_0]; done) | (simp only [Option.some.injEq, Value.int.injEq, bI, Int32.lt_iff_toInt_lt, Int32.le_iff_toInt_le, Int32.not_lt, Int32.not_le] at *; split <;> first | rfl | omega)
        · try simp only [bI_0, Decidable.not_not] at c33
          refine m_blk [(.iconst 1, .int (nI 1)), (.goto 4, .retAddr 41)] (Nat.le_of_ble_eq_true rfl) (by decide +kernel) ?_
          refine gx_iconst (gx_goto ((gx_nil ?_)))
          refine m_end (some (.int _)) rfl ⟨by decide +kernel, _, rfl, by first | rfl | (unfold bI; split <;> rfl)⟩ ?_ ?_ ?_
          all_goals first | rfl | (simp_all [rT, bI, n1_0, n0_0, n2_0, n3_0]; done) | (simp only [Option.some.injEq, Value.int.injEq, bI, Int32.lt_iff_toInt_lt, Int32.le_iff_toInt_le, Int32.not_lt, Int32.not_le] at *; split <;> first | rfl | omega)
    · try simp only [bI_0, Decidable.not_not] at c10
      refine m_blk [(.iconst 2, .int (nI 2)), (.goto 12, .retAddr 26)] (Nat.le_of_ble_eq_true rfl) (by decide +kernel) ?_
      refine gx_iconst (gx_goto ((gx_nil ?_)))
      refine m_putI fX10_45 (by decide +kernel) rfl (by decide) rfl rfl ?_
      refine m_blk [(.aload_n 0, .null)] (Nat.le_of_ble_eq_true rfl) (by decide +kernel) ?_
      refine gx_aload_n_0 ((gx_nil ?_))
      refine m_getI fX10_45 (by decide +kernel) rfl ?_
      try simp only [vU_s, vU_n, ne_eq, Nat.reduceEqDiff, not_false_eq_true, nI_add, pk_mul, Nat.add_zero, Nat.zero_add, Nat.reduceAdd, Nat.reduceMul]
      refine m_if_ne (off := 7) (tgt := 40) (by decide +kernel) (by decide) (fun c33 => ?_) (fun c33 => ?_)
      · try simp only [bI_0, Decidable.not_not] at c33
        refine m_blk [(.iconst 0, .int (nI 0))] (Nat.le_of_ble_eq_true rfl) (by decide +kernel) ?_
        refine gx_iconst ((gx_nil ?_))
        refine m_end (some (.int _)) rfl ⟨by decide +kernel, _, rfl, by first | rfl | (unfold bI; split <;> rfl)⟩ ?_ ?_ ?_
        all_goals first | rfl | (simp_all [rT, bI, n1_0, n0_0, n2_0, n3_0]; done) | (simp only [Option.some.injEq, Value.int.injEq, bI, Int32.lt_iff_toInt_lt, Int32.le_iff_toInt_le, Int32.not_lt, Int32.not_le] at *; split <;> first | rfl | omega)
      · try simp only [bI_0, Decidable.not_not] at c33
        refine m_blk [(.iconst 1, .int (nI 1)), (.goto 4, .retAddr 41)] (Nat.le_of_ble_eq_true rfl) (by decide +kernel) ?_
        refine gx_iconst (gx_goto ((gx_nil ?_)))
        refine m_end (some (.int _)) rfl ⟨by decide +kernel, _, rfl, by first | rfl | (unfold bI; split <;> rfl)⟩ ?_ ?_ ?_
        all_goals first | rfl | (simp_all [rT, bI, n1_0, n0_0, n2_0, n3_0]; done) | (simp only [Option.some.injEq, Value.int.injEq, bI, Int32.lt_iff_toInt_lt, Int32.le_iff_toInt_le, Int32.not_lt, Int32.not_le] at *; split <;> first | rfl | omega)
  · try simp only [bI_0, Decidable.not_not] at c2
    refine m_blk [(.iconst 1, .int (nI 1)), (.goto 20, .retAddr 26)] (Nat.le_of_ble_eq_true rfl) (by decide +kernel) ?_
    refine gx_iconst (gx_goto ((gx_nil ?_)))
    refine m_putI fX10_45 (by decide +kernel) rfl (by decide) rfl rfl ?_
    refine m_blk [(.aload_n 0, .null)] (Nat.le_of_ble_eq_true rfl) (by decide +kernel) ?_
    refine gx_aload_n_0 ((gx_nil ?_))
    refine m_getI fX10_45 (by decide +kernel) rfl ?_
    try simp only [vU_s, vU_n, ne_eq, Nat.reduceEqDiff, not_false_eq_true, nI_add, pk_mul, Nat.add_zero, Nat.zero_add, Nat.reduceAdd, Nat.reduceMul]
    refine m_if_ne (off := 7) (tgt := 40) (by decide +kernel) (by decide) (fun c33 => ?_) (fun c33 => ?_)
    · try simp only [bI_0, Decidable.not_not] at c33
      refine m_blk [(.iconst 0, .int (nI 0))] (Nat.le_of_ble_eq_true rfl) (by decide +kernel) ?_
      refine gx_iconst ((gx_nil ?_))
      refine m_end (some (.int _)) rfl ⟨by decide +kernel, _, rfl, by first | rfl | (unfold bI; split <;> rfl)⟩ ?_ ?_ ?_
      all_goals first | rfl | (simp_all [rT, bI, n1_0, n0_0, n2_0, n3_0]; done) | (simp only [Option.some.injEq, Value.int.injEq, bI, Int32.lt_iff_toInt_lt, Int32.le_iff_toInt_le, Int32.not_lt, Int32.not_le] at *; split <;> first | rfl | omega)
    · try simp only [bI_0, Decidable.not_not] at c33
      refine m_blk [(.iconst 1, .int (nI 1)), (.goto 4, .retAddr 41)] (Nat.le_of_ble_eq_true rfl) (by decide +kernel) ?_
      refine gx_iconst (gx_goto ((gx_nil ?_)))
      refine m_end (some (.int _)) rfl ⟨by decide +kernel, _, rfl, by first | rfl | (unfold bI; split <;> rfl)⟩ ?_ ?_ ?_
      all_goals first | rfl | (simp_all [rT, bI, n1_0, n0_0, n2_0, n3_0]; done) | (simp only [Option.some.injEq, Value.int.injEq, bI, Int32.lt_iff_toInt_lt, Int32.le_iff_toInt_le, Int32.not_lt, Int32.not_le] at *; split <;> first | rfl | omega)
theorem r_goes (a : Int32) : mC Γ o ad M_X10_goes [.int a] V F 1 (some (.int (bI (¬ a = 0)))) (vU V 13 (rT a (nI 1) (nI 1))) (F) := by
  refine mC_of (by decide) rfl (Nat.le_of_ble_eq_true rfl) [some (.ref o), some (.int a)] rfl ?_
  refine m_blk [(.aload_n 0, .null), (.iload_n 1, .null), (.iconst 1, .int (nI 1)), (.iconst 1, .int (nI 1))] (Nat.le_of_ble_eq_true rfl) (by decide +kernel) ?_
  refine gx_aload_n_0 (gx_iload_n_1 (gx_iconst (gx_iconst ((gx_nil ?_)))))
  refine m_call kX10_48 (r_holds _ _ _) (by decide +kernel) rfl rfl (Nat.le_of_ble_eq_true rfl) (Nat.le_of_ble_eq_true rfl) (Nat.le_of_ble_eq_true rfl) rfl ?_
  try simp only [Option.toList_some, Option.toList_none, List.cons_append, List.nil_append, bI_0, n1_0, n0_0, Decidable.not_not, not_true_eq_false, not_false_eq_true, nI_add, pk_mul, Nat.add_zero, Nat.zero_add, Nat.reduceAdd, Nat.reduceMul]
  refine m_end (some (.int _)) rfl ⟨by decide +kernel, _, rfl, by first | rfl | (unfold bI; split <;> rfl)⟩ ?_ ?_ ?_
  all_goals first | rfl | (simp_all [bI, n1_0]; done) | (simp only [Option.some.injEq, Value.int.injEq, bI, Int32.lt_iff_toInt_lt, Int32.le_iff_toInt_le, Int32.not_lt, Int32.not_le] at *; split <;> first | rfl | omega)
theorem r_undoableCount  : mC Γ o ad M_X10_undoableCount [] V F 0 (some (.int (V 6))) (vU V 13 (nI 0)) (F) := by
  refine mC_of (by decide) rfl (Nat.le_of_ble_eq_true rfl) [some (.ref o)] rfl ?_
  refine m_blk [(.aload_n 0, .null), (.iconst 0, .int (nI 0))] (Nat.le_of_ble_eq_true rfl) (by decide +kernel) ?_
  refine gx_aload_n_0 (gx_iconst ((gx_nil ?_)))
  refine m_putI fX10_45 (by decide +kernel) rfl (by decide) rfl rfl ?_
  refine m_blk [(.aload_n 0, .null)] (Nat.le_of_ble_eq_true rfl) (by decide +kernel) ?_
  refine gx_aload_n_0 ((gx_nil ?_))
  refine m_getI fX10_56 (by decide +kernel) rfl ?_
  try simp only [vU_s, vU_n, ne_eq, Nat.reduceEqDiff, not_false_eq_true, nI_add, pk_mul, Nat.add_zero, Nat.zero_add, Nat.reduceAdd, Nat.reduceMul]
  refine m_end (some (.int _)) rfl ⟨by decide +kernel, _, rfl, rfl⟩ ?_ ?_ ?_
  all_goals first | rfl | (simp_all [rThr, bI, bI_0, bI_n]; done) | (simp only [Option.some.injEq, Value.int.injEq, bI, Int32.lt_iff_toInt_lt, Int32.le_iff_toInt_le, Int32.not_lt, Int32.not_le] at *; split <;> first | rfl | omega)
theorem r_hour  : mC Γ o ad M_X10_hour [] V F 0 (some (.int (F 0 0))) (vU V 13 (nI 0)) (F) := by
  refine mC_of (by decide) rfl (Nat.le_of_ble_eq_true rfl) [some (.ref o)] rfl ?_
  refine m_blk [(.aload_n 0, .null), (.iconst 0, .int (nI 0))] (Nat.le_of_ble_eq_true rfl) (by decide +kernel) ?_
  refine gx_aload_n_0 (gx_iconst ((gx_nil ?_)))
  refine m_putI fX10_45 (by decide +kernel) rfl (by decide) rfl rfl ?_
  refine m_blk [(.aload_n 0, .null)] (Nat.le_of_ble_eq_true rfl) (by decide +kernel) ?_
  refine gx_aload_n_0 ((gx_nil ?_))
  refine m_getR fX10_9 (by decide +kernel) rfl ?_
  refine m_blk [(.iconst 0, .int (nI 0))] (Nat.le_of_ble_eq_true rfl) (by decide +kernel) ?_
  refine gx_iconst ((gx_nil ?_))
  refine m_al (j := 0) rfl (by decide +kernel) (show _ < 202 from by omega) ?_
  refine m_end (some (.int _)) rfl ⟨by decide +kernel, _, rfl, rfl⟩ ?_ ?_ ?_
  all_goals first | rfl | (simp_all [rThr, bI, bI_0, bI_n]; done) | (simp only [Option.some.injEq, Value.int.injEq, bI, Int32.lt_iff_toInt_lt, Int32.le_iff_toInt_le, Int32.not_lt, Int32.not_le] at *; split <;> first | rfl | omega)
theorem r_day  : mC Γ o ad M_X10_day [] V F 0 (some (.int (F 0 1))) (vU V 13 (nI 0)) (F) := by
  refine mC_of (by decide) rfl (Nat.le_of_ble_eq_true rfl) [some (.ref o)] rfl ?_
  refine m_blk [(.aload_n 0, .null), (.iconst 0, .int (nI 0))] (Nat.le_of_ble_eq_true rfl) (by decide +kernel) ?_
  refine gx_aload_n_0 (gx_iconst ((gx_nil ?_)))
  refine m_putI fX10_45 (by decide +kernel) rfl (by decide) rfl rfl ?_
  refine m_blk [(.aload_n 0, .null)] (Nat.le_of_ble_eq_true rfl) (by decide +kernel) ?_
  refine gx_aload_n_0 ((gx_nil ?_))
  refine m_getR fX10_9 (by decide +kernel) rfl ?_
  refine m_blk [(.iconst 1, .int (nI 1))] (Nat.le_of_ble_eq_true rfl) (by decide +kernel) ?_
  refine gx_iconst ((gx_nil ?_))
  refine m_al (j := 0) rfl (by decide +kernel) (show _ < 202 from by omega) ?_
  refine m_end (some (.int _)) rfl ⟨by decide +kernel, _, rfl, rfl⟩ ?_ ?_ ?_
  all_goals first | rfl | (simp_all [rThr, bI, bI_0, bI_n]; done) | (simp only [Option.some.injEq, Value.int.injEq, bI, Int32.lt_iff_toInt_lt, Int32.le_iff_toInt_le, Int32.not_lt, Int32.not_le] at *; split <;> first | rfl | omega)
theorem r_letterCount  : mC Γ o ad M_X10_letterCount [] V F 0 (some (.int (F 0 3))) (vU V 13 (nI 0)) (F) := by
  refine mC_of (by decide) rfl (Nat.le_of_ble_eq_true rfl) [some (.ref o)] rfl ?_
  refine m_blk [(.aload_n 0, .null), (.iconst 0, .int (nI 0))] (Nat.le_of_ble_eq_true rfl) (by decide +kernel) ?_
  refine gx_aload_n_0 (gx_iconst ((gx_nil ?_)))
  refine m_putI fX10_45 (by decide +kernel) rfl (by decide) rfl rfl ?_
  refine m_blk [(.aload_n 0, .null)] (Nat.le_of_ble_eq_true rfl) (by decide +kernel) ?_
  refine gx_aload_n_0 ((gx_nil ?_))
  refine m_getR fX10_9 (by decide +kernel) rfl ?_
  refine m_blk [(.iconst 3, .int (nI 3))] (Nat.le_of_ble_eq_true rfl) (by decide +kernel) ?_
  refine gx_iconst ((gx_nil ?_))
  refine m_al (j := 0) rfl (by decide +kernel) (show _ < 202 from by omega) ?_
  refine m_end (some (.int _)) rfl ⟨by decide +kernel, _, rfl, rfl⟩ ?_ ?_ ?_
  all_goals first | rfl | (simp_all [rThr, bI, bI_0, bI_n]; done) | (simp only [Option.some.injEq, Value.int.injEq, bI, Int32.lt_iff_toInt_lt, Int32.le_iff_toInt_le, Int32.not_lt, Int32.not_le] at *; split <;> first | rfl | omega)
theorem r_prefixCount  : mC Γ o ad M_X10_prefixCount [] V F 0 (some (.int (F 0 4))) (vU V 13 (nI 0)) (F) := by
  refine mC_of (by decide) rfl (Nat.le_of_ble_eq_true rfl) [some (.ref o)] rfl ?_
  refine m_blk [(.aload_n 0, .null), (.iconst 0, .int (nI 0))] (Nat.le_of_ble_eq_true rfl) (by decide +kernel) ?_
  refine gx_aload_n_0 (gx_iconst ((gx_nil ?_)))
  refine m_putI fX10_45 (by decide +kernel) rfl (by decide) rfl rfl ?_
  refine m_blk [(.aload_n 0, .null)] (Nat.le_of_ble_eq_true rfl) (by decide +kernel) ?_
  refine gx_aload_n_0 ((gx_nil ?_))
  refine m_getR fX10_9 (by decide +kernel) rfl ?_
  refine m_blk [(.iconst 4, .int (nI 4))] (Nat.le_of_ble_eq_true rfl) (by decide +kernel) ?_
  refine gx_iconst ((gx_nil ?_))
  refine m_al (j := 0) rfl (by decide +kernel) (show _ < 202 from by omega) ?_
  refine m_end (some (.int _)) rfl ⟨by decide +kernel, _, rfl, rfl⟩ ?_ ?_ ?_
  all_goals first | rfl | (simp_all [rThr, bI, bI_0, bI_n]; done) | (simp only [Option.some.injEq, Value.int.injEq, bI, Int32.lt_iff_toInt_lt, Int32.le_iff_toInt_le, Int32.not_lt, Int32.not_le] at *; split <;> first | rfl | omega)
theorem r_deliveredCount  : mC Γ o ad M_X10_deliveredCount [] V F 0 (some (.int (F 0 5))) (vU V 13 (nI 0)) (F) := by
  refine mC_of (by decide) rfl (Nat.le_of_ble_eq_true rfl) [some (.ref o)] rfl ?_
  refine m_blk [(.aload_n 0, .null), (.iconst 0, .int (nI 0))] (Nat.le_of_ble_eq_true rfl) (by decide +kernel) ?_
  refine gx_aload_n_0 (gx_iconst ((gx_nil ?_)))
  refine m_putI fX10_45 (by decide +kernel) rfl (by decide) rfl rfl ?_
  refine m_blk [(.aload_n 0, .null)] (Nat.le_of_ble_eq_true rfl) (by decide +kernel) ?_
  refine gx_aload_n_0 ((gx_nil ?_))
  refine m_getR fX10_9 (by decide +kernel) rfl ?_
  refine m_blk [(.iconst 5, .int (nI 5))] (Nat.le_of_ble_eq_true rfl) (by decide +kernel) ?_
  refine gx_iconst ((gx_nil ?_))
  refine m_al (j := 0) rfl (by decide +kernel) (show _ < 202 from by omega) ?_
  refine m_end (some (.int _)) rfl ⟨by decide +kernel, _, rfl, rfl⟩ ?_ ?_ ?_
  all_goals first | rfl | (simp_all [rThr, bI, bI_0, bI_n]; done) | (simp only [Option.some.injEq, Value.int.injEq, bI, Int32.lt_iff_toInt_lt, Int32.le_iff_toInt_le, Int32.not_lt, Int32.not_le] at *; split <;> first | rfl | omega)
theorem r_deadCount  : mC Γ o ad M_X10_deadCount [] V F 0 (some (.int (F 0 6))) (vU V 13 (nI 0)) (F) := by
  refine mC_of (by decide) rfl (Nat.le_of_ble_eq_true rfl) [some (.ref o)] rfl ?_
  refine m_blk [(.aload_n 0, .null), (.iconst 0, .int (nI 0))] (Nat.le_of_ble_eq_true rfl) (by decide +kernel) ?_
  refine gx_aload_n_0 (gx_iconst ((gx_nil ?_)))
  refine m_putI fX10_45 (by decide +kernel) rfl (by decide) rfl rfl ?_
  refine m_blk [(.aload_n 0, .null)] (Nat.le_of_ble_eq_true rfl) (by decide +kernel) ?_
  refine gx_aload_n_0 ((gx_nil ?_))
  refine m_getR fX10_9 (by decide +kernel) rfl ?_
  refine m_blk [(.bipush 6, .int (nI 6))] (Nat.le_of_ble_eq_true rfl) (by decide +kernel) ?_
  refine gx_bipush ((gx_nil ?_))
  refine m_al (j := 0) rfl (by decide +kernel) (show _ < 202 from by omega) ?_
  refine m_end (some (.int _)) rfl ⟨by decide +kernel, _, rfl, rfl⟩ ?_ ?_ ?_
  all_goals first | rfl | (simp_all [rThr, bI, bI_0, bI_n]; done) | (simp only [Option.some.injEq, Value.int.injEq, bI, Int32.lt_iff_toInt_lt, Int32.le_iff_toInt_le, Int32.not_lt, Int32.not_le] at *; split <;> first | rfl | omega)
theorem r_returnCount  : mC Γ o ad M_X10_returnCount [] V F 0 (some (.int (F 0 7))) (vU V 13 (nI 0)) (F) := by
  refine mC_of (by decide) rfl (Nat.le_of_ble_eq_true rfl) [some (.ref o)] rfl ?_
  refine m_blk [(.aload_n 0, .null), (.iconst 0, .int (nI 0))] (Nat.le_of_ble_eq_true rfl) (by decide +kernel) ?_
  refine gx_aload_n_0 (gx_iconst ((gx_nil ?_)))
  refine m_putI fX10_45 (by decide +kernel) rfl (by decide) rfl rfl ?_
  refine m_blk [(.aload_n 0, .null)] (Nat.le_of_ble_eq_true rfl) (by decide +kernel) ?_
  refine gx_aload_n_0 ((gx_nil ?_))
  refine m_getR fX10_9 (by decide +kernel) rfl ?_
  refine m_blk [(.bipush 7, .int (nI 7))] (Nat.le_of_ble_eq_true rfl) (by decide +kernel) ?_
  refine gx_bipush ((gx_nil ?_))
  refine m_al (j := 0) rfl (by decide +kernel) (show _ < 202 from by omega) ?_
  refine m_end (some (.int _)) rfl ⟨by decide +kernel, _, rfl, rfl⟩ ?_ ?_ ?_
  all_goals first | rfl | (simp_all [rThr, bI, bI_0, bI_n]; done) | (simp only [Option.some.injEq, Value.int.injEq, bI, Int32.lt_iff_toInt_lt, Int32.le_iff_toInt_le, Int32.not_lt, Int32.not_le] at *; split <;> first | rfl | omega)
theorem r_isConsistent  : mC Γ o ad M_X10_isConsistent [] V F 0 (some (.int (nI 1))) (vU V 13 (nI 0)) (F) := by
  refine mC_of (by decide) rfl (Nat.le_of_ble_eq_true rfl) [some (.ref o)] rfl ?_
  refine m_blk [(.aload_n 0, .null), (.iconst 0, .int (nI 0))] (Nat.le_of_ble_eq_true rfl) (by decide +kernel) ?_
  refine gx_aload_n_0 (gx_iconst ((gx_nil ?_)))
  refine m_putI fX10_45 (by decide +kernel) rfl (by decide) rfl rfl ?_
  refine m_blk [(.iconst 1, .int (nI 1))] (Nat.le_of_ble_eq_true rfl) (by decide +kernel) ?_
  refine gx_iconst ((gx_nil ?_))
  refine m_end (some (.int _)) rfl ⟨by decide +kernel, _, rfl, by first | rfl | (unfold bI; split <;> rfl)⟩ ?_ ?_ ?_
  all_goals first | rfl | (simp_all [rThr, bI, bI_0, bI_n]; done) | (simp only [Option.some.injEq, Value.int.injEq, bI, Int32.lt_iff_toInt_lt, Int32.le_iff_toInt_le, Int32.not_lt, Int32.not_le] at *; split <;> first | rfl | omega)
theorem r_cutoff (x : Int32) : mC Γ o ad M_X10_cutoff [.int x] V F 3 (some (.int (if (nI 0 ≤ x ∧ x ≤ nI 5) then F 0 (8 + 3 * rIx x + 0) else nI 0))) (vU V 13 (rT (bI (nI 0 ≤ x ∧ x ≤ nI 5)) (nI 1) (nI 1))) (F) := by
  have hx5 := rIx_le x
  refine mC_of (by decide) rfl (Nat.le_of_ble_eq_true rfl) [some (.ref o), some (.int x)] rfl ?_
  refine m_blk [(.aload_n 0, .null), (.iload_n 1, .null)] (Nat.le_of_ble_eq_true rfl) (by decide +kernel) ?_
  refine gx_aload_n_0 (gx_iload_n_1 ((gx_nil ?_)))
  refine m_callS kX10_74 (r_isRoute _) (by decide +kernel) rfl rfl (Nat.le_of_ble_eq_true rfl) (Nat.le_of_ble_eq_true rfl) (Nat.le_of_ble_eq_true rfl) rfl ?_
  try simp only [Option.toList_some, Option.toList_none, List.cons_append, List.nil_append, bI_0, n1_0, n0_0, Decidable.not_not, not_true_eq_false, not_false_eq_true, nI_add, pk_mul, Nat.add_zero, Nat.zero_add, Nat.reduceAdd, Nat.reduceMul]
  refine m_call kX10_62 (r_goes _) (by decide +kernel) rfl rfl (Nat.le_of_ble_eq_true rfl) (Nat.le_of_ble_eq_true rfl) (Nat.le_of_ble_eq_true rfl) rfl ?_
  try simp only [Option.toList_some, Option.toList_none, List.cons_append, List.nil_append, bI_0, n1_0, n0_0, Decidable.not_not, not_true_eq_false, not_false_eq_true, nI_add, pk_mul, Nat.add_zero, Nat.zero_add, Nat.reduceAdd, Nat.reduceMul]
  refine m_if_eq (off := 17) (tgt := 25) (by decide +kernel) (by decide) (fun c8 => ?_) (fun c8 => ?_)
  · try simp only [bI_0, Decidable.not_not] at c8
    refine m_blk [(.iconst 0, .int (nI 0))] (Nat.le_of_ble_eq_true rfl) (by decide +kernel) ?_
    refine gx_iconst ((gx_nil ?_))
    refine m_end (some (.int _)) rfl ⟨by decide +kernel, _, rfl, rfl⟩ ?_ ?_ ?_
    all_goals first | rfl | (simp_all [bI, n1_0]; done) | (simp only [Option.some.injEq, Value.int.injEq, bI, Int32.lt_iff_toInt_lt, Int32.le_iff_toInt_le, Int32.not_lt, Int32.not_le] at *; split <;> first | rfl | omega)
  · try simp only [bI_0, Decidable.not_not] at c8
    refine m_blk [(.aload_n 0, .null)] (Nat.le_of_ble_eq_true rfl) (by decide +kernel) ?_
    refine gx_aload_n_0 ((gx_nil ?_))
    refine m_getR fX10_9 (by decide +kernel) rfl ?_
    refine m_blk [(.iload_n 1, .null)] (Nat.le_of_ble_eq_true rfl) (by decide +kernel) ?_
    refine gx_iload_n_1 ((gx_nil ?_))
    refine m_callS kX10_41 (r_routeAt _) (by decide +kernel) rfl rfl (Nat.le_of_ble_eq_true rfl) (Nat.le_of_ble_eq_true rfl) (Nat.le_of_ble_eq_true rfl) rfl ?_
    try simp only [Option.toList_some, Option.toList_none, List.cons_append, List.nil_append, bI_0, n1_0, n0_0, Decidable.not_not, not_true_eq_false, not_false_eq_true, nI_add, pk_mul, Nat.add_zero, Nat.zero_add, Nat.reduceAdd, Nat.reduceMul]
    refine m_blk [(.iconst 0, .int (nI 0)), (.iadd, .null)] (Nat.le_of_ble_eq_true rfl) (by decide +kernel) ?_
    refine gx_iconst (gx_iadd ((gx_nil ?_)))
    try simp only [nI_add, pk_mul, Nat.add_zero, Nat.zero_add, Nat.reduceAdd, Nat.reduceMul]
    refine m_al (j := 0) rfl (by decide +kernel) (show _ < 202 from by omega) ?_
    refine m_blk [(.goto 4, .retAddr 26)] (Nat.le_of_ble_eq_true rfl) (by decide +kernel) ?_
    refine gx_goto ((gx_nil ?_))
    refine m_end (some (.int _)) rfl ⟨by decide +kernel, _, rfl, rfl⟩ ?_ ?_ ?_
    all_goals first | rfl | (simp_all [bI, n1_0]; done) | (simp only [Option.some.injEq, Value.int.injEq, bI, Int32.lt_iff_toInt_lt, Int32.le_iff_toInt_le, Int32.not_lt, Int32.not_le] at *; split <;> first | rfl | omega)
theorem r_departure (x : Int32) : mC Γ o ad M_X10_departure [.int x] V F 3 (some (.int (if (nI 0 ≤ x ∧ x ≤ nI 5) then F 0 (8 + 3 * rIx x + 1) else nI 0))) (vU V 13 (rT (bI (nI 0 ≤ x ∧ x ≤ nI 5)) (nI 1) (nI 1))) (F) := by
  have hx5 := rIx_le x
  refine mC_of (by decide) rfl (Nat.le_of_ble_eq_true rfl) [some (.ref o), some (.int x)] rfl ?_
  refine m_blk [(.aload_n 0, .null), (.iload_n 1, .null)] (Nat.le_of_ble_eq_true rfl) (by decide +kernel) ?_
  refine gx_aload_n_0 (gx_iload_n_1 ((gx_nil ?_)))
  refine m_callS kX10_74 (r_isRoute _) (by decide +kernel) rfl rfl (Nat.le_of_ble_eq_true rfl) (Nat.le_of_ble_eq_true rfl) (Nat.le_of_ble_eq_true rfl) rfl ?_
  try simp only [Option.toList_some, Option.toList_none, List.cons_append, List.nil_append, bI_0, n1_0, n0_0, Decidable.not_not, not_true_eq_false, not_false_eq_true, nI_add, pk_mul, Nat.add_zero, Nat.zero_add, Nat.reduceAdd, Nat.reduceMul]
  refine m_call kX10_62 (r_goes _) (by decide +kernel) rfl rfl (Nat.le_of_ble_eq_true rfl) (Nat.le_of_ble_eq_true rfl) (Nat.le_of_ble_eq_true rfl) rfl ?_
  try simp only [Option.toList_some, Option.toList_none, List.cons_append, List.nil_append, bI_0, n1_0, n0_0, Decidable.not_not, not_true_eq_false, not_false_eq_true, nI_add, pk_mul, Nat.add_zero, Nat.zero_add, Nat.reduceAdd, Nat.reduceMul]
  refine m_if_eq (off := 17) (tgt := 25) (by decide +kernel) (by decide) (fun c8 => ?_) (fun c8 => ?_)
  · try simp only [bI_0, Decidable.not_not] at c8
    refine m_blk [(.iconst 0, .int (nI 0))] (Nat.le_of_ble_eq_true rfl) (by decide +kernel) ?_
    refine gx_iconst ((gx_nil ?_))
    refine m_end (some (.int _)) rfl ⟨by decide +kernel, _, rfl, rfl⟩ ?_ ?_ ?_
    all_goals first | rfl | (simp_all [bI, n1_0]; done) | (simp only [Option.some.injEq, Value.int.injEq, bI, Int32.lt_iff_toInt_lt, Int32.le_iff_toInt_le, Int32.not_lt, Int32.not_le] at *; split <;> first | rfl | omega)
  · try simp only [bI_0, Decidable.not_not] at c8
    refine m_blk [(.aload_n 0, .null)] (Nat.le_of_ble_eq_true rfl) (by decide +kernel) ?_
    refine gx_aload_n_0 ((gx_nil ?_))
    refine m_getR fX10_9 (by decide +kernel) rfl ?_
    refine m_blk [(.iload_n 1, .null)] (Nat.le_of_ble_eq_true rfl) (by decide +kernel) ?_
    refine gx_iload_n_1 ((gx_nil ?_))
    refine m_callS kX10_41 (r_routeAt _) (by decide +kernel) rfl rfl (Nat.le_of_ble_eq_true rfl) (Nat.le_of_ble_eq_true rfl) (Nat.le_of_ble_eq_true rfl) rfl ?_
    try simp only [Option.toList_some, Option.toList_none, List.cons_append, List.nil_append, bI_0, n1_0, n0_0, Decidable.not_not, not_true_eq_false, not_false_eq_true, nI_add, pk_mul, Nat.add_zero, Nat.zero_add, Nat.reduceAdd, Nat.reduceMul]
    refine m_blk [(.iconst 1, .int (nI 1)), (.iadd, .null)] (Nat.le_of_ble_eq_true rfl) (by decide +kernel) ?_
    refine gx_iconst (gx_iadd ((gx_nil ?_)))
    try simp only [nI_add, pk_mul, Nat.add_zero, Nat.zero_add, Nat.reduceAdd, Nat.reduceMul]
    refine m_al (j := 0) rfl (by decide +kernel) (show _ < 202 from by omega) ?_
    refine m_blk [(.goto 4, .retAddr 26)] (Nat.le_of_ble_eq_true rfl) (by decide +kernel) ?_
    refine gx_goto ((gx_nil ?_))
    refine m_end (some (.int _)) rfl ⟨by decide +kernel, _, rfl, rfl⟩ ?_ ?_ ?_
    all_goals first | rfl | (simp_all [bI, n1_0]; done) | (simp only [Option.some.injEq, Value.int.injEq, bI, Int32.lt_iff_toInt_lt, Int32.le_iff_toInt_le, Int32.not_lt, Int32.not_le] at *; split <;> first | rfl | omega)
theorem r_bagCount (x : Int32) : mC Γ o ad M_X10_bagCount [.int x] V F 3 (some (.int (if (nI 0 ≤ x ∧ x ≤ nI 5) then F 0 (8 + 3 * rIx x + 2) else nI 0))) (vU V 13 (rT (bI (nI 0 ≤ x ∧ x ≤ nI 5)) (nI 1) (nI 1))) (F) := by
  have hx5 := rIx_le x
  refine mC_of (by decide) rfl (Nat.le_of_ble_eq_true rfl) [some (.ref o), some (.int x)] rfl ?_
  refine m_blk [(.aload_n 0, .null), (.iload_n 1, .null)] (Nat.le_of_ble_eq_true rfl) (by decide +kernel) ?_
  refine gx_aload_n_0 (gx_iload_n_1 ((gx_nil ?_)))
  refine m_callS kX10_74 (r_isRoute _) (by decide +kernel) rfl rfl (Nat.le_of_ble_eq_true rfl) (Nat.le_of_ble_eq_true rfl) (Nat.le_of_ble_eq_true rfl) rfl ?_
  try simp only [Option.toList_some, Option.toList_none, List.cons_append, List.nil_append, bI_0, n1_0, n0_0, Decidable.not_not, not_true_eq_false, not_false_eq_true, nI_add, pk_mul, Nat.add_zero, Nat.zero_add, Nat.reduceAdd, Nat.reduceMul]
  refine m_call kX10_62 (r_goes _) (by decide +kernel) rfl rfl (Nat.le_of_ble_eq_true rfl) (Nat.le_of_ble_eq_true rfl) (Nat.le_of_ble_eq_true rfl) rfl ?_
  try simp only [Option.toList_some, Option.toList_none, List.cons_append, List.nil_append, bI_0, n1_0, n0_0, Decidable.not_not, not_true_eq_false, not_false_eq_true, nI_add, pk_mul, Nat.add_zero, Nat.zero_add, Nat.reduceAdd, Nat.reduceMul]
  refine m_if_eq (off := 17) (tgt := 25) (by decide +kernel) (by decide) (fun c8 => ?_) (fun c8 => ?_)
  · try simp only [bI_0, Decidable.not_not] at c8
    refine m_blk [(.iconst 0, .int (nI 0))] (Nat.le_of_ble_eq_true rfl) (by decide +kernel) ?_
    refine gx_iconst ((gx_nil ?_))
    refine m_end (some (.int _)) rfl ⟨by decide +kernel, _, rfl, rfl⟩ ?_ ?_ ?_
    all_goals first | rfl | (simp_all [bI, n1_0]; done) | (simp only [Option.some.injEq, Value.int.injEq, bI, Int32.lt_iff_toInt_lt, Int32.le_iff_toInt_le, Int32.not_lt, Int32.not_le] at *; split <;> first | rfl | omega)
  · try simp only [bI_0, Decidable.not_not] at c8
    refine m_blk [(.aload_n 0, .null)] (Nat.le_of_ble_eq_true rfl) (by decide +kernel) ?_
    refine gx_aload_n_0 ((gx_nil ?_))
    refine m_getR fX10_9 (by decide +kernel) rfl ?_
    refine m_blk [(.iload_n 1, .null)] (Nat.le_of_ble_eq_true rfl) (by decide +kernel) ?_
    refine gx_iload_n_1 ((gx_nil ?_))
    refine m_callS kX10_41 (r_routeAt _) (by decide +kernel) rfl rfl (Nat.le_of_ble_eq_true rfl) (Nat.le_of_ble_eq_true rfl) (Nat.le_of_ble_eq_true rfl) rfl ?_
    try simp only [Option.toList_some, Option.toList_none, List.cons_append, List.nil_append, bI_0, n1_0, n0_0, Decidable.not_not, not_true_eq_false, not_false_eq_true, nI_add, pk_mul, Nat.add_zero, Nat.zero_add, Nat.reduceAdd, Nat.reduceMul]
    refine m_blk [(.iconst 2, .int (nI 2)), (.iadd, .null)] (Nat.le_of_ble_eq_true rfl) (by decide +kernel) ?_
    refine gx_iconst (gx_iadd ((gx_nil ?_)))
    try simp only [nI_add, pk_mul, Nat.add_zero, Nat.zero_add, Nat.reduceAdd, Nat.reduceMul]
    refine m_al (j := 0) rfl (by decide +kernel) (show _ < 202 from by omega) ?_
    refine m_blk [(.goto 4, .retAddr 26)] (Nat.le_of_ble_eq_true rfl) (by decide +kernel) ?_
    refine gx_goto ((gx_nil ?_))
    refine m_end (some (.int _)) rfl ⟨by decide +kernel, _, rfl, rfl⟩ ?_ ?_ ?_
    all_goals first | rfl | (simp_all [bI, n1_0]; done) | (simp only [Option.some.injEq, Value.int.injEq, bI, Int32.lt_iff_toInt_lt, Int32.le_iff_toInt_le, Int32.not_lt, Int32.not_le] at *; split <;> first | rfl | omega)
theorem r_ofPrefix (p k : Nat) (hp : p < 12) (hk : k < 3) : mC Γ o ad M_X10_ofPrefix [.int (nI p), .int (nI k)] V F 0 (some (.int (F 0 (26 + 3 * p + k)))) (V) (F) := by
  refine mC_of (by decide) rfl (Nat.le_of_ble_eq_true rfl) [some (.ref o), some (.int (nI p)), some (.int (nI k))] rfl ?_
  refine m_blk [(.aload_n 0, .null)] (Nat.le_of_ble_eq_true rfl) (by decide +kernel) ?_
  refine gx_aload_n_0 ((gx_nil ?_))
  refine m_getR fX10_9 (by decide +kernel) rfl ?_
  refine m_blk [(.bipush 26, .int (nI 26)), (.iconst 3, .int (nI 3)), (.iload_n 1, .null), (.imul, .null), (.iadd, .null), (.iload_n 2, .null), (.iadd, .null)] (Nat.le_of_ble_eq_true rfl) (by decide +kernel) ?_
  refine gx_bipush (gx_iconst (gx_iload_n_1 (gx_imul (gx_iadd (gx_iload_n_2 (gx_iadd ((gx_nil ?_))))))))
  try simp only [nI_add, pk_mul, Nat.add_zero, Nat.zero_add, Nat.reduceAdd, Nat.reduceMul]
  refine m_al (j := 0) rfl (by decide +kernel) (show _ < 202 from by omega) ?_
  refine m_end (some (.int _)) rfl ⟨by decide +kernel, _, rfl, rfl⟩ ?_ ?_ ?_
  all_goals first | rfl | (simp_all [rThr, bI, bI_0, bI_n]; done) | (simp only [Option.some.injEq, Value.int.injEq, bI, Int32.lt_iff_toInt_lt, Int32.le_iff_toInt_le, Int32.not_lt, Int32.not_le] at *; split <;> first | rfl | omega)
end S11ref2leantxt
