section S22ref13leantxt
variable {Γ : gE} {o : Nat} {ad : Nat → Nat} {V : Nat → Int32} {F : Nat → Nat → Int32}
theorem rp_isPresent {c : Nat} (hc : c ≤ 20) (h3 : F 0 3 = nI c) (id : Int32) : mC Γ o ad M_X10_isPresent [.int id] V F 3 (some (.int (bI (¬ rPlace (F 0) id c = -1)))) (vU V 13 (nI 0)) (F) := by
  refine mC_of (by decide) rfl (Nat.le_of_ble_eq_true rfl) [some (.ref o), some (.int id)] rfl ?_
  refine m_blk [(.aload_n 0, .null), (.iconst 0, .int (nI 0))] (Nat.le_of_ble_eq_true rfl) (by decide +kernel) ?_
  refine gx_aload_n_0 (gx_iconst ((gx_nil ?_)))
  refine m_putI fX10_45 (by decide +kernel) rfl (by decide) rfl rfl ?_
  refine m_blk [(.aload_n 0, .null), (.iload_n 1, .null)] (Nat.le_of_ble_eq_true rfl) (by decide +kernel) ?_
  refine gx_aload_n_0 (gx_iload_n_1 ((gx_nil ?_)))
  refine m_call kX10_156 (r_isHere hc h3 _) (by decide +kernel) rfl rfl (Nat.le_of_ble_eq_true rfl) (Nat.le_of_ble_eq_true rfl) (Nat.le_of_ble_eq_true rfl) rfl ?_
  try simp only [Option.toList_some, Option.toList_none, List.cons_append, List.nil_append, bI_0, n1_0, n0_0, Decidable.not_not, not_true_eq_false, not_false_eq_true, nI_add, pk_mul, Nat.add_zero, Nat.zero_add, Nat.reduceAdd, Nat.reduceMul]
  refine m_end (some (.int _)) rfl ⟨by decide +kernel, _, rfl, by first | rfl | (unfold bI; split <;> rfl)⟩ ?_ ?_ ?_
  all_goals first | rfl | (simp_all [rThr, bI, bI_0, bI_n]; done) | (simp only [Option.some.injEq, Value.int.injEq, bI, Int32.lt_iff_toInt_lt, Int32.le_iff_toInt_le, Int32.not_lt, Int32.not_le] at *; split <;> first | rfl | omega)
theorem in_rg {p : Int32} {c : Nat} (hc : c ≤ 2000) (h : nI 0 ≤ p ∧ p ≤ nI c - nI 1) : ∃ k, k < c ∧ p = nI k := by
  rcases Nat.eq_zero_or_pos c with z | z
  · subst z
    have h1 := Int32.le_iff_toInt_le.mp h.1
    have h2 := Int32.le_iff_toInt_le.mp h.2
    have e : (nI 0 - nI 1).toInt = -1 := by decide
    have e0 : (nI 0).toInt = 0 := by decide
    omega
  · obtain ⟨b, rfl⟩ : ∃ b, c = b + 1 := ⟨c - 1, by omega⟩
    rw [n1_1, nI_pred] at h
    obtain ⟨k, hk, rfl⟩ := nI_of2 (M := nI b) (n := b) (nI_toInt (by omega)) (by rw [Int32.not_lt]; exact Int32.le_trans (by decide) h.1) h.2
    exact ⟨k, by omega, rfl⟩
theorem in_rgi {k c : Nat} (hc : c ≤ 2000) (h : k < c) : nI 0 ≤ nI k ∧ nI k ≤ nI c - nI 1 := by
  obtain ⟨b, rfl⟩ : ∃ b, c = b + 1 := ⟨c - 1, by omega⟩
  rw [n1_1, nI_pred]
  exact ⟨nI_le (by omega) (by omega), nI_le (by omega) (by omega)⟩
theorem rp_idAt {c : Nat} (hc : c ≤ 20) (h3 : F 0 3 = nI c) (p : Int32) : mC Γ o ad M_X10_idAt [.int p] V F 2 (some (.int (if rT (bI (nI 0 ≤ p ∧ p ≤ F 0 3 - nI 1)) (nI 1) (nI 1) = 0 then F 0 (62 + 7 * p.toNatClampNeg) else nI 0))) (vU V 13 (rT (bI (nI 0 ≤ p ∧ p ≤ F 0 3 - nI 1)) (nI 1) (nI 1))) F := by
  refine mC_of (by decide) rfl (Nat.le_of_ble_eq_true rfl) [some (.ref o), some (.int p)] rfl ?_
  refine m_blk [(.aload_n 0, .null), (.iload_n 1, .null), (.iconst 0, .int (nI 0)), (.aload_n 0, .null)] (Nat.le_of_ble_eq_true rfl) (by decide +kernel) ?_
  refine gx_aload_n_0 (gx_iload_n_1 (gx_iconst (gx_aload_n_0 ((gx_nil ?_)))))
  refine m_getR fX10_9 (by decide +kernel) rfl ?_
  refine m_blk [(.iconst 3, .int (nI 3))] (Nat.le_of_ble_eq_true rfl) (by decide +kernel) ?_
  refine gx_iconst ((gx_nil ?_))
  refine m_al (j := 0) rfl (by decide +kernel) (show _ < 202 from by omega) ?_
  refine m_blk [(.iconst 1, .int (nI 1)), (.isub, .null)] (Nat.le_of_ble_eq_true rfl) (by decide +kernel) ?_
  refine gx_iconst (gx_isub ((gx_nil ?_)))
  refine m_callS kX10_70 (r_isIn _ _ _) (by decide +kernel) rfl rfl (Nat.le_of_ble_eq_true rfl) (Nat.le_of_ble_eq_true rfl) (Nat.le_of_ble_eq_true rfl) rfl ?_
  try simp only [Option.toList_some, Option.toList_none, List.cons_append, List.nil_append, bI_0, n1_0, n0_0, Decidable.not_not, not_true_eq_false, not_false_eq_true, nI_add, pk_mul, Nat.add_zero, Nat.zero_add, Nat.reduceAdd, Nat.reduceMul]
  refine m_call kX10_62 (r_goes _) (by decide +kernel) rfl rfl (Nat.le_of_ble_eq_true rfl) (Nat.le_of_ble_eq_true rfl) (Nat.le_of_ble_eq_true rfl) rfl ?_
  try simp only [Option.toList_some, Option.toList_none, List.cons_append, List.nil_append, bI_0, n1_0, n0_0, Decidable.not_not, not_true_eq_false, not_false_eq_true, nI_add, pk_mul, Nat.add_zero, Nat.zero_add, Nat.reduceAdd, Nat.reduceMul]
  refine m_if_eq (off := 17) (tgt := 34) (by decide +kernel) (by decide) (fun c17 => ?_) (fun c17 => ?_)
  · try simp only [bI_0, Decidable.not_not] at c17
    refine m_blk [(.iconst 0, .int (nI 0))] (Nat.le_of_ble_eq_true rfl) (by decide +kernel) ?_
    refine gx_iconst ((gx_nil ?_))
    have hτ : ¬ rT (bI (nI 0 ≤ p ∧ p ≤ F 0 3 - nI 1)) (nI 1) (nI 1) = 0 := fun z => by
      have z1 := (rT_iff _ _ _).mp z
      simp only [bI_0, n1_0, n0_0, Decidable.not_not, not_true_eq_false, not_false_eq_true, and_true] at z1
      first | exact c17 z1 | exact z1 c17 | simp_all
    refine m_end (some (.int _)) rfl ⟨by decide +kernel, _, rfl, rfl⟩ ?_ ?_ ?_
    · rw [if_neg hτ]
    · rfl
    · rfl
  · try simp only [bI_0, Decidable.not_not] at c17
    obtain ⟨k, hk, rfl⟩ := in_rg (c := c) (p := p) (by omega) (by rw [← h3]; exact c17)
    refine m_blk [(.aload_n 0, .null)] (Nat.le_of_ble_eq_true rfl) (by decide +kernel) ?_
    refine gx_aload_n_0 ((gx_nil ?_))
    refine m_getR fX10_9 (by decide +kernel) rfl ?_
    refine m_blk [(.iload_n 1, .null)] (Nat.le_of_ble_eq_true rfl) (by decide +kernel) ?_
    refine gx_iload_n_1 ((gx_nil ?_))
    refine m_callS kX10_94 (r_letterAt _) (by decide +kernel) rfl rfl (Nat.le_of_ble_eq_true rfl) (Nat.le_of_ble_eq_true rfl) (Nat.le_of_ble_eq_true rfl) rfl ?_
    try simp only [Option.toList_some, Option.toList_none, List.cons_append, List.nil_append, bI_0, n1_0, n0_0, Decidable.not_not, not_true_eq_false, not_false_eq_true, nI_add, pk_mul, Nat.add_zero, Nat.zero_add, Nat.reduceAdd, Nat.reduceMul]
    refine m_blk [(.iconst 0, .int (nI 0)), (.iadd, .null)] (Nat.le_of_ble_eq_true rfl) (by decide +kernel) ?_
    refine gx_iconst (gx_iadd ((gx_nil ?_)))
    try simp only [nI_add, pk_mul, Nat.add_zero, Nat.zero_add, Nat.reduceAdd, Nat.reduceMul]
    refine m_al (j := 0) rfl (by decide +kernel) (show _ < 202 from by omega) ?_
    refine m_blk [(.goto 4, .retAddr 35)] (Nat.le_of_ble_eq_true rfl) (by decide +kernel) ?_
    refine gx_goto ((gx_nil ?_))
    have hτ : rT (bI (nI 0 ≤ nI k ∧ nI k ≤ F 0 3 - nI 1)) (nI 1) (nI 1) = 0 := (rT_iff _ _ _).mpr (by simp only [bI_0, n1_0, n0_0, Decidable.not_not, not_true_eq_false, not_false_eq_true, and_true]; first | exact c17 | simp_all)
    refine m_end (some (.int _)) rfl ⟨by decide +kernel, _, rfl, rfl⟩ ?_ ?_ ?_
    · rw [if_pos hτ]
      try first | done | rfl | rw [nI_clamp (by omega)]
    · rfl
    · rfl
theorem r_asks {c : Nat} (hc : c ≤ 20) (h3 : F 0 3 = nI c) (id : Int32) (k : Nat) (hk : k < 7) : mC Γ o ad M_X10_asks [.int id, .int (nI k)] V F 3 (some (.int (if rT (bI (¬ rPlace (F 0) id c = -1)) (nI 1) (nI 1) = 0 then F 0 (62 + 7 * rIdx (F 0) id c + k) else nI 0))) (vU V 13 (rT (bI (¬ rPlace (F 0) id c = -1)) (nI 1) (nI 1))) F := by
  refine mC_of (by decide) rfl (Nat.le_of_ble_eq_true rfl) [some (.ref o), some (.int id), some (.int (nI k))] rfl ?_
  refine m_blk [(.aload_n 0, .null), (.aload_n 0, .null), (.iload_n 1, .null)] (Nat.le_of_ble_eq_true rfl) (by decide +kernel) ?_
  refine gx_aload_n_0 (gx_aload_n_0 (gx_iload_n_1 ((gx_nil ?_))))
  refine m_call kX10_156 (r_isHere hc h3 _) (by decide +kernel) rfl rfl (Nat.le_of_ble_eq_true rfl) (Nat.le_of_ble_eq_true rfl) (Nat.le_of_ble_eq_true rfl) rfl ?_
  try simp only [Option.toList_some, Option.toList_none, List.cons_append, List.nil_append, bI_0, n1_0, n0_0, Decidable.not_not, not_true_eq_false, not_false_eq_true, nI_add, pk_mul, Nat.add_zero, Nat.zero_add, Nat.reduceAdd, Nat.reduceMul]
  refine m_call kX10_62 (r_goes _) (by decide +kernel) rfl rfl (Nat.le_of_ble_eq_true rfl) (Nat.le_of_ble_eq_true rfl) (Nat.le_of_ble_eq_true rfl) rfl ?_
  try simp only [Option.toList_some, Option.toList_none, List.cons_append, List.nil_append, bI_0, n1_0, n0_0, Decidable.not_not, not_true_eq_false, not_false_eq_true, nI_add, pk_mul, Nat.add_zero, Nat.zero_add, Nat.reduceAdd, Nat.reduceMul]
  refine m_if_eq (off := 12) (tgt := 21) (by decide +kernel) (by decide) (fun c9 => ?_) (fun c9 => ?_)
  · try simp only [bI_0, Decidable.not_not] at c9
    refine m_blk [(.iconst 0, .int (nI 0))] (Nat.le_of_ble_eq_true rfl) (by decide +kernel) ?_
    refine gx_iconst ((gx_nil ?_))
    have hτ : ¬ rT (bI (¬ rPlace (F 0) id c = -1)) (nI 1) (nI 1) = 0 := fun z => by
      have z1 := (rT_iff _ _ _).mp z
      simp only [bI_0, n1_0, n0_0, Decidable.not_not, not_true_eq_false, not_false_eq_true, and_true] at z1
      first | exact c9 z1 | exact z1 c9 | simp_all
    refine m_end (some (.int _)) rfl ⟨by decide +kernel, _, rfl, rfl⟩ ?_ ?_ ?_
    · rw [if_neg hτ]
    · rfl
    · rfl
  · try simp only [bI_0, Decidable.not_not] at c9
    refine m_blk [(.aload_n 0, .null), (.iload_n 1, .null), (.iload_n 2, .null)] (Nat.le_of_ble_eq_true rfl) (by decide +kernel) ?_
    refine gx_aload_n_0 (gx_iload_n_1 (gx_iload_n_2 ((gx_nil ?_))))
    refine m_call kX10_153 (r_of hc h3 _ k hk) (by decide +kernel) rfl rfl (Nat.le_of_ble_eq_true rfl) (Nat.le_of_ble_eq_true rfl) (Nat.le_of_ble_eq_true rfl) rfl ?_
    try simp only [Option.toList_some, Option.toList_none, List.cons_append, List.nil_append, bI_0, n1_0, n0_0, Decidable.not_not, not_true_eq_false, not_false_eq_true, nI_add, pk_mul, Nat.add_zero, Nat.zero_add, Nat.reduceAdd, Nat.reduceMul]
    refine m_blk [(.goto 4, .retAddr 22)] (Nat.le_of_ble_eq_true rfl) (by decide +kernel) ?_
    refine gx_goto ((gx_nil ?_))
    have hτ : rT (bI (¬ rPlace (F 0) id c = -1)) (nI 1) (nI 1) = 0 := (rT_iff _ _ _).mpr (by simp only [bI_0, n1_0, n0_0, Decidable.not_not, not_true_eq_false, not_false_eq_true, and_true]; first | exact c9 | simp_all)
    refine m_end (some (.int _)) rfl ⟨by decide +kernel, _, rfl, rfl⟩ ?_ ?_ ?_
    · rw [if_pos hτ]
      try first | done | rfl | rfl
    · rfl
    · rfl
theorem rp_codeOf {c : Nat} (hc : c ≤ 20) (h3 : F 0 3 = nI c) (id : Int32) : mC Γ o ad M_X10_codeOf [.int id] V F 4 (some (.int (if rT (bI (¬ rPlace (F 0) id c = -1)) (nI 1) (nI 1) = 0 then F 0 (62 + 7 * rIdx (F 0) id c + 1) else nI 0))) (vU V 13 (rT (bI (¬ rPlace (F 0) id c = -1)) (nI 1) (nI 1))) (F) := by
  refine mC_of (by decide) rfl (Nat.le_of_ble_eq_true rfl) [some (.ref o), some (.int id)] rfl ?_
  refine m_blk [(.aload_n 0, .null), (.iload_n 1, .null), (.iconst 1, .int (nI 1))] (Nat.le_of_ble_eq_true rfl) (by decide +kernel) ?_
  refine gx_aload_n_0 (gx_iload_n_1 (gx_iconst ((gx_nil ?_))))
  refine m_call kX10_179 (r_asks hc h3 _ 1 (by decide)) (by decide +kernel) rfl rfl (Nat.le_of_ble_eq_true rfl) (Nat.le_of_ble_eq_true rfl) (Nat.le_of_ble_eq_true rfl) rfl ?_
  try simp only [Option.toList_some, Option.toList_none, List.cons_append, List.nil_append, bI_0, n1_0, n0_0, Decidable.not_not, not_true_eq_false, not_false_eq_true, nI_add, pk_mul, Nat.add_zero, Nat.zero_add, Nat.reduceAdd, Nat.reduceMul]
  refine m_end (some (.int _)) rfl ⟨by decide +kernel, _, rfl, rfl⟩ ?_ ?_ ?_
  all_goals first | rfl | (simp_all [rThr, bI, bI_0, bI_n]; done) | (simp only [Option.some.injEq, Value.int.injEq, bI, Int32.lt_iff_toInt_lt, Int32.le_iff_toInt_le, Int32.not_lt, Int32.not_le] at *; split <;> first | rfl | omega)
theorem rp_weightOf {c : Nat} (hc : c ≤ 20) (h3 : F 0 3 = nI c) (id : Int32) : mC Γ o ad M_X10_weightOf [.int id] V F 4 (some (.int (if rT (bI (¬ rPlace (F 0) id c = -1)) (nI 1) (nI 1) = 0 then F 0 (62 + 7 * rIdx (F 0) id c + 2) else nI 0))) (vU V 13 (rT (bI (¬ rPlace (F 0) id c = -1)) (nI 1) (nI 1))) (F) := by
  refine mC_of (by decide) rfl (Nat.le_of_ble_eq_true rfl) [some (.ref o), some (.int id)] rfl ?_
  refine m_blk [(.aload_n 0, .null), (.iload_n 1, .null), (.iconst 2, .int (nI 2))] (Nat.le_of_ble_eq_true rfl) (by decide +kernel) ?_
  refine gx_aload_n_0 (gx_iload_n_1 (gx_iconst ((gx_nil ?_))))
  refine m_call kX10_179 (r_asks hc h3 _ 2 (by decide)) (by decide +kernel) rfl rfl (Nat.le_of_ble_eq_true rfl) (Nat.le_of_ble_eq_true rfl) (Nat.le_of_ble_eq_true rfl) rfl ?_
  try simp only [Option.toList_some, Option.toList_none, List.cons_append, List.nil_append, bI_0, n1_0, n0_0, Decidable.not_not, not_true_eq_false, not_false_eq_true, nI_add, pk_mul, Nat.add_zero, Nat.zero_add, Nat.reduceAdd, Nat.reduceMul]
  refine m_end (some (.int _)) rfl ⟨by decide +kernel, _, rfl, rfl⟩ ?_ ?_ ?_
  all_goals first | rfl | (simp_all [rThr, bI, bI_0, bI_n]; done) | (simp only [Option.some.injEq, Value.int.injEq, bI, Int32.lt_iff_toInt_lt, Int32.le_iff_toInt_le, Int32.not_lt, Int32.not_le] at *; split <;> first | rfl | omega)
theorem rp_returnsOf {c : Nat} (hc : c ≤ 20) (h3 : F 0 3 = nI c) (id : Int32) : mC Γ o ad M_X10_returnsOf [.int id] V F 4 (some (.int (if rT (bI (¬ rPlace (F 0) id c = -1)) (nI 1) (nI 1) = 0 then F 0 (62 + 7 * rIdx (F 0) id c + 4) else nI 0))) (vU V 13 (rT (bI (¬ rPlace (F 0) id c = -1)) (nI 1) (nI 1))) (F) := by
  refine mC_of (by decide) rfl (Nat.le_of_ble_eq_true rfl) [some (.ref o), some (.int id)] rfl ?_
  refine m_blk [(.aload_n 0, .null), (.iload_n 1, .null), (.iconst 4, .int (nI 4))] (Nat.le_of_ble_eq_true rfl) (by decide +kernel) ?_
  refine gx_aload_n_0 (gx_iload_n_1 (gx_iconst ((gx_nil ?_))))
  refine m_call kX10_179 (r_asks hc h3 _ 4 (by decide)) (by decide +kernel) rfl rfl (Nat.le_of_ble_eq_true rfl) (Nat.le_of_ble_eq_true rfl) (Nat.le_of_ble_eq_true rfl) rfl ?_
  try simp only [Option.toList_some, Option.toList_none, List.cons_append, List.nil_append, bI_0, n1_0, n0_0, Decidable.not_not, not_true_eq_false, not_false_eq_true, nI_add, pk_mul, Nat.add_zero, Nat.zero_add, Nat.reduceAdd, Nat.reduceMul]
  refine m_end (some (.int _)) rfl ⟨by decide +kernel, _, rfl, rfl⟩ ?_ ?_ ?_
  all_goals first | rfl | (simp_all [rThr, bI, bI_0, bI_n]; done) | (simp only [Option.some.injEq, Value.int.injEq, bI, Int32.lt_iff_toInt_lt, Int32.le_iff_toInt_le, Int32.not_lt, Int32.not_le] at *; split <;> first | rfl | omega)
theorem rp_isPriority {c : Nat} (hc : c ≤ 20) (h3 : F 0 3 = nI c) (id : Int32) : mC Γ o ad M_X10_isPriority [.int id] V F 4 (some (.int (bI ((if rT (bI (¬ rPlace (F 0) id c = -1)) (nI 1) (nI 1) = 0 then F 0 (62 + 7 * rIdx (F 0) id c + 3) else nI 0) = nI 1)))) (vU V 13 (rT (bI (¬ rPlace (F 0) id c = -1)) (nI 1) (nI 1))) (F) := by
  refine mC_of (by decide) rfl (Nat.le_of_ble_eq_true rfl) [some (.ref o), some (.int id)] rfl ?_
  refine m_blk [(.aload_n 0, .null), (.iload_n 1, .null), (.iconst 3, .int (nI 3))] (Nat.le_of_ble_eq_true rfl) (by decide +kernel) ?_
  refine gx_aload_n_0 (gx_iload_n_1 (gx_iconst ((gx_nil ?_))))
  refine m_call kX10_179 (r_asks hc h3 _ 3 (by decide)) (by decide +kernel) rfl rfl (Nat.le_of_ble_eq_true rfl) (Nat.le_of_ble_eq_true rfl) (Nat.le_of_ble_eq_true rfl) rfl ?_
  try simp only [Option.toList_some, Option.toList_none, List.cons_append, List.nil_append, bI_0, n1_0, n0_0, Decidable.not_not, not_true_eq_false, not_false_eq_true, nI_add, pk_mul, Nat.add_zero, Nat.zero_add, Nat.reduceAdd, Nat.reduceMul]
  refine m_blk [(.iconst 1, .int (nI 1))] (Nat.le_of_ble_eq_true rfl) (by decide +kernel) ?_
  refine gx_iconst ((gx_nil ?_))
  refine m_icmp_ne (off := 7) (tgt := 14) (by decide +kernel) (by decide) (fun c7 => ?_) (fun c7 => ?_)
  · try simp only [bI_0, Decidable.not_not] at c7
    refine m_blk [(.iconst 0, .int (nI 0))] (Nat.le_of_ble_eq_true rfl) (by decide +kernel) ?_
    refine gx_iconst ((gx_nil ?_))
    refine m_end (some (.int _)) rfl ⟨by decide +kernel, _, rfl, by first | rfl | (unfold bI; split <;> rfl)⟩ ?_ ?_ ?_
    · first | rw [bI_t c7] | rw [bI_f c7]
    · rfl
    · rfl
  · try simp only [bI_0, Decidable.not_not] at c7
    refine m_blk [(.iconst 1, .int (nI 1)), (.goto 4, .retAddr 15)] (Nat.le_of_ble_eq_true rfl) (by decide +kernel) ?_
    refine gx_iconst (gx_goto ((gx_nil ?_)))
    refine m_end (some (.int _)) rfl ⟨by decide +kernel, _, rfl, by first | rfl | (unfold bI; split <;> rfl)⟩ ?_ ?_ ?_
    · first | rw [bI_t c7] | rw [bI_f c7]
    · rfl
    · rfl
theorem rp_isInTray {c : Nat} (hc : c ≤ 20) (h3 : F 0 3 = nI c) (id : Int32) : mC Γ o ad M_X10_isInTray [.int id] V F 4 (some (.int (bI ((if rT (bI (¬ rPlace (F 0) id c = -1)) (nI 1) (nI 1) = 0 then F 0 (62 + 7 * rIdx (F 0) id c + 5) else nI 0) = -1)))) (vU V 13 (rT (bI (¬ rPlace (F 0) id c = -1)) (nI 1) (nI 1))) (F) := by
  refine mC_of (by decide) rfl (Nat.le_of_ble_eq_true rfl) [some (.ref o), some (.int id)] rfl ?_
  refine m_blk [(.aload_n 0, .null), (.iload_n 1, .null), (.iconst 5, .int (nI 5))] (Nat.le_of_ble_eq_true rfl) (by decide +kernel) ?_
  refine gx_aload_n_0 (gx_iload_n_1 (gx_iconst ((gx_nil ?_))))
  refine m_call kX10_179 (r_asks hc h3 _ 5 (by decide)) (by decide +kernel) rfl rfl (Nat.le_of_ble_eq_true rfl) (Nat.le_of_ble_eq_true rfl) (Nat.le_of_ble_eq_true rfl) rfl ?_
  try simp only [Option.toList_some, Option.toList_none, List.cons_append, List.nil_append, bI_0, n1_0, n0_0, Decidable.not_not, not_true_eq_false, not_false_eq_true, nI_add, pk_mul, Nat.add_zero, Nat.zero_add, Nat.reduceAdd, Nat.reduceMul]
  refine m_blk [(.iconst (-1), .int (-1))] (Nat.le_of_ble_eq_true rfl) (by decide +kernel) ?_
  refine gx_iconst ((gx_nil ?_))
  refine m_icmp_ne (off := 7) (tgt := 14) (by decide +kernel) (by decide) (fun c7 => ?_) (fun c7 => ?_)
  · try simp only [bI_0, Decidable.not_not] at c7
    refine m_blk [(.iconst 0, .int (nI 0))] (Nat.le_of_ble_eq_true rfl) (by decide +kernel) ?_
    refine gx_iconst ((gx_nil ?_))
    refine m_end (some (.int _)) rfl ⟨by decide +kernel, _, rfl, by first | rfl | (unfold bI; split <;> rfl)⟩ ?_ ?_ ?_
    · first | rw [bI_t c7] | rw [bI_f c7]
    · rfl
    · rfl
  · try simp only [bI_0, Decidable.not_not] at c7
    refine m_blk [(.iconst 1, .int (nI 1)), (.goto 4, .retAddr 15)] (Nat.le_of_ble_eq_true rfl) (by decide +kernel) ?_
    refine gx_iconst (gx_goto ((gx_nil ?_)))
    refine m_end (some (.int _)) rfl ⟨by decide +kernel, _, rfl, by first | rfl | (unfold bI; split <;> rfl)⟩ ?_ ?_ ?_
    · first | rw [bI_t c7] | rw [bI_f c7]
    · rfl
    · rfl
theorem rp_routeOfBag {c : Nat} (hc : c ≤ 20) (h3 : F 0 3 = nI c) (id : Int32) : mC Γ o ad M_X10_routeOfBag [.int id] V F 3 (some (.int (if rT (bI (¬ rPlace (F 0) id c = -1)) (bI (¬ F 0 (62 + 7 * rIdx (F 0) id c + 5) = -1)) (nI 1) = 0 then F 0 (62 + 7 * rIdx (F 0) id c + 5) else nI 0))) (vU V 13 (rT (bI (¬ rPlace (F 0) id c = -1)) (bI (¬ F 0 (62 + 7 * rIdx (F 0) id c + 5) = -1)) (nI 1))) F := by
  refine mC_of (by decide) rfl (Nat.le_of_ble_eq_true rfl) [some (.ref o), some (.int id)] rfl ?_
  refine m_blk [(.aload_n 0, .null), (.aload_n 0, .null), (.iload_n 1, .null)] (Nat.le_of_ble_eq_true rfl) (by decide +kernel) ?_
  refine gx_aload_n_0 (gx_aload_n_0 (gx_iload_n_1 ((gx_nil ?_))))
  refine m_call kX10_156 (r_isHere hc h3 _) (by decide +kernel) rfl rfl (Nat.le_of_ble_eq_true rfl) (Nat.le_of_ble_eq_true rfl) (Nat.le_of_ble_eq_true rfl) rfl ?_
  try simp only [Option.toList_some, Option.toList_none, List.cons_append, List.nil_append, bI_0, n1_0, n0_0, Decidable.not_not, not_true_eq_false, not_false_eq_true, nI_add, pk_mul, Nat.add_zero, Nat.zero_add, Nat.reduceAdd, Nat.reduceMul]
  refine m_blk [(.aload_n 0, .null), (.iload_n 1, .null), (.iconst 5, .int (nI 5))] (Nat.le_of_ble_eq_true rfl) (by decide +kernel) ?_
  refine gx_aload_n_0 (gx_iload_n_1 (gx_iconst ((gx_nil ?_))))
  refine m_call kX10_153 (r_of hc h3 _ 5 (by omega)) (by decide +kernel) rfl rfl (Nat.le_of_ble_eq_true rfl) (Nat.le_of_ble_eq_true rfl) (Nat.le_of_ble_eq_true rfl) rfl ?_
  try simp only [Option.toList_some, Option.toList_none, List.cons_append, List.nil_append, bI_0, n1_0, n0_0, Decidable.not_not, not_true_eq_false, not_false_eq_true, nI_add, pk_mul, Nat.add_zero, Nat.zero_add, Nat.reduceAdd, Nat.reduceMul]
  refine m_blk [(.iconst (-1), .int (-1))] (Nat.le_of_ble_eq_true rfl) (by decide +kernel) ?_
  refine gx_iconst ((gx_nil ?_))
  refine m_icmp_eq (off := 7) (tgt := 20) (by decide +kernel) (by decide) (fun c13 => ?_) (fun c13 => ?_)
  · try simp only [bI_0, Decidable.not_not] at c13
    refine m_blk [(.iconst 0, .int (nI 0)), (.iconst 1, .int (nI 1))] (Nat.le_of_ble_eq_true rfl) (by decide +kernel) ?_
    refine gx_iconst (gx_iconst ((gx_nil ?_)))
    refine m_call kX10_48 (r_holds _ _ _) (by decide +kernel) rfl rfl (Nat.le_of_ble_eq_true rfl) (Nat.le_of_ble_eq_true rfl) (Nat.le_of_ble_eq_true rfl) rfl ?_
    try simp only [Option.toList_some, Option.toList_none, List.cons_append, List.nil_append, bI_0, n1_0, n0_0, Decidable.not_not, not_true_eq_false, not_false_eq_true, nI_add, pk_mul, Nat.add_zero, Nat.zero_add, Nat.reduceAdd, Nat.reduceMul]
    refine m_if_eq (off := 12) (tgt := 37) (by decide +kernel) (by decide) (fun c25 => ?_) (fun c25 => ?_)
    · try simp only [bI_0, Decidable.not_not] at c25
      refine m_blk [(.iconst 0, .int (nI 0))] (Nat.le_of_ble_eq_true rfl) (by decide +kernel) ?_
      refine gx_iconst ((gx_nil ?_))
      rw [bI_f (p := ¬ F 0 (62 + 7 * rIdx (F 0) id c + 5) = -1) (fun z => z c13)]
      have hτ : ¬ rT (bI (¬ rPlace (F 0) id c = -1)) (nI 0) (nI 1) = 0 := fun z => by
        have z1 := (rT_iff _ _ _).mp z
        simp only [bI_0, n1_0, n0_0, Decidable.not_not, not_true_eq_false, not_false_eq_true, and_true] at z1
        first | exact c25 z1 | exact z1 c25 | simp_all
      refine m_end (some (.int _)) rfl ⟨by decide +kernel, _, rfl, rfl⟩ ?_ ?_ ?_
      · rw [if_neg hτ]
      · rfl
      · rfl
    · try simp only [bI_0, Decidable.not_not] at c25
      exact c25.2.1.elim
  · try simp only [bI_0, Decidable.not_not] at c13
    refine m_blk [(.iconst 1, .int (nI 1)), (.goto 4, .retAddr 21), (.iconst 1, .int (nI 1))] (Nat.le_of_ble_eq_true rfl) (by decide +kernel) ?_
    refine gx_iconst (gx_goto (gx_iconst ((gx_nil ?_))))
    refine m_call kX10_48 (r_holds _ _ _) (by decide +kernel) rfl rfl (Nat.le_of_ble_eq_true rfl) (Nat.le_of_ble_eq_true rfl) (Nat.le_of_ble_eq_true rfl) rfl ?_
    try simp only [Option.toList_some, Option.toList_none, List.cons_append, List.nil_append, bI_0, n1_0, n0_0, Decidable.not_not, not_true_eq_false, not_false_eq_true, nI_add, pk_mul, Nat.add_zero, Nat.zero_add, Nat.reduceAdd, Nat.reduceMul]
    refine m_if_eq (off := 12) (tgt := 37) (by decide +kernel) (by decide) (fun c25 => ?_) (fun c25 => ?_)
    · try simp only [bI_0, Decidable.not_not] at c25
      refine m_blk [(.iconst 0, .int (nI 0))] (Nat.le_of_ble_eq_true rfl) (by decide +kernel) ?_
      refine gx_iconst ((gx_nil ?_))
      rw [bI_t (p := ¬ F 0 (62 + 7 * rIdx (F 0) id c + 5) = -1) c13]
      have hτ : ¬ rT (bI (¬ rPlace (F 0) id c = -1)) (nI 1) (nI 1) = 0 := fun z => by
        have z1 := (rT_iff _ _ _).mp z
        simp only [bI_0, n1_0, n0_0, Decidable.not_not, not_true_eq_false, not_false_eq_true, and_true] at z1
        first | exact c25 z1 | exact z1 c25 | simp_all
      refine m_end (some (.int _)) rfl ⟨by decide +kernel, _, rfl, rfl⟩ ?_ ?_ ?_
      · rw [if_neg hτ]
      · rfl
      · rfl
    · try simp only [bI_0, Decidable.not_not] at c25
      refine m_blk [(.aload_n 0, .null), (.iload_n 1, .null), (.iconst 5, .int (nI 5))] (Nat.le_of_ble_eq_true rfl) (by decide +kernel) ?_
      refine gx_aload_n_0 (gx_iload_n_1 (gx_iconst ((gx_nil ?_))))
      refine m_call kX10_153 (r_of hc h3 _ 5 (by omega)) (by decide +kernel) rfl rfl (Nat.le_of_ble_eq_true rfl) (Nat.le_of_ble_eq_true rfl) (Nat.le_of_ble_eq_true rfl) rfl ?_
      try simp only [Option.toList_some, Option.toList_none, List.cons_append, List.nil_append, bI_0, n1_0, n0_0, Decidable.not_not, not_true_eq_false, not_false_eq_true, nI_add, pk_mul, Nat.add_zero, Nat.zero_add, Nat.reduceAdd, Nat.reduceMul]
      refine m_blk [(.goto 4, .retAddr 38)] (Nat.le_of_ble_eq_true rfl) (by decide +kernel) ?_
      refine gx_goto ((gx_nil ?_))
      rw [bI_t (p := ¬ F 0 (62 + 7 * rIdx (F 0) id c + 5) = -1) c13]
      have hτ : rT (bI (¬ rPlace (F 0) id c = -1)) (nI 1) (nI 1) = 0 := (rT_iff _ _ _).mpr (by simp only [bI_0, n1_0, n0_0, Decidable.not_not, not_true_eq_false, not_false_eq_true, and_true]; first | exact c25 | simp_all)
      refine m_end (some (.int _)) rfl ⟨by decide +kernel, _, rfl, rfl⟩ ?_ ?_ ?_
      · rw [if_pos hτ]
        try first | done | rfl | rfl
      · rfl
      · rfl
theorem rp_bagOf {c : Nat} (hc : c ≤ 20) (h3 : F 0 3 = nI c) (id : Int32) : mC Γ o ad M_X10_bagOf [.int id] V F 3 (some (.int (if rT (bI (¬ rPlace (F 0) id c = -1)) (bI (¬ F 0 (62 + 7 * rIdx (F 0) id c + 5) = -1)) (nI 1) = 0 then F 0 (62 + 7 * rIdx (F 0) id c + 6) else nI 0))) (vU V 13 (rT (bI (¬ rPlace (F 0) id c = -1)) (bI (¬ F 0 (62 + 7 * rIdx (F 0) id c + 5) = -1)) (nI 1))) F := by
  refine mC_of (by decide) rfl (Nat.le_of_ble_eq_true rfl) [some (.ref o), some (.int id)] rfl ?_
  refine m_blk [(.aload_n 0, .null), (.aload_n 0, .null), (.iload_n 1, .null)] (Nat.le_of_ble_eq_true rfl) (by decide +kernel) ?_
  refine gx_aload_n_0 (gx_aload_n_0 (gx_iload_n_1 ((gx_nil ?_))))
  refine m_call kX10_156 (r_isHere hc h3 _) (by decide +kernel) rfl rfl (Nat.le_of_ble_eq_true rfl) (Nat.le_of_ble_eq_true rfl) (Nat.le_of_ble_eq_true rfl) rfl ?_
  try simp only [Option.toList_some, Option.toList_none, List.cons_append, List.nil_append, bI_0, n1_0, n0_0, Decidable.not_not, not_true_eq_false, not_false_eq_true, nI_add, pk_mul, Nat.add_zero, Nat.zero_add, Nat.reduceAdd, Nat.reduceMul]
  refine m_blk [(.aload_n 0, .null), (.iload_n 1, .null), (.iconst 5, .int (nI 5))] (Nat.le_of_ble_eq_true rfl) (by decide +kernel) ?_
  refine gx_aload_n_0 (gx_iload_n_1 (gx_iconst ((gx_nil ?_))))
  refine m_call kX10_153 (r_of hc h3 _ 5 (by omega)) (by decide +kernel) rfl rfl (Nat.le_of_ble_eq_true rfl) (Nat.le_of_ble_eq_true rfl) (Nat.le_of_ble_eq_true rfl) rfl ?_
  try simp only [Option.toList_some, Option.toList_none, List.cons_append, List.nil_append, bI_0, n1_0, n0_0, Decidable.not_not, not_true_eq_false, not_false_eq_true, nI_add, pk_mul, Nat.add_zero, Nat.zero_add, Nat.reduceAdd, Nat.reduceMul]
  refine m_blk [(.iconst (-1), .int (-1))] (Nat.le_of_ble_eq_true rfl) (by decide +kernel) ?_
  refine gx_iconst ((gx_nil ?_))
  refine m_icmp_eq (off := 7) (tgt := 20) (by decide +kernel) (by decide) (fun c13 => ?_) (fun c13 => ?_)
  · try simp only [bI_0, Decidable.not_not] at c13
    refine m_blk [(.iconst 0, .int (nI 0)), (.iconst 1, .int (nI 1))] (Nat.le_of_ble_eq_true rfl) (by decide +kernel) ?_
    refine gx_iconst (gx_iconst ((gx_nil ?_)))
    refine m_call kX10_48 (r_holds _ _ _) (by decide +kernel) rfl rfl (Nat.le_of_ble_eq_true rfl) (Nat.le_of_ble_eq_true rfl) (Nat.le_of_ble_eq_true rfl) rfl ?_
    try simp only [Option.toList_some, Option.toList_none, List.cons_append, List.nil_append, bI_0, n1_0, n0_0, Decidable.not_not, not_true_eq_false, not_false_eq_true, nI_add, pk_mul, Nat.add_zero, Nat.zero_add, Nat.reduceAdd, Nat.reduceMul]
    refine m_if_eq (off := 13) (tgt := 38) (by decide +kernel) (by decide) (fun c25 => ?_) (fun c25 => ?_)
    · try simp only [bI_0, Decidable.not_not] at c25
      refine m_blk [(.iconst 0, .int (nI 0))] (Nat.le_of_ble_eq_true rfl) (by decide +kernel) ?_
      refine gx_iconst ((gx_nil ?_))
      rw [bI_f (p := ¬ F 0 (62 + 7 * rIdx (F 0) id c + 5) = -1) (fun z => z c13)]
      have hτ : ¬ rT (bI (¬ rPlace (F 0) id c = -1)) (nI 0) (nI 1) = 0 := fun z => by
        have z1 := (rT_iff _ _ _).mp z
        simp only [bI_0, n1_0, n0_0, Decidable.not_not, not_true_eq_false, not_false_eq_true, and_true] at z1
        first | exact c25 z1 | exact z1 c25 | simp_all
      refine m_end (some (.int _)) rfl ⟨by decide +kernel, _, rfl, rfl⟩ ?_ ?_ ?_
      · rw [if_neg hτ]
      · rfl
      · rfl
    · try simp only [bI_0, Decidable.not_not] at c25
      exact c25.2.1.elim
  · try simp only [bI_0, Decidable.not_not] at c13
    refine m_blk [(.iconst 1, .int (nI 1)), (.goto 4, .retAddr 21), (.iconst 1, .int (nI 1))] (Nat.le_of_ble_eq_true rfl) (by decide +kernel) ?_
    refine gx_iconst (gx_goto (gx_iconst ((gx_nil ?_))))
    refine m_call kX10_48 (r_holds _ _ _) (by decide +kernel) rfl rfl (Nat.le_of_ble_eq_true rfl) (Nat.le_of_ble_eq_true rfl) (Nat.le_of_ble_eq_true rfl) rfl ?_
    try simp only [Option.toList_some, Option.toList_none, List.cons_append, List.nil_append, bI_0, n1_0, n0_0, Decidable.not_not, not_true_eq_false, not_false_eq_true, nI_add, pk_mul, Nat.add_zero, Nat.zero_add, Nat.reduceAdd, Nat.reduceMul]
    refine m_if_eq (off := 13) (tgt := 38) (by decide +kernel) (by decide) (fun c25 => ?_) (fun c25 => ?_)
    · try simp only [bI_0, Decidable.not_not] at c25
      refine m_blk [(.iconst 0, .int (nI 0))] (Nat.le_of_ble_eq_true rfl) (by decide +kernel) ?_
      refine gx_iconst ((gx_nil ?_))
      rw [bI_t (p := ¬ F 0 (62 + 7 * rIdx (F 0) id c + 5) = -1) c13]
      have hτ : ¬ rT (bI (¬ rPlace (F 0) id c = -1)) (nI 1) (nI 1) = 0 := fun z => by
        have z1 := (rT_iff _ _ _).mp z
        simp only [bI_0, n1_0, n0_0, Decidable.not_not, not_true_eq_false, not_false_eq_true, and_true] at z1
        first | exact c25 z1 | exact z1 c25 | simp_all
      refine m_end (some (.int _)) rfl ⟨by decide +kernel, _, rfl, rfl⟩ ?_ ?_ ?_
      · rw [if_neg hτ]
      · rfl
      · rfl
    · try simp only [bI_0, Decidable.not_not] at c25
      refine m_blk [(.aload_n 0, .null), (.iload_n 1, .null), (.bipush 6, .int (nI 6))] (Nat.le_of_ble_eq_true rfl) (by decide +kernel) ?_
      refine gx_aload_n_0 (gx_iload_n_1 (gx_bipush ((gx_nil ?_))))
      refine m_call kX10_153 (r_of hc h3 _ 6 (by omega)) (by decide +kernel) rfl rfl (Nat.le_of_ble_eq_true rfl) (Nat.le_of_ble_eq_true rfl) (Nat.le_of_ble_eq_true rfl) rfl ?_
      try simp only [Option.toList_some, Option.toList_none, List.cons_append, List.nil_append, bI_0, n1_0, n0_0, Decidable.not_not, not_true_eq_false, not_false_eq_true, nI_add, pk_mul, Nat.add_zero, Nat.zero_add, Nat.reduceAdd, Nat.reduceMul]
      refine m_blk [(.goto 4, .retAddr 39)] (Nat.le_of_ble_eq_true rfl) (by decide +kernel) ?_
      refine gx_goto ((gx_nil ?_))
      rw [bI_t (p := ¬ F 0 (62 + 7 * rIdx (F 0) id c + 5) = -1) c13]
      have hτ : rT (bI (¬ rPlace (F 0) id c = -1)) (nI 1) (nI 1) = 0 := (rT_iff _ _ _).mpr (by simp only [bI_0, n1_0, n0_0, Decidable.not_not, not_true_eq_false, not_false_eq_true, and_true]; first | exact c25 | simp_all)
      refine m_end (some (.int _)) rfl ⟨by decide +kernel, _, rfl, rfl⟩ ?_ ?_ ?_
      · rw [if_pos hτ]
        try first | done | rfl | rfl
      · rfl
      · rfl
def rWr (N : Nat → Int32) (p t : Nat) : Bool := decide (¬ N (62 + 7 * p + 5) = -1 ∧ ¬ rRoute N (N (62 + 7 * p + 1)) t = N (62 + 7 * p + 5))
theorem r_isWrong {t : Nat} (ht : t ≤ 12) (h4 : F 0 4 = nI t) (p : Nat) (hp : p < 20) : mC Γ o ad M_X10_isWrong [.int (nI p)] V F 3 (some (.int (bI (rWr (F 0) p t = true)))) (V) (F) := by
  refine mC_of (by decide) rfl (Nat.le_of_ble_eq_true rfl) [some (.ref o), some (.int (nI p)), none] rfl ?_
  refine m_blk [(.iload_n 1, .null)] (Nat.le_of_ble_eq_true rfl) (by decide +kernel) ?_
  refine gx_iload_n_1 ((gx_nil ?_))
  refine m_callS kX10_94 (r_letterAt _) (by decide +kernel) rfl rfl (Nat.le_of_ble_eq_true rfl) (Nat.le_of_ble_eq_true rfl) (Nat.le_of_ble_eq_true rfl) rfl ?_
  try simp only [Option.toList_some, Option.toList_none, List.cons_append, List.nil_append, bI_0, n1_0, n0_0, Decidable.not_not, not_true_eq_false, not_false_eq_true, nI_add, pk_mul, Nat.add_zero, Nat.zero_add, Nat.reduceAdd, Nat.reduceMul]
  refine m_blk [(.istore_n 2, .null), (.aload_n 0, .null)] (Nat.le_of_ble_eq_true rfl) (by decide +kernel) ?_
  refine gx_istore_n_2 rfl (gx_aload_n_0 ((gx_nil ?_)))
  refine m_getR fX10_9 (by decide +kernel) rfl ?_
  refine m_blk [(.iload_n 2, .null), (.iconst 5, .int (nI 5)), (.iadd, .null)] (Nat.le_of_ble_eq_true rfl) (by decide +kernel) ?_
  refine gx_iload_n_2 (gx_iconst (gx_iadd ((gx_nil ?_))))
  try simp only [nI_add, pk_mul, Nat.add_zero, Nat.zero_add, Nat.reduceAdd, Nat.reduceMul]
  refine m_al (j := 0) rfl (by decide +kernel) (show _ < 202 from by omega) ?_
  refine m_blk [(.iconst (-1), .int (-1))] (Nat.le_of_ble_eq_true rfl) (by decide +kernel) ?_
  refine gx_iconst ((gx_nil ?_))
  refine m_icmp_eq (off := 30) (tgt := 44) (by decide +kernel) (by decide) (fun c14 => ?_) (fun c14 => ?_)
  · try simp only [bI_0, Decidable.not_not] at c14
    refine m_blk [(.iconst 0, .int (nI 0))] (Nat.le_of_ble_eq_true rfl) (by decide +kernel) ?_
    refine gx_iconst ((gx_nil ?_))
    refine m_end (some (.int _)) rfl ⟨by decide +kernel, _, rfl, by first | rfl | (unfold bI; split <;> rfl)⟩ ?_ ?_ ?_
    · first | rw [bI_t (p := rWr (F 0) p t = true) (decide_eq_true ⟨c14, c37⟩)] | rw [bI_f (p := rWr (F 0) p t = true) (fun z => (of_decide_eq_true z).1 c14)] | rw [bI_f (p := rWr (F 0) p t = true) (fun z => (of_decide_eq_true z).2 c37)]
    · rfl
    · rfl
  · try simp only [bI_0, Decidable.not_not] at c14
    refine m_blk [(.aload_n 0, .null), (.aload_n 0, .null)] (Nat.le_of_ble_eq_true rfl) (by decide +kernel) ?_
    refine gx_aload_n_0 (gx_aload_n_0 ((gx_nil ?_)))
    refine m_getR fX10_9 (by decide +kernel) rfl ?_
    refine m_blk [(.iload_n 2, .null), (.iconst 1, .int (nI 1)), (.iadd, .null)] (Nat.le_of_ble_eq_true rfl) (by decide +kernel) ?_
    refine gx_iload_n_2 (gx_iconst (gx_iadd ((gx_nil ?_))))
    try simp only [nI_add, pk_mul, Nat.add_zero, Nat.zero_add, Nat.reduceAdd, Nat.reduceMul]
    refine m_al (j := 0) rfl (by decide +kernel) (show _ < 202 from by omega) ?_
    refine m_call kX10_131 (r_routed ht h4 _) (by decide +kernel) rfl rfl (Nat.le_of_ble_eq_true rfl) (Nat.le_of_ble_eq_true rfl) (Nat.le_of_ble_eq_true rfl) rfl ?_
    try simp only [Option.toList_some, Option.toList_none, List.cons_append, List.nil_append, bI_0, n1_0, n0_0, Decidable.not_not, not_true_eq_false, not_false_eq_true, nI_add, pk_mul, Nat.add_zero, Nat.zero_add, Nat.reduceAdd, Nat.reduceMul]
    refine m_blk [(.aload_n 0, .null)] (Nat.le_of_ble_eq_true rfl) (by decide +kernel) ?_
    refine gx_aload_n_0 ((gx_nil ?_))
    refine m_getR fX10_9 (by decide +kernel) rfl ?_
    refine m_blk [(.iload_n 2, .null), (.iconst 5, .int (nI 5)), (.iadd, .null)] (Nat.le_of_ble_eq_true rfl) (by decide +kernel) ?_
    refine gx_iload_n_2 (gx_iconst (gx_iadd ((gx_nil ?_))))
    try simp only [nI_add, pk_mul, Nat.add_zero, Nat.zero_add, Nat.reduceAdd, Nat.reduceMul]
    refine m_al (j := 0) rfl (by decide +kernel) (show _ < 202 from by omega) ?_
    refine m_icmp_eq (off := 7) (tgt := 44) (by decide +kernel) (by decide) (fun c37 => ?_) (fun c37 => ?_)
    · try simp only [bI_0, Decidable.not_not] at c37
      refine m_blk [(.iconst 0, .int (nI 0))] (Nat.le_of_ble_eq_true rfl) (by decide +kernel) ?_
      refine gx_iconst ((gx_nil ?_))
      refine m_end (some (.int _)) rfl ⟨by decide +kernel, _, rfl, by first | rfl | (unfold bI; split <;> rfl)⟩ ?_ ?_ ?_
      · first | rw [bI_t (p := rWr (F 0) p t = true) (decide_eq_true ⟨c14, c37⟩)] | rw [bI_f (p := rWr (F 0) p t = true) (fun z => (of_decide_eq_true z).1 c14)] | rw [bI_f (p := rWr (F 0) p t = true) (fun z => (of_decide_eq_true z).2 c37)]
      · rfl
      · rfl
    · try simp only [bI_0, Decidable.not_not] at c37
      refine m_blk [(.iconst 1, .int (nI 1)), (.goto 4, .retAddr 45)] (Nat.le_of_ble_eq_true rfl) (by decide +kernel) ?_
      refine gx_iconst (gx_goto ((gx_nil ?_)))
      refine m_end (some (.int _)) rfl ⟨by decide +kernel, _, rfl, by first | rfl | (unfold bI; split <;> rfl)⟩ ?_ ?_ ?_
      · first | rw [bI_t (p := rWr (F 0) p t = true) (decide_eq_true ⟨c14, c37⟩)] | rw [bI_f (p := rWr (F 0) p t = true) (fun z => (of_decide_eq_true z).1 c14)] | rw [bI_f (p := rWr (F 0) p t = true) (fun z => (of_decide_eq_true z).2 c37)]
      · rfl
      · rfl
theorem rp_isMissorted {c : Nat} (hc : c ≤ 20) (h3 : F 0 3 = nI c) {t : Nat} (ht : t ≤ 12) (h4 : F 0 4 = nI t) (id : Int32) : mC Γ o ad M_X10_isMissorted [.int id] V F 4 (some (.int (if rT (bI (¬ rPlace (F 0) id c = -1)) (nI 1) (nI 1) = 0 then bI (rWr (F 0) (rIdx (F 0) id c) t = true) else nI 0))) (vU V 13 (rT (bI (¬ rPlace (F 0) id c = -1)) (nI 1) (nI 1))) F := by
  refine mC_of (by decide) rfl (Nat.le_of_ble_eq_true rfl) [some (.ref o), some (.int id)] rfl ?_
  refine m_blk [(.aload_n 0, .null), (.aload_n 0, .null), (.iload_n 1, .null)] (Nat.le_of_ble_eq_true rfl) (by decide +kernel) ?_
  refine gx_aload_n_0 (gx_aload_n_0 (gx_iload_n_1 ((gx_nil ?_))))
  refine m_call kX10_156 (r_isHere hc h3 _) (by decide +kernel) rfl rfl (Nat.le_of_ble_eq_true rfl) (Nat.le_of_ble_eq_true rfl) (Nat.le_of_ble_eq_true rfl) rfl ?_
  try simp only [Option.toList_some, Option.toList_none, List.cons_append, List.nil_append, bI_0, n1_0, n0_0, Decidable.not_not, not_true_eq_false, not_false_eq_true, nI_add, pk_mul, Nat.add_zero, Nat.zero_add, Nat.reduceAdd, Nat.reduceMul]
  refine m_call kX10_62 (r_goes _) (by decide +kernel) rfl rfl (Nat.le_of_ble_eq_true rfl) (Nat.le_of_ble_eq_true rfl) (Nat.le_of_ble_eq_true rfl) rfl ?_
  try simp only [Option.toList_some, Option.toList_none, List.cons_append, List.nil_append, bI_0, n1_0, n0_0, Decidable.not_not, not_true_eq_false, not_false_eq_true, nI_add, pk_mul, Nat.add_zero, Nat.zero_add, Nat.reduceAdd, Nat.reduceMul]
  refine m_if_eq (off := 19) (tgt := 28) (by decide +kernel) (by decide) (fun c9 => ?_) (fun c9 => ?_)
  · try simp only [bI_0, Decidable.not_not] at c9
    refine m_blk [(.iconst 0, .int (nI 0))] (Nat.le_of_ble_eq_true rfl) (by decide +kernel) ?_
    refine gx_iconst ((gx_nil ?_))
    have hτ : ¬ rT (bI (¬ rPlace (F 0) id c = -1)) (nI 1) (nI 1) = 0 := fun z => by
      have z1 := (rT_iff _ _ _).mp z
      simp only [bI_0, n1_0, n0_0, Decidable.not_not, not_true_eq_false, not_false_eq_true, and_true] at z1
      first | exact c9 z1 | exact z1 c9 | simp_all
    refine m_end (some (.int _)) rfl ⟨by decide +kernel, _, rfl, by first | rfl | (unfold bI; split <;> rfl)⟩ ?_ ?_ ?_
    · rw [if_neg hτ]
    · rfl
    · rfl
  · try simp only [bI_0, Decidable.not_not] at c9
    obtain ⟨p, hp, ep⟩ := rPlace_in.resolve_left c9
    have hix := rIdx_of (by omega) ep
    refine m_blk [(.aload_n 0, .null), (.aload_n 0, .null), (.iload_n 1, .null)] (Nat.le_of_ble_eq_true rfl) (by decide +kernel) ?_
    refine gx_aload_n_0 (gx_aload_n_0 (gx_iload_n_1 ((gx_nil ?_))))
    refine m_call kX10_97 (r_placeOf hc h3 _) (by decide +kernel) rfl rfl (Nat.le_of_ble_eq_true rfl) (Nat.le_of_ble_eq_true rfl) (Nat.le_of_ble_eq_true rfl) rfl ?_
    refine m_top ep ?_
    try simp only [Option.toList_some, List.cons_append, List.nil_append]
    refine m_call kX10_182 (r_isWrong ht h4 p (by omega)) (by decide +kernel) rfl rfl (Nat.le_of_ble_eq_true rfl) (Nat.le_of_ble_eq_true rfl) (Nat.le_of_ble_eq_true rfl) rfl ?_
    try simp only [Option.toList_some, Option.toList_none, List.cons_append, List.nil_append, bI_0, n1_0, n0_0, Decidable.not_not, not_true_eq_false, not_false_eq_true, nI_add, pk_mul, Nat.add_zero, Nat.zero_add, Nat.reduceAdd, Nat.reduceMul]
    refine m_if_eq (off := 7) (tgt := 28) (by decide +kernel) (by decide) (fun c21 => ?_) (fun c21 => ?_)
    · try simp only [bI_0, Decidable.not_not] at c21
      refine m_blk [(.iconst 0, .int (nI 0))] (Nat.le_of_ble_eq_true rfl) (by decide +kernel) ?_
      refine gx_iconst ((gx_nil ?_))
      have hτ : rT (bI (¬ rPlace (F 0) id c = -1)) (nI 1) (nI 1) = 0 := (rT_iff _ _ _).mpr (by simp only [bI_0, n1_0, n0_0, Decidable.not_not, not_true_eq_false, not_false_eq_true, and_true]; first | exact c9 | simp_all)
      refine m_end (some (.int _)) rfl ⟨by decide +kernel, _, rfl, by first | rfl | (unfold bI; split <;> rfl)⟩ ?_ ?_ ?_
      · rw [if_pos hτ]
        try first | done | rfl | (rw [hix, bI_f c21])
      · rfl
      · rfl
    · try simp only [bI_0, Decidable.not_not] at c21
      refine m_blk [(.iconst 1, .int (nI 1)), (.goto 4, .retAddr 29)] (Nat.le_of_ble_eq_true rfl) (by decide +kernel) ?_
      refine gx_iconst (gx_goto ((gx_nil ?_)))
      have hτ : rT (bI (¬ rPlace (F 0) id c = -1)) (nI 1) (nI 1) = 0 := (rT_iff _ _ _).mpr (by simp only [bI_0, n1_0, n0_0, Decidable.not_not, not_true_eq_false, not_false_eq_true, and_true]; first | exact c9 | simp_all)
      refine m_end (some (.int _)) rfl ⟨by decide +kernel, _, rfl, by first | rfl | (unfold bI; split <;> rfl)⟩ ?_ ?_ ?_
      · rw [if_pos hτ]
        try first | done | rfl | (rw [hix, bI_t c21])
      · rfl
      · rfl
theorem rp_canSort {c : Nat} (hc : c ≤ 20) (h3 : F 0 3 = nI c) {t : Nat} (ht : t ≤ 12) (h4 : F 0 4 = nI t) (hOK : rOK (F 0)) (id : Int32) : mC Γ o ad M_X10_canSort [.int id] V F 5 (some (.int (if rT (bI (¬ rPlace (F 0) id c = -1)) (nI 1) (nI 1) = 0 then bI (rGo (F 0) (rIdx (F 0) id c) (rSrt (F 0) id c t) c (rOp (F 0) (rSrt (F 0) id c t)) = true) else nI 0))) (vU V 13 (rT (bI (¬ rPlace (F 0) id c = -1)) (nI 1) (nI 1))) F := by
  refine mC_of (by decide) rfl (Nat.le_of_ble_eq_true rfl) [some (.ref o), some (.int id)] rfl ?_
  refine m_blk [(.aload_n 0, .null), (.aload_n 0, .null), (.iload_n 1, .null)] (Nat.le_of_ble_eq_true rfl) (by decide +kernel) ?_
  refine gx_aload_n_0 (gx_aload_n_0 (gx_iload_n_1 ((gx_nil ?_))))
  refine m_call kX10_156 (r_isHere hc h3 _) (by decide +kernel) rfl rfl (Nat.le_of_ble_eq_true rfl) (Nat.le_of_ble_eq_true rfl) (Nat.le_of_ble_eq_true rfl) rfl ?_
  try simp only [Option.toList_some, Option.toList_none, List.cons_append, List.nil_append, bI_0, n1_0, n0_0, Decidable.not_not, not_true_eq_false, not_false_eq_true, nI_add, pk_mul, Nat.add_zero, Nat.zero_add, Nat.reduceAdd, Nat.reduceMul]
  refine m_call kX10_62 (r_goes _) (by decide +kernel) rfl rfl (Nat.le_of_ble_eq_true rfl) (Nat.le_of_ble_eq_true rfl) (Nat.le_of_ble_eq_true rfl) rfl ?_
  try simp only [Option.toList_some, Option.toList_none, List.cons_append, List.nil_append, bI_0, n1_0, n0_0, Decidable.not_not, not_true_eq_false, not_false_eq_true, nI_add, pk_mul, Nat.add_zero, Nat.zero_add, Nat.reduceAdd, Nat.reduceMul]
  refine m_if_eq (off := 29) (tgt := 38) (by decide +kernel) (by decide) (fun c9 => ?_) (fun c9 => ?_)
  · try simp only [bI_0, Decidable.not_not] at c9
    refine m_blk [(.iconst 0, .int (nI 0))] (Nat.le_of_ble_eq_true rfl) (by decide +kernel) ?_
    refine gx_iconst ((gx_nil ?_))
    have hτ : ¬ rT (bI (¬ rPlace (F 0) id c = -1)) (nI 1) (nI 1) = 0 := fun z => by
      have z1 := (rT_iff _ _ _).mp z
      simp only [bI_0, n1_0, n0_0, Decidable.not_not, not_true_eq_false, not_false_eq_true, and_true] at z1
      first | exact c9 z1 | exact z1 c9 | simp_all
    refine m_end (some (.int _)) rfl ⟨by decide +kernel, _, rfl, by first | rfl | (unfold bI; split <;> rfl)⟩ ?_ ?_ ?_
    · rw [if_neg hτ]
    · rfl
    · rfl
  · try simp only [bI_0, Decidable.not_not] at c9
    obtain ⟨p, hp, ep⟩ := rPlace_in.resolve_left c9
    have hix := rIdx_of (by omega) ep
    have hg := hOK.get (rSrt (F 0) id c t)
    refine m_blk [(.aload_n 0, .null), (.aload_n 0, .null), (.iload_n 1, .null)] (Nat.le_of_ble_eq_true rfl) (by decide +kernel) ?_
    refine gx_aload_n_0 (gx_aload_n_0 (gx_iload_n_1 ((gx_nil ?_))))
    refine m_call kX10_97 (r_placeOf hc h3 _) (by decide +kernel) rfl rfl (Nat.le_of_ble_eq_true rfl) (Nat.le_of_ble_eq_true rfl) (Nat.le_of_ble_eq_true rfl) rfl ?_
    refine m_top ep ?_
    try simp only [Option.toList_some, List.cons_append, List.nil_append]
    refine m_blk [(.aload_n 0, .null), (.aload_n 0, .null), (.iload_n 1, .null), (.iconst 1, .int (nI 1))] (Nat.le_of_ble_eq_true rfl) (by decide +kernel) ?_
    refine gx_aload_n_0 (gx_aload_n_0 (gx_iload_n_1 (gx_iconst ((gx_nil ?_)))))
    refine m_call kX10_153 (r_of hc h3 _ 1 (by omega)) (by decide +kernel) rfl rfl (Nat.le_of_ble_eq_true rfl) (Nat.le_of_ble_eq_true rfl) (Nat.le_of_ble_eq_true rfl) rfl ?_
    try simp only [Option.toList_some, Option.toList_none, List.cons_append, List.nil_append, bI_0, n1_0, n0_0, Decidable.not_not, not_true_eq_false, not_false_eq_true, nI_add, pk_mul, Nat.add_zero, Nat.zero_add, Nat.reduceAdd, Nat.reduceMul]
    refine m_call kX10_131 (r_routed ht h4 _) (by decide +kernel) rfl rfl (Nat.le_of_ble_eq_true rfl) (Nat.le_of_ble_eq_true rfl) (Nat.le_of_ble_eq_true rfl) rfl ?_
    try simp only [Option.toList_some, Option.toList_none, List.cons_append, List.nil_append, bI_0, n1_0, n0_0, Decidable.not_not, not_true_eq_false, not_false_eq_true, nI_add, pk_mul, Nat.add_zero, Nat.zero_add, Nat.reduceAdd, Nat.reduceMul]
    refine m_call kX10_134 (r_canGo hc h3 p (by omega) (rSrt (F 0) id c t) hg.1 hg.2) (by decide +kernel) rfl rfl (Nat.le_of_ble_eq_true rfl) (Nat.le_of_ble_eq_true rfl) (Nat.le_of_ble_eq_true rfl) rfl ?_
    try simp only [Option.toList_some, Option.toList_none, List.cons_append, List.nil_append, bI_0, n1_0, n0_0, Decidable.not_not, not_true_eq_false, not_false_eq_true, nI_add, pk_mul, Nat.add_zero, Nat.zero_add, Nat.reduceAdd, Nat.reduceMul]
    refine m_if_eq (off := 7) (tgt := 38) (by decide +kernel) (by decide) (fun c31 => ?_) (fun c31 => ?_)
    · try simp only [bI_0, Decidable.not_not] at c31
      refine m_blk [(.iconst 0, .int (nI 0))] (Nat.le_of_ble_eq_true rfl) (by decide +kernel) ?_
      refine gx_iconst ((gx_nil ?_))
      have hτ : rT (bI (¬ rPlace (F 0) id c = -1)) (nI 1) (nI 1) = 0 := (rT_iff _ _ _).mpr (by simp only [bI_0, n1_0, n0_0, Decidable.not_not, not_true_eq_false, not_false_eq_true, and_true]; first | exact c9 | simp_all)
      refine m_end (some (.int _)) rfl ⟨by decide +kernel, _, rfl, by first | rfl | (unfold bI; split <;> rfl)⟩ ?_ ?_ ?_
      · rw [if_pos hτ]
        try first | done | rfl | (rw [hix, bI_f c31])
      · rfl
      · rfl
    · try simp only [bI_0, Decidable.not_not] at c31
      refine m_blk [(.iconst 1, .int (nI 1)), (.goto 4, .retAddr 39)] (Nat.le_of_ble_eq_true rfl) (by decide +kernel) ?_
      refine gx_iconst (gx_goto ((gx_nil ?_)))
      have hτ : rT (bI (¬ rPlace (F 0) id c = -1)) (nI 1) (nI 1) = 0 := (rT_iff _ _ _).mpr (by simp only [bI_0, n1_0, n0_0, Decidable.not_not, not_true_eq_false, not_false_eq_true, and_true]; first | exact c9 | simp_all)
      refine m_end (some (.int _)) rfl ⟨by decide +kernel, _, rfl, by first | rfl | (unfold bI; split <;> rfl)⟩ ?_ ?_ ?_
      · rw [if_pos hτ]
        try first | done | rfl | (rw [hix, bI_t c31])
      · rfl
      · rfl
theorem rp_sortableCount {c : Nat} (hc : c ≤ 20) (h3 : F 0 3 = nI c) {t : Nat} (ht : t ≤ 12) (h4 : F 0 4 = nI t) (hOK : rOK (F 0)) : mC Γ o ad M_X10_sortableCount [] V F 7 (some (.int (rSA (F 0) c t).2)) (vU V 13 (nI 0)) (fR F 2 (F 0)) := by
  refine mC_of (by decide) rfl (Nat.le_of_ble_eq_true rfl) [some (.ref o), none] rfl ?_
  refine m_blk [(.aload_n 0, .null)] (Nat.le_of_ble_eq_true rfl) (by decide +kernel) ?_
  refine gx_aload_n_0 ((gx_nil ?_))
  refine m_getR fX10_9 (by decide +kernel) rfl ?_
  refine m_blk [(.iconst 0, .int (nI 0)), (.aload_n 0, .null)] (Nat.le_of_ble_eq_true rfl) (by decide +kernel) ?_
  refine gx_iconst (gx_aload_n_0 ((gx_nil ?_)))
  refine m_getR fX10_16 (by decide +kernel) rfl ?_
  refine m_blk [(.iconst 0, .int (nI 0))] (Nat.le_of_ble_eq_true rfl) (by decide +kernel) ?_
  refine gx_iconst ((gx_nil ?_))
  refine m_callR kX10_52 (r_copies0 (i := 0) (j := 2) rfl rfl (by decide) rfl rfl) (by decide +kernel) rfl rfl (Nat.le_of_ble_eq_true rfl) (Nat.le_of_ble_eq_true rfl) (Nat.le_of_ble_eq_true rfl) rfl ?_
  try simp only [Option.toList_some, Option.toList_none, List.cons_append, List.nil_append, bI_0, n1_0, n0_0, Decidable.not_not, not_true_eq_false, not_false_eq_true, nI_add, pk_mul, Nat.add_zero, Nat.zero_add, Nat.reduceAdd, Nat.reduceMul]
  refine m_blk [(.aload_n 0, .null)] (Nat.le_of_ble_eq_true rfl) (by decide +kernel) ?_
  refine gx_aload_n_0 ((gx_nil ?_))
  refine m_call kX10_146 ((r_sortsAll (F := fR F 2 (F 0)) hc h3 ht h4 hOK)) (by decide +kernel) rfl rfl (Nat.le_of_ble_eq_true rfl) (Nat.le_of_ble_eq_true rfl) (Nat.le_of_ble_eq_true rfl) rfl ?_
  try simp only [Option.toList_some, Option.toList_none, List.cons_append, List.nil_append, bI_0, n1_0, n0_0, Decidable.not_not, not_true_eq_false, not_false_eq_true, nI_add, pk_mul, Nat.add_zero, Nat.zero_add, Nat.reduceAdd, Nat.reduceMul]
  refine m_blk [(.istore_n 1, .null), (.aload_n 0, .null)] (Nat.le_of_ble_eq_true rfl) (by decide +kernel) ?_
  refine gx_istore_n_1 rfl (gx_aload_n_0 ((gx_nil ?_)))
  refine m_getR fX10_16 (by decide +kernel) rfl ?_
  refine m_blk [(.iconst 0, .int (nI 0)), (.aload_n 0, .null)] (Nat.le_of_ble_eq_true rfl) (by decide +kernel) ?_
  refine gx_iconst (gx_aload_n_0 ((gx_nil ?_)))
  refine m_getR fX10_9 (by decide +kernel) rfl ?_
  refine m_blk [(.iconst 0, .int (nI 0))] (Nat.le_of_ble_eq_true rfl) (by decide +kernel) ?_
  refine gx_iconst ((gx_nil ?_))
  refine m_callR kX10_52 (r_copies0 (i := 2) (j := 0) rfl rfl (by decide) rfl rfl) (by decide +kernel) rfl rfl (Nat.le_of_ble_eq_true rfl) (Nat.le_of_ble_eq_true rfl) (Nat.le_of_ble_eq_true rfl) rfl ?_
  try simp only [Option.toList_some, Option.toList_none, List.cons_append, List.nil_append, bI_0, n1_0, n0_0, Decidable.not_not, not_true_eq_false, not_false_eq_true, nI_add, pk_mul, Nat.add_zero, Nat.zero_add, Nat.reduceAdd, Nat.reduceMul]
  refine m_blk [(.iload_n 1, .null)] (Nat.le_of_ble_eq_true rfl) (by decide +kernel) ?_
  refine gx_iload_n_1 ((gx_nil ?_))
  refine m_end (some (.int _)) rfl ⟨by decide +kernel, _, rfl, rfl⟩ ?_ ?_ ?_
  · rfl
  · rfl
  · funext j
    unfold fR
    by_cases z : j = 0
    · subst z; rfl
    · rw [if_neg z, if_neg z]
def rLt (N : Nat → Int32) (t : Nat) : Nat → Int32
  | 0 => nI 0
  | i + 1 => rLt N t i + (if N (62 + 7 * i + 5) = -1 ∧ N (62 + 7 * i + 3) = 0 ∧ ¬ rLR N i t = -1 ∧ N (8 + 3 * rIx (rLR N i t) + 0) ≤ N 0 then nI 1 else nI 0)
theorem rp_lateCount {c : Nat} (hc : c ≤ 20) (h3 : F 0 3 = nI c) {t : Nat} (ht : t ≤ 12) (h4 : F 0 4 = nI t) : mC Γ o ad M_X10_lateCount [] V F 3 (some (.int (rLt (F 0) t c))) (vU V 13 (nI 0)) F := by
  have loop : ∀ n i, i ≤ c → c < i + n → mG Γ o ad M_X10_lateCount 3 (some (.int (rLt (F 0) t c))) (vU V 13 (nI 0)) F 9 [some (.ref o), some (.int (rLt (F 0) t i)), some (.int (nI i)), none, none, none] [] (vU V 13 (nI 0)) F := by
    intro n
    induction n with
    | zero => intro i h1 h2; omega
    | succ n ih =>
      intro i hi hn
      refine m_blk [(.iload_n 2, .null), (.aload_n 0, .null)] (Nat.le_of_ble_eq_true rfl) (by decide +kernel) ?_
      refine gx_iload_n_2 (gx_aload_n_0 ((gx_nil ?_)))
      refine m_getR fX10_9 (by decide +kernel) rfl ?_
      refine m_blk [(.iconst 3, .int (nI 3))] (Nat.le_of_ble_eq_true rfl) (by decide +kernel) ?_
      refine gx_iconst ((gx_nil ?_))
      refine m_al (j := 0) rfl (by decide +kernel) (show _ < 202 from by omega) ?_
      refine m_icmp_ge (off := 98) (tgt := 114) (by decide +kernel) (by decide) (fun c16 => ?_) (fun c16 => ?_)
      · try simp only [bI_0, Decidable.not_not] at c16
        have hic : i = c := by
          rw [h3] at c16
          have := (nI_leI (by omega) (by omega)).mp c16
          omega
        subst hic
        refine m_blk [(.iload_n 1, .null)] (Nat.le_of_ble_eq_true rfl) (by decide +kernel) ?_
        refine gx_iload_n_1 ((gx_nil ?_))
        refine m_end (some (.int _)) rfl ⟨by decide +kernel, _, rfl, rfl⟩ ?_ ?_ ?_
        · rfl
        · rfl
        · rfl
      · try simp only [bI_0, Decidable.not_not] at c16
        have hic : i < c := by
          rcases Nat.lt_or_ge i c with q | q
          · exact q
          · exact absurd (by rw [h3]; exact nI_le q (by omega)) c16
        refine m_blk [(.iload_n 2, .null)] (Nat.le_of_ble_eq_true rfl) (by decide +kernel) ?_
        refine gx_iload_n_2 ((gx_nil ?_))
        refine m_callS kX10_94 (r_letterAt _) (by decide +kernel) rfl rfl (Nat.le_of_ble_eq_true rfl) (Nat.le_of_ble_eq_true rfl) (Nat.le_of_ble_eq_true rfl) rfl ?_
        try simp only [Option.toList_some, Option.toList_none, List.cons_append, List.nil_append, bI_0, n1_0, n0_0, Decidable.not_not, not_true_eq_false, not_false_eq_true, nI_add, pk_mul, Nat.add_zero, Nat.zero_add, Nat.reduceAdd, Nat.reduceMul]
        refine m_blk [(.istore_n 3, .null), (.aload_n 0, .null), (.aload_n 0, .null)] (Nat.le_of_ble_eq_true rfl) (by decide +kernel) ?_
        refine gx_istore_n_3 rfl (gx_aload_n_0 (gx_aload_n_0 ((gx_nil ?_))))
        refine m_getR fX10_9 (by decide +kernel) rfl ?_
        refine m_blk [(.iload_n 3, .null), (.iconst 1, .int (nI 1)), (.iadd, .null)] (Nat.le_of_ble_eq_true rfl) (by decide +kernel) ?_
        refine gx_iload_n_3 (gx_iconst (gx_iadd ((gx_nil ?_))))
        try simp only [nI_add, pk_mul, Nat.add_zero, Nat.zero_add, Nat.reduceAdd, Nat.reduceMul]
        refine m_al (j := 0) rfl (by decide +kernel) (show _ < 202 from by omega) ?_
        refine m_call kX10_131 (r_routed ht h4 _) (by decide +kernel) rfl rfl (Nat.le_of_ble_eq_true rfl) (Nat.le_of_ble_eq_true rfl) (Nat.le_of_ble_eq_true rfl) rfl ?_
        refine m_top (show _ = rLR (F 0) i t from rfl) ?_
        try simp only [Option.toList_some, List.cons_append, List.nil_append]
        refine m_blk [(.istore 4, .null), (.aload_n 0, .null)] (Nat.le_of_ble_eq_true rfl) (by decide +kernel) ?_
        refine gx_istore_4 rfl (gx_aload_n_0 ((gx_nil ?_)))
        refine m_getR fX10_9 (by decide +kernel) rfl ?_
        refine m_blk [(.iload_n 3, .null), (.iconst 5, .int (nI 5)), (.iadd, .null)] (Nat.le_of_ble_eq_true rfl) (by decide +kernel) ?_
        refine gx_iload_n_3 (gx_iconst (gx_iadd ((gx_nil ?_))))
        try simp only [nI_add, pk_mul, Nat.add_zero, Nat.zero_add, Nat.reduceAdd, Nat.reduceMul]
        refine m_al (j := 0) rfl (by decide +kernel) (show _ < 202 from by omega) ?_
        refine m_blk [(.iconst (-1), .int (-1))] (Nat.le_of_ble_eq_true rfl) (by decide +kernel) ?_
        refine gx_iconst ((gx_nil ?_))
        refine m_icmp_ne (off := 18) (tgt := 65) (by decide +kernel) (by decide) (fun c47 => ?_) (fun c47 => ?_)
        · try simp only [bI_0, Decidable.not_not] at c47
          refine m_blk [(.iconst 0, .int (nI 0)), (.istore 5, .null), (.iload_n 1, .null), (.iload 5, .null)] (Nat.le_of_ble_eq_true rfl) (by decide +kernel) ?_
          refine gx_iconst (gx_istore_5 rfl (gx_iload_n_1 (gx_iload_5 ((gx_nil ?_)))))
          refine m_if_eq (off := 34) (tgt := 105) (by decide +kernel) (by decide) (fun c71 => ?_) (fun c71 => ?_)
          · try simp only [bI_0, Decidable.not_not] at c71
            refine m_blk [(.iconst 0, .int (nI 0)), (.iadd, .null), (.istore_n 1, .null), (.iinc 2 1, .int (nI 1)), (.goto (-102), .retAddr 9)] (Nat.le_of_ble_eq_true rfl) (by decide +kernel) ?_
            refine gx_iconst (gx_iadd (gx_istore_n_1 rfl (gx_iinc_2 rfl (gx_goto ((gx_nil ?_))))))
            try simp only [nI_add, pk_mul, Nat.add_zero, Nat.zero_add, Nat.reduceAdd, Nat.reduceMul]
            have e9 := ih (i + 1) (by omega) (by omega)
            rw [show rLt (F 0) t (i + 1) = rLt (F 0) t i + nI 0 by show _ + _ = _; rw [if_neg (fun z => c47 z.1)]] at e9
            exact m_weak (by simp [gLe]) e9
          · exact absurd (by decide) c71
        · try simp only [bI_0, Decidable.not_not] at c47
          refine m_blk [(.aload_n 0, .null)] (Nat.le_of_ble_eq_true rfl) (by decide +kernel) ?_
          refine gx_aload_n_0 ((gx_nil ?_))
          refine m_getR fX10_9 (by decide +kernel) rfl ?_
          refine m_blk [(.iload_n 3, .null), (.iconst 3, .int (nI 3)), (.iadd, .null)] (Nat.le_of_ble_eq_true rfl) (by decide +kernel) ?_
          refine gx_iload_n_3 (gx_iconst (gx_iadd ((gx_nil ?_))))
          try simp only [nI_add, pk_mul, Nat.add_zero, Nat.zero_add, Nat.reduceAdd, Nat.reduceMul]
          refine m_al (j := 0) rfl (by decide +kernel) (show _ < 202 from by omega) ?_
          refine m_if_ne (off := 7) (tgt := 65) (by decide +kernel) (by decide) (fun c58 => ?_) (fun c58 => ?_)
          · try simp only [bI_0, Decidable.not_not] at c58
            refine m_blk [(.iconst 0, .int (nI 0)), (.istore 5, .null), (.iload_n 1, .null), (.iload 5, .null)] (Nat.le_of_ble_eq_true rfl) (by decide +kernel) ?_
            refine gx_iconst (gx_istore_5 rfl (gx_iload_n_1 (gx_iload_5 ((gx_nil ?_)))))
            refine m_if_eq (off := 34) (tgt := 105) (by decide +kernel) (by decide) (fun c71 => ?_) (fun c71 => ?_)
            · try simp only [bI_0, Decidable.not_not] at c71
              refine m_blk [(.iconst 0, .int (nI 0)), (.iadd, .null), (.istore_n 1, .null), (.iinc 2 1, .int (nI 1)), (.goto (-102), .retAddr 9)] (Nat.le_of_ble_eq_true rfl) (by decide +kernel) ?_
              refine gx_iconst (gx_iadd (gx_istore_n_1 rfl (gx_iinc_2 rfl (gx_goto ((gx_nil ?_))))))
              try simp only [nI_add, pk_mul, Nat.add_zero, Nat.zero_add, Nat.reduceAdd, Nat.reduceMul]
              have e9 := ih (i + 1) (by omega) (by omega)
              rw [show rLt (F 0) t (i + 1) = rLt (F 0) t i + nI 0 by show _ + _ = _; rw [if_neg (fun z => c58 z.2.1)]] at e9
              exact m_weak (by simp [gLe]) e9
            · exact absurd (by decide) c71
          · try simp only [bI_0, Decidable.not_not] at c58
            refine m_blk [(.iconst 1, .int (nI 1)), (.goto 4, .retAddr 66), (.istore 5, .null), (.iload_n 1, .null), (.iload 5, .null)] (Nat.le_of_ble_eq_true rfl) (by decide +kernel) ?_
            refine gx_iconst (gx_goto (gx_istore_5 rfl (gx_iload_n_1 (gx_iload_5 ((gx_nil ?_))))))
            refine m_if_eq (off := 34) (tgt := 105) (by decide +kernel) (by decide) (fun c71 => ?_) (fun c71 => ?_)
            · exact absurd c71 (by decide)
            · try simp only [bI_0, Decidable.not_not] at c71
              refine m_blk [(.iload 4, .null), (.iconst (-1), .int (-1))] (Nat.le_of_ble_eq_true rfl) (by decide +kernel) ?_
              refine gx_iload_4 (gx_iconst ((gx_nil ?_)))
              refine m_icmp_eq (off := 28) (tgt := 105) (by decide +kernel) (by decide) (fun c77 => ?_) (fun c77 => ?_)
              · try simp only [bI_0, Decidable.not_not] at c77
                refine m_blk [(.iconst 0, .int (nI 0)), (.iadd, .null), (.istore_n 1, .null), (.iinc 2 1, .int (nI 1)), (.goto (-102), .retAddr 9)] (Nat.le_of_ble_eq_true rfl) (by decide +kernel) ?_
                refine gx_iconst (gx_iadd (gx_istore_n_1 rfl (gx_iinc_2 rfl (gx_goto ((gx_nil ?_))))))
                try simp only [nI_add, pk_mul, Nat.add_zero, Nat.zero_add, Nat.reduceAdd, Nat.reduceMul]
                have e9 := ih (i + 1) (by omega) (by omega)
                rw [show rLt (F 0) t (i + 1) = rLt (F 0) t i + nI 0 by show _ + _ = _; rw [if_neg (fun z => z.2.2.1 c77)]] at e9
                exact m_weak (by simp [gLe]) e9
              · try simp only [bI_0, Decidable.not_not] at c77
                refine m_blk [(.aload_n 0, .null)] (Nat.le_of_ble_eq_true rfl) (by decide +kernel) ?_
                refine gx_aload_n_0 ((gx_nil ?_))
                refine m_getR fX10_9 (by decide +kernel) rfl ?_
                refine m_blk [(.iconst 0, .int (nI 0))] (Nat.le_of_ble_eq_true rfl) (by decide +kernel) ?_
                refine gx_iconst ((gx_nil ?_))
                refine m_al (j := 0) rfl (by decide +kernel) (show _ < 202 from by omega) ?_
                refine m_blk [(.aload_n 0, .null)] (Nat.le_of_ble_eq_true rfl) (by decide +kernel) ?_
                refine gx_aload_n_0 ((gx_nil ?_))
                refine m_getR fX10_9 (by decide +kernel) rfl ?_
                refine m_blk [(.iload 4, .null)] (Nat.le_of_ble_eq_true rfl) (by decide +kernel) ?_
                refine gx_iload_4 ((gx_nil ?_))
                refine m_callS kX10_41 (r_routeAt _) (by decide +kernel) rfl rfl (Nat.le_of_ble_eq_true rfl) (Nat.le_of_ble_eq_true rfl) (Nat.le_of_ble_eq_true rfl) rfl ?_
                try simp only [Option.toList_some, Option.toList_none, List.cons_append, List.nil_append, bI_0, n1_0, n0_0, Decidable.not_not, not_true_eq_false, not_false_eq_true, nI_add, pk_mul, Nat.add_zero, Nat.zero_add, Nat.reduceAdd, Nat.reduceMul]
                refine m_blk [(.iconst 0, .int (nI 0)), (.iadd, .null)] (Nat.le_of_ble_eq_true rfl) (by decide +kernel) ?_
                refine gx_iconst (gx_iadd ((gx_nil ?_)))
                try simp only [nI_add, pk_mul, Nat.add_zero, Nat.zero_add, Nat.reduceAdd, Nat.reduceMul]
                refine m_al (j := 0) rfl (by decide +kernel) (show _ < 202 from (have := rIx_le (rLR (F 0) i t); by omega)) ?_
                refine m_icmp_lt (off := 7) (tgt := 105) (by decide +kernel) (by decide) (fun c98 => ?_) (fun c98 => ?_)
                · try simp only [bI_0, Decidable.not_not] at c98
                  refine m_blk [(.iconst 0, .int (nI 0)), (.iadd, .null), (.istore_n 1, .null), (.iinc 2 1, .int (nI 1)), (.goto (-102), .retAddr 9)] (Nat.le_of_ble_eq_true rfl) (by decide +kernel) ?_
                  refine gx_iconst (gx_iadd (gx_istore_n_1 rfl (gx_iinc_2 rfl (gx_goto ((gx_nil ?_))))))
                  try simp only [nI_add, pk_mul, Nat.add_zero, Nat.zero_add, Nat.reduceAdd, Nat.reduceMul]
                  have e9 := ih (i + 1) (by omega) (by omega)
                  rw [show rLt (F 0) t (i + 1) = rLt (F 0) t i + nI 0 by show _ + _ = _; rw [if_neg (fun z => Int32.not_le.mpr c98 z.2.2.2)]] at e9
                  exact m_weak (by simp [gLe]) e9
                · try simp only [bI_0, Decidable.not_not] at c98
                  refine m_blk [(.iconst 1, .int (nI 1)), (.goto 4, .retAddr 106), (.iadd, .null), (.istore_n 1, .null), (.iinc 2 1, .int (nI 1)), (.goto (-102), .retAddr 9)] (Nat.le_of_ble_eq_true rfl) (by decide +kernel) ?_
                  refine gx_iconst (gx_goto (gx_iadd (gx_istore_n_1 rfl (gx_iinc_2 rfl (gx_goto ((gx_nil ?_)))))))
                  try simp only [nI_add, pk_mul, Nat.add_zero, Nat.zero_add, Nat.reduceAdd, Nat.reduceMul]
                  have e9 := ih (i + 1) (by omega) (by omega)
                  rw [show rLt (F 0) t (i + 1) = rLt (F 0) t i + nI 1 by show _ + _ = _; rw [if_pos (⟨c47, c58, c77, Int32.not_lt.mp c98⟩)]] at e9
                  exact m_weak (by simp [gLe]) e9
  refine mC_of (by decide) rfl (Nat.le_of_ble_eq_true rfl) [some (.ref o), none, none, none, none, none] rfl ?_
  refine m_blk [(.aload_n 0, .null), (.iconst 0, .int (nI 0))] (Nat.le_of_ble_eq_true rfl) (by decide +kernel) ?_
  refine gx_aload_n_0 (gx_iconst ((gx_nil ?_)))
  refine m_putI fX10_45 (by decide +kernel) rfl (by decide) rfl rfl ?_
  refine m_blk [(.iconst 0, .int (nI 0)), (.istore_n 1, .null), (.iconst 0, .int (nI 0)), (.istore_n 2, .null)] (Nat.le_of_ble_eq_true rfl) (by decide +kernel) ?_
  refine gx_iconst (gx_istore_n_1 rfl (gx_iconst (gx_istore_n_2 rfl ((gx_nil ?_)))))
  exact loop (c + 1) 0 (Nat.zero_le _) (by omega)
theorem rp_traySize {c : Nat} (hc : c ≤ 20) (h3 : F 0 3 = nI c) : mC Γ o ad M_X10_traySize [] V F 2 (some (.int (rLn (F 0) (-1) (-1) c))) (vU V 13 (nI 0)) (F) := by
  refine mC_of (by decide) rfl (Nat.le_of_ble_eq_true rfl) [some (.ref o)] rfl ?_
  refine m_blk [(.aload_n 0, .null), (.iconst 0, .int (nI 0))] (Nat.le_of_ble_eq_true rfl) (by decide +kernel) ?_
  refine gx_aload_n_0 (gx_iconst ((gx_nil ?_)))
  refine m_putI fX10_45 (by decide +kernel) rfl (by decide) rfl rfl ?_
  refine m_blk [(.aload_n 0, .null), (.iconst (-1), .int (-1)), (.iconst (-1), .int (-1))] (Nat.le_of_ble_eq_true rfl) (by decide +kernel) ?_
  refine gx_aload_n_0 (gx_iconst (gx_iconst ((gx_nil ?_))))
  refine m_call kX10_185 (r_lettersIn hc h3 _ _) (by decide +kernel) rfl rfl (Nat.le_of_ble_eq_true rfl) (Nat.le_of_ble_eq_true rfl) (Nat.le_of_ble_eq_true rfl) rfl ?_
  try simp only [Option.toList_some, Option.toList_none, List.cons_append, List.nil_append, bI_0, n1_0, n0_0, Decidable.not_not, not_true_eq_false, not_false_eq_true, nI_add, pk_mul, Nat.add_zero, Nat.zero_add, Nat.reduceAdd, Nat.reduceMul]
  refine m_end (some (.int _)) rfl ⟨by decide +kernel, _, rfl, rfl⟩ ?_ ?_ ?_
  all_goals first | rfl | (simp_all [rThr, bI, bI_0, bI_n]; done) | (simp only [Option.some.injEq, Value.int.injEq, bI, Int32.lt_iff_toInt_lt, Int32.le_iff_toInt_le, Int32.not_lt, Int32.not_le] at *; split <;> first | rfl | omega)
end S22ref13leantxt
