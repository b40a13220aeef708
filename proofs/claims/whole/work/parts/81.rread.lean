/-! THE REFERENCE READS A PROGRAM -/
section SRd
variable {Γ : gE} {o : Nat} {ad : Nat → Nat} {V : Nat → Int32} {F : Nat → Nat → Int32}
theorem vU_id {k : Nat} {x : Int32} (h : V k = x) : vU V k x = V := by
  funext q
  unfold vU
  split
  · next e => rw [e, h]
  · rfl
theorem r_letterHere {sp n : Nat} {tx : Nat → Nat} (e15 : V 15 = nI sp) (e14 : V 14 = nI n) (hsp : sp ≤ n) (hn : n ≤ 60) (hT : ∀ i, i < n → F 9 i = nI (tx i) ∧ tx i < 128) : mC Γ o ad M_X10_letterHere [] V F 0 (some (.int (if sp < n then nI (tx sp) else -1))) (V) (F) := by
  refine mC_of (by decide) rfl (Nat.le_of_ble_eq_true rfl) [some (.ref o)] rfl ?_
  refine m_blk [(.aload_n 0, .null)] (Nat.le_of_ble_eq_true rfl) (by decide +kernel) ?_
  refine gx_aload_n_0 ((gx_nil ?_))
  refine m_getI fX10_215 (by decide +kernel) rfl ?_
  try simp only [vU_s, vU_n, ne_eq, Nat.reduceEqDiff, not_false_eq_true, e15, e14, nI_add, pk_mul, Nat.add_zero, Nat.zero_add, Nat.reduceAdd, Nat.reduceMul]
  refine m_blk [(.aload_n 0, .null)] (Nat.le_of_ble_eq_true rfl) (by decide +kernel) ?_
  refine gx_aload_n_0 ((gx_nil ?_))
  refine m_getI fX10_218 (by decide +kernel) rfl ?_
  try simp only [vU_s, vU_n, ne_eq, Nat.reduceEqDiff, not_false_eq_true, e15, e14, nI_add, pk_mul, Nat.add_zero, Nat.zero_add, Nat.reduceAdd, Nat.reduceMul]
  refine m_icmp_ge (off := 15) (tgt := 23) (by decide +kernel) (by decide) (fun c8 => ?_) (fun c8 => ?_)
  · try simp only [bI_0, Decidable.not_not] at c8
    have hs : ¬ sp < n := fun z => absurd c8 (nI_ge z (by omega))
    refine m_blk [(.iconst (-1), .int (-1))] (Nat.le_of_ble_eq_true rfl) (by decide +kernel) ?_
    refine gx_iconst ((gx_nil ?_))
    refine m_end (some (.int _)) rfl ⟨by decide +kernel, _, rfl, rfl⟩ ?_ ?_ ?_
    · rw [if_neg hs]
    · rfl
    · rfl
  · try simp only [bI_0, Decidable.not_not] at c8
    have hs : sp < n := Nat.lt_of_not_le (fun z => c8 (nI_le z (by omega)))
    refine m_blk [(.aload_n 0, .null)] (Nat.le_of_ble_eq_true rfl) (by decide +kernel) ?_
    refine gx_aload_n_0 ((gx_nil ?_))
    refine m_getR fX10_32 (by decide +kernel) rfl ?_
    refine m_blk [(.aload_n 0, .null)] (Nat.le_of_ble_eq_true rfl) (by decide +kernel) ?_
    refine gx_aload_n_0 ((gx_nil ?_))
    refine m_getI fX10_215 (by decide +kernel) rfl ?_
    try simp only [vU_s, vU_n, ne_eq, Nat.reduceEqDiff, not_false_eq_true, e15, e14, nI_add, pk_mul, Nat.add_zero, Nat.zero_add, Nat.reduceAdd, Nat.reduceMul]
    refine m_al (j := 9) rfl (by decide +kernel) (show _ < 60 from by omega) ?_
    rw [(hT _ hs).1]
    refine m_blk [(.goto 4, .retAddr 24)] (Nat.le_of_ble_eq_true rfl) (by decide +kernel) ?_
    refine gx_goto ((gx_nil ?_))
    refine m_end (some (.int _)) rfl ⟨by decide +kernel, _, rfl, rfl⟩ ?_ ?_ ?_
    · rw [if_pos hs]
    · rfl
    · rfl
theorem lh_in {sp n lo hi : Nat} {tx : Nat → Nat} (ht : sp < n → tx sp < 128) (hlo : lo < 128) (hhi : hi < 128) : (nI lo ≤ (if sp < n then nI (tx sp) else -1) ∧ (if sp < n then nI (tx sp) else -1) ≤ nI hi) ↔ (sp < n ∧ lo ≤ tx sp ∧ tx sp ≤ hi) := by
  by_cases h : sp < n
  · rw [if_pos h, nI_leI (by omega) (by have := ht h; omega), nI_leI (by have := ht h; omega) (by omega)]
    exact ⟨fun z => ⟨h, z⟩, fun z => z.2⟩
  · rw [if_neg h]
    refine ⟨fun z => ?_, fun z => absurd z.1 h⟩
    exact absurd (Int32.le_trans (nI_le (Nat.zero_le lo) (by omega)) z.1) (by decide)
theorem r_reads_ok {sp n : Nat} {tx : Nat → Nat} (e15 : V 15 = nI sp) (e14 : V 14 = nI n) (hsp : sp ≤ n) (hn : n ≤ 60) (hT : ∀ i, i < n → F 9 i = nI (tx i) ∧ tx i < 128) {lo hi : Nat} (hlo : lo < 128) (hhi : hi < 128) (e16 : V 16 = -1) (hok : sp < n ∧ lo ≤ tx sp ∧ tx sp ≤ hi) : mC Γ o ad M_X10_reads [.int (nI lo), .int (nI hi)] V F 1 (some (.int (nI (tx sp - lo)))) (vU V 15 (nI (sp + 1))) (F) := by
  have hin := (lh_in (fun z => (hT sp z).2) hlo hhi).mpr hok
  have ht8 := (hT sp hok.1).2
  refine mC_of (by decide) rfl (Nat.le_of_ble_eq_true rfl) [some (.ref o), some (.int (nI lo)), some (.int (nI hi))] rfl ?_
  refine m_blk [(.aload_n 0, .null)] (Nat.le_of_ble_eq_true rfl) (by decide +kernel) ?_
  refine gx_aload_n_0 ((gx_nil ?_))
  refine m_getI fX10_221 (by decide +kernel) rfl ?_
  try simp only [vU_s, vU_n, ne_eq, Nat.reduceEqDiff, not_false_eq_true, e15, e14, e16, nI_add, pk_mul, Nat.add_zero, Nat.zero_add, Nat.reduceAdd, Nat.reduceMul]
  refine m_blk [(.iconst (-1), .int (-1))] (Nat.le_of_ble_eq_true rfl) (by decide +kernel) ?_
  refine gx_iconst ((gx_nil ?_))
  refine m_icmp_ne (off := 39) (tgt := 44) (by decide +kernel) (by decide) (fun c5 => ?_) (fun c5 => ?_)
  · try simp only [bI_0, Decidable.not_not] at c5
    exact (c5 trivial).elim
  · try simp only [bI_0, Decidable.not_not] at c5
    refine m_blk [(.aload_n 0, .null)] (Nat.le_of_ble_eq_true rfl) (by decide +kernel) ?_
    refine gx_aload_n_0 ((gx_nil ?_))
    refine m_call kX10_224 (r_letterHere e15 e14 hsp hn hT) (by decide +kernel) rfl rfl (Nat.le_of_ble_eq_true rfl) (Nat.le_of_ble_eq_true rfl) (Nat.le_of_ble_eq_true rfl) rfl ?_
    try simp only [Option.toList_some, Option.toList_none, List.cons_append, List.nil_append, bI_0, n1_0, n0_0, Decidable.not_not, not_true_eq_false, not_false_eq_true, e15, e14, e16, nI_add, pk_mul, Nat.add_zero, Nat.zero_add, Nat.reduceAdd, Nat.reduceMul]
    refine m_blk [(.iload_n 1, .null), (.iload_n 2, .null)] (Nat.le_of_ble_eq_true rfl) (by decide +kernel) ?_
    refine gx_iload_n_1 (gx_iload_n_2 ((gx_nil ?_)))
    refine m_callS kX10_70 (r_isIn _ _ _) (by decide +kernel) rfl rfl (Nat.le_of_ble_eq_true rfl) (Nat.le_of_ble_eq_true rfl) (Nat.le_of_ble_eq_true rfl) rfl ?_
    try simp only [Option.toList_some, Option.toList_none, List.cons_append, List.nil_append, bI_0, n1_0, n0_0, Decidable.not_not, not_true_eq_false, not_false_eq_true, e15, e14, e16, nI_add, pk_mul, Nat.add_zero, Nat.zero_add, Nat.reduceAdd, Nat.reduceMul]
    refine m_if_eq (off := 27) (tgt := 44) (by decide +kernel) (by decide) (fun c17 => ?_) (fun c17 => ?_)
    · try simp only [bI_0, Decidable.not_not] at c17
      exact absurd hin c17
    · try simp only [bI_0, Decidable.not_not] at c17
      refine m_blk [(.aload_n 0, .null), (.dup, .null)] (Nat.le_of_ble_eq_true rfl) (by decide +kernel) ?_
      refine gx_aload_n_0 (gx_dupr ((gx_nil ?_)))
      refine m_getI fX10_215 (by decide +kernel) rfl ?_
      try simp only [vU_s, vU_n, ne_eq, Nat.reduceEqDiff, not_false_eq_true, e15, e14, e16, nI_add, pk_mul, Nat.add_zero, Nat.zero_add, Nat.reduceAdd, Nat.reduceMul]
      refine m_blk [(.iconst 1, .int (nI 1)), (.iadd, .null)] (Nat.le_of_ble_eq_true rfl) (by decide +kernel) ?_
      refine gx_iconst (gx_iadd ((gx_nil ?_)))
      try simp only [e15, e14, e16, nI_add, pk_mul, Nat.add_zero, Nat.zero_add, Nat.reduceAdd, Nat.reduceMul]
      refine m_putI fX10_215 (by decide +kernel) rfl (by decide) rfl rfl ?_
      refine m_blk [(.aload_n 0, .null)] (Nat.le_of_ble_eq_true rfl) (by decide +kernel) ?_
      refine gx_aload_n_0 ((gx_nil ?_))
      refine m_getR fX10_32 (by decide +kernel) rfl ?_
      refine m_blk [(.aload_n 0, .null)] (Nat.le_of_ble_eq_true rfl) (by decide +kernel) ?_
      refine gx_aload_n_0 ((gx_nil ?_))
      refine m_getI fX10_215 (by decide +kernel) rfl ?_
      try simp only [vU_s, vU_n, ne_eq, Nat.reduceEqDiff, not_false_eq_true, e15, e14, e16, nI_add, pk_mul, Nat.add_zero, Nat.zero_add, Nat.reduceAdd, Nat.reduceMul]
      refine m_blk [(.iconst 1, .int (nI 1)), (.isub, .null)] (Nat.le_of_ble_eq_true rfl) (by decide +kernel) ?_
      refine gx_iconst (gx_isub ((gx_nil ?_)))
      rw [pk_sub (by omega), Nat.add_sub_cancel]
      refine m_al (j := 9) rfl (by decide +kernel) (show _ < 60 from by omega) ?_
      rw [(hT _ hok.1).1]
      refine m_blk [(.iload_n 1, .null), (.isub, .null)] (Nat.le_of_ble_eq_true rfl) (by decide +kernel) ?_
      refine gx_iload_n_1 (gx_isub ((gx_nil ?_)))
      refine m_end (some (.int _)) rfl ⟨by decide +kernel, _, rfl, rfl⟩ ?_ ?_ ?_
      · rw [pk_sub hok.2.1]
      · rfl
      · rfl
theorem r_reads_no {sp n : Nat} {tx : Nat → Nat} (e15 : V 15 = nI sp) (e14 : V 14 = nI n) (hsp : sp ≤ n) (hn : n ≤ 60) (hT : ∀ i, i < n → F 9 i = nI (tx i) ∧ tx i < 128) {lo hi : Nat} (hlo : lo < 128) (hhi : hi < 128) (hno : ¬ (V 16 = -1 ∧ sp < n ∧ lo ≤ tx sp ∧ tx sp ≤ hi)) : mC Γ o ad M_X10_reads [.int (nI lo), .int (nI hi)] V F 1 (some (.int (nI 0))) (vU V 16 (if V 16 = -1 then nI sp else V 16)) (F) := by
  refine mC_of (by decide) rfl (Nat.le_of_ble_eq_true rfl) [some (.ref o), some (.int (nI lo)), some (.int (nI hi))] rfl ?_
  refine m_blk [(.aload_n 0, .null)] (Nat.le_of_ble_eq_true rfl) (by decide +kernel) ?_
  refine gx_aload_n_0 ((gx_nil ?_))
  refine m_getI fX10_221 (by decide +kernel) rfl ?_
  try simp only [vU_s, vU_n, ne_eq, Nat.reduceEqDiff, not_false_eq_true, e15, e14, nI_add, pk_mul, Nat.add_zero, Nat.zero_add, Nat.reduceAdd, Nat.reduceMul]
  refine m_blk [(.iconst (-1), .int (-1))] (Nat.le_of_ble_eq_true rfl) (by decide +kernel) ?_
  refine gx_iconst ((gx_nil ?_))
  refine m_icmp_ne (off := 39) (tgt := 44) (by decide +kernel) (by decide) (fun c5 => ?_) (fun c5 => ?_)
  · try simp only [bI_0, Decidable.not_not] at c5
    refine m_blk [(.aload_n 0, .null), (.aload_n 0, .null)] (Nat.le_of_ble_eq_true rfl) (by decide +kernel) ?_
    refine gx_aload_n_0 (gx_aload_n_0 ((gx_nil ?_)))
    refine m_getI fX10_221 (by decide +kernel) rfl ?_
    try simp only [vU_s, vU_n, ne_eq, Nat.reduceEqDiff, not_false_eq_true, e15, e14, nI_add, pk_mul, Nat.add_zero, Nat.zero_add, Nat.reduceAdd, Nat.reduceMul]
    refine m_blk [(.iconst (-1), .int (-1))] (Nat.le_of_ble_eq_true rfl) (by decide +kernel) ?_
    refine gx_iconst ((gx_nil ?_))
    refine m_icmp_ne (off := 10) (tgt := 60) (by decide +kernel) (by decide) (fun c50 => ?_) (fun c50 => ?_)
    · try simp only [bI_0, Decidable.not_not] at c50
      refine m_blk [(.aload_n 0, .null)] (Nat.le_of_ble_eq_true rfl) (by decide +kernel) ?_
      refine gx_aload_n_0 ((gx_nil ?_))
      refine m_getI fX10_221 (by decide +kernel) rfl ?_
      try simp only [vU_s, vU_n, ne_eq, Nat.reduceEqDiff, not_false_eq_true, e15, e14, nI_add, pk_mul, Nat.add_zero, Nat.zero_add, Nat.reduceAdd, Nat.reduceMul]
      refine m_putI fX10_221 (by decide +kernel) rfl (by decide) rfl rfl ?_
      refine m_blk [(.iconst 0, .int (nI 0))] (Nat.le_of_ble_eq_true rfl) (by decide +kernel) ?_
      refine gx_iconst ((gx_nil ?_))
      refine m_end (some (.int _)) rfl ⟨by decide +kernel, _, rfl, rfl⟩ ?_ ?_ ?_
      · rfl
      · rw [if_neg c50]
      · rfl
    · try simp only [bI_0, Decidable.not_not] at c50
      refine m_blk [(.aload_n 0, .null)] (Nat.le_of_ble_eq_true rfl) (by decide +kernel) ?_
      refine gx_aload_n_0 ((gx_nil ?_))
      refine m_getI fX10_215 (by decide +kernel) rfl ?_
      try simp only [vU_s, vU_n, ne_eq, Nat.reduceEqDiff, not_false_eq_true, e15, e14, nI_add, pk_mul, Nat.add_zero, Nat.zero_add, Nat.reduceAdd, Nat.reduceMul]
      refine m_blk [(.goto 7, .retAddr 64)] (Nat.le_of_ble_eq_true rfl) (by decide +kernel) ?_
      refine gx_goto ((gx_nil ?_))
      refine m_putI fX10_221 (by decide +kernel) rfl (by decide) rfl rfl ?_
      refine m_blk [(.iconst 0, .int (nI 0))] (Nat.le_of_ble_eq_true rfl) (by decide +kernel) ?_
      refine gx_iconst ((gx_nil ?_))
      refine m_end (some (.int _)) rfl ⟨by decide +kernel, _, rfl, rfl⟩ ?_ ?_ ?_
      · rfl
      · rw [if_pos c50]
      · rfl
  · try simp only [bI_0, Decidable.not_not] at c5
    refine m_blk [(.aload_n 0, .null)] (Nat.le_of_ble_eq_true rfl) (by decide +kernel) ?_
    refine gx_aload_n_0 ((gx_nil ?_))
    refine m_call kX10_224 (r_letterHere e15 e14 hsp hn hT) (by decide +kernel) rfl rfl (Nat.le_of_ble_eq_true rfl) (Nat.le_of_ble_eq_true rfl) (Nat.le_of_ble_eq_true rfl) rfl ?_
    try simp only [Option.toList_some, Option.toList_none, List.cons_append, List.nil_append, bI_0, n1_0, n0_0, Decidable.not_not, not_true_eq_false, not_false_eq_true, e15, e14, nI_add, pk_mul, Nat.add_zero, Nat.zero_add, Nat.reduceAdd, Nat.reduceMul]
    refine m_blk [(.iload_n 1, .null), (.iload_n 2, .null)] (Nat.le_of_ble_eq_true rfl) (by decide +kernel) ?_
    refine gx_iload_n_1 (gx_iload_n_2 ((gx_nil ?_)))
    refine m_callS kX10_70 (r_isIn _ _ _) (by decide +kernel) rfl rfl (Nat.le_of_ble_eq_true rfl) (Nat.le_of_ble_eq_true rfl) (Nat.le_of_ble_eq_true rfl) rfl ?_
    try simp only [Option.toList_some, Option.toList_none, List.cons_append, List.nil_append, bI_0, n1_0, n0_0, Decidable.not_not, not_true_eq_false, not_false_eq_true, e15, e14, nI_add, pk_mul, Nat.add_zero, Nat.zero_add, Nat.reduceAdd, Nat.reduceMul]
    refine m_if_eq (off := 27) (tgt := 44) (by decide +kernel) (by decide) (fun c17 => ?_) (fun c17 => ?_)
    · try simp only [bI_0, Decidable.not_not] at c17
      refine m_blk [(.aload_n 0, .null), (.aload_n 0, .null)] (Nat.le_of_ble_eq_true rfl) (by decide +kernel) ?_
      refine gx_aload_n_0 (gx_aload_n_0 ((gx_nil ?_)))
      refine m_getI fX10_221 (by decide +kernel) rfl ?_
      try simp only [vU_s, vU_n, ne_eq, Nat.reduceEqDiff, not_false_eq_true, e15, e14, nI_add, pk_mul, Nat.add_zero, Nat.zero_add, Nat.reduceAdd, Nat.reduceMul]
      refine m_blk [(.iconst (-1), .int (-1))] (Nat.le_of_ble_eq_true rfl) (by decide +kernel) ?_
      refine gx_iconst ((gx_nil ?_))
      refine m_icmp_ne (off := 10) (tgt := 60) (by decide +kernel) (by decide) (fun c50 => ?_) (fun c50 => ?_)
      · try simp only [bI_0, Decidable.not_not] at c50
        refine m_blk [(.aload_n 0, .null)] (Nat.le_of_ble_eq_true rfl) (by decide +kernel) ?_
        refine gx_aload_n_0 ((gx_nil ?_))
        refine m_getI fX10_221 (by decide +kernel) rfl ?_
        try simp only [vU_s, vU_n, ne_eq, Nat.reduceEqDiff, not_false_eq_true, e15, e14, nI_add, pk_mul, Nat.add_zero, Nat.zero_add, Nat.reduceAdd, Nat.reduceMul]
        refine m_putI fX10_221 (by decide +kernel) rfl (by decide) rfl rfl ?_
        refine m_blk [(.iconst 0, .int (nI 0))] (Nat.le_of_ble_eq_true rfl) (by decide +kernel) ?_
        refine gx_iconst ((gx_nil ?_))
        refine m_end (some (.int _)) rfl ⟨by decide +kernel, _, rfl, rfl⟩ ?_ ?_ ?_
        · rfl
        · rw [if_neg c50]
        · rfl
      · try simp only [bI_0, Decidable.not_not] at c50
        refine m_blk [(.aload_n 0, .null)] (Nat.le_of_ble_eq_true rfl) (by decide +kernel) ?_
        refine gx_aload_n_0 ((gx_nil ?_))
        refine m_getI fX10_215 (by decide +kernel) rfl ?_
        try simp only [vU_s, vU_n, ne_eq, Nat.reduceEqDiff, not_false_eq_true, e15, e14, nI_add, pk_mul, Nat.add_zero, Nat.zero_add, Nat.reduceAdd, Nat.reduceMul]
        refine m_blk [(.goto 7, .retAddr 64)] (Nat.le_of_ble_eq_true rfl) (by decide +kernel) ?_
        refine gx_goto ((gx_nil ?_))
        refine m_putI fX10_221 (by decide +kernel) rfl (by decide) rfl rfl ?_
        refine m_blk [(.iconst 0, .int (nI 0))] (Nat.le_of_ble_eq_true rfl) (by decide +kernel) ?_
        refine gx_iconst ((gx_nil ?_))
        refine m_end (some (.int _)) rfl ⟨by decide +kernel, _, rfl, rfl⟩ ?_ ?_ ?_
        · rfl
        · rw [if_pos c50]
        · rfl
    · try simp only [bI_0, Decidable.not_not] at c17
      exact absurd ⟨c5, (lh_in (fun z => (hT sp z).2) hlo hhi).mp c17⟩ hno
theorem nmv_b {tx : Nat → Nat} {n p v : Nat} : ∀ k, k ≤ 4 → v < 10000 → (nmv tx n k p v).1 < 100000000 := fun k hk hv => by
  have := (nmv_le (tx := tx) (n := n) (k := k) (p := p) (v := v)).2.2
  have h4 : 10 ^ k ≤ 10000 := by
    have : k = 0 ∨ k = 1 ∨ k = 2 ∨ k = 3 ∨ k = 4 := by omega
    rcases this with rfl | rfl | rfl | rfl | rfl <;> decide
  have h5 : (v + 1) * 10 ^ k ≤ 10000 * 10000 := Nat.mul_le_mul (by omega) h4
  omega
theorem r_number_no {sp n : Nat} {tx : Nat → Nat} (e15 : V 15 = nI sp) (e14 : V 14 = nI n) (hsp : sp ≤ n) (hn : n ≤ 60) (hT : ∀ i, i < n → F 9 i = nI (tx i) ∧ tx i < 128) (e16 : V 16 = -1) {mo : Nat} (hmo : 1 ≤ mo) (hm4 : mo ≤ 4) (hno : ¬ isD tx n sp = true) : mC Γ o ad M_X10_number [.int (nI mo)] V F 2 (some (.int (nI 0))) (vU (vU V 16 (nI sp)) 18 (nI 1)) (F) := by
  have hno2 : ¬ (V 16 = -1 ∧ sp < n ∧ 48 ≤ tx sp ∧ tx sp ≤ 57) := fun z => hno (isD_t.mpr z.2)
  have hs1 : ¬ nI sp = -1 := nI_nm1 (by omega)
  refine mC_of (by decide) rfl (Nat.le_of_ble_eq_true rfl) [some (.ref o), some (.int (nI mo)), none] rfl ?_
  refine m_blk [(.aload_n 0, .null), (.bipush 48, .int (nI 48)), (.bipush 57, .int (nI 57))] (Nat.le_of_ble_eq_true rfl) (by decide +kernel) ?_
  refine gx_aload_n_0 (gx_bipush (gx_bipush ((gx_nil ?_))))
  refine m_call kX10_227 (r_reads_no e15 e14 hsp hn hT (lo := 48) (hi := 57) (by decide) (by decide) hno2) (by decide +kernel) rfl rfl (Nat.le_of_ble_eq_true rfl) (Nat.le_of_ble_eq_true rfl) (Nat.le_of_ble_eq_true rfl) rfl ?_
  rw [if_pos e16]
  simp only [Option.toList_some, List.cons_append, List.nil_append]
  refine m_blk [(.istore_n 2, .null), (.aload_n 0, .null), (.iconst 1, .int (nI 1))] (Nat.le_of_ble_eq_true rfl) (by decide +kernel) ?_
  refine gx_istore_n_2 rfl (gx_aload_n_0 (gx_iconst ((gx_nil ?_))))
  refine m_putI fX10_230 (by decide +kernel) rfl (by decide) rfl rfl ?_
  refine m_blk [(.aload_n 0, .null)] (Nat.le_of_ble_eq_true rfl) (by decide +kernel) ?_
  refine gx_aload_n_0 ((gx_nil ?_))
  refine m_getI fX10_230 (by decide +kernel) rfl ?_
  try simp only [vU_s, vU_n, ne_eq, Nat.reduceEqDiff, not_false_eq_true, e15, e14, nI_add, pk_mul, Nat.add_zero, Nat.zero_add, Nat.reduceAdd, Nat.reduceMul]
  refine m_blk [(.iload_n 1, .null)] (Nat.le_of_ble_eq_true rfl) (by decide +kernel) ?_
  refine gx_iload_n_1 ((gx_nil ?_))
  refine m_icmp_ge (off := 52) (tgt := 71) (by decide +kernel) (by decide) (fun c19 => ?_) (fun c19 => ?_)
  · try simp only [bI_0, Decidable.not_not] at c19
    refine m_blk [(.iload_n 2, .null)] (Nat.le_of_ble_eq_true rfl) (by decide +kernel) ?_
    refine gx_iload_n_2 ((gx_nil ?_))
    refine m_end (some (.int _)) rfl ⟨by decide +kernel, _, rfl, rfl⟩ ?_ ?_ ?_
    all_goals rfl
  · try simp only [bI_0, Decidable.not_not] at c19
    refine m_blk [(.aload_n 0, .null)] (Nat.le_of_ble_eq_true rfl) (by decide +kernel) ?_
    refine gx_aload_n_0 ((gx_nil ?_))
    refine m_getI fX10_221 (by decide +kernel) rfl ?_
    try simp only [vU_s, vU_n, ne_eq, Nat.reduceEqDiff, not_false_eq_true, e15, e14, nI_add, pk_mul, Nat.add_zero, Nat.zero_add, Nat.reduceAdd, Nat.reduceMul]
    refine m_blk [(.iconst (-1), .int (-1))] (Nat.le_of_ble_eq_true rfl) (by decide +kernel) ?_
    refine gx_iconst ((gx_nil ?_))
    refine m_icmp_ne (off := 44) (tgt := 71) (by decide +kernel) (by decide) (fun c27 => ?_) (fun c27 => ?_)
    · try simp only [bI_0, Decidable.not_not] at c27
      refine m_blk [(.iload_n 2, .null)] (Nat.le_of_ble_eq_true rfl) (by decide +kernel) ?_
      refine gx_iload_n_2 ((gx_nil ?_))
      refine m_end (some (.int _)) rfl ⟨by decide +kernel, _, rfl, rfl⟩ ?_ ?_ ?_
      all_goals rfl
    · try simp only [bI_0, Decidable.not_not] at c27
      exact absurd c27 hs1
theorem r_number_ok {sp n : Nat} {tx : Nat → Nat} (e15 : V 15 = nI sp) (e14 : V 14 = nI n) (hsp : sp ≤ n) (hn : n ≤ 60) (hT : ∀ i, i < n → F 9 i = nI (tx i) ∧ tx i < 128) (e16 : V 16 = -1) {mo : Nat} (hmo : 1 ≤ mo) (hm4 : mo ≤ 4) (hok : isD tx n sp = true) : mC Γ o ad M_X10_number [.int (nI mo)] V F 2 (some (.int (nI (nmv tx n mo sp 0).1))) (vU (vU V 15 (nI (sp + (nmv tx n mo sp 0).2))) 18 (nI (nmv tx n mo sp 0).2)) (F) := by
  obtain ⟨m1, rfl⟩ : ∃ m1, mo = m1 + 1 := ⟨mo - 1, by omega⟩
  have hd := isD_t.mp hok
  have e0 : nmv tx n (m1 + 1) sp 0 = ((nmv tx n m1 (sp + 1) (tx sp - 48)).1, (nmv tx n m1 (sp + 1) (tx sp - 48)).2 + 1) := by
    rw [nmv_s, if_pos hok]
    simp only [Nat.mul_zero, Nat.zero_add]
  rw [e0]
  obtain ⟨R, hR⟩ : ∃ R, nmv tx n m1 (sp + 1) (tx sp - 48) = R := ⟨_, rfl⟩
  rw [hR]
  have loop : ∀ k d v, d + k = m1 + 1 → 1 ≤ d → sp + d ≤ n → v < 10 ^ d → (nmv tx n k (sp + d) v).1 = R.1 → (nmv tx n k (sp + d) v).2 + d = R.2 + 1 → mG Γ o ad M_X10_number 2 (some (.int (nI R.1))) (vU (vU V 15 (nI (sp + (R.2 + 1)))) 18 (nI (R.2 + 1))) F 14 [some (.ref o), some (.int (nI (m1 + 1))), some (.int (nI v))] [] (vU (vU V 15 (nI (sp + d))) 18 (nI d)) F := by
    intro k
    induction k with
    | zero =>
      intro d v hk h1 hs hv r1 r2
      obtain rfl : d = m1 + 1 := by omega
      have r1' : v = R.1 := r1
      have r2' : 0 + (m1 + 1) = R.2 + 1 := r2
      refine m_blk [(.aload_n 0, .null)] (Nat.le_of_ble_eq_true rfl) (by decide +kernel) ?_
      refine gx_aload_n_0 ((gx_nil ?_))
      refine m_getI fX10_230 (by decide +kernel) rfl ?_
      try simp only [vU_s, vU_n, ne_eq, Nat.reduceEqDiff, not_false_eq_true, nI_add, pk_mul, Nat.add_zero, Nat.zero_add, Nat.reduceAdd, Nat.reduceMul]
      refine m_blk [(.iload_n 1, .null)] (Nat.le_of_ble_eq_true rfl) (by decide +kernel) ?_
      refine gx_iload_n_1 ((gx_nil ?_))
      refine m_icmp_ge (off := 52) (tgt := 71) (by decide +kernel) (by decide) (fun c19 => ?_) (fun c19 => ?_)
      · try simp only [bI_0, Decidable.not_not] at c19
        refine m_blk [(.iload_n 2, .null)] (Nat.le_of_ble_eq_true rfl) (by decide +kernel) ?_
        refine gx_iload_n_2 ((gx_nil ?_))
        refine m_end (some (.int _)) rfl ⟨by decide +kernel, _, rfl, rfl⟩ ?_ ?_ ?_
        · rw [r1']
        · rw [show R.2 = m1 by omega]
        · rfl
      · try simp only [bI_0, Decidable.not_not] at c19
        exact absurd (nI_le (Nat.le_refl _) (by omega)) c19
    | succ k ih =>
      intro d v hk h1 hs hv r1 r2
      have f15 : vU (vU V 15 (nI (sp + d))) 18 (nI d) 15 = nI (sp + d) := by rw [vU_n (by decide), vU_s]
      have f14 : vU (vU V 15 (nI (sp + d))) 18 (nI d) 14 = nI n := by rw [vU_n (by decide), vU_n (by decide), e14]
      have f16 : vU (vU V 15 (nI (sp + d))) 18 (nI d) 16 = -1 := by rw [vU_n (by decide), vU_n (by decide), e16]
      have hd4 : d ≤ 3 := by omega
      have hv4 : v < 1000 := by
        have : d = 1 ∨ d = 2 ∨ d = 3 := by omega
        rcases this with rfl | rfl | rfl <;> (simp only [Nat.reducePow] at hv; omega)
      rw [nmv_s] at r1 r2
      refine m_blk [(.aload_n 0, .null)] (Nat.le_of_ble_eq_true rfl) (by decide +kernel) ?_
      refine gx_aload_n_0 ((gx_nil ?_))
      refine m_getI fX10_230 (by decide +kernel) rfl ?_
      try simp only [vU_s, vU_n, ne_eq, Nat.reduceEqDiff, not_false_eq_true, e14, e16, nI_add, pk_mul, Nat.add_zero, Nat.zero_add, Nat.reduceAdd, Nat.reduceMul]
      refine m_blk [(.iload_n 1, .null)] (Nat.le_of_ble_eq_true rfl) (by decide +kernel) ?_
      refine gx_iload_n_1 ((gx_nil ?_))
      refine m_icmp_ge (off := 52) (tgt := 71) (by decide +kernel) (by decide) (fun c19 => ?_) (fun c19 => ?_)
      · try simp only [bI_0, Decidable.not_not] at c19
        exact absurd c19 (nI_ge (by omega) (by omega))
      · try simp only [bI_0, Decidable.not_not] at c19
        refine m_blk [(.aload_n 0, .null)] (Nat.le_of_ble_eq_true rfl) (by decide +kernel) ?_
        refine gx_aload_n_0 ((gx_nil ?_))
        refine m_getI fX10_221 (by decide +kernel) rfl ?_
        try simp only [vU_s, vU_n, ne_eq, Nat.reduceEqDiff, not_false_eq_true, e14, e16, nI_add, pk_mul, Nat.add_zero, Nat.zero_add, Nat.reduceAdd, Nat.reduceMul]
        refine m_blk [(.iconst (-1), .int (-1))] (Nat.le_of_ble_eq_true rfl) (by decide +kernel) ?_
        refine gx_iconst ((gx_nil ?_))
        refine m_icmp_ne (off := 44) (tgt := 71) (by decide +kernel) (by decide) (fun c27 => ?_) (fun c27 => ?_)
        · try simp only [bI_0, Decidable.not_not] at c27
          exact (c27 trivial).elim
        · try simp only [bI_0, Decidable.not_not] at c27
          refine m_blk [(.aload_n 0, .null)] (Nat.le_of_ble_eq_true rfl) (by decide +kernel) ?_
          refine gx_aload_n_0 ((gx_nil ?_))
          refine m_call kX10_224 (r_letterHere f15 f14 hs hn hT) (by decide +kernel) rfl rfl (Nat.le_of_ble_eq_true rfl) (Nat.le_of_ble_eq_true rfl) (Nat.le_of_ble_eq_true rfl) rfl ?_
          try simp only [Option.toList_some, Option.toList_none, List.cons_append, List.nil_append, bI_0, n1_0, n0_0, Decidable.not_not, not_true_eq_false, not_false_eq_true, e14, e16, nI_add, pk_mul, Nat.add_zero, Nat.zero_add, Nat.reduceAdd, Nat.reduceMul]
          refine m_blk [(.bipush 48, .int (nI 48)), (.bipush 57, .int (nI 57))] (Nat.le_of_ble_eq_true rfl) (by decide +kernel) ?_
          refine gx_bipush (gx_bipush ((gx_nil ?_)))
          refine m_callS kX10_70 (r_isIn _ _ _) (by decide +kernel) rfl rfl (Nat.le_of_ble_eq_true rfl) (Nat.le_of_ble_eq_true rfl) (Nat.le_of_ble_eq_true rfl) rfl ?_
          try simp only [Option.toList_some, Option.toList_none, List.cons_append, List.nil_append, bI_0, n1_0, n0_0, Decidable.not_not, not_true_eq_false, not_false_eq_true, e14, e16, nI_add, pk_mul, Nat.add_zero, Nat.zero_add, Nat.reduceAdd, Nat.reduceMul]
          refine m_if_eq (off := 30) (tgt := 71) (by decide +kernel) (by decide) (fun c41 => ?_) (fun c41 => ?_)
          · try simp only [bI_0, Decidable.not_not] at c41
            have hD : ¬ isD tx n (sp + d) = true := fun z => c41 ((lh_in (fun z => (hT _ z).2) (by decide) (by decide)).mpr (isD_t.mp z))
            rw [if_neg hD] at r1 r2
            have r1' : v = R.1 := r1
            have r2' : 0 + d = R.2 + 1 := r2
            refine m_blk [(.iload_n 2, .null)] (Nat.le_of_ble_eq_true rfl) (by decide +kernel) ?_
            refine gx_iload_n_2 ((gx_nil ?_))
            refine m_end (some (.int _)) rfl ⟨by decide +kernel, _, rfl, rfl⟩ ?_ ?_ ?_
            · rw [r1']
            · rw [show R.2 + 1 = d by omega]
            · rfl
          · try simp only [bI_0, Decidable.not_not] at c41
            have hD : isD tx n (sp + d) = true := isD_t.mpr ((lh_in (fun z => (hT _ z).2) (by decide) (by decide)).mp c41)
            rw [if_pos hD] at r1 r2
            have hDd := isD_t.mp hD
            refine m_blk [(.bipush 10, .int (nI 10)), (.iload_n 2, .null), (.imul, .null), (.aload_n 0, .null), (.bipush 48, .int (nI 48)), (.bipush 57, .int (nI 57))] (Nat.le_of_ble_eq_true rfl) (by decide +kernel) ?_
            refine gx_bipush (gx_iload_n_2 (gx_imul (gx_aload_n_0 (gx_bipush (gx_bipush ((gx_nil ?_)))))))
            try simp only [e14, e16, nI_add, pk_mul, Nat.add_zero, Nat.zero_add, Nat.reduceAdd, Nat.reduceMul]
            refine m_call kX10_227 (r_reads_ok f15 f14 hs hn hT (lo := 48) (hi := 57) (by decide) (by decide) f16 (isD_t.mp hD)) (by decide +kernel) rfl rfl (Nat.le_of_ble_eq_true rfl) (Nat.le_of_ble_eq_true rfl) (Nat.le_of_ble_eq_true rfl) rfl ?_
            try simp only [Option.toList_some, Option.toList_none, List.cons_append, List.nil_append, bI_0, n1_0, n0_0, Decidable.not_not, not_true_eq_false, not_false_eq_true, e14, e16, nI_add, pk_mul, Nat.add_zero, Nat.zero_add, Nat.reduceAdd, Nat.reduceMul]
            refine m_blk [(.iadd, .null), (.istore_n 2, .null), (.aload_n 0, .null), (.dup, .null)] (Nat.le_of_ble_eq_true rfl) (by decide +kernel) ?_
            refine gx_iadd (gx_istore_n_2 rfl (gx_aload_n_0 (gx_dupr ((gx_nil ?_)))))
            try simp only [e14, e16, nI_add, pk_mul, Nat.add_zero, Nat.zero_add, Nat.reduceAdd, Nat.reduceMul]
            refine m_getI fX10_230 (by decide +kernel) rfl ?_
            try simp only [vU_s, vU_n, ne_eq, Nat.reduceEqDiff, not_false_eq_true, e14, e16, nI_add, pk_mul, Nat.add_zero, Nat.zero_add, Nat.reduceAdd, Nat.reduceMul]
            refine m_blk [(.iconst 1, .int (nI 1)), (.iadd, .null)] (Nat.le_of_ble_eq_true rfl) (by decide +kernel) ?_
            refine gx_iconst (gx_iadd ((gx_nil ?_)))
            try simp only [e14, e16, nI_add, pk_mul, Nat.add_zero, Nat.zero_add, Nat.reduceAdd, Nat.reduceMul]
            refine m_putI fX10_230 (by decide +kernel) rfl (by decide) rfl rfl ?_
            refine m_blk [(.goto (-54), .retAddr 14)] (Nat.le_of_ble_eq_true rfl) (by decide +kernel) ?_
            refine gx_goto ((gx_nil ?_))
            have e9 : vU (vU (vU (vU V 15 (nI (sp + d))) 18 (nI d)) 15 (nI (sp + d + 1))) 18 (nI (d + 1)) = vU (vU V 15 (nI (sp + (d + 1)))) 18 (nI (d + 1)) := by
              funext q
              unfold vU
              by_cases q8 : q = 18
              · rw [if_pos q8, if_pos q8]
              · rw [if_neg q8, if_neg q8]
                by_cases q5 : q = 15
                · rw [if_pos q5, if_neg q8, if_pos q5]; rfl
                · rw [if_neg q5, if_neg q8, if_neg q5, if_neg q5]
            rw [e9]
            refine m_lcl ?_ (ih (d + 1) (10 * v + (tx (sp + d) - 48)) (by omega) (by omega) (by omega) (by rw [Nat.pow_succ]; omega) r1 (by have : (nmv tx n k (sp + d + 1) (10 * v + (tx (sp + d) - 48))).2 + 1 + d = R.2 + 1 := r2; rw [show sp + (d + 1) = sp + d + 1 from rfl]; omega))
            rfl
  refine mC_of (by decide) rfl (Nat.le_of_ble_eq_true rfl) [some (.ref o), some (.int (nI (m1 + 1))), none] rfl ?_
  refine m_blk [(.aload_n 0, .null), (.bipush 48, .int (nI 48)), (.bipush 57, .int (nI 57))] (Nat.le_of_ble_eq_true rfl) (by decide +kernel) ?_
  refine gx_aload_n_0 (gx_bipush (gx_bipush ((gx_nil ?_))))
  refine m_call kX10_227 (r_reads_ok e15 e14 hsp hn hT (lo := 48) (hi := 57) (by decide) (by decide) e16 hd) (by decide +kernel) rfl rfl (Nat.le_of_ble_eq_true rfl) (Nat.le_of_ble_eq_true rfl) (Nat.le_of_ble_eq_true rfl) rfl ?_
  simp only [Option.toList_some, List.cons_append, List.nil_append]
  refine m_blk [(.istore_n 2, .null), (.aload_n 0, .null), (.iconst 1, .int (nI 1))] (Nat.le_of_ble_eq_true rfl) (by decide +kernel) ?_
  refine gx_istore_n_2 rfl (gx_aload_n_0 (gx_iconst ((gx_nil ?_))))
  refine m_putI fX10_230 (by decide +kernel) rfl (by decide) rfl rfl ?_
  exact loop m1 1 (tx sp - 48) (by omega) (by omega) (by omega) (by omega) (by rw [hR]) (by rw [hR])
end SRd
