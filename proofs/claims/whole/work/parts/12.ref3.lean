section S12ref3leantxt
variable {Γ : gE} {o : Nat} {ad : Nat → Nat} {V : Nat → Int32} {F : Nat → Nat → Int32}
def rPlace (N : Nat → Int32) (id : Int32) : Nat → Int32
  | 0 => -1
  | i + 1 => if N (62 + 7 * i) = id then nI i else rPlace N id i
def rFind (N : Nat → Int32) (dg ln : Int32) : Nat → Int32
  | 0 => -1
  | i + 1 => if N (26 + 3 * i) = dg ∧ N (26 + 3 * i + 1) = ln then nI i else rFind N dg ln i
def rMatch (N : Nat → Int32) (dg ln most : Int32) : Nat → Int32
  | 0 => -1
  | i + 1 => if (N (26 + 3 * i + 1) ≤ most ∧ dg / rTens (rMax (nI 0) (ln - N (26 + 3 * i + 1))) = N (26 + 3 * i)) ∧ (rMatch N dg ln most i = -1 ∨ N (26 + 3 * (rMatch N dg ln most i).toNatClampNeg + 1) < N (26 + 3 * i + 1)) then nI i else rMatch N dg ln most i
theorem rMatch_s {N : Nat → Int32} {dg ln most : Int32} {i : Nat} : rMatch N dg ln most (i + 1) = if (N (26 + 3 * i + 1) ≤ most ∧ dg / rTens (rMax (nI 0) (ln - N (26 + 3 * i + 1))) = N (26 + 3 * i)) ∧ (rMatch N dg ln most i = -1 ∨ N (26 + 3 * (rMatch N dg ln most i).toNatClampNeg + 1) < N (26 + 3 * i + 1)) then nI i else rMatch N dg ln most i := rfl
theorem rPlace_in {N : Nat → Int32} {id : Int32} : ∀ {c : Nat}, rPlace N id c = -1 ∨ ∃ k, k < c ∧ rPlace N id c = nI k
  | 0 => Or.inl rfl
  | c + 1 => by
    unfold rPlace
    split
    · exact Or.inr ⟨c, by omega, rfl⟩
    · rcases rPlace_in (N := N) (id := id) (c := c) with h | ⟨k, h1, h2⟩
      · exact Or.inl h
      · exact Or.inr ⟨k, by omega, h2⟩
theorem rFind_in {N : Nat → Int32} {dg ln : Int32} : ∀ {c : Nat}, rFind N dg ln c = -1 ∨ ∃ k, k < c ∧ rFind N dg ln c = nI k
  | 0 => Or.inl rfl
  | c + 1 => by
    unfold rFind
    split
    · exact Or.inr ⟨c, by omega, rfl⟩
    · rcases rFind_in (N := N) (dg := dg) (ln := ln) (c := c) with h | ⟨k, h1, h2⟩
      · exact Or.inl h
      · exact Or.inr ⟨k, by omega, h2⟩
theorem rMatch_in {N : Nat → Int32} {dg ln most : Int32} : ∀ {c : Nat}, rMatch N dg ln most c = -1 ∨ ∃ k, k < c ∧ rMatch N dg ln most c = nI k
  | 0 => Or.inl rfl
  | c + 1 => by
    unfold rMatch
    split
    · exact Or.inr ⟨c, by omega, rfl⟩
    · rcases rMatch_in (N := N) (dg := dg) (ln := ln) (most := most) (c := c) with h | ⟨k, h1, h2⟩
      · exact Or.inl h
      · exact Or.inr ⟨k, by omega, h2⟩
theorem r_placeOf {c : Nat} (hc : c ≤ 20) (h3 : F 0 3 = nI c) (id : Int32) : mC Γ o ad M_X10_placeOf [.int id] V F 1 (some (.int (rPlace (F 0) id c))) (V) (F) := by
  have loop : ∀ n i, i ≤ c → c < i + n → mG Γ o ad M_X10_placeOf 1 (some (.int (rPlace (F 0) id c))) (V) (F) 4 [some (.ref o), some (.int id), some (.int (rPlace (F 0) id i)), some (.int (nI i))] [] (V) (F) := by
    intro n
    induction n with
    | zero => intro i h1 h2; omega
    | succ n ih =>
      intro i hi hn
      refine m_blk [(.iload_n 3, .null), (.aload_n 0, .null)] (Nat.le_of_ble_eq_true rfl) (by decide +kernel) ?_
      refine gx_iload_n_3 (gx_aload_n_0 ((gx_nil ?_)))
      refine m_getR fX10_9 (by decide +kernel) rfl ?_
      refine m_blk [(.iconst 3, .int (nI 3))] (Nat.le_of_ble_eq_true rfl) (by decide +kernel) ?_
      refine gx_iconst ((gx_nil ?_))
      refine m_al (j := 0) rfl (by decide +kernel) (show _ < 202 from by omega) ?_
      refine m_icmp_ge (off := 30) (tgt := 41) (by decide +kernel) (by decide) (fun c11 => ?_) (fun c11 => ?_)
      · try simp only [bI_0, Decidable.not_not] at c11
        have hic : i = c := by
          rw [h3] at c11
          have := (nI_leI (by omega) (by omega)).mp c11
          omega
        subst hic
        refine m_blk [(.iload_n 2, .null)] (Nat.le_of_ble_eq_true rfl) (by decide +kernel) ?_
        refine gx_iload_n_2 ((gx_nil ?_))
        refine m_end (some (.int _)) rfl ⟨by decide +kernel, _, rfl, rfl⟩ ?_ ?_ ?_
        all_goals first | rfl | (simp_all [rThr, bI, bI_0, bI_n, rPlace]; done) | (simp only [Option.some.injEq, Value.int.injEq, bI, Int32.lt_iff_toInt_lt, Int32.le_iff_toInt_le, Int32.not_lt, Int32.not_le] at *; split <;> first | rfl | omega)
      · try simp only [bI_0, Decidable.not_not] at c11
        have hic : i < c := by
          rcases Nat.lt_or_ge i c with q | q
          · exact q
          · exact absurd (by rw [h3]; exact nI_le q (by omega)) c11
        refine m_blk [(.aload_n 0, .null)] (Nat.le_of_ble_eq_true rfl) (by decide +kernel) ?_
        refine gx_aload_n_0 ((gx_nil ?_))
        refine m_getR fX10_9 (by decide +kernel) rfl ?_
        refine m_blk [(.iload_n 3, .null)] (Nat.le_of_ble_eq_true rfl) (by decide +kernel) ?_
        refine gx_iload_n_3 ((gx_nil ?_))
        refine m_callS kX10_94 (r_letterAt _) (by decide +kernel) rfl rfl (Nat.le_of_ble_eq_true rfl) (Nat.le_of_ble_eq_true rfl) (Nat.le_of_ble_eq_true rfl) rfl ?_
        try simp only [Option.toList_some, Option.toList_none, List.cons_append, List.nil_append, bI_0, n1_0, n0_0, Decidable.not_not, not_true_eq_false, not_false_eq_true, nI_add, pk_mul, Nat.add_zero, Nat.zero_add, Nat.reduceAdd, Nat.reduceMul]
        refine m_blk [(.iconst 0, .int (nI 0)), (.iadd, .null)] (Nat.le_of_ble_eq_true rfl) (by decide +kernel) ?_
        refine gx_iconst (gx_iadd ((gx_nil ?_)))
        try simp only [nI_add, pk_mul, Nat.add_zero, Nat.zero_add, Nat.reduceAdd, Nat.reduceMul]
        refine m_al (j := 0) rfl (by decide +kernel) (show _ < 202 from by omega) ?_
        refine m_blk [(.iload_n 1, .null)] (Nat.le_of_ble_eq_true rfl) (by decide +kernel) ?_
        refine gx_iload_n_1 ((gx_nil ?_))
        refine m_icmp_ne (off := 7) (tgt := 33) (by decide +kernel) (by decide) (fun c26 => ?_) (fun c26 => ?_)
        · try simp only [bI_0, Decidable.not_not] at c26
          refine m_blk [(.iload_n 2, .null), (.istore_n 2, .null), (.iinc 3 1, .int (nI 1)), (.goto (-34), .retAddr 4)] (Nat.le_of_ble_eq_true rfl) (by decide +kernel) ?_
          refine gx_iload_n_2 (gx_istore_n_2 rfl (gx_iinc_3 rfl (gx_goto ((gx_nil ?_)))))
          try simp only [nI_add, pk_mul, Nat.add_zero, Nat.zero_add, Nat.reduceAdd, Nat.reduceMul]
          exact m_weak (by simp [gLe, rPlace, *]) (ih (i + 1) (by omega) (by omega))
        · try simp only [bI_0, Decidable.not_not] at c26
          refine m_blk [(.iload_n 3, .null), (.goto 4, .retAddr 34), (.istore_n 2, .null), (.iinc 3 1, .int (nI 1)), (.goto (-34), .retAddr 4)] (Nat.le_of_ble_eq_true rfl) (by decide +kernel) ?_
          refine gx_iload_n_3 (gx_goto (gx_istore_n_2 rfl (gx_iinc_3 rfl (gx_goto ((gx_nil ?_))))))
          try simp only [nI_add, pk_mul, Nat.add_zero, Nat.zero_add, Nat.reduceAdd, Nat.reduceMul]
          exact m_weak (by simp [gLe, rPlace, *]) (ih (i + 1) (by omega) (by omega))
  refine mC_of (by decide) rfl (Nat.le_of_ble_eq_true rfl) [some (.ref o), some (.int id), none, none] rfl ?_
  refine m_blk [(.iconst (-1), .int (-1)), (.istore_n 2, .null), (.iconst 0, .int (nI 0)), (.istore_n 3, .null)] (Nat.le_of_ble_eq_true rfl) (by decide +kernel) ?_
  refine gx_iconst (gx_istore_n_2 rfl (gx_iconst (gx_istore_n_3 rfl ((gx_nil ?_)))))
  exact loop (c + 1) 0 (Nat.zero_le _) (by omega)
theorem r_find {t : Nat} (ht : t ≤ 12) (h4 : F 0 4 = nI t) (dg ln : Int32) : mC Γ o ad M_X10_find [.int dg, .int ln] V F 1 (some (.int (rFind (F 0) dg ln t))) (V) (F) := by
  have loop : ∀ n i, i ≤ t → t < i + n → mG Γ o ad M_X10_find 1 (some (.int (rFind (F 0) dg ln t))) (V) (F) 5 [some (.ref o), some (.int dg), some (.int ln), some (.int (rFind (F 0) dg ln i)), some (.int (nI i))] [] (V) (F) := by
    intro n
    induction n with
    | zero => intro i h1 h2; omega
    | succ n ih =>
      intro i hi hn
      refine m_blk [(.iload 4, .null), (.aload_n 0, .null)] (Nat.le_of_ble_eq_true rfl) (by decide +kernel) ?_
      refine gx_iload_4 (gx_aload_n_0 ((gx_nil ?_)))
      refine m_getR fX10_9 (by decide +kernel) rfl ?_
      refine m_blk [(.iconst 4, .int (nI 4))] (Nat.le_of_ble_eq_true rfl) (by decide +kernel) ?_
      refine gx_iconst ((gx_nil ?_))
      refine m_al (j := 0) rfl (by decide +kernel) (show _ < 202 from by omega) ?_
      refine m_icmp_ge (off := 38) (tgt := 51) (by decide +kernel) (by decide) (fun c13 => ?_) (fun c13 => ?_)
      · try simp only [bI_0, Decidable.not_not] at c13
        have hic : i = t := by
          rw [h4] at c13
          have := (nI_leI (by omega) (by omega)).mp c13
          omega
        subst hic
        refine m_blk [(.iload_n 3, .null)] (Nat.le_of_ble_eq_true rfl) (by decide +kernel) ?_
        refine gx_iload_n_3 ((gx_nil ?_))
        refine m_end (some (.int _)) rfl ⟨by decide +kernel, _, rfl, rfl⟩ ?_ ?_ ?_
        all_goals first | rfl | (simp_all [rThr, bI, bI_0, bI_n, rFind]; done) | (simp only [Option.some.injEq, Value.int.injEq, bI, Int32.lt_iff_toInt_lt, Int32.le_iff_toInt_le, Int32.not_lt, Int32.not_le] at *; split <;> first | rfl | omega)
      · try simp only [bI_0, Decidable.not_not] at c13
        have hic : i < t := by
          rcases Nat.lt_or_ge i t with q | q
          · exact q
          · exact absurd (by rw [h4]; exact nI_le q (by omega)) c13
        refine m_blk [(.aload_n 0, .null), (.iload 4, .null), (.iconst 0, .int (nI 0))] (Nat.le_of_ble_eq_true rfl) (by decide +kernel) ?_
        refine gx_aload_n_0 (gx_iload_4 (gx_iconst ((gx_nil ?_))))
        refine m_call kX10_81 (r_ofPrefix i 0 (by omega) (by omega)) (by decide +kernel) rfl rfl (Nat.le_of_ble_eq_true rfl) (Nat.le_of_ble_eq_true rfl) (Nat.le_of_ble_eq_true rfl) rfl ?_
        try simp only [Option.toList_some, Option.toList_none, List.cons_append, List.nil_append, bI_0, n1_0, n0_0, Decidable.not_not, not_true_eq_false, not_false_eq_true, nI_add, pk_mul, Nat.add_zero, Nat.zero_add, Nat.reduceAdd, Nat.reduceMul]
        refine m_blk [(.iload_n 1, .null)] (Nat.le_of_ble_eq_true rfl) (by decide +kernel) ?_
        refine gx_iload_n_1 ((gx_nil ?_))
        refine m_icmp_ne (off := 19) (tgt := 43) (by decide +kernel) (by decide) (fun c24 => ?_) (fun c24 => ?_)
        · try simp only [bI_0, Decidable.not_not] at c24
          refine m_blk [(.iload_n 3, .null), (.istore_n 3, .null), (.iinc 4 1, .int (nI 1)), (.goto (-43), .retAddr 5)] (Nat.le_of_ble_eq_true rfl) (by decide +kernel) ?_
          refine gx_iload_n_3 (gx_istore_n_3 rfl (gx_iinc_4 rfl (gx_goto ((gx_nil ?_)))))
          try simp only [nI_add, pk_mul, Nat.add_zero, Nat.zero_add, Nat.reduceAdd, Nat.reduceMul]
          exact m_weak (by simp [gLe, rFind, *]) (ih (i + 1) (by omega) (by omega))
        · try simp only [bI_0, Decidable.not_not] at c24
          refine m_blk [(.aload_n 0, .null), (.iload 4, .null), (.iconst 1, .int (nI 1))] (Nat.le_of_ble_eq_true rfl) (by decide +kernel) ?_
          refine gx_aload_n_0 (gx_iload_4 (gx_iconst ((gx_nil ?_))))
          refine m_call kX10_81 (r_ofPrefix i 1 (by omega) (by omega)) (by decide +kernel) rfl rfl (Nat.le_of_ble_eq_true rfl) (Nat.le_of_ble_eq_true rfl) (Nat.le_of_ble_eq_true rfl) rfl ?_
          try simp only [Option.toList_some, Option.toList_none, List.cons_append, List.nil_append, bI_0, n1_0, n0_0, Decidable.not_not, not_true_eq_false, not_false_eq_true, nI_add, pk_mul, Nat.add_zero, Nat.zero_add, Nat.reduceAdd, Nat.reduceMul]
          refine m_blk [(.iload_n 2, .null)] (Nat.le_of_ble_eq_true rfl) (by decide +kernel) ?_
          refine gx_iload_n_2 ((gx_nil ?_))
          refine m_icmp_ne (off := 8) (tgt := 43) (by decide +kernel) (by decide) (fun c35 => ?_) (fun c35 => ?_)
          · try simp only [bI_0, Decidable.not_not] at c35
            refine m_blk [(.iload_n 3, .null), (.istore_n 3, .null), (.iinc 4 1, .int (nI 1)), (.goto (-43), .retAddr 5)] (Nat.le_of_ble_eq_true rfl) (by decide +kernel) ?_
            refine gx_iload_n_3 (gx_istore_n_3 rfl (gx_iinc_4 rfl (gx_goto ((gx_nil ?_)))))
            try simp only [nI_add, pk_mul, Nat.add_zero, Nat.zero_add, Nat.reduceAdd, Nat.reduceMul]
            exact m_weak (by simp [gLe, rFind, *]) (ih (i + 1) (by omega) (by omega))
          · try simp only [bI_0, Decidable.not_not] at c35
            refine m_blk [(.iload 4, .null), (.goto 4, .retAddr 44), (.istore_n 3, .null), (.iinc 4 1, .int (nI 1)), (.goto (-43), .retAddr 5)] (Nat.le_of_ble_eq_true rfl) (by decide +kernel) ?_
            refine gx_iload_4 (gx_goto (gx_istore_n_3 rfl (gx_iinc_4 rfl (gx_goto ((gx_nil ?_))))))
            try simp only [nI_add, pk_mul, Nat.add_zero, Nat.zero_add, Nat.reduceAdd, Nat.reduceMul]
            exact m_weak (by simp [gLe, rFind, *]) (ih (i + 1) (by omega) (by omega))
  refine mC_of (by decide) rfl (Nat.le_of_ble_eq_true rfl) [some (.ref o), some (.int dg), some (.int ln), none, none] rfl ?_
  refine m_blk [(.iconst (-1), .int (-1)), (.istore_n 3, .null), (.iconst 0, .int (nI 0)), (.istore 4, .null)] (Nat.le_of_ble_eq_true rfl) (by decide +kernel) ?_
  refine gx_iconst (gx_istore_n_3 rfl (gx_iconst (gx_istore_4 rfl ((gx_nil ?_)))))
  exact loop (t + 1) 0 (Nat.zero_le _) (by omega)
theorem r_matching {t : Nat} (ht : t ≤ 12) (h4 : F 0 4 = nI t) (dg ln most : Int32) : mC Γ o ad M_X10_matching [.int dg, .int ln, .int most] V F 1 (some (.int (rMatch (F 0) dg ln most t))) (V) (F) := by
  have loop : ∀ n i, i ≤ t → t < i + n → mG Γ o ad M_X10_matching 1 (some (.int (rMatch (F 0) dg ln most t))) (V) (F) 6 [some (.ref o), some (.int dg), some (.int ln), some (.int most), some (.int (rMatch (F 0) dg ln most i)), some (.int (nI i)), none, none] [] (V) (F) := by
    intro n
    induction n with
    | zero => intro i h1 h2; omega
    | succ n ih =>
      intro i hi hn
      refine m_blk [(.iload 5, .null), (.aload_n 0, .null)] (Nat.le_of_ble_eq_true rfl) (by decide +kernel) ?_
      refine gx_iload_5 (gx_aload_n_0 ((gx_nil ?_)))
      refine m_getR fX10_9 (by decide +kernel) rfl ?_
      refine m_blk [(.iconst 4, .int (nI 4))] (Nat.le_of_ble_eq_true rfl) (by decide +kernel) ?_
      refine gx_iconst ((gx_nil ?_))
      refine m_al (j := 0) rfl (by decide +kernel) (show _ < 202 from by omega) ?_
      refine m_icmp_ge (off := 86) (tgt := 100) (by decide +kernel) (by decide) (fun c14 => ?_) (fun c14 => ?_)
      · try simp only [bI_0, Decidable.not_not] at c14
        have hic : i = t := by
          rw [h4] at c14
          have := (nI_leI (by omega) (by omega)).mp c14
          omega
        subst hic
        refine m_blk [(.iload 4, .null)] (Nat.le_of_ble_eq_true rfl) (by decide +kernel) ?_
        refine gx_iload_4 ((gx_nil ?_))
        refine m_end (some (.int _)) rfl ⟨by decide +kernel, _, rfl, rfl⟩ ?_ ?_ ?_
        all_goals first | rfl | (simp_all [rThr, bI, bI_0, bI_n]; done) | (simp only [Option.some.injEq, Value.int.injEq, bI, Int32.lt_iff_toInt_lt, Int32.le_iff_toInt_le, Int32.not_lt, Int32.not_le] at *; split <;> first | rfl | omega)
      · try simp only [bI_0, Decidable.not_not] at c14
        have hic : i < t := by
          rcases Nat.lt_or_ge i t with q | q
          · exact q
          · exact absurd (by rw [h4]; exact nI_le q (by omega)) c14
        refine m_blk [(.aload_n 0, .null), (.iload 5, .null), (.iconst 1, .int (nI 1))] (Nat.le_of_ble_eq_true rfl) (by decide +kernel) ?_
        refine gx_aload_n_0 (gx_iload_5 (gx_iconst ((gx_nil ?_))))
        refine m_call kX10_81 (r_ofPrefix i 1 (by omega) (by omega)) (by decide +kernel) rfl rfl (Nat.le_of_ble_eq_true rfl) (Nat.le_of_ble_eq_true rfl) (Nat.le_of_ble_eq_true rfl) rfl ?_
        try simp only [Option.toList_some, Option.toList_none, List.cons_append, List.nil_append, bI_0, n1_0, n0_0, Decidable.not_not, not_true_eq_false, not_false_eq_true, nI_add, pk_mul, Nat.add_zero, Nat.zero_add, Nat.reduceAdd, Nat.reduceMul]
        refine m_blk [(.istore 6, .null), (.iload 6, .null), (.iload_n 3, .null)] (Nat.le_of_ble_eq_true rfl) (by decide +kernel) ?_
        refine gx_istore_6 rfl (gx_iload_6 (gx_iload_n_3 ((gx_nil ?_))))
        refine m_icmp_gt (off := 30) (tgt := 59) (by decide +kernel) (by decide) (fun c29 => ?_) (fun c29 => ?_)
        · try simp only [bI_0, Decidable.not_not] at c29
          refine m_blk [(.iconst 0, .int (nI 0)), (.istore 7, .null), (.iload 7, .null)] (Nat.le_of_ble_eq_true rfl) (by decide +kernel) ?_
          refine gx_iconst (gx_istore_7 rfl (gx_iload_7 ((gx_nil ?_))))
          refine m_if_eq (off := 26) (tgt := 90) (by decide +kernel) (by decide) (fun c64 => ?_) (fun c64 => ?_)
          · try simp only [bI_0, Decidable.not_not] at c64
            refine m_blk [(.iload 4, .null), (.istore 4, .null), (.iinc 5 1, .int (nI 1)), (.goto (-91), .retAddr 6)] (Nat.le_of_ble_eq_true rfl) (by decide +kernel) ?_
            refine gx_iload_4 (gx_istore_4 rfl (gx_iinc_5 rfl (gx_goto ((gx_nil ?_)))))
            try simp only [nI_add, pk_mul, Nat.add_zero, Nat.zero_add, Nat.reduceAdd, Nat.reduceMul]
            refine m_weak ?_ (ih (i + 1) (by omega) (by omega))
            simp only [gLe, and_true, true_and, Option.some.injEq, Value.int.injEq]
            rw [rMatch_s]
            rw [if_neg (fun z => absurd z.1.1 (Int32.not_le.mpr c29))]
          · exact absurd (by decide) c64
        · try simp only [bI_0, Decidable.not_not] at c29
          refine m_blk [(.iload_n 1, .null), (.iconst 0, .int (nI 0)), (.iload_n 2, .null), (.iload 6, .null), (.isub, .null)] (Nat.le_of_ble_eq_true rfl) (by decide +kernel) ?_
          refine gx_iload_n_1 (gx_iconst (gx_iload_n_2 (gx_iload_6 (gx_isub ((gx_nil ?_))))))
          refine m_mmax kMX10_85 (by decide +kernel) (by decide) (Nat.le_of_ble_eq_true rfl) ?_
          refine m_callS kX10_78 (r_tens _) (by decide +kernel) rfl rfl (Nat.le_of_ble_eq_true rfl) (Nat.le_of_ble_eq_true rfl) (Nat.le_of_ble_eq_true rfl) rfl ?_
          try simp only [Option.toList_some, Option.toList_none, List.cons_append, List.nil_append, bI_0, n1_0, n0_0, Decidable.not_not, not_true_eq_false, not_false_eq_true, nI_add, pk_mul, Nat.add_zero, Nat.zero_add, Nat.reduceAdd, Nat.reduceMul]
          refine m_idiv (rTens_ne _) (by decide +kernel) ?_
          refine m_blk [(.aload_n 0, .null), (.iload 5, .null), (.iconst 0, .int (nI 0))] (Nat.le_of_ble_eq_true rfl) (by decide +kernel) ?_
          refine gx_aload_n_0 (gx_iload_5 (gx_iconst ((gx_nil ?_))))
          refine m_call kX10_81 (r_ofPrefix i 0 (by omega) (by omega)) (by decide +kernel) rfl rfl (Nat.le_of_ble_eq_true rfl) (Nat.le_of_ble_eq_true rfl) (Nat.le_of_ble_eq_true rfl) rfl ?_
          try simp only [Option.toList_some, Option.toList_none, List.cons_append, List.nil_append, bI_0, n1_0, n0_0, Decidable.not_not, not_true_eq_false, not_false_eq_true, nI_add, pk_mul, Nat.add_zero, Nat.zero_add, Nat.reduceAdd, Nat.reduceMul]
          refine m_icmp_ne (off := 7) (tgt := 59) (by decide +kernel) (by decide) (fun c52 => ?_) (fun c52 => ?_)
          · try simp only [bI_0, Decidable.not_not] at c52
            refine m_blk [(.iconst 0, .int (nI 0)), (.istore 7, .null), (.iload 7, .null)] (Nat.le_of_ble_eq_true rfl) (by decide +kernel) ?_
            refine gx_iconst (gx_istore_7 rfl (gx_iload_7 ((gx_nil ?_))))
            refine m_if_eq (off := 26) (tgt := 90) (by decide +kernel) (by decide) (fun c64 => ?_) (fun c64 => ?_)
            · try simp only [bI_0, Decidable.not_not] at c64
              refine m_blk [(.iload 4, .null), (.istore 4, .null), (.iinc 5 1, .int (nI 1)), (.goto (-91), .retAddr 6)] (Nat.le_of_ble_eq_true rfl) (by decide +kernel) ?_
              refine gx_iload_4 (gx_istore_4 rfl (gx_iinc_5 rfl (gx_goto ((gx_nil ?_)))))
              try simp only [nI_add, pk_mul, Nat.add_zero, Nat.zero_add, Nat.reduceAdd, Nat.reduceMul]
              refine m_weak ?_ (ih (i + 1) (by omega) (by omega))
              simp only [gLe, and_true, true_and, Option.some.injEq, Value.int.injEq]
              rw [rMatch_s]
              rw [if_neg (fun z => c52 z.1.2)]
            · exact absurd (by decide) c64
          · try simp only [bI_0, Decidable.not_not] at c52
            refine m_blk [(.iconst 1, .int (nI 1)), (.goto 4, .retAddr 60), (.istore 7, .null), (.iload 7, .null)] (Nat.le_of_ble_eq_true rfl) (by decide +kernel) ?_
            refine gx_iconst (gx_goto (gx_istore_7 rfl (gx_iload_7 ((gx_nil ?_)))))
            refine m_if_eq (off := 26) (tgt := 90) (by decide +kernel) (by decide) (fun c64 => ?_) (fun c64 => ?_)
            · exact absurd c64 (by decide)
            · try simp only [bI_0, Decidable.not_not] at c64
              refine m_blk [(.iload 4, .null), (.iconst (-1), .int (-1))] (Nat.le_of_ble_eq_true rfl) (by decide +kernel) ?_
              refine gx_iload_4 (gx_iconst ((gx_nil ?_)))
              refine m_icmp_eq (off := 15) (tgt := 85) (by decide +kernel) (by decide) (fun c70 => ?_) (fun c70 => ?_)
              · try simp only [bI_0, Decidable.not_not] at c70
                refine m_blk [(.iload 5, .null), (.goto 5, .retAddr 92), (.istore 4, .null), (.iinc 5 1, .int (nI 1)), (.goto (-91), .retAddr 6)] (Nat.le_of_ble_eq_true rfl) (by decide +kernel) ?_
                refine gx_iload_5 (gx_goto (gx_istore_4 rfl (gx_iinc_5 rfl (gx_goto ((gx_nil ?_))))))
                try simp only [nI_add, pk_mul, Nat.add_zero, Nat.zero_add, Nat.reduceAdd, Nat.reduceMul]
                refine m_weak ?_ (ih (i + 1) (by omega) (by omega))
                simp only [gLe, and_true, true_and, Option.some.injEq, Value.int.injEq]
                rw [rMatch_s]
                rw [if_pos ⟨⟨Int32.not_lt.mp c29, c52⟩, Or.inl c70⟩]
              · try simp only [bI_0, Decidable.not_not] at c70
                obtain ⟨p, hp, ep⟩ := (rMatch_in (N := F 0) (dg := dg) (ln := ln) (most := most) (c := i)).resolve_left c70
                rw [ep]
                refine m_blk [(.iload 6, .null), (.aload_n 0, .null), (.iload 4, .null), (.iconst 1, .int (nI 1))] (Nat.le_of_ble_eq_true rfl) (by decide +kernel) ?_
                refine gx_iload_6 (gx_aload_n_0 (gx_iload_4 (gx_iconst ((gx_nil ?_)))))
                refine m_call kX10_81 (r_ofPrefix p 1 (by omega) (by omega)) (by decide +kernel) rfl rfl (Nat.le_of_ble_eq_true rfl) (Nat.le_of_ble_eq_true rfl) (Nat.le_of_ble_eq_true rfl) rfl ?_
                try simp only [Option.toList_some, Option.toList_none, List.cons_append, List.nil_append, bI_0, n1_0, n0_0, Decidable.not_not, not_true_eq_false, not_false_eq_true, nI_add, pk_mul, Nat.add_zero, Nat.zero_add, Nat.reduceAdd, Nat.reduceMul]
                refine m_icmp_le (off := 8) (tgt := 90) (by decide +kernel) (by decide) (fun c82 => ?_) (fun c82 => ?_)
                · try simp only [bI_0, Decidable.not_not] at c82
                  refine m_blk [(.iload 4, .null), (.istore 4, .null), (.iinc 5 1, .int (nI 1)), (.goto (-91), .retAddr 6)] (Nat.le_of_ble_eq_true rfl) (by decide +kernel) ?_
                  refine gx_iload_4 (gx_istore_4 rfl (gx_iinc_5 rfl (gx_goto ((gx_nil ?_)))))
                  try simp only [nI_add, pk_mul, Nat.add_zero, Nat.zero_add, Nat.reduceAdd, Nat.reduceMul]
                  refine m_weak ?_ (ih (i + 1) (by omega) (by omega))
                  simp only [gLe, and_true, true_and, Option.some.injEq, Value.int.injEq]
                  rw [rMatch_s]
                  rw [if_neg (fun z => z.2.elim c70 (fun z => absurd z (by rw [ep, nI_clamp (by omega)]; exact Int32.not_lt.mpr c82)))]
                  first | rfl | exact ep.symm | exact ep
                · try simp only [bI_0, Decidable.not_not] at c82
                  refine m_blk [(.iload 5, .null), (.goto 5, .retAddr 92), (.istore 4, .null), (.iinc 5 1, .int (nI 1)), (.goto (-91), .retAddr 6)] (Nat.le_of_ble_eq_true rfl) (by decide +kernel) ?_
                  refine gx_iload_5 (gx_goto (gx_istore_4 rfl (gx_iinc_5 rfl (gx_goto ((gx_nil ?_))))))
                  try simp only [nI_add, pk_mul, Nat.add_zero, Nat.zero_add, Nat.reduceAdd, Nat.reduceMul]
                  refine m_weak ?_ (ih (i + 1) (by omega) (by omega))
                  simp only [gLe, and_true, true_and, Option.some.injEq, Value.int.injEq]
                  rw [rMatch_s]
                  rw [if_pos ⟨⟨Int32.not_lt.mp c29, c52⟩, Or.inr (by rw [ep, nI_clamp (by omega)]; exact Int32.not_le.mp c82)⟩]
  refine mC_of (by decide) rfl (Nat.le_of_ble_eq_true rfl) [some (.ref o), some (.int dg), some (.int ln), some (.int most), none, none, none, none] rfl ?_
  refine m_blk [(.iconst (-1), .int (-1)), (.istore 4, .null), (.iconst 0, .int (nI 0)), (.istore 5, .null)] (Nat.le_of_ble_eq_true rfl) (by decide +kernel) ?_
  refine gx_iconst (gx_istore_4 rfl (gx_iconst (gx_istore_5 rfl ((gx_nil ?_)))))
  exact loop (t + 1) 0 (Nat.zero_le _) (by omega)
end S12ref3leantxt
