section S24ref15leantxt
variable {Γ : gE} {o : Nat} {ad : Nat → Nat} {V : Nat → Int32} {F : Nat → Nat → Int32}
def rAb (N : Nat → Int32) (t i : Nat) : Int32 := rMatch N (N (26 + 3 * i + 0)) (N (26 + 3 * i + 1)) (N (26 + 3 * i + 1) - nI 1) t
def rCs (N : Nat → Int32) (rt : Int32) (t : Nat) : Nat → Int32
  | 0 => nI 0
  | i + 1 => rCs N rt t i + (if N (26 + 3 * i + 2) = rt then rTens (nI 4 - N (26 + 3 * i + 1)) else nI 0) - (if ¬ rAb N t i = -1 ∧ N (26 + 3 * (rAb N t i).toNatClampNeg + 2) = rt then rTens (nI 4 - N (26 + 3 * i + 1)) else nI 0)
theorem rCs_s {N : Nat → Int32} {rt : Int32} {t i : Nat} : rCs N rt t (i + 1) = rCs N rt t i + (if N (26 + 3 * i + 2) = rt then rTens (nI 4 - N (26 + 3 * i + 1)) else nI 0) - (if ¬ rAb N t i = -1 ∧ N (26 + 3 * (rAb N t i).toNatClampNeg + 2) = rt then rTens (nI 4 - N (26 + 3 * i + 1)) else nI 0) := rfl
theorem rp_codesOf {t : Nat} (ht : t ≤ 12) (h4 : F 0 4 = nI t) (rt : Int32) : mC Γ o ad M_X10_codesOf [.int rt] V F 3 (some (.int (if rT (bI (nI 0 ≤ rt ∧ rt ≤ nI 5)) (nI 1) (nI 1) = 0 then rCs (F 0) rt t t else nI 0))) (vU V 13 (rT (bI (nI 0 ≤ rt ∧ rt ≤ nI 5)) (nI 1) (nI 1))) F := by
  have loop : ∀ (V1 : Nat → Int32) n i, i ≤ t → t < i + n → mG Γ o ad M_X10_codesOf 3 (some (.int (rCs (F 0) rt t t))) V1 F 17 [some (.ref o), some (.int rt), some (.int (rCs (F 0) rt t i)), some (.int (nI i)), none, none] [] V1 F := by
    intro V1 n
    induction n with
    | zero => intro i h1 h2; omega
    | succ n ih =>
      intro i hi hn
      refine m_blk [(.iload_n 3, .null), (.aload_n 0, .null)] (Nat.le_of_ble_eq_true rfl) (by decide +kernel) ?_
      refine gx_iload_n_3 (gx_aload_n_0 ((gx_nil ?_)))
      refine m_getR fX10_9 (by decide +kernel) rfl ?_
      refine m_blk [(.iconst 4, .int (nI 4))] (Nat.le_of_ble_eq_true rfl) (by decide +kernel) ?_
      refine gx_iconst ((gx_nil ?_))
      refine m_al (j := 0) rfl (by decide +kernel) (show _ < 202 from by omega) ?_
      refine m_icmp_ge (off := 90) (tgt := 114) (by decide +kernel) (by decide) (fun c24 => ?_) (fun c24 => ?_)
      · try simp only [bI_0, Decidable.not_not] at c24
        have hic : i = t := by
          rw [h4] at c24
          have := (nI_leI (by omega) (by omega)).mp c24
          omega
        subst hic
        refine m_blk [(.iload_n 2, .null)] (Nat.le_of_ble_eq_true rfl) (by decide +kernel) ?_
        refine gx_iload_n_2 ((gx_nil ?_))
        refine m_end (some (.int _)) rfl ⟨by decide +kernel, _, rfl, rfl⟩ ?_ ?_ ?_
        · rfl
        · rfl
        · rfl
      · try simp only [bI_0, Decidable.not_not] at c24
        have hic : i < t := by
          rcases Nat.lt_or_ge i t with q | q
          · exact q
          · exact absurd (by rw [h4]; exact nI_le q (by omega)) c24
        refine m_blk [(.aload_n 0, .null), (.iload_n 3, .null), (.iconst 1, .int (nI 1))] (Nat.le_of_ble_eq_true rfl) (by decide +kernel) ?_
        refine gx_aload_n_0 (gx_iload_n_3 (gx_iconst ((gx_nil ?_))))
        refine m_call kX10_81 (r_ofPrefix i 1 (by omega) (by decide)) (by decide +kernel) rfl rfl (Nat.le_of_ble_eq_true rfl) (Nat.le_of_ble_eq_true rfl) (Nat.le_of_ble_eq_true rfl) rfl ?_
        try simp only [Option.toList_some, Option.toList_none, List.cons_append, List.nil_append, bI_0, n1_0, n0_0, Decidable.not_not, not_true_eq_false, not_false_eq_true, nI_add, pk_mul, Nat.add_zero, Nat.zero_add, Nat.reduceMul]
        refine m_blk [(.istore 4, .null), (.aload_n 0, .null), (.aload_n 0, .null), (.iload_n 3, .null), (.iconst 0, .int (nI 0))] (Nat.le_of_ble_eq_true rfl) (by decide +kernel) ?_
        refine gx_istore_4 rfl (gx_aload_n_0 (gx_aload_n_0 (gx_iload_n_3 (gx_iconst ((gx_nil ?_))))))
        refine m_call kX10_81 (r_ofPrefix i 0 (by omega) (by decide)) (by decide +kernel) rfl rfl (Nat.le_of_ble_eq_true rfl) (Nat.le_of_ble_eq_true rfl) (Nat.le_of_ble_eq_true rfl) rfl ?_
        try simp only [Option.toList_some, Option.toList_none, List.cons_append, List.nil_append, bI_0, n1_0, n0_0, Decidable.not_not, not_true_eq_false, not_false_eq_true, nI_add, pk_mul, Nat.add_zero, Nat.zero_add, Nat.reduceMul]
        refine m_blk [(.iload 4, .null), (.iload 4, .null), (.iconst 1, .int (nI 1)), (.isub, .null)] (Nat.le_of_ble_eq_true rfl) (by decide +kernel) ?_
        refine gx_iload_4 (gx_iload_4 (gx_iconst (gx_isub ((gx_nil ?_)))))
        refine m_call kX10_90 (r_matching ht h4 _ _ _) (by decide +kernel) rfl rfl (Nat.le_of_ble_eq_true rfl) (Nat.le_of_ble_eq_true rfl) (Nat.le_of_ble_eq_true rfl) rfl ?_
        refine m_top (show _ = rAb (F 0) t i from rfl) ?_
        refine m_blk [(.istore 5, .null), (.iload_n 2, .null), (.aload_n 0, .null), (.iload_n 3, .null), (.iconst 2, .int (nI 2))] (Nat.le_of_ble_eq_true rfl) (by decide +kernel) ?_
        refine gx_istore_5 rfl (gx_iload_n_2 (gx_aload_n_0 (gx_iload_n_3 (gx_iconst ((gx_nil ?_))))))
        refine m_call kX10_81 (r_ofPrefix i 2 (by omega) (by decide)) (by decide +kernel) rfl rfl (Nat.le_of_ble_eq_true rfl) (Nat.le_of_ble_eq_true rfl) (Nat.le_of_ble_eq_true rfl) rfl ?_
        try simp only [Option.toList_some, Option.toList_none, List.cons_append, List.nil_append, bI_0, n1_0, n0_0, Decidable.not_not, not_true_eq_false, not_false_eq_true, nI_add, pk_mul, Nat.add_zero, Nat.zero_add, Nat.reduceMul]
        refine m_blk [(.iload_n 1, .null)] (Nat.le_of_ble_eq_true rfl) (by decide +kernel) ?_
        refine gx_iload_n_1 ((gx_nil ?_))
        refine m_icmp_ne (off := 13) (tgt := 74) (by decide +kernel) (by decide) (fun c61 => ?_) (fun c61 => ?_)
        · try simp only [bI_0, Decidable.not_not] at c61
          refine m_blk [(.iconst 0, .int (nI 0)), (.iadd, .null), (.istore_n 2, .null), (.iload_n 2, .null), (.iload 5, .null), (.iconst (-1), .int (-1))] (Nat.le_of_ble_eq_true rfl) (by decide +kernel) ?_
          refine gx_iconst (gx_iadd (gx_istore_n_2 rfl (gx_iload_n_2 (gx_iload_5 (gx_iconst ((gx_nil ?_)))))))
          try simp only [nI_add, pk_mul, Nat.add_zero, Nat.zero_add, Nat.reduceMul]
          refine m_icmp_eq (off := 24) (tgt := 105) (by decide +kernel) (by decide) (fun c81 => ?_) (fun c81 => ?_)
          · try simp only [bI_0, Decidable.not_not] at c81
            refine m_blk [(.iconst 0, .int (nI 0)), (.isub, .null), (.istore_n 2, .null), (.iinc 3 1, .int (nI 1)), (.goto (-94), .retAddr 17)] (Nat.le_of_ble_eq_true rfl) (by decide +kernel) ?_
            refine gx_iconst (gx_isub (gx_istore_n_2 rfl (gx_iinc_3 rfl (gx_goto ((gx_nil ?_))))))
            try simp only [nI_add, pk_mul, Nat.add_zero, Nat.zero_add, Nat.reduceMul]
            have e9 := ih (i + 1) (by omega) (by omega)
            rw [rCs_s, if_neg c61, if_neg (fun z => z.1 c81)] at e9
            exact m_weak (by simp [gLe, nI_add]) e9
          · try simp only [bI_0, Decidable.not_not] at c81
            obtain ⟨p, hp, ep⟩ := rMatch_in.resolve_left (show ¬ rAb (F 0) t i = -1 from c81)
            have ep2 : rAb (F 0) t i = nI p := ep
            have hq : (rAb (F 0) t i).toNatClampNeg = p := by rw [ep2, nI_clamp (by omega)]
            rw [ep2]
            refine m_blk [(.aload_n 0, .null), (.iload 5, .null), (.iconst 2, .int (nI 2))] (Nat.le_of_ble_eq_true rfl) (by decide +kernel) ?_
            refine gx_aload_n_0 (gx_iload_5 (gx_iconst ((gx_nil ?_))))
            refine m_call kX10_81 (r_ofPrefix p 2 (by omega) (by decide)) (by decide +kernel) rfl rfl (Nat.le_of_ble_eq_true rfl) (Nat.le_of_ble_eq_true rfl) (Nat.le_of_ble_eq_true rfl) rfl ?_
            try simp only [Option.toList_some, Option.toList_none, List.cons_append, List.nil_append, bI_0, n1_0, n0_0, Decidable.not_not, not_true_eq_false, not_false_eq_true, nI_add, pk_mul, Nat.add_zero, Nat.zero_add, Nat.reduceMul]
            refine m_blk [(.iload_n 1, .null)] (Nat.le_of_ble_eq_true rfl) (by decide +kernel) ?_
            refine gx_iload_n_1 ((gx_nil ?_))
            refine m_icmp_ne (off := 13) (tgt := 105) (by decide +kernel) (by decide) (fun c92 => ?_) (fun c92 => ?_)
            · try simp only [bI_0, Decidable.not_not] at c92
              refine m_blk [(.iconst 0, .int (nI 0)), (.isub, .null), (.istore_n 2, .null), (.iinc 3 1, .int (nI 1)), (.goto (-94), .retAddr 17)] (Nat.le_of_ble_eq_true rfl) (by decide +kernel) ?_
              refine gx_iconst (gx_isub (gx_istore_n_2 rfl (gx_iinc_3 rfl (gx_goto ((gx_nil ?_))))))
              try simp only [nI_add, pk_mul, Nat.add_zero, Nat.zero_add, Nat.reduceMul]
              have e9 := ih (i + 1) (by omega) (by omega)
              rw [rCs_s, if_neg c61, if_neg (fun z => c92 (by rw [← hq]; exact z.2))] at e9
              exact m_weak (by simp [gLe, nI_add]) e9
            · try simp only [bI_0, Decidable.not_not] at c92
              refine m_blk [(.iconst 4, .int (nI 4)), (.iload 4, .null), (.isub, .null)] (Nat.le_of_ble_eq_true rfl) (by decide +kernel) ?_
              refine gx_iconst (gx_iload_4 (gx_isub ((gx_nil ?_))))
              refine m_callS kX10_78 (r_tens _) (by decide +kernel) rfl rfl (Nat.le_of_ble_eq_true rfl) (Nat.le_of_ble_eq_true rfl) (Nat.le_of_ble_eq_true rfl) rfl ?_
              try simp only [Option.toList_some, Option.toList_none, List.cons_append, List.nil_append, bI_0, n1_0, n0_0, Decidable.not_not, not_true_eq_false, not_false_eq_true, nI_add, pk_mul, Nat.add_zero, Nat.zero_add, Nat.reduceMul]
              refine m_blk [(.goto 4, .retAddr 106), (.isub, .null), (.istore_n 2, .null), (.iinc 3 1, .int (nI 1)), (.goto (-94), .retAddr 17)] (Nat.le_of_ble_eq_true rfl) (by decide +kernel) ?_
              refine gx_goto (gx_isub (gx_istore_n_2 rfl (gx_iinc_3 rfl (gx_goto ((gx_nil ?_))))))
              try simp only [nI_add, pk_mul, Nat.add_zero, Nat.zero_add, Nat.reduceMul]
              have e9 := ih (i + 1) (by omega) (by omega)
              rw [rCs_s, if_neg c61, if_pos ⟨c81, by rw [hq]; exact c92⟩] at e9
              exact m_weak (by simp [gLe, nI_add]) e9
        · try simp only [bI_0, Decidable.not_not] at c61
          refine m_blk [(.iconst 4, .int (nI 4)), (.iload 4, .null), (.isub, .null)] (Nat.le_of_ble_eq_true rfl) (by decide +kernel) ?_
          refine gx_iconst (gx_iload_4 (gx_isub ((gx_nil ?_))))
          refine m_callS kX10_78 (r_tens _) (by decide +kernel) rfl rfl (Nat.le_of_ble_eq_true rfl) (Nat.le_of_ble_eq_true rfl) (Nat.le_of_ble_eq_true rfl) rfl ?_
          try simp only [Option.toList_some, Option.toList_none, List.cons_append, List.nil_append, bI_0, n1_0, n0_0, Decidable.not_not, not_true_eq_false, not_false_eq_true, nI_add, pk_mul, Nat.add_zero, Nat.zero_add, Nat.reduceMul]
          refine m_blk [(.goto 4, .retAddr 75), (.iadd, .null), (.istore_n 2, .null), (.iload_n 2, .null), (.iload 5, .null), (.iconst (-1), .int (-1))] (Nat.le_of_ble_eq_true rfl) (by decide +kernel) ?_
          refine gx_goto (gx_iadd (gx_istore_n_2 rfl (gx_iload_n_2 (gx_iload_5 (gx_iconst ((gx_nil ?_)))))))
          try simp only [nI_add, pk_mul, Nat.add_zero, Nat.zero_add, Nat.reduceMul]
          refine m_icmp_eq (off := 24) (tgt := 105) (by decide +kernel) (by decide) (fun c81 => ?_) (fun c81 => ?_)
          · try simp only [bI_0, Decidable.not_not] at c81
            refine m_blk [(.iconst 0, .int (nI 0)), (.isub, .null), (.istore_n 2, .null), (.iinc 3 1, .int (nI 1)), (.goto (-94), .retAddr 17)] (Nat.le_of_ble_eq_true rfl) (by decide +kernel) ?_
            refine gx_iconst (gx_isub (gx_istore_n_2 rfl (gx_iinc_3 rfl (gx_goto ((gx_nil ?_))))))
            try simp only [nI_add, pk_mul, Nat.add_zero, Nat.zero_add, Nat.reduceMul]
            have e9 := ih (i + 1) (by omega) (by omega)
            rw [rCs_s, if_pos c61, if_neg (fun z => z.1 c81)] at e9
            exact m_weak (by simp [gLe, nI_add]) e9
          · try simp only [bI_0, Decidable.not_not] at c81
            obtain ⟨p, hp, ep⟩ := rMatch_in.resolve_left (show ¬ rAb (F 0) t i = -1 from c81)
            have ep2 : rAb (F 0) t i = nI p := ep
            have hq : (rAb (F 0) t i).toNatClampNeg = p := by rw [ep2, nI_clamp (by omega)]
            rw [ep2]
            refine m_blk [(.aload_n 0, .null), (.iload 5, .null), (.iconst 2, .int (nI 2))] (Nat.le_of_ble_eq_true rfl) (by decide +kernel) ?_
            refine gx_aload_n_0 (gx_iload_5 (gx_iconst ((gx_nil ?_))))
            refine m_call kX10_81 (r_ofPrefix p 2 (by omega) (by decide)) (by decide +kernel) rfl rfl (Nat.le_of_ble_eq_true rfl) (Nat.le_of_ble_eq_true rfl) (Nat.le_of_ble_eq_true rfl) rfl ?_
            try simp only [Option.toList_some, Option.toList_none, List.cons_append, List.nil_append, bI_0, n1_0, n0_0, Decidable.not_not, not_true_eq_false, not_false_eq_true, nI_add, pk_mul, Nat.add_zero, Nat.zero_add, Nat.reduceMul]
            refine m_blk [(.iload_n 1, .null)] (Nat.le_of_ble_eq_true rfl) (by decide +kernel) ?_
            refine gx_iload_n_1 ((gx_nil ?_))
            refine m_icmp_ne (off := 13) (tgt := 105) (by decide +kernel) (by decide) (fun c92 => ?_) (fun c92 => ?_)
            · try simp only [bI_0, Decidable.not_not] at c92
              refine m_blk [(.iconst 0, .int (nI 0)), (.isub, .null), (.istore_n 2, .null), (.iinc 3 1, .int (nI 1)), (.goto (-94), .retAddr 17)] (Nat.le_of_ble_eq_true rfl) (by decide +kernel) ?_
              refine gx_iconst (gx_isub (gx_istore_n_2 rfl (gx_iinc_3 rfl (gx_goto ((gx_nil ?_))))))
              try simp only [nI_add, pk_mul, Nat.add_zero, Nat.zero_add, Nat.reduceMul]
              have e9 := ih (i + 1) (by omega) (by omega)
              rw [rCs_s, if_pos c61, if_neg (fun z => c92 (by rw [← hq]; exact z.2))] at e9
              exact m_weak (by simp [gLe, nI_add]) e9
            · try simp only [bI_0, Decidable.not_not] at c92
              refine m_blk [(.iconst 4, .int (nI 4)), (.iload 4, .null), (.isub, .null)] (Nat.le_of_ble_eq_true rfl) (by decide +kernel) ?_
              refine gx_iconst (gx_iload_4 (gx_isub ((gx_nil ?_))))
              refine m_callS kX10_78 (r_tens _) (by decide +kernel) rfl rfl (Nat.le_of_ble_eq_true rfl) (Nat.le_of_ble_eq_true rfl) (Nat.le_of_ble_eq_true rfl) rfl ?_
              try simp only [Option.toList_some, Option.toList_none, List.cons_append, List.nil_append, bI_0, n1_0, n0_0, Decidable.not_not, not_true_eq_false, not_false_eq_true, nI_add, pk_mul, Nat.add_zero, Nat.zero_add, Nat.reduceMul]
              refine m_blk [(.goto 4, .retAddr 106), (.isub, .null), (.istore_n 2, .null), (.iinc 3 1, .int (nI 1)), (.goto (-94), .retAddr 17)] (Nat.le_of_ble_eq_true rfl) (by decide +kernel) ?_
              refine gx_goto (gx_isub (gx_istore_n_2 rfl (gx_iinc_3 rfl (gx_goto ((gx_nil ?_))))))
              try simp only [nI_add, pk_mul, Nat.add_zero, Nat.zero_add, Nat.reduceMul]
              have e9 := ih (i + 1) (by omega) (by omega)
              rw [rCs_s, if_pos c61, if_pos ⟨c81, by rw [hq]; exact c92⟩] at e9
              exact m_weak (by simp [gLe, nI_add]) e9
  refine mC_of (by decide) rfl (Nat.le_of_ble_eq_true rfl) [some (.ref o), some (.int rt), none, none, none, none] rfl ?_
  refine m_blk [(.aload_n 0, .null), (.iload_n 1, .null)] (Nat.le_of_ble_eq_true rfl) (by decide +kernel) ?_
  refine gx_aload_n_0 (gx_iload_n_1 ((gx_nil ?_)))
  refine m_callS kX10_74 (r_isRoute _) (by decide +kernel) rfl rfl (Nat.le_of_ble_eq_true rfl) (Nat.le_of_ble_eq_true rfl) (Nat.le_of_ble_eq_true rfl) rfl ?_
  try simp only [Option.toList_some, Option.toList_none, List.cons_append, List.nil_append, bI_0, n1_0, n0_0, Decidable.not_not, not_true_eq_false, not_false_eq_true, nI_add, pk_mul, Nat.add_zero, Nat.zero_add, Nat.reduceAdd, Nat.reduceMul]
  refine m_call kX10_62 (r_goes _) (by decide +kernel) rfl rfl (Nat.le_of_ble_eq_true rfl) (Nat.le_of_ble_eq_true rfl) (Nat.le_of_ble_eq_true rfl) rfl ?_
  try simp only [Option.toList_some, Option.toList_none, List.cons_append, List.nil_append, bI_0, n1_0, n0_0, Decidable.not_not, not_true_eq_false, not_false_eq_true, nI_add, pk_mul, Nat.add_zero, Nat.zero_add, Nat.reduceAdd, Nat.reduceMul]
  refine m_if_ne (off := 5) (tgt := 13) (by decide +kernel) (by decide) (fun c8 => ?_) (fun c8 => ?_)
  · try simp only [bI_0, Decidable.not_not] at c8
    refine m_blk [(.iconst 0, .int (nI 0)), (.istore_n 2, .null), (.iconst 0, .int (nI 0)), (.istore_n 3, .null)] (Nat.le_of_ble_eq_true rfl) (by decide +kernel) ?_
    refine gx_iconst (gx_istore_n_2 rfl (gx_iconst (gx_istore_n_3 rfl ((gx_nil ?_)))))
    have hτ : rT (bI (nI 0 ≤ rt ∧ rt ≤ nI 5)) (nI 1) (nI 1) = 0 := (rT_iff _ _ _).mpr (by simp only [bI_0, n1_0, n0_0, Decidable.not_not, not_true_eq_false, not_false_eq_true, and_true]; exact c8)
    rw [show (if rT (bI (nI 0 ≤ rt ∧ rt ≤ nI 5)) (nI 1) (nI 1) = 0 then rCs (F 0) rt t t else nI 0) = rCs (F 0) rt t t from if_pos hτ]
    exact loop _ (t + 1) 0 (Nat.zero_le _) (by omega)
  · try simp only [bI_0, Decidable.not_not] at c8
    refine m_blk [(.iconst 0, .int (nI 0))] (Nat.le_of_ble_eq_true rfl) (by decide +kernel) ?_
    refine gx_iconst ((gx_nil ?_))
    have hτ : ¬ rT (bI (nI 0 ≤ rt ∧ rt ≤ nI 5)) (nI 1) (nI 1) = 0 := fun z => by
      have z1 := (rT_iff _ _ _).mp z
      simp only [bI_0, n1_0, n0_0, Decidable.not_not, not_true_eq_false, not_false_eq_true, and_true] at z1
      first | exact c8 z1 | exact z1 c8 | simp_all
    refine m_end (some (.int _)) rfl ⟨by decide +kernel, _, rfl, rfl⟩ ?_ ?_ ?_
    · rw [if_neg hτ]
    · rfl
    · rfl
theorem bI_nar (p : Prop) [Decidable p] : narrow FieldType.boolean (.int (bI p)) = .int (bI p) := by
  unfold bI
  split <;> rfl
theorem bI_cg {p q : Prop} [Decidable p] [Decidable q] (h : p ↔ q) : bI p = bI q := by
  by_cases z : p
  · rw [bI_t z, bI_t (h.mp z)]
  · rw [bI_f z, bI_f (fun y => z (h.mpr y))]
def tBg (N : Nat → Int32) (rt bg : Int32) : Int32 := rT (bI (nI 0 ≤ rt ∧ rt ≤ nI 5)) (bI (nI 0 ≤ bg ∧ bg ≤ N (8 + 3 * rIx rt + 2) - nI 1)) (nI 1)
theorem r_isBag (rt bg : Int32) : mC Γ o ad M_X10_isBag [.int rt, .int bg] V F 3 (some (.int (bI (tBg (F 0) rt bg = 0)))) (vU V 13 (tBg (F 0) rt bg)) (F) := by
  have hx5 := rIx_le rt
  refine mC_of (by decide) rfl (Nat.le_of_ble_eq_true rfl) [some (.ref o), some (.int rt), some (.int bg)] rfl ?_
  refine m_blk [(.aload_n 0, .null), (.iload_n 1, .null)] (Nat.le_of_ble_eq_true rfl) (by decide +kernel) ?_
  refine gx_aload_n_0 (gx_iload_n_1 ((gx_nil ?_)))
  refine m_callS kX10_74 (r_isRoute _) (by decide +kernel) rfl rfl (Nat.le_of_ble_eq_true rfl) (Nat.le_of_ble_eq_true rfl) (Nat.le_of_ble_eq_true rfl) rfl ?_
  try simp only [Option.toList_some, Option.toList_none, List.cons_append, List.nil_append, bI_0, n1_0, n0_0, Decidable.not_not, not_true_eq_false, not_false_eq_true, nI_add, pk_mul, Nat.add_zero, Nat.zero_add, Nat.reduceAdd, Nat.reduceMul]
  refine m_blk [(.iload_n 2, .null), (.iconst 0, .int (nI 0)), (.aload_n 0, .null)] (Nat.le_of_ble_eq_true rfl) (by decide +kernel) ?_
  refine gx_iload_n_2 (gx_iconst (gx_aload_n_0 ((gx_nil ?_))))
  refine m_getR fX10_9 (by decide +kernel) rfl ?_
  refine m_blk [(.iload_n 1, .null)] (Nat.le_of_ble_eq_true rfl) (by decide +kernel) ?_
  refine gx_iload_n_1 ((gx_nil ?_))
  refine m_callS kX10_41 (r_routeAt _) (by decide +kernel) rfl rfl (Nat.le_of_ble_eq_true rfl) (Nat.le_of_ble_eq_true rfl) (Nat.le_of_ble_eq_true rfl) rfl ?_
  try simp only [Option.toList_some, Option.toList_none, List.cons_append, List.nil_append, bI_0, n1_0, n0_0, Decidable.not_not, not_true_eq_false, not_false_eq_true, nI_add, pk_mul, Nat.add_zero, Nat.zero_add, Nat.reduceAdd, Nat.reduceMul]
  refine m_blk [(.iconst 2, .int (nI 2)), (.iadd, .null)] (Nat.le_of_ble_eq_true rfl) (by decide +kernel) ?_
  refine gx_iconst (gx_iadd ((gx_nil ?_)))
  try simp only [nI_add, pk_mul, Nat.add_zero, Nat.zero_add, Nat.reduceAdd, Nat.reduceMul]
  refine m_al (j := 0) rfl (by decide +kernel) (show _ < 202 from by omega) ?_
  refine m_blk [(.iconst 1, .int (nI 1)), (.isub, .null)] (Nat.le_of_ble_eq_true rfl) (by decide +kernel) ?_
  refine gx_iconst (gx_isub ((gx_nil ?_)))
  refine m_callS kX10_70 (r_isIn _ _ _) (by decide +kernel) rfl rfl (Nat.le_of_ble_eq_true rfl) (Nat.le_of_ble_eq_true rfl) (Nat.le_of_ble_eq_true rfl) rfl ?_
  try simp only [Option.toList_some, Option.toList_none, List.cons_append, List.nil_append, bI_0, n1_0, n0_0, Decidable.not_not, not_true_eq_false, not_false_eq_true, nI_add, pk_mul, Nat.add_zero, Nat.zero_add, Nat.reduceAdd, Nat.reduceMul]
  refine m_blk [(.iconst 1, .int (nI 1))] (Nat.le_of_ble_eq_true rfl) (by decide +kernel) ?_
  refine gx_iconst ((gx_nil ?_))
  refine m_call kX10_48 (r_holds _ _ _) (by decide +kernel) rfl rfl (Nat.le_of_ble_eq_true rfl) (Nat.le_of_ble_eq_true rfl) (Nat.le_of_ble_eq_true rfl) rfl ?_
  skip
  refine m_end (some (.int _)) rfl ⟨by decide +kernel, _, rfl, bI_nar _⟩ ?_ ?_ ?_
  · exact congrArg (fun x => some (Value.int x)) (bI_cg (rT_iff _ _ _).symm)
  · rfl
  · rfl
theorem rp_bagWeight {c : Nat} (hc : c ≤ 20) (h3 : F 0 3 = nI c) (rt bg : Int32) : mC Γ o ad M_X10_bagWeight [.int rt, .int bg] V F 4 (some (.int (if tBg (F 0) rt bg = 0 then rWt (F 0) rt bg c else nI 0))) (vU V 13 (tBg (F 0) rt bg)) (F) := by
  refine mC_of (by decide) rfl (Nat.le_of_ble_eq_true rfl) [some (.ref o), some (.int rt), some (.int bg)] rfl ?_
  refine m_blk [(.aload_n 0, .null), (.iload_n 1, .null), (.iload_n 2, .null)] (Nat.le_of_ble_eq_true rfl) (by decide +kernel) ?_
  refine gx_aload_n_0 (gx_iload_n_1 (gx_iload_n_2 ((gx_nil ?_))))
  refine m_call kX10_191 (r_isBag _ _) (by decide +kernel) rfl rfl (Nat.le_of_ble_eq_true rfl) (Nat.le_of_ble_eq_true rfl) (Nat.le_of_ble_eq_true rfl) rfl ?_
  skip
  refine m_if_eq (off := 12) (tgt := 18) (by decide +kernel) (by decide) (fun c6 => ?_) (fun c6 => ?_)
  · try simp only [bI_0, Decidable.not_not] at c6
    refine m_blk [(.iconst 0, .int (nI 0))] (Nat.le_of_ble_eq_true rfl) (by decide +kernel) ?_
    refine gx_iconst ((gx_nil ?_))
    refine m_end (some (.int _)) rfl ⟨by decide +kernel, _, rfl, rfl⟩ ?_ ?_ ?_
    · first | rw [if_pos c6] | rw [if_neg c6]
    · rfl
    · rfl
  · try simp only [bI_0, Decidable.not_not] at c6
    refine m_blk [(.aload_n 0, .null), (.iload_n 1, .null), (.iload_n 2, .null)] (Nat.le_of_ble_eq_true rfl) (by decide +kernel) ?_
    refine gx_aload_n_0 (gx_iload_n_1 (gx_iload_n_2 ((gx_nil ?_))))
    refine m_call kX10_100 (r_weightIn hc h3 _ _) (by decide +kernel) rfl rfl (Nat.le_of_ble_eq_true rfl) (Nat.le_of_ble_eq_true rfl) (Nat.le_of_ble_eq_true rfl) rfl ?_
    try simp only [Option.toList_some, Option.toList_none, List.cons_append, List.nil_append, bI_0, n1_0, n0_0, Decidable.not_not, not_true_eq_false, not_false_eq_true, nI_add, pk_mul, Nat.add_zero, Nat.zero_add, Nat.reduceAdd, Nat.reduceMul]
    refine m_blk [(.goto 4, .retAddr 19)] (Nat.le_of_ble_eq_true rfl) (by decide +kernel) ?_
    refine gx_goto ((gx_nil ?_))
    refine m_end (some (.int _)) rfl ⟨by decide +kernel, _, rfl, rfl⟩ ?_ ?_ ?_
    · first | rw [if_pos c6] | rw [if_neg c6]
    · rfl
    · rfl
theorem rp_lettersInBag {c : Nat} (hc : c ≤ 20) (h3 : F 0 3 = nI c) (rt bg : Int32) : mC Γ o ad M_X10_lettersInBag [.int rt, .int bg] V F 4 (some (.int (if tBg (F 0) rt bg = 0 then rLn (F 0) rt bg c else nI 0))) (vU V 13 (tBg (F 0) rt bg)) (F) := by
  refine mC_of (by decide) rfl (Nat.le_of_ble_eq_true rfl) [some (.ref o), some (.int rt), some (.int bg)] rfl ?_
  refine m_blk [(.aload_n 0, .null), (.iload_n 1, .null), (.iload_n 2, .null)] (Nat.le_of_ble_eq_true rfl) (by decide +kernel) ?_
  refine gx_aload_n_0 (gx_iload_n_1 (gx_iload_n_2 ((gx_nil ?_))))
  refine m_call kX10_191 (r_isBag _ _) (by decide +kernel) rfl rfl (Nat.le_of_ble_eq_true rfl) (Nat.le_of_ble_eq_true rfl) (Nat.le_of_ble_eq_true rfl) rfl ?_
  skip
  refine m_if_eq (off := 12) (tgt := 18) (by decide +kernel) (by decide) (fun c6 => ?_) (fun c6 => ?_)
  · try simp only [bI_0, Decidable.not_not] at c6
    refine m_blk [(.iconst 0, .int (nI 0))] (Nat.le_of_ble_eq_true rfl) (by decide +kernel) ?_
    refine gx_iconst ((gx_nil ?_))
    refine m_end (some (.int _)) rfl ⟨by decide +kernel, _, rfl, rfl⟩ ?_ ?_ ?_
    · first | rw [if_pos c6] | rw [if_neg c6]
    · rfl
    · rfl
  · try simp only [bI_0, Decidable.not_not] at c6
    refine m_blk [(.aload_n 0, .null), (.iload_n 1, .null), (.iload_n 2, .null)] (Nat.le_of_ble_eq_true rfl) (by decide +kernel) ?_
    refine gx_aload_n_0 (gx_iload_n_1 (gx_iload_n_2 ((gx_nil ?_))))
    refine m_call kX10_185 (r_lettersIn hc h3 _ _) (by decide +kernel) rfl rfl (Nat.le_of_ble_eq_true rfl) (Nat.le_of_ble_eq_true rfl) (Nat.le_of_ble_eq_true rfl) rfl ?_
    try simp only [Option.toList_some, Option.toList_none, List.cons_append, List.nil_append, bI_0, n1_0, n0_0, Decidable.not_not, not_true_eq_false, not_false_eq_true, nI_add, pk_mul, Nat.add_zero, Nat.zero_add, Nat.reduceAdd, Nat.reduceMul]
    refine m_blk [(.goto 4, .retAddr 19)] (Nat.le_of_ble_eq_true rfl) (by decide +kernel) ?_
    refine gx_goto ((gx_nil ?_))
    refine m_end (some (.int _)) rfl ⟨by decide +kernel, _, rfl, rfl⟩ ?_ ?_ ?_
    · first | rw [if_pos c6] | rw [if_neg c6]
    · rfl
    · rfl
theorem rp_routeWeight {c : Nat} (hc : c ≤ 20) (h3 : F 0 3 = nI c) (rt : Int32) : mC Γ o ad M_X10_routeWeight [.int rt] V F 3 (some (.int (if rT (bI (nI 0 ≤ rt ∧ rt ≤ nI 5)) (nI 1) (nI 1) = 0 then rWt (F 0) rt (-1) c else nI 0))) (vU V 13 (rT (bI (nI 0 ≤ rt ∧ rt ≤ nI 5)) (nI 1) (nI 1))) F := by
  refine mC_of (by decide) rfl (Nat.le_of_ble_eq_true rfl) [some (.ref o), some (.int rt)] rfl ?_
  refine m_blk [(.aload_n 0, .null), (.iload_n 1, .null)] (Nat.le_of_ble_eq_true rfl) (by decide +kernel) ?_
  refine gx_aload_n_0 (gx_iload_n_1 ((gx_nil ?_)))
  refine m_callS kX10_74 (r_isRoute _) (by decide +kernel) rfl rfl (Nat.le_of_ble_eq_true rfl) (Nat.le_of_ble_eq_true rfl) (Nat.le_of_ble_eq_true rfl) rfl ?_
  try simp only [Option.toList_some, Option.toList_none, List.cons_append, List.nil_append, bI_0, n1_0, n0_0, Decidable.not_not, not_true_eq_false, not_false_eq_true, nI_add, pk_mul, Nat.add_zero, Nat.zero_add, Nat.reduceAdd, Nat.reduceMul]
  refine m_call kX10_62 (r_goes _) (by decide +kernel) rfl rfl (Nat.le_of_ble_eq_true rfl) (Nat.le_of_ble_eq_true rfl) (Nat.le_of_ble_eq_true rfl) rfl ?_
  try simp only [Option.toList_some, Option.toList_none, List.cons_append, List.nil_append, bI_0, n1_0, n0_0, Decidable.not_not, not_true_eq_false, not_false_eq_true, nI_add, pk_mul, Nat.add_zero, Nat.zero_add, Nat.reduceAdd, Nat.reduceMul]
  refine m_if_eq (off := 12) (tgt := 20) (by decide +kernel) (by decide) (fun c8 => ?_) (fun c8 => ?_)
  · try simp only [bI_0, Decidable.not_not] at c8
    refine m_blk [(.iconst 0, .int (nI 0))] (Nat.le_of_ble_eq_true rfl) (by decide +kernel) ?_
    refine gx_iconst ((gx_nil ?_))
    have hτ : ¬ rT (bI (nI 0 ≤ rt ∧ rt ≤ nI 5)) (nI 1) (nI 1) = 0 := fun z => by
      have z1 := (rT_iff _ _ _).mp z
      simp only [bI_0, n1_0, n0_0, Decidable.not_not, not_true_eq_false, not_false_eq_true, and_true] at z1
      first | exact c8 z1 | exact z1 c8 | simp_all
    refine m_end (some (.int _)) rfl ⟨by decide +kernel, _, rfl, rfl⟩ ?_ ?_ ?_
    · rw [if_neg hτ]
    · rfl
    · rfl
  · try simp only [bI_0, Decidable.not_not] at c8
    refine m_blk [(.aload_n 0, .null), (.iload_n 1, .null), (.iconst (-1), .int (-1))] (Nat.le_of_ble_eq_true rfl) (by decide +kernel) ?_
    refine gx_aload_n_0 (gx_iload_n_1 (gx_iconst ((gx_nil ?_))))
    refine m_call kX10_100 (r_weightIn hc h3 _ _) (by decide +kernel) rfl rfl (Nat.le_of_ble_eq_true rfl) (Nat.le_of_ble_eq_true rfl) (Nat.le_of_ble_eq_true rfl) rfl ?_
    try simp only [Option.toList_some, Option.toList_none, List.cons_append, List.nil_append, bI_0, n1_0, n0_0, Decidable.not_not, not_true_eq_false, not_false_eq_true, nI_add, pk_mul, Nat.add_zero, Nat.zero_add, Nat.reduceAdd, Nat.reduceMul]
    refine m_blk [(.goto 4, .retAddr 21)] (Nat.le_of_ble_eq_true rfl) (by decide +kernel) ?_
    refine gx_goto ((gx_nil ?_))
    have hτ : rT (bI (nI 0 ≤ rt ∧ rt ≤ nI 5)) (nI 1) (nI 1) = 0 := (rT_iff _ _ _).mpr (by simp only [bI_0, n1_0, n0_0, Decidable.not_not, not_true_eq_false, not_false_eq_true, and_true]; first | exact c8 | simp_all)
    refine m_end (some (.int _)) rfl ⟨by decide +kernel, _, rfl, rfl⟩ ?_ ?_ ?_
    · rw [if_pos hτ]
      try first | done | rfl | rfl
    · rfl
    · rfl
theorem rp_routeWeightByBags {c : Nat} (hc : c ≤ 20) (h3 : F 0 3 = nI c) (rt : Int32) : mC Γ o ad M_X10_routeWeightByBags [.int rt] V F 3 (some (.int (if rT (bI (nI 0 ≤ rt ∧ rt ≤ nI 5)) (nI 1) (nI 1) = 0 then rWt (F 0) rt (-1) c else nI 0))) (vU V 13 (rT (bI (nI 0 ≤ rt ∧ rt ≤ nI 5)) (nI 1) (nI 1))) F := by
  refine mC_of (by decide) rfl (Nat.le_of_ble_eq_true rfl) [some (.ref o), some (.int rt)] rfl ?_
  refine m_blk [(.aload_n 0, .null), (.iload_n 1, .null)] (Nat.le_of_ble_eq_true rfl) (by decide +kernel) ?_
  refine gx_aload_n_0 (gx_iload_n_1 ((gx_nil ?_)))
  refine m_callS kX10_74 (r_isRoute _) (by decide +kernel) rfl rfl (Nat.le_of_ble_eq_true rfl) (Nat.le_of_ble_eq_true rfl) (Nat.le_of_ble_eq_true rfl) rfl ?_
  try simp only [Option.toList_some, Option.toList_none, List.cons_append, List.nil_append, bI_0, n1_0, n0_0, Decidable.not_not, not_true_eq_false, not_false_eq_true, nI_add, pk_mul, Nat.add_zero, Nat.zero_add, Nat.reduceAdd, Nat.reduceMul]
  refine m_call kX10_62 (r_goes _) (by decide +kernel) rfl rfl (Nat.le_of_ble_eq_true rfl) (Nat.le_of_ble_eq_true rfl) (Nat.le_of_ble_eq_true rfl) rfl ?_
  try simp only [Option.toList_some, Option.toList_none, List.cons_append, List.nil_append, bI_0, n1_0, n0_0, Decidable.not_not, not_true_eq_false, not_false_eq_true, nI_add, pk_mul, Nat.add_zero, Nat.zero_add, Nat.reduceAdd, Nat.reduceMul]
  refine m_if_eq (off := 12) (tgt := 20) (by decide +kernel) (by decide) (fun c8 => ?_) (fun c8 => ?_)
  · try simp only [bI_0, Decidable.not_not] at c8
    refine m_blk [(.iconst 0, .int (nI 0))] (Nat.le_of_ble_eq_true rfl) (by decide +kernel) ?_
    refine gx_iconst ((gx_nil ?_))
    have hτ : ¬ rT (bI (nI 0 ≤ rt ∧ rt ≤ nI 5)) (nI 1) (nI 1) = 0 := fun z => by
      have z1 := (rT_iff _ _ _).mp z
      simp only [bI_0, n1_0, n0_0, Decidable.not_not, not_true_eq_false, not_false_eq_true, and_true] at z1
      first | exact c8 z1 | exact z1 c8 | simp_all
    refine m_end (some (.int _)) rfl ⟨by decide +kernel, _, rfl, rfl⟩ ?_ ?_ ?_
    · rw [if_neg hτ]
    · rfl
    · rfl
  · try simp only [bI_0, Decidable.not_not] at c8
    refine m_blk [(.aload_n 0, .null), (.iload_n 1, .null), (.iconst (-1), .int (-1))] (Nat.le_of_ble_eq_true rfl) (by decide +kernel) ?_
    refine gx_aload_n_0 (gx_iload_n_1 (gx_iconst ((gx_nil ?_))))
    refine m_call kX10_100 (r_weightIn hc h3 _ _) (by decide +kernel) rfl rfl (Nat.le_of_ble_eq_true rfl) (Nat.le_of_ble_eq_true rfl) (Nat.le_of_ble_eq_true rfl) rfl ?_
    try simp only [Option.toList_some, Option.toList_none, List.cons_append, List.nil_append, bI_0, n1_0, n0_0, Decidable.not_not, not_true_eq_false, not_false_eq_true, nI_add, pk_mul, Nat.add_zero, Nat.zero_add, Nat.reduceAdd, Nat.reduceMul]
    refine m_blk [(.goto 4, .retAddr 21)] (Nat.le_of_ble_eq_true rfl) (by decide +kernel) ?_
    refine gx_goto ((gx_nil ?_))
    have hτ : rT (bI (nI 0 ≤ rt ∧ rt ≤ nI 5)) (nI 1) (nI 1) = 0 := (rT_iff _ _ _).mpr (by simp only [bI_0, n1_0, n0_0, Decidable.not_not, not_true_eq_false, not_false_eq_true, and_true]; first | exact c8 | simp_all)
    refine m_end (some (.int _)) rfl ⟨by decide +kernel, _, rfl, rfl⟩ ?_ ?_ ?_
    · rw [if_pos hτ]
      try first | done | rfl | rfl
    · rfl
    · rfl
theorem rp_freeWeight {c : Nat} (hc : c ≤ 20) (h3 : F 0 3 = nI c) (rt : Int32) : mC Γ o ad M_X10_freeWeight [.int rt] V F 3 (some (.int (if rT (bI (nI 0 ≤ rt ∧ rt ≤ nI 5)) (nI 1) (nI 1) = 0 then nI 450 - rWt (F 0) rt (-1) c else nI 0))) (vU V 13 (rT (bI (nI 0 ≤ rt ∧ rt ≤ nI 5)) (nI 1) (nI 1))) F := by
  refine mC_of (by decide) rfl (Nat.le_of_ble_eq_true rfl) [some (.ref o), some (.int rt)] rfl ?_
  refine m_blk [(.aload_n 0, .null), (.iload_n 1, .null)] (Nat.le_of_ble_eq_true rfl) (by decide +kernel) ?_
  refine gx_aload_n_0 (gx_iload_n_1 ((gx_nil ?_)))
  refine m_callS kX10_74 (r_isRoute _) (by decide +kernel) rfl rfl (Nat.le_of_ble_eq_true rfl) (Nat.le_of_ble_eq_true rfl) (Nat.le_of_ble_eq_true rfl) rfl ?_
  try simp only [Option.toList_some, Option.toList_none, List.cons_append, List.nil_append, bI_0, n1_0, n0_0, Decidable.not_not, not_true_eq_false, not_false_eq_true, nI_add, pk_mul, Nat.add_zero, Nat.zero_add, Nat.reduceAdd, Nat.reduceMul]
  refine m_call kX10_62 (r_goes _) (by decide +kernel) rfl rfl (Nat.le_of_ble_eq_true rfl) (Nat.le_of_ble_eq_true rfl) (Nat.le_of_ble_eq_true rfl) rfl ?_
  try simp only [Option.toList_some, Option.toList_none, List.cons_append, List.nil_append, bI_0, n1_0, n0_0, Decidable.not_not, not_true_eq_false, not_false_eq_true, nI_add, pk_mul, Nat.add_zero, Nat.zero_add, Nat.reduceAdd, Nat.reduceMul]
  refine m_if_eq (off := 16) (tgt := 24) (by decide +kernel) (by decide) (fun c8 => ?_) (fun c8 => ?_)
  · try simp only [bI_0, Decidable.not_not] at c8
    refine m_blk [(.iconst 0, .int (nI 0))] (Nat.le_of_ble_eq_true rfl) (by decide +kernel) ?_
    refine gx_iconst ((gx_nil ?_))
    have hτ : ¬ rT (bI (nI 0 ≤ rt ∧ rt ≤ nI 5)) (nI 1) (nI 1) = 0 := fun z => by
      have z1 := (rT_iff _ _ _).mp z
      simp only [bI_0, n1_0, n0_0, Decidable.not_not, not_true_eq_false, not_false_eq_true, and_true] at z1
      first | exact c8 z1 | exact z1 c8 | simp_all
    refine m_end (some (.int _)) rfl ⟨by decide +kernel, _, rfl, rfl⟩ ?_ ?_ ?_
    · rw [if_neg hτ]
    · rfl
    · rfl
  · try simp only [bI_0, Decidable.not_not] at c8
    refine m_blk [(.sipush 450, .int (nI 450)), (.aload_n 0, .null), (.iload_n 1, .null), (.iconst (-1), .int (-1))] (Nat.le_of_ble_eq_true rfl) (by decide +kernel) ?_
    refine gx_sipush (gx_aload_n_0 (gx_iload_n_1 (gx_iconst ((gx_nil ?_)))))
    refine m_call kX10_100 (r_weightIn hc h3 _ _) (by decide +kernel) rfl rfl (Nat.le_of_ble_eq_true rfl) (Nat.le_of_ble_eq_true rfl) (Nat.le_of_ble_eq_true rfl) rfl ?_
    try simp only [Option.toList_some, Option.toList_none, List.cons_append, List.nil_append, bI_0, n1_0, n0_0, Decidable.not_not, not_true_eq_false, not_false_eq_true, nI_add, pk_mul, Nat.add_zero, Nat.zero_add, Nat.reduceAdd, Nat.reduceMul]
    refine m_blk [(.isub, .null), (.goto 4, .retAddr 25)] (Nat.le_of_ble_eq_true rfl) (by decide +kernel) ?_
    refine gx_isub (gx_goto ((gx_nil ?_)))
    have hτ : rT (bI (nI 0 ≤ rt ∧ rt ≤ nI 5)) (nI 1) (nI 1) = 0 := (rT_iff _ _ _).mpr (by simp only [bI_0, n1_0, n0_0, Decidable.not_not, not_true_eq_false, not_false_eq_true, and_true]; first | exact c8 | simp_all)
    refine m_end (some (.int _)) rfl ⟨by decide +kernel, _, rfl, rfl⟩ ?_ ?_ ?_
    · rw [if_pos hτ]
      try first | done | rfl | rfl
    · rfl
    · rfl
def rHt (N : Nat → Int32) (rt : Int32) : Int32 := (N (8 + 3 * rIx rt + 1) - N 0 + nI 23) - (N (8 + 3 * rIx rt + 1) - N 0 + nI 23) / nI 24 * nI 24 + nI 1
theorem r_hoursTo (rt : Int32) : mC Γ o ad M_X10_hoursTo [.int rt] V F 3 (some (.int (rHt (F 0) rt))) (V) (F) := by
  have hx5 := rIx_le rt
  refine mC_of (by decide) rfl (Nat.le_of_ble_eq_true rfl) [some (.ref o), some (.int rt)] rfl ?_
  refine m_blk [(.aload_n 0, .null)] (Nat.le_of_ble_eq_true rfl) (by decide +kernel) ?_
  refine gx_aload_n_0 ((gx_nil ?_))
  refine m_getR fX10_9 (by decide +kernel) rfl ?_
  refine m_blk [(.iload_n 1, .null)] (Nat.le_of_ble_eq_true rfl) (by decide +kernel) ?_
  refine gx_iload_n_1 ((gx_nil ?_))
  refine m_callS kX10_41 (r_routeAt _) (by decide +kernel) rfl rfl (Nat.le_of_ble_eq_true rfl) (Nat.le_of_ble_eq_true rfl) (Nat.le_of_ble_eq_true rfl) rfl ?_
  try simp only [Option.toList_some, Option.toList_none, List.cons_append, List.nil_append, bI_0, n1_0, n0_0, Decidable.not_not, not_true_eq_false, not_false_eq_true, nI_add, pk_mul, Nat.add_zero, Nat.zero_add, Nat.reduceAdd, Nat.reduceMul]
  refine m_blk [(.iconst 1, .int (nI 1)), (.iadd, .null)] (Nat.le_of_ble_eq_true rfl) (by decide +kernel) ?_
  refine gx_iconst (gx_iadd ((gx_nil ?_)))
  try simp only [nI_add, pk_mul, Nat.add_zero, Nat.zero_add, Nat.reduceAdd, Nat.reduceMul]
  refine m_al (j := 0) rfl (by decide +kernel) (show _ < 202 from by omega) ?_
  refine m_blk [(.aload_n 0, .null)] (Nat.le_of_ble_eq_true rfl) (by decide +kernel) ?_
  refine gx_aload_n_0 ((gx_nil ?_))
  refine m_getR fX10_9 (by decide +kernel) rfl ?_
  refine m_blk [(.iconst 0, .int (nI 0))] (Nat.le_of_ble_eq_true rfl) (by decide +kernel) ?_
  refine gx_iconst ((gx_nil ?_))
  refine m_al (j := 0) rfl (by decide +kernel) (show _ < 202 from by omega) ?_
  refine m_blk [(.isub, .null), (.bipush 23, .int (nI 23)), (.iadd, .null), (.bipush 24, .int (nI 24))] (Nat.le_of_ble_eq_true rfl) (by decide +kernel) ?_
  refine gx_isub (gx_bipush (gx_iadd (gx_bipush ((gx_nil ?_)))))
  try simp only [nI_add, pk_mul, Nat.add_zero, Nat.zero_add, Nat.reduceAdd, Nat.reduceMul]
  refine m_irem (by decide) (by decide +kernel) ?_
  refine m_blk [(.iconst 1, .int (nI 1)), (.iadd, .null)] (Nat.le_of_ble_eq_true rfl) (by decide +kernel) ?_
  refine gx_iconst (gx_iadd ((gx_nil ?_)))
  try simp only [nI_add, pk_mul, Nat.add_zero, Nat.zero_add, Nat.reduceAdd, Nat.reduceMul]
  refine m_end (some (.int _)) rfl ⟨by decide +kernel, _, rfl, rfl⟩ ?_ ?_ ?_
  · rfl
  · rfl
  · rfl
theorem rp_hoursToDeparture (rt : Int32) : mC Γ o ad M_X10_hoursToDeparture [.int rt] V F 4 (some (.int (if rT (bI (nI 0 ≤ rt ∧ rt ≤ nI 5)) (nI 1) (nI 1) = 0 then rHt (F 0) rt else nI 0))) (vU V 13 (rT (bI (nI 0 ≤ rt ∧ rt ≤ nI 5)) (nI 1) (nI 1))) F := by
  refine mC_of (by decide) rfl (Nat.le_of_ble_eq_true rfl) [some (.ref o), some (.int rt)] rfl ?_
  refine m_blk [(.aload_n 0, .null), (.iload_n 1, .null)] (Nat.le_of_ble_eq_true rfl) (by decide +kernel) ?_
  refine gx_aload_n_0 (gx_iload_n_1 ((gx_nil ?_)))
  refine m_callS kX10_74 (r_isRoute _) (by decide +kernel) rfl rfl (Nat.le_of_ble_eq_true rfl) (Nat.le_of_ble_eq_true rfl) (Nat.le_of_ble_eq_true rfl) rfl ?_
  try simp only [Option.toList_some, Option.toList_none, List.cons_append, List.nil_append, bI_0, n1_0, n0_0, Decidable.not_not, not_true_eq_false, not_false_eq_true, nI_add, pk_mul, Nat.add_zero, Nat.zero_add, Nat.reduceAdd, Nat.reduceMul]
  refine m_call kX10_62 (r_goes _) (by decide +kernel) rfl rfl (Nat.le_of_ble_eq_true rfl) (Nat.le_of_ble_eq_true rfl) (Nat.le_of_ble_eq_true rfl) rfl ?_
  try simp only [Option.toList_some, Option.toList_none, List.cons_append, List.nil_append, bI_0, n1_0, n0_0, Decidable.not_not, not_true_eq_false, not_false_eq_true, nI_add, pk_mul, Nat.add_zero, Nat.zero_add, Nat.reduceAdd, Nat.reduceMul]
  refine m_if_eq (off := 11) (tgt := 19) (by decide +kernel) (by decide) (fun c8 => ?_) (fun c8 => ?_)
  · try simp only [bI_0, Decidable.not_not] at c8
    refine m_blk [(.iconst 0, .int (nI 0))] (Nat.le_of_ble_eq_true rfl) (by decide +kernel) ?_
    refine gx_iconst ((gx_nil ?_))
    have hτ : ¬ rT (bI (nI 0 ≤ rt ∧ rt ≤ nI 5)) (nI 1) (nI 1) = 0 := fun z => by
      have z1 := (rT_iff _ _ _).mp z
      simp only [bI_0, n1_0, n0_0, Decidable.not_not, not_true_eq_false, not_false_eq_true, and_true] at z1
      first | exact c8 z1 | exact z1 c8 | simp_all
    refine m_end (some (.int _)) rfl ⟨by decide +kernel, _, rfl, rfl⟩ ?_ ?_ ?_
    · rw [if_neg hτ]
    · rfl
    · rfl
  · try simp only [bI_0, Decidable.not_not] at c8
    refine m_blk [(.aload_n 0, .null), (.iload_n 1, .null)] (Nat.le_of_ble_eq_true rfl) (by decide +kernel) ?_
    refine gx_aload_n_0 (gx_iload_n_1 ((gx_nil ?_)))
    refine m_call kX10_194 (r_hoursTo _) (by decide +kernel) rfl rfl (Nat.le_of_ble_eq_true rfl) (Nat.le_of_ble_eq_true rfl) (Nat.le_of_ble_eq_true rfl) rfl ?_
    try simp only [Option.toList_some, Option.toList_none, List.cons_append, List.nil_append, bI_0, n1_0, n0_0, Decidable.not_not, not_true_eq_false, not_false_eq_true, nI_add, pk_mul, Nat.add_zero, Nat.zero_add, Nat.reduceAdd, Nat.reduceMul]
    refine m_blk [(.goto 4, .retAddr 20)] (Nat.le_of_ble_eq_true rfl) (by decide +kernel) ?_
    refine gx_goto ((gx_nil ?_))
    have hτ : rT (bI (nI 0 ≤ rt ∧ rt ≤ nI 5)) (nI 1) (nI 1) = 0 := (rT_iff _ _ _).mpr (by simp only [bI_0, n1_0, n0_0, Decidable.not_not, not_true_eq_false, not_false_eq_true, and_true]; first | exact c8 | simp_all)
    refine m_end (some (.int _)) rfl ⟨by decide +kernel, _, rfl, rfl⟩ ?_ ?_ ?_
    · rw [if_pos hτ]
      try first | done | rfl | rfl
    · rfl
    · rfl
def tHf (N : Nat → Int32) (id : Int32) (c t : Nat) : Int32 := rT (bI (¬ rPlace N id c = -1)) (bI (¬ rPlace N id c = -1 ∧ ¬ N (62 + 7 * rIdx N id c + 5) = -1 ∧ rWr N (rIdx N id c) t = false)) (nI 1)
theorem r_hoursFor {c : Nat} (hc : c ≤ 20) (h3 : F 0 3 = nI c) {t : Nat} (ht : t ≤ 12) (h4 : F 0 4 = nI t) (id : Int32) : mC Γ o ad M_X10_hoursFor [.int id] V F 4 (some (.int (if tHf (F 0) id c t = 0 then rHt (F 0) (F 0 (62 + 7 * rIdx (F 0) id c + 5)) else nI 0))) (vU V 13 (tHf (F 0) id c t)) F := by
  refine mC_of (by decide) rfl (Nat.le_of_ble_eq_true rfl) [some (.ref o), some (.int id), none] rfl ?_
  refine m_blk [(.aload_n 0, .null), (.iload_n 1, .null)] (Nat.le_of_ble_eq_true rfl) (by decide +kernel) ?_
  refine gx_aload_n_0 (gx_iload_n_1 ((gx_nil ?_)))
  refine m_call kX10_156 (r_isHere hc h3 _) (by decide +kernel) rfl rfl (Nat.le_of_ble_eq_true rfl) (Nat.le_of_ble_eq_true rfl) (Nat.le_of_ble_eq_true rfl) rfl ?_
  try simp only [Option.toList_some, Option.toList_none, List.cons_append, List.nil_append, bI_0, n1_0, n0_0, Decidable.not_not, not_true_eq_false, not_false_eq_true, nI_add, pk_mul, Nat.add_zero, Nat.zero_add, Nat.reduceAdd, Nat.reduceMul]
  refine m_if_eq (off := 29) (tgt := 34) (by decide +kernel) (by decide) (fun c5 => ?_) (fun c5 => ?_)
  · try simp only [bI_0, Decidable.not_not] at c5
    refine m_blk [(.iconst 0, .int (nI 0)), (.istore_n 2, .null), (.aload_n 0, .null), (.aload_n 0, .null), (.iload_n 1, .null)] (Nat.le_of_ble_eq_true rfl) (by decide +kernel) ?_
    refine gx_iconst (gx_istore_n_2 rfl (gx_aload_n_0 (gx_aload_n_0 (gx_iload_n_1 ((gx_nil ?_))))))
    refine m_call kX10_156 (r_isHere hc h3 _) (by decide +kernel) rfl rfl (Nat.le_of_ble_eq_true rfl) (Nat.le_of_ble_eq_true rfl) (Nat.le_of_ble_eq_true rfl) rfl ?_
    try simp only [Option.toList_some, Option.toList_none, List.cons_append, List.nil_append, bI_0, n1_0, n0_0, Decidable.not_not, not_true_eq_false, not_false_eq_true, nI_add, pk_mul, Nat.add_zero, Nat.zero_add, Nat.reduceAdd, Nat.reduceMul]
    refine m_blk [(.iload_n 2, .null), (.iconst 1, .int (nI 1))] (Nat.le_of_ble_eq_true rfl) (by decide +kernel) ?_
    refine gx_iload_n_2 (gx_iconst ((gx_nil ?_)))
    refine m_call kX10_48 (r_holds _ _ _) (by decide +kernel) rfl rfl (Nat.le_of_ble_eq_true rfl) (Nat.le_of_ble_eq_true rfl) (Nat.le_of_ble_eq_true rfl) rfl ?_
    try simp only [Option.toList_some, Option.toList_none, List.cons_append, List.nil_append, bI_0, n1_0, n0_0, Decidable.not_not, not_true_eq_false, not_false_eq_true, nI_add, pk_mul, Nat.add_zero, Nat.zero_add, Nat.reduceAdd, Nat.reduceMul]
    refine m_if_eq (off := 16) (tgt := 63) (by decide +kernel) (by decide) (fun c47 => ?_) (fun c47 => ?_)
    · try simp only [bI_0, Decidable.not_not] at c47
      refine m_blk [(.iconst 0, .int (nI 0))] (Nat.le_of_ble_eq_true rfl) (by decide +kernel) ?_
      refine gx_iconst ((gx_nil ?_))
      have hT : tHf (F 0) id c t = rT (nI 0) (nI 0) (nI 1) := by
        unfold tHf
        rw [bI_f (p := ¬ rPlace (F 0) id c = -1) (fun z => z c5), bI_f (p := ¬ rPlace (F 0) id c = -1 ∧ ¬ F 0 (62 + 7 * rIdx (F 0) id c + 5) = -1 ∧ rWr (F 0) (rIdx (F 0) id c) t = false) (fun z => z.1 c5)]
      have hτ : ¬ tHf (F 0) id c t = 0 := by rw [hT]; decide
      refine m_end (some (.int _)) rfl ⟨by decide +kernel, _, rfl, rfl⟩ ?_ ?_ ?_
      · rw [if_neg hτ]
      · rw [hT, bI_f (p := ¬ rPlace (F 0) id c = -1) (fun z => z c5)]
      · rfl
    · try simp only [bI_0, Decidable.not_not] at c47
      exfalso
      simp_all
  · try simp only [bI_0, Decidable.not_not] at c5
    obtain ⟨p, hp, ep⟩ := rPlace_in.resolve_left c5
    have hix := rIdx_of (by omega) ep
    refine m_blk [(.aload_n 0, .null), (.iload_n 1, .null), (.iconst 5, .int (nI 5))] (Nat.le_of_ble_eq_true rfl) (by decide +kernel) ?_
    refine gx_aload_n_0 (gx_iload_n_1 (gx_iconst ((gx_nil ?_))))
    refine m_call kX10_153 (r_of hc h3 _ 5 (by omega)) (by decide +kernel) rfl rfl (Nat.le_of_ble_eq_true rfl) (Nat.le_of_ble_eq_true rfl) (Nat.le_of_ble_eq_true rfl) rfl ?_
    try simp only [Option.toList_some, Option.toList_none, List.cons_append, List.nil_append, bI_0, n1_0, n0_0, Decidable.not_not, not_true_eq_false, not_false_eq_true, nI_add, pk_mul, Nat.add_zero, Nat.zero_add, Nat.reduceAdd, Nat.reduceMul]
    refine m_blk [(.iconst (-1), .int (-1))] (Nat.le_of_ble_eq_true rfl) (by decide +kernel) ?_
    refine gx_iconst ((gx_nil ?_))
    refine m_icmp_eq (off := 19) (tgt := 34) (by decide +kernel) (by decide) (fun c15 => ?_) (fun c15 => ?_)
    · try simp only [bI_0, Decidable.not_not] at c15
      refine m_blk [(.iconst 0, .int (nI 0)), (.istore_n 2, .null), (.aload_n 0, .null), (.aload_n 0, .null), (.iload_n 1, .null)] (Nat.le_of_ble_eq_true rfl) (by decide +kernel) ?_
      refine gx_iconst (gx_istore_n_2 rfl (gx_aload_n_0 (gx_aload_n_0 (gx_iload_n_1 ((gx_nil ?_))))))
      refine m_call kX10_156 (r_isHere hc h3 _) (by decide +kernel) rfl rfl (Nat.le_of_ble_eq_true rfl) (Nat.le_of_ble_eq_true rfl) (Nat.le_of_ble_eq_true rfl) rfl ?_
      try simp only [Option.toList_some, Option.toList_none, List.cons_append, List.nil_append, bI_0, n1_0, n0_0, Decidable.not_not, not_true_eq_false, not_false_eq_true, nI_add, pk_mul, Nat.add_zero, Nat.zero_add, Nat.reduceAdd, Nat.reduceMul]
      refine m_blk [(.iload_n 2, .null), (.iconst 1, .int (nI 1))] (Nat.le_of_ble_eq_true rfl) (by decide +kernel) ?_
      refine gx_iload_n_2 (gx_iconst ((gx_nil ?_)))
      refine m_call kX10_48 (r_holds _ _ _) (by decide +kernel) rfl rfl (Nat.le_of_ble_eq_true rfl) (Nat.le_of_ble_eq_true rfl) (Nat.le_of_ble_eq_true rfl) rfl ?_
      try simp only [Option.toList_some, Option.toList_none, List.cons_append, List.nil_append, bI_0, n1_0, n0_0, Decidable.not_not, not_true_eq_false, not_false_eq_true, nI_add, pk_mul, Nat.add_zero, Nat.zero_add, Nat.reduceAdd, Nat.reduceMul]
      refine m_if_eq (off := 16) (tgt := 63) (by decide +kernel) (by decide) (fun c47 => ?_) (fun c47 => ?_)
      · try simp only [bI_0, Decidable.not_not] at c47
        refine m_blk [(.iconst 0, .int (nI 0))] (Nat.le_of_ble_eq_true rfl) (by decide +kernel) ?_
        refine gx_iconst ((gx_nil ?_))
        have hT : tHf (F 0) id c t = rT (nI 1) (nI 0) (nI 1) := by
          unfold tHf
          rw [bI_t (p := ¬ rPlace (F 0) id c = -1) c5, bI_f (p := ¬ rPlace (F 0) id c = -1 ∧ ¬ F 0 (62 + 7 * rIdx (F 0) id c + 5) = -1 ∧ rWr (F 0) (rIdx (F 0) id c) t = false) (fun z => z.2.1 c15)]
        have hτ : ¬ tHf (F 0) id c t = 0 := by rw [hT]; decide
        refine m_end (some (.int _)) rfl ⟨by decide +kernel, _, rfl, rfl⟩ ?_ ?_ ?_
        · rw [if_neg hτ]
        · rw [hT, bI_t (p := ¬ rPlace (F 0) id c = -1) c5]
        · rfl
      · try simp only [bI_0, Decidable.not_not] at c47
        exfalso
        simp_all
    · try simp only [bI_0, Decidable.not_not] at c15
      refine m_blk [(.aload_n 0, .null), (.aload_n 0, .null), (.iload_n 1, .null)] (Nat.le_of_ble_eq_true rfl) (by decide +kernel) ?_
      refine gx_aload_n_0 (gx_aload_n_0 (gx_iload_n_1 ((gx_nil ?_))))
      refine m_call kX10_97 (r_placeOf hc h3 _) (by decide +kernel) rfl rfl (Nat.le_of_ble_eq_true rfl) (Nat.le_of_ble_eq_true rfl) (Nat.le_of_ble_eq_true rfl) rfl ?_
      refine m_top ep ?_
      try simp only [Option.toList_some, List.cons_append, List.nil_append]
      refine m_call kX10_182 (r_isWrong ht h4 p (by omega)) (by decide +kernel) rfl rfl (Nat.le_of_ble_eq_true rfl) (Nat.le_of_ble_eq_true rfl) (Nat.le_of_ble_eq_true rfl) rfl ?_
      try simp only [Option.toList_some, Option.toList_none, List.cons_append, List.nil_append, bI_0, n1_0, n0_0, Decidable.not_not, not_true_eq_false, not_false_eq_true, nI_add, pk_mul, Nat.add_zero, Nat.zero_add, Nat.reduceAdd, Nat.reduceMul]
      refine m_if_ne (off := 7) (tgt := 34) (by decide +kernel) (by decide) (fun c27 => ?_) (fun c27 => ?_)
      · try simp only [bI_0, Decidable.not_not] at c27
        refine m_blk [(.iconst 0, .int (nI 0)), (.istore_n 2, .null), (.aload_n 0, .null), (.aload_n 0, .null), (.iload_n 1, .null)] (Nat.le_of_ble_eq_true rfl) (by decide +kernel) ?_
        refine gx_iconst (gx_istore_n_2 rfl (gx_aload_n_0 (gx_aload_n_0 (gx_iload_n_1 ((gx_nil ?_))))))
        refine m_call kX10_156 (r_isHere hc h3 _) (by decide +kernel) rfl rfl (Nat.le_of_ble_eq_true rfl) (Nat.le_of_ble_eq_true rfl) (Nat.le_of_ble_eq_true rfl) rfl ?_
        try simp only [Option.toList_some, Option.toList_none, List.cons_append, List.nil_append, bI_0, n1_0, n0_0, Decidable.not_not, not_true_eq_false, not_false_eq_true, nI_add, pk_mul, Nat.add_zero, Nat.zero_add, Nat.reduceAdd, Nat.reduceMul]
        refine m_blk [(.iload_n 2, .null), (.iconst 1, .int (nI 1))] (Nat.le_of_ble_eq_true rfl) (by decide +kernel) ?_
        refine gx_iload_n_2 (gx_iconst ((gx_nil ?_)))
        refine m_call kX10_48 (r_holds _ _ _) (by decide +kernel) rfl rfl (Nat.le_of_ble_eq_true rfl) (Nat.le_of_ble_eq_true rfl) (Nat.le_of_ble_eq_true rfl) rfl ?_
        try simp only [Option.toList_some, Option.toList_none, List.cons_append, List.nil_append, bI_0, n1_0, n0_0, Decidable.not_not, not_true_eq_false, not_false_eq_true, nI_add, pk_mul, Nat.add_zero, Nat.zero_add, Nat.reduceAdd, Nat.reduceMul]
        refine m_if_eq (off := 16) (tgt := 63) (by decide +kernel) (by decide) (fun c47 => ?_) (fun c47 => ?_)
        · try simp only [bI_0, Decidable.not_not] at c47
          refine m_blk [(.iconst 0, .int (nI 0))] (Nat.le_of_ble_eq_true rfl) (by decide +kernel) ?_
          refine gx_iconst ((gx_nil ?_))
          have hT : tHf (F 0) id c t = rT (nI 1) (nI 0) (nI 1) := by
            unfold tHf
            rw [bI_t (p := ¬ rPlace (F 0) id c = -1) c5, bI_f (p := ¬ rPlace (F 0) id c = -1 ∧ ¬ F 0 (62 + 7 * rIdx (F 0) id c + 5) = -1 ∧ rWr (F 0) (rIdx (F 0) id c) t = false) (fun z => absurd c27 (by rw [← hix, z.2.2]; decide))]
          have hτ : ¬ tHf (F 0) id c t = 0 := by rw [hT]; decide
          refine m_end (some (.int _)) rfl ⟨by decide +kernel, _, rfl, rfl⟩ ?_ ?_ ?_
          · rw [if_neg hτ]
          · rw [hT, bI_t (p := ¬ rPlace (F 0) id c = -1) c5]
          · rfl
        · try simp only [bI_0, Decidable.not_not] at c47
          exfalso
          simp_all
      · try simp only [bI_0, Decidable.not_not] at c27
        refine m_blk [(.iconst 1, .int (nI 1)), (.goto 4, .retAddr 35), (.istore_n 2, .null), (.aload_n 0, .null), (.aload_n 0, .null), (.iload_n 1, .null)] (Nat.le_of_ble_eq_true rfl) (by decide +kernel) ?_
        refine gx_iconst (gx_goto (gx_istore_n_2 rfl (gx_aload_n_0 (gx_aload_n_0 (gx_iload_n_1 ((gx_nil ?_)))))))
        refine m_call kX10_156 (r_isHere hc h3 _) (by decide +kernel) rfl rfl (Nat.le_of_ble_eq_true rfl) (Nat.le_of_ble_eq_true rfl) (Nat.le_of_ble_eq_true rfl) rfl ?_
        try simp only [Option.toList_some, Option.toList_none, List.cons_append, List.nil_append, bI_0, n1_0, n0_0, Decidable.not_not, not_true_eq_false, not_false_eq_true, nI_add, pk_mul, Nat.add_zero, Nat.zero_add, Nat.reduceAdd, Nat.reduceMul]
        refine m_blk [(.iload_n 2, .null), (.iconst 1, .int (nI 1))] (Nat.le_of_ble_eq_true rfl) (by decide +kernel) ?_
        refine gx_iload_n_2 (gx_iconst ((gx_nil ?_)))
        refine m_call kX10_48 (r_holds _ _ _) (by decide +kernel) rfl rfl (Nat.le_of_ble_eq_true rfl) (Nat.le_of_ble_eq_true rfl) (Nat.le_of_ble_eq_true rfl) rfl ?_
        try simp only [Option.toList_some, Option.toList_none, List.cons_append, List.nil_append, bI_0, n1_0, n0_0, Decidable.not_not, not_true_eq_false, not_false_eq_true, nI_add, pk_mul, Nat.add_zero, Nat.zero_add, Nat.reduceAdd, Nat.reduceMul]
        refine m_if_eq (off := 16) (tgt := 63) (by decide +kernel) (by decide) (fun c47 => ?_) (fun c47 => ?_)
        · try simp only [bI_0, Decidable.not_not] at c47
          exfalso
          simp_all
        · try simp only [bI_0, Decidable.not_not] at c47
          refine m_blk [(.aload_n 0, .null), (.aload_n 0, .null), (.iload_n 1, .null), (.iconst 5, .int (nI 5))] (Nat.le_of_ble_eq_true rfl) (by decide +kernel) ?_
          refine gx_aload_n_0 (gx_aload_n_0 (gx_iload_n_1 (gx_iconst ((gx_nil ?_)))))
          refine m_call kX10_153 (r_of hc h3 _ 5 (by omega)) (by decide +kernel) rfl rfl (Nat.le_of_ble_eq_true rfl) (Nat.le_of_ble_eq_true rfl) (Nat.le_of_ble_eq_true rfl) rfl ?_
          try simp only [Option.toList_some, Option.toList_none, List.cons_append, List.nil_append, bI_0, n1_0, n0_0, Decidable.not_not, not_true_eq_false, not_false_eq_true, nI_add, pk_mul, Nat.add_zero, Nat.zero_add, Nat.reduceAdd, Nat.reduceMul]
          refine m_call kX10_194 (r_hoursTo _) (by decide +kernel) rfl rfl (Nat.le_of_ble_eq_true rfl) (Nat.le_of_ble_eq_true rfl) (Nat.le_of_ble_eq_true rfl) rfl ?_
          try simp only [Option.toList_some, Option.toList_none, List.cons_append, List.nil_append, bI_0, n1_0, n0_0, Decidable.not_not, not_true_eq_false, not_false_eq_true, nI_add, pk_mul, Nat.add_zero, Nat.zero_add, Nat.reduceAdd, Nat.reduceMul]
          refine m_blk [(.goto 4, .retAddr 64)] (Nat.le_of_ble_eq_true rfl) (by decide +kernel) ?_
          refine gx_goto ((gx_nil ?_))
          have hT : tHf (F 0) id c t = rT (nI 1) (nI 1) (nI 1) := by
            unfold tHf
            rw [bI_t (p := ¬ rPlace (F 0) id c = -1) c5, bI_t (p := ¬ rPlace (F 0) id c = -1 ∧ ¬ F 0 (62 + 7 * rIdx (F 0) id c + 5) = -1 ∧ rWr (F 0) (rIdx (F 0) id c) t = false) ⟨c5, c15, by rw [hix]; exact Bool.eq_false_iff.mpr c27⟩]
          have hτ : tHf (F 0) id c t = 0 := by rw [hT]; decide
          refine m_end (some (.int _)) rfl ⟨by decide +kernel, _, rfl, rfl⟩ ?_ ?_ ?_
          · rw [if_pos hτ]
          · rw [hT, bI_t (p := ¬ rPlace (F 0) id c = -1) c5]
          · rfl
theorem rp_hoursToDelivery {c : Nat} (hc : c ≤ 20) (h3 : F 0 3 = nI c) {t : Nat} (ht : t ≤ 12) (h4 : F 0 4 = nI t) (id : Int32) : mC Γ o ad M_X10_hoursToDelivery [.int id] V F 5 (some (.int (if tHf (F 0) id c t = 0 then rHt (F 0) (F 0 (62 + 7 * rIdx (F 0) id c + 5)) else nI 0))) (vU V 13 (tHf (F 0) id c t)) (F) := by
  refine mC_of (by decide) rfl (Nat.le_of_ble_eq_true rfl) [some (.ref o), some (.int id)] rfl ?_
  refine m_blk [(.aload_n 0, .null), (.iload_n 1, .null)] (Nat.le_of_ble_eq_true rfl) (by decide +kernel) ?_
  refine gx_aload_n_0 (gx_iload_n_1 ((gx_nil ?_)))
  refine m_call kX10_197 (r_hoursFor hc h3 ht h4 _) (by decide +kernel) rfl rfl (Nat.le_of_ble_eq_true rfl) (Nat.le_of_ble_eq_true rfl) (Nat.le_of_ble_eq_true rfl) rfl ?_
  try simp only [Option.toList_some, Option.toList_none, List.cons_append, List.nil_append, bI_0, n1_0, n0_0, Decidable.not_not, not_true_eq_false, not_false_eq_true, nI_add, pk_mul, Nat.add_zero, Nat.zero_add, Nat.reduceAdd, Nat.reduceMul]
  refine m_end (some (.int _)) rfl ⟨by decide +kernel, _, rfl, rfl⟩ ?_ ?_ ?_
  · rfl
  · rfl
  · rfl
theorem rp_hoursToDeliveryByHours {c : Nat} (hc : c ≤ 20) (h3 : F 0 3 = nI c) {t : Nat} (ht : t ≤ 12) (h4 : F 0 4 = nI t) (id : Int32) : mC Γ o ad M_X10_hoursToDeliveryByHours [.int id] V F 5 (some (.int (if tHf (F 0) id c t = 0 then rHt (F 0) (F 0 (62 + 7 * rIdx (F 0) id c + 5)) else nI 0))) (vU V 13 (tHf (F 0) id c t)) (F) := by
  refine mC_of (by decide) rfl (Nat.le_of_ble_eq_true rfl) [some (.ref o), some (.int id)] rfl ?_
  refine m_blk [(.aload_n 0, .null), (.iload_n 1, .null)] (Nat.le_of_ble_eq_true rfl) (by decide +kernel) ?_
  refine gx_aload_n_0 (gx_iload_n_1 ((gx_nil ?_)))
  refine m_call kX10_197 (r_hoursFor hc h3 ht h4 _) (by decide +kernel) rfl rfl (Nat.le_of_ble_eq_true rfl) (Nat.le_of_ble_eq_true rfl) (Nat.le_of_ble_eq_true rfl) rfl ?_
  try simp only [Option.toList_some, Option.toList_none, List.cons_append, List.nil_append, bI_0, n1_0, n0_0, Decidable.not_not, not_true_eq_false, not_false_eq_true, nI_add, pk_mul, Nat.add_zero, Nat.zero_add, Nat.reduceAdd, Nat.reduceMul]
  refine m_end (some (.int _)) rfl ⟨by decide +kernel, _, rfl, rfl⟩ ?_ ?_ ?_
  · rfl
  · rfl
  · rfl
def rMs (N : Nat → Int32) (t : Nat) : Nat → Int32
  | 0 => nI 0
  | i + 1 => rMs N t i + bI (rWr N i t = true)
theorem rp_missortedCount {c : Nat} (hc : c ≤ 20) (h3 : F 0 3 = nI c) {t : Nat} (ht : t ≤ 12) (h4 : F 0 4 = nI t) : mC Γ o ad M_X10_missortedCount [] V F 4 (some (.int (rMs (F 0) t c))) (vU V 13 (nI 0)) F := by
  have loop : ∀ n i, i ≤ c → c < i + n → mG Γ o ad M_X10_missortedCount 4 (some (.int (rMs (F 0) t c))) (vU V 13 (nI 0)) F 9 [some (.ref o), some (.int (rMs (F 0) t i)), some (.int (nI i))] [] (vU V 13 (nI 0)) F := by
    intro n
    induction n with
    | zero => intro i h1 h2; omega
    | succ n ih =>
      intro i hi hn
      refine m_blk [(.iload_n 2, .null), (.aload_n 0, .null)] (Nat.le_of_ble_eq_true rfl) (by decide +kernel) ?_
      refine gx_iload_n_2 (gx_aload_n_0 ((gx_nil ?_)))
      refine m_getR fX10_9 (by decide +kernel) rfl ?_
      refine m_blk [(.iconst 3, .int (nI 3))] (Nat.le_of_ble_eq_true rfl) (by decide +kernel) ?_
      refine gx_iconst ((gx_nil ?_))
      refine m_al (j := 0) rfl (by decide +kernel) (show _ < 202 from by omega) ?_
      refine m_icmp_ge (off := 25) (tgt := 41) (by decide +kernel) (by decide) (fun c16 => ?_) (fun c16 => ?_)
      · try simp only [bI_0, Decidable.not_not] at c16
        have hic : i = c := by
          rw [h3] at c16
          have := (nI_leI (by omega) (by omega)).mp c16
          omega
        subst hic
        refine m_blk [(.iload_n 1, .null)] (Nat.le_of_ble_eq_true rfl) (by decide +kernel) ?_
        refine gx_iload_n_1 ((gx_nil ?_))
        refine m_end (some (.int _)) rfl ⟨by decide +kernel, _, rfl, rfl⟩ ?_ ?_ ?_
        · rfl
        · rfl
        · rfl
      · try simp only [bI_0, Decidable.not_not] at c16
        have hic : i < c := by
          rcases Nat.lt_or_ge i c with q | q
          · exact q
          · exact absurd (by rw [h3]; exact nI_le q (by omega)) c16
        refine m_blk [(.iload_n 1, .null), (.aload_n 0, .null), (.iload_n 2, .null)] (Nat.le_of_ble_eq_true rfl) (by decide +kernel) ?_
        refine gx_iload_n_1 (gx_aload_n_0 (gx_iload_n_2 ((gx_nil ?_))))
        refine m_call kX10_182 (r_isWrong ht h4 i (by omega)) (by decide +kernel) rfl rfl (Nat.le_of_ble_eq_true rfl) (Nat.le_of_ble_eq_true rfl) (Nat.le_of_ble_eq_true rfl) rfl ?_
        try simp only [Option.toList_some, Option.toList_none, List.cons_append, List.nil_append, bI_0, n1_0, n0_0, Decidable.not_not, not_true_eq_false, not_false_eq_true, nI_add, pk_mul, Nat.add_zero, Nat.zero_add, Nat.reduceAdd, Nat.reduceMul]
        refine m_if_eq (off := 7) (tgt := 32) (by decide +kernel) (by decide) (fun c25 => ?_) (fun c25 => ?_)
        · try simp only [bI_0, Decidable.not_not] at c25
          refine m_blk [(.iconst 0, .int (nI 0)), (.iadd, .null), (.istore_n 1, .null), (.iinc 2 1, .int (nI 1)), (.goto (-29), .retAddr 9)] (Nat.le_of_ble_eq_true rfl) (by decide +kernel) ?_
          refine gx_iconst (gx_iadd (gx_istore_n_1 rfl (gx_iinc_2 rfl (gx_goto ((gx_nil ?_))))))
          try simp only [nI_add, pk_mul, Nat.add_zero, Nat.zero_add, Nat.reduceAdd, Nat.reduceMul]
          have e9 := ih (i + 1) (by omega) (by omega)
          rw [show rMs (F 0) t (i + 1) = rMs (F 0) t i + nI 0 by show _ + _ = _; rw [bI_f c25]] at e9
          exact m_weak (by simp [gLe]) e9
        · try simp only [bI_0, Decidable.not_not] at c25
          refine m_blk [(.iconst 1, .int (nI 1)), (.goto 4, .retAddr 33), (.iadd, .null), (.istore_n 1, .null), (.iinc 2 1, .int (nI 1)), (.goto (-29), .retAddr 9)] (Nat.le_of_ble_eq_true rfl) (by decide +kernel) ?_
          refine gx_iconst (gx_goto (gx_iadd (gx_istore_n_1 rfl (gx_iinc_2 rfl (gx_goto ((gx_nil ?_)))))))
          try simp only [nI_add, pk_mul, Nat.add_zero, Nat.zero_add, Nat.reduceAdd, Nat.reduceMul]
          have e9 := ih (i + 1) (by omega) (by omega)
          rw [show rMs (F 0) t (i + 1) = rMs (F 0) t i + nI 1 by show _ + _ = _; rw [bI_t c25]] at e9
          exact m_weak (by simp [gLe]) e9
  refine mC_of (by decide) rfl (Nat.le_of_ble_eq_true rfl) [some (.ref o), none, none] rfl ?_
  refine m_blk [(.aload_n 0, .null), (.iconst 0, .int (nI 0))] (Nat.le_of_ble_eq_true rfl) (by decide +kernel) ?_
  refine gx_aload_n_0 (gx_iconst ((gx_nil ?_)))
  refine m_putI fX10_45 (by decide +kernel) rfl (by decide) rfl rfl ?_
  refine m_blk [(.iconst 0, .int (nI 0)), (.istore_n 1, .null), (.iconst 0, .int (nI 0)), (.istore_n 2, .null)] (Nat.le_of_ble_eq_true rfl) (by decide +kernel) ?_
  refine gx_iconst (gx_istore_n_1 rfl (gx_iconst (gx_istore_n_2 rfl ((gx_nil ?_)))))
  exact loop (c + 1) 0 (Nat.zero_le _) (by omega)
end S24ref15leantxt
