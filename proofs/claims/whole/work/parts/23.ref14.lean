section S23ref14leantxt
variable {Γ : gE} {o : Nat} {ad : Nat → Nat} {V : Nat → Int32} {F : Nat → Nat → Int32}
def rTr (N : Nat → Int32) (p : Int32) (c : Nat) : Nat → Int32 × Int32
  | 0 => (p, -1)
  | k + 1 => if N (62 + 7 * (k % c) + 5) = -1 ∧ N (62 + 7 * (k % c) + 3) = (if k < c then nI 1 else nI 0) then ((rTr N p c k).1 + -1, if (rTr N p c k).1 = 0 then N (62 + 7 * (k % c)) else (rTr N p c k).2) else rTr N p c k
theorem rTr_s {N : Nat → Int32} {p : Int32} {c k : Nat} : rTr N p c (k + 1) = if N (62 + 7 * (k % c) + 5) = -1 ∧ N (62 + 7 * (k % c) + 3) = (if k < c then nI 1 else nI 0) then ((rTr N p c k).1 + -1, if (rTr N p c k).1 = 0 then N (62 + 7 * (k % c)) else (rTr N p c k).2) else rTr N p c k := rfl
theorem rp_trayAt {c : Nat} (hc : c ≤ 20) (h3 : F 0 3 = nI c) (p : Int32) : mC Γ o ad M_X10_trayAt [.int p] V F 2 (some (.int (if rT (bI (¬ (rTr (F 0) p c (2 * c)).2 = -1)) (nI 1) (nI 1) = 0 then (rTr (F 0) p c (2 * c)).2 else nI 0))) (vU V 13 (rT (bI (¬ (rTr (F 0) p c (2 * c)).2 = -1)) (nI 1) (nI 1))) F := by
  have loop : ∀ n k, k ≤ 2 * c → 2 * c < k + n → mG Γ o ad M_X10_trayAt 2 (some (.int (if rT (bI (¬ (rTr (F 0) p c (2 * c)).2 = -1)) (nI 1) (nI 1) = 0 then (rTr (F 0) p c (2 * c)).2 else nI 0))) (vU V 13 (rT (bI (¬ (rTr (F 0) p c (2 * c)).2 = -1)) (nI 1) (nI 1))) F 7 [some (.ref o), some (.int p), some (.int (rTr (F 0) p c k).1), some (.int (rTr (F 0) p c k).2), some (.int (nI k)), none] [] V F := by
    intro n
    induction n with
    | zero => intro k h1 h2; omega
    | succ n ih =>
      intro k hk hn
      refine m_blk [(.iload 4, .null), (.iconst 2, .int (nI 2)), (.aload_n 0, .null)] (Nat.le_of_ble_eq_true rfl) (by decide +kernel) ?_
      refine gx_iload_4 (gx_iconst (gx_aload_n_0 ((gx_nil ?_))))
      refine m_getR fX10_9 (by decide +kernel) rfl ?_
      refine m_blk [(.iconst 3, .int (nI 3))] (Nat.le_of_ble_eq_true rfl) (by decide +kernel) ?_
      refine gx_iconst ((gx_nil ?_))
      refine m_al (j := 0) rfl (by decide +kernel) (show _ < 202 from by omega) ?_
      refine m_blk [(.imul, .null)] (Nat.le_of_ble_eq_true rfl) (by decide +kernel) ?_
      refine gx_imul ((gx_nil ?_))
      try simp only [nI_add, pk_mul, Nat.add_zero, Nat.zero_add, Nat.reduceAdd, Nat.reduceMul]
      refine m_icmp_ge (off := 85) (tgt := 102) (by decide +kernel) (by decide) (fun c17 => ?_) (fun c17 => ?_)
      · try simp only [bI_0, Decidable.not_not] at c17
        have hic : k = 2 * c := by
          rw [h3, pk_mul] at c17
          have := (nI_leI (by omega) (by omega)).mp c17
          omega
        subst hic
        refine m_blk [(.aload_n 0, .null), (.iload_n 3, .null), (.iconst (-1), .int (-1))] (Nat.le_of_ble_eq_true rfl) (by decide +kernel) ?_
        refine gx_aload_n_0 (gx_iload_n_3 (gx_iconst ((gx_nil ?_))))
        refine m_icmp_eq (off := 7) (tgt := 112) (by decide +kernel) (by decide) (fun c105 => ?_) (fun c105 => ?_)
        · try simp only [bI_0, Decidable.not_not] at c105
          refine m_blk [(.iconst 0, .int (nI 0))] (Nat.le_of_ble_eq_true rfl) (by decide +kernel) ?_
          refine gx_iconst ((gx_nil ?_))
          refine m_call kX10_62 (r_goes _) (by decide +kernel) rfl rfl (Nat.le_of_ble_eq_true rfl) (Nat.le_of_ble_eq_true rfl) (Nat.le_of_ble_eq_true rfl) rfl ?_
          rw [show bI (¬ nI 0 = 0) = nI 0 from by decide]
          simp only [Option.toList_some, List.cons_append, List.nil_append]
          refine m_if_eq (off := 7) (tgt := 123) (by decide +kernel) (by decide) (fun c116 => ?_) (fun c116 => ?_)
          · try simp only [bI_0, Decidable.not_not] at c116
            refine m_blk [(.iconst 0, .int (nI 0))] (Nat.le_of_ble_eq_true rfl) (by decide +kernel) ?_
            refine gx_iconst ((gx_nil ?_))
            rw [bI_f (p := ¬ (rTr (F 0) p c (2 * c)).2 = -1) (fun z => z c105)]
            have hτ : ¬ rT (nI 0) (nI 1) (nI 1) = 0 := by decide
            refine m_end (some (.int _)) rfl ⟨by decide +kernel, _, rfl, rfl⟩ ?_ ?_ ?_
            · rw [if_neg hτ]
            · rfl
            · rfl
          · exact absurd (by decide) c116
        · try simp only [bI_0, Decidable.not_not] at c105
          refine m_blk [(.iconst 1, .int (nI 1)), (.goto 4, .retAddr 113)] (Nat.le_of_ble_eq_true rfl) (by decide +kernel) ?_
          refine gx_iconst (gx_goto ((gx_nil ?_)))
          refine m_call kX10_62 (r_goes _) (by decide +kernel) rfl rfl (Nat.le_of_ble_eq_true rfl) (Nat.le_of_ble_eq_true rfl) (Nat.le_of_ble_eq_true rfl) rfl ?_
          rw [show bI (¬ nI 1 = 0) = nI 1 from by decide]
          simp only [Option.toList_some, List.cons_append, List.nil_append]
          refine m_if_eq (off := 7) (tgt := 123) (by decide +kernel) (by decide) (fun c116 => ?_) (fun c116 => ?_)
          · exact absurd c116 (by decide)
          · try simp only [bI_0, Decidable.not_not] at c116
            refine m_blk [(.iload_n 3, .null), (.goto 4, .retAddr 124)] (Nat.le_of_ble_eq_true rfl) (by decide +kernel) ?_
            refine gx_iload_n_3 (gx_goto ((gx_nil ?_)))
            rw [bI_t (p := ¬ (rTr (F 0) p c (2 * c)).2 = -1) c105]
            have hτ : rT (nI 1) (nI 1) (nI 1) = 0 := by decide
            refine m_end (some (.int _)) rfl ⟨by decide +kernel, _, rfl, rfl⟩ ?_ ?_ ?_
            · rw [if_pos hτ]
              try first | done | rfl | rfl
            · rfl
            · rfl
      · try simp only [bI_0, Decidable.not_not] at c17
        have hic : k < 2 * c := by
          rcases Nat.lt_or_ge k (2 * c) with q | q
          · exact q
          · exact absurd (by rw [h3, pk_mul]; exact nI_le q (by omega)) c17
        have hmod : k % c < 20 := Nat.lt_of_lt_of_le (Nat.mod_lt _ (by omega)) hc
        refine m_blk [(.iload 4, .null), (.aload_n 0, .null)] (Nat.le_of_ble_eq_true rfl) (by decide +kernel) ?_
        refine gx_iload_4 (gx_aload_n_0 ((gx_nil ?_)))
        refine m_getR fX10_9 (by decide +kernel) rfl ?_
        refine m_blk [(.iconst 3, .int (nI 3))] (Nat.le_of_ble_eq_true rfl) (by decide +kernel) ?_
        refine gx_iconst ((gx_nil ?_))
        refine m_al (j := 0) rfl (by decide +kernel) (show _ < 202 from by omega) ?_
        refine m_irem (by rw [h3]; exact nI_ne0 (by omega) (by omega)) (by decide +kernel) ?_
        refine m_top (show _ = nI (k % c) by rw [h3, pk_rem (by omega) (by omega) (by omega)]) ?_
        refine m_callS kX10_94 (r_letterAt _) (by decide +kernel) rfl rfl (Nat.le_of_ble_eq_true rfl) (Nat.le_of_ble_eq_true rfl) (Nat.le_of_ble_eq_true rfl) rfl ?_
        try simp only [Option.toList_some, Option.toList_none, List.cons_append, List.nil_append, bI_0, n1_0, n0_0, Decidable.not_not, not_true_eq_false, not_false_eq_true, nI_add, pk_mul, Nat.add_zero, Nat.zero_add, Nat.reduceAdd, Nat.reduceMul]
        refine m_blk [(.istore 5, .null), (.aload_n 0, .null)] (Nat.le_of_ble_eq_true rfl) (by decide +kernel) ?_
        refine gx_istore_5 rfl (gx_aload_n_0 ((gx_nil ?_)))
        refine m_getR fX10_9 (by decide +kernel) rfl ?_
        refine m_blk [(.iload 5, .null), (.iconst 5, .int (nI 5)), (.iadd, .null)] (Nat.le_of_ble_eq_true rfl) (by decide +kernel) ?_
        refine gx_iload_5 (gx_iconst (gx_iadd ((gx_nil ?_))))
        try simp only [nI_add, pk_mul, Nat.add_zero, Nat.zero_add, Nat.reduceAdd, Nat.reduceMul]
        refine m_al (j := 0) rfl (by decide +kernel) (show _ < 202 from by omega) ?_
        refine m_blk [(.iconst (-1), .int (-1))] (Nat.le_of_ble_eq_true rfl) (by decide +kernel) ?_
        refine gx_iconst ((gx_nil ?_))
        refine m_icmp_ne (off := 52) (tgt := 96) (by decide +kernel) (by decide) (fun c44 => ?_) (fun c44 => ?_)
        · try simp only [bI_0, Decidable.not_not] at c44
          refine m_blk [(.iinc 4 1, .int (nI 1)), (.goto (-92), .retAddr 7)] (Nat.le_of_ble_eq_true rfl) (by decide +kernel) ?_
          refine gx_iinc_4 rfl (gx_goto ((gx_nil ?_)))
          try simp only [nI_add, pk_mul, Nat.add_zero, Nat.zero_add, Nat.reduceAdd, Nat.reduceMul]
          have e9 := ih (k + 1) (by omega) (by omega)
          rw [show rTr (F 0) p c (k + 1) = rTr (F 0) p c k by rw [rTr_s]; exact if_neg (fun z => c44 z.1)] at e9
          exact m_weak (by simp [gLe]) e9
        · try simp only [bI_0, Decidable.not_not] at c44
          refine m_blk [(.aload_n 0, .null)] (Nat.le_of_ble_eq_true rfl) (by decide +kernel) ?_
          refine gx_aload_n_0 ((gx_nil ?_))
          refine m_getR fX10_9 (by decide +kernel) rfl ?_
          refine m_blk [(.iload 5, .null), (.iconst 3, .int (nI 3)), (.iadd, .null)] (Nat.le_of_ble_eq_true rfl) (by decide +kernel) ?_
          refine gx_iload_5 (gx_iconst (gx_iadd ((gx_nil ?_))))
          try simp only [nI_add, pk_mul, Nat.add_zero, Nat.zero_add, Nat.reduceAdd, Nat.reduceMul]
          refine m_al (j := 0) rfl (by decide +kernel) (show _ < 202 from by omega) ?_
          refine m_blk [(.iload 4, .null), (.aload_n 0, .null)] (Nat.le_of_ble_eq_true rfl) (by decide +kernel) ?_
          refine gx_iload_4 (gx_aload_n_0 ((gx_nil ?_)))
          refine m_getR fX10_9 (by decide +kernel) rfl ?_
          refine m_blk [(.iconst 3, .int (nI 3))] (Nat.le_of_ble_eq_true rfl) (by decide +kernel) ?_
          refine gx_iconst ((gx_nil ?_))
          refine m_al (j := 0) rfl (by decide +kernel) (show _ < 202 from by omega) ?_
          refine m_icmp_ge (off := 7) (tgt := 71) (by decide +kernel) (by decide) (fun c64 => ?_) (fun c64 => ?_)
          · try simp only [bI_0, Decidable.not_not] at c64
            refine m_blk [(.iconst 0, .int (nI 0))] (Nat.le_of_ble_eq_true rfl) (by decide +kernel) ?_
            refine gx_iconst ((gx_nil ?_))
            refine m_icmp_ne (off := 24) (tgt := 96) (by decide +kernel) (by decide) (fun c72 => ?_) (fun c72 => ?_)
            · try simp only [bI_0, Decidable.not_not] at c72
              refine m_blk [(.iinc 4 1, .int (nI 1)), (.goto (-92), .retAddr 7)] (Nat.le_of_ble_eq_true rfl) (by decide +kernel) ?_
              refine gx_iinc_4 rfl (gx_goto ((gx_nil ?_)))
              try simp only [nI_add, pk_mul, Nat.add_zero, Nat.zero_add, Nat.reduceAdd, Nat.reduceMul]
              have e9 := ih (k + 1) (by omega) (by omega)
              have hq : ¬ k < c := fun q => absurd c64 (by rw [h3]; exact nI_ge q (by omega))
              rw [show rTr (F 0) p c (k + 1) = rTr (F 0) p c k by rw [rTr_s]; exact if_neg (fun z => c72 (z.2.trans (if_neg hq)))] at e9
              exact m_weak (by simp [gLe]) e9
            · try simp only [bI_0, Decidable.not_not] at c72
              refine m_blk [(.iload_n 2, .null)] (Nat.le_of_ble_eq_true rfl) (by decide +kernel) ?_
              refine gx_iload_n_2 ((gx_nil ?_))
              refine m_if_ne (off := 15) (tgt := 91) (by decide +kernel) (by decide) (fun c76 => ?_) (fun c76 => ?_)
              · try simp only [bI_0, Decidable.not_not] at c76
                refine m_blk [(.iload_n 3, .null), (.istore_n 3, .null), (.iinc 2 (-1), .int (-1)), (.iinc 4 1, .int (nI 1)), (.goto (-92), .retAddr 7)] (Nat.le_of_ble_eq_true rfl) (by decide +kernel) ?_
                refine gx_iload_n_3 (gx_istore_n_3 rfl (gx_iinc_2 rfl (gx_iinc_4 rfl (gx_goto ((gx_nil ?_))))))
                try simp only [nI_add, pk_mul, Nat.add_zero, Nat.zero_add, Nat.reduceAdd, Nat.reduceMul]
                have e9 := ih (k + 1) (by omega) (by omega)
                have hq : ¬ k < c := fun q => absurd c64 (by rw [h3]; exact nI_ge q (by omega))
                rw [show rTr (F 0) p c (k + 1) = ((rTr (F 0) p c k).1 + -1, (rTr (F 0) p c k).2) by rw [rTr_s, if_pos ⟨c44, c72.trans (if_neg hq).symm⟩, if_neg c76]] at e9
                exact m_weak (by simp [gLe]) e9
              · try simp only [bI_0, Decidable.not_not] at c76
                refine m_blk [(.aload_n 0, .null)] (Nat.le_of_ble_eq_true rfl) (by decide +kernel) ?_
                refine gx_aload_n_0 ((gx_nil ?_))
                refine m_getR fX10_9 (by decide +kernel) rfl ?_
                refine m_blk [(.iload 5, .null), (.iconst 0, .int (nI 0)), (.iadd, .null)] (Nat.le_of_ble_eq_true rfl) (by decide +kernel) ?_
                refine gx_iload_5 (gx_iconst (gx_iadd ((gx_nil ?_))))
                try simp only [nI_add, pk_mul, Nat.add_zero, Nat.zero_add, Nat.reduceAdd, Nat.reduceMul]
                refine m_al (j := 0) rfl (by decide +kernel) (show _ < 202 from by omega) ?_
                refine m_blk [(.goto 4, .retAddr 92), (.istore_n 3, .null), (.iinc 2 (-1), .int (-1)), (.iinc 4 1, .int (nI 1)), (.goto (-92), .retAddr 7)] (Nat.le_of_ble_eq_true rfl) (by decide +kernel) ?_
                refine gx_goto (gx_istore_n_3 rfl (gx_iinc_2 rfl (gx_iinc_4 rfl (gx_goto ((gx_nil ?_))))))
                try simp only [nI_add, pk_mul, Nat.add_zero, Nat.zero_add, Nat.reduceAdd, Nat.reduceMul]
                have e9 := ih (k + 1) (by omega) (by omega)
                have hq : ¬ k < c := fun q => absurd c64 (by rw [h3]; exact nI_ge q (by omega))
                rw [show rTr (F 0) p c (k + 1) = ((rTr (F 0) p c k).1 + -1, F 0 (62 + 7 * (k % c))) by rw [rTr_s, if_pos ⟨c44, c72.trans (if_neg hq).symm⟩, if_pos c76]] at e9
                exact m_weak (by simp [gLe]) e9
          · try simp only [bI_0, Decidable.not_not] at c64
            refine m_blk [(.iconst 1, .int (nI 1)), (.goto 4, .retAddr 72)] (Nat.le_of_ble_eq_true rfl) (by decide +kernel) ?_
            refine gx_iconst (gx_goto ((gx_nil ?_)))
            refine m_icmp_ne (off := 24) (tgt := 96) (by decide +kernel) (by decide) (fun c72 => ?_) (fun c72 => ?_)
            · try simp only [bI_0, Decidable.not_not] at c72
              refine m_blk [(.iinc 4 1, .int (nI 1)), (.goto (-92), .retAddr 7)] (Nat.le_of_ble_eq_true rfl) (by decide +kernel) ?_
              refine gx_iinc_4 rfl (gx_goto ((gx_nil ?_)))
              try simp only [nI_add, pk_mul, Nat.add_zero, Nat.zero_add, Nat.reduceAdd, Nat.reduceMul]
              have e9 := ih (k + 1) (by omega) (by omega)
              have hq : k < c := by
                rcases Nat.lt_or_ge k c with q | q
                · exact q
                · exact absurd (by rw [h3]; exact nI_le q (by omega)) c64
              rw [show rTr (F 0) p c (k + 1) = rTr (F 0) p c k by rw [rTr_s]; exact if_neg (fun z => c72 (z.2.trans (if_pos hq)))] at e9
              exact m_weak (by simp [gLe]) e9
            · try simp only [bI_0, Decidable.not_not] at c72
              refine m_blk [(.iload_n 2, .null)] (Nat.le_of_ble_eq_true rfl) (by decide +kernel) ?_
              refine gx_iload_n_2 ((gx_nil ?_))
              refine m_if_ne (off := 15) (tgt := 91) (by decide +kernel) (by decide) (fun c76 => ?_) (fun c76 => ?_)
              · try simp only [bI_0, Decidable.not_not] at c76
                refine m_blk [(.iload_n 3, .null), (.istore_n 3, .null), (.iinc 2 (-1), .int (-1)), (.iinc 4 1, .int (nI 1)), (.goto (-92), .retAddr 7)] (Nat.le_of_ble_eq_true rfl) (by decide +kernel) ?_
                refine gx_iload_n_3 (gx_istore_n_3 rfl (gx_iinc_2 rfl (gx_iinc_4 rfl (gx_goto ((gx_nil ?_))))))
                try simp only [nI_add, pk_mul, Nat.add_zero, Nat.zero_add, Nat.reduceAdd, Nat.reduceMul]
                have e9 := ih (k + 1) (by omega) (by omega)
                have hq : k < c := by
                  rcases Nat.lt_or_ge k c with q | q
                  · exact q
                  · exact absurd (by rw [h3]; exact nI_le q (by omega)) c64
                rw [show rTr (F 0) p c (k + 1) = ((rTr (F 0) p c k).1 + -1, (rTr (F 0) p c k).2) by rw [rTr_s, if_pos ⟨c44, c72.trans (if_pos hq).symm⟩, if_neg c76]] at e9
                exact m_weak (by simp [gLe]) e9
              · try simp only [bI_0, Decidable.not_not] at c76
                refine m_blk [(.aload_n 0, .null)] (Nat.le_of_ble_eq_true rfl) (by decide +kernel) ?_
                refine gx_aload_n_0 ((gx_nil ?_))
                refine m_getR fX10_9 (by decide +kernel) rfl ?_
                refine m_blk [(.iload 5, .null), (.iconst 0, .int (nI 0)), (.iadd, .null)] (Nat.le_of_ble_eq_true rfl) (by decide +kernel) ?_
                refine gx_iload_5 (gx_iconst (gx_iadd ((gx_nil ?_))))
                try simp only [nI_add, pk_mul, Nat.add_zero, Nat.zero_add, Nat.reduceAdd, Nat.reduceMul]
                refine m_al (j := 0) rfl (by decide +kernel) (show _ < 202 from by omega) ?_
                refine m_blk [(.goto 4, .retAddr 92), (.istore_n 3, .null), (.iinc 2 (-1), .int (-1)), (.iinc 4 1, .int (nI 1)), (.goto (-92), .retAddr 7)] (Nat.le_of_ble_eq_true rfl) (by decide +kernel) ?_
                refine gx_goto (gx_istore_n_3 rfl (gx_iinc_2 rfl (gx_iinc_4 rfl (gx_goto ((gx_nil ?_))))))
                try simp only [nI_add, pk_mul, Nat.add_zero, Nat.zero_add, Nat.reduceAdd, Nat.reduceMul]
                have e9 := ih (k + 1) (by omega) (by omega)
                have hq : k < c := by
                  rcases Nat.lt_or_ge k c with q | q
                  · exact q
                  · exact absurd (by rw [h3]; exact nI_le q (by omega)) c64
                rw [show rTr (F 0) p c (k + 1) = ((rTr (F 0) p c k).1 + -1, F 0 (62 + 7 * (k % c))) by rw [rTr_s, if_pos ⟨c44, c72.trans (if_pos hq).symm⟩, if_pos c76]] at e9
                exact m_weak (by simp [gLe]) e9
  refine mC_of (by decide) rfl (Nat.le_of_ble_eq_true rfl) [some (.ref o), some (.int p), none, none, none, none] rfl ?_
  refine m_blk [(.iload_n 1, .null), (.istore_n 2, .null), (.iconst (-1), .int (-1)), (.istore_n 3, .null), (.iconst 0, .int (nI 0)), (.istore 4, .null)] (Nat.le_of_ble_eq_true rfl) (by decide +kernel) ?_
  refine gx_iload_n_1 (gx_istore_n_2 rfl (gx_iconst (gx_istore_n_3 rfl (gx_iconst (gx_istore_4 rfl ((gx_nil ?_)))))))
  exact loop (2 * c + 1) 0 (Nat.zero_le _) (by omega)
theorem rp_hasPrefix {t : Nat} (ht : t ≤ 12) (h4 : F 0 4 = nI t) (dg ln : Int32) : mC Γ o ad M_X10_hasPrefix [.int dg, .int ln] V F 3 (some (.int (if rT (bI (rPx dg ln = true)) (nI 1) (nI 1) = 0 then bI (¬ rFind (F 0) dg ln t = -1) else nI 0))) (vU V 13 (rT (bI (rPx dg ln = true)) (nI 1) (nI 1))) F := by
  refine mC_of (by decide) rfl (Nat.le_of_ble_eq_true rfl) [some (.ref o), some (.int dg), some (.int ln)] rfl ?_
  refine m_blk [(.aload_n 0, .null), (.iload_n 1, .null), (.iload_n 2, .null)] (Nat.le_of_ble_eq_true rfl) (by decide +kernel) ?_
  refine gx_aload_n_0 (gx_iload_n_1 (gx_iload_n_2 ((gx_nil ?_))))
  refine m_callS kX10_121 (r_isPrefix _ _) (by decide +kernel) rfl rfl (Nat.le_of_ble_eq_true rfl) (Nat.le_of_ble_eq_true rfl) (Nat.le_of_ble_eq_true rfl) rfl ?_
  try simp only [Option.toList_some, Option.toList_none, List.cons_append, List.nil_append, bI_0, n1_0, n0_0, Decidable.not_not, not_true_eq_false, not_false_eq_true, nI_add, pk_mul, Nat.add_zero, Nat.zero_add, Nat.reduceAdd, Nat.reduceMul]
  refine m_call kX10_62 (r_goes _) (by decide +kernel) rfl rfl (Nat.le_of_ble_eq_true rfl) (Nat.le_of_ble_eq_true rfl) (Nat.le_of_ble_eq_true rfl) rfl ?_
  try simp only [Option.toList_some, Option.toList_none, List.cons_append, List.nil_append, bI_0, n1_0, n0_0, Decidable.not_not, not_true_eq_false, not_false_eq_true, nI_add, pk_mul, Nat.add_zero, Nat.zero_add, Nat.reduceAdd, Nat.reduceMul]
  refine m_if_eq (off := 17) (tgt := 26) (by decide +kernel) (by decide) (fun c9 => ?_) (fun c9 => ?_)
  · try simp only [bI_0, Decidable.not_not] at c9
    refine m_blk [(.iconst 0, .int (nI 0))] (Nat.le_of_ble_eq_true rfl) (by decide +kernel) ?_
    refine gx_iconst ((gx_nil ?_))
    have hτ : ¬ rT (bI (rPx dg ln = true)) (nI 1) (nI 1) = 0 := fun z => by
      have z1 := (rT_iff _ _ _).mp z
      simp only [bI_0, n1_0, n0_0, Decidable.not_not, not_true_eq_false, not_false_eq_true, and_true] at z1
      first | exact c9 z1 | exact z1 c9 | simp_all
    refine m_end (some (.int _)) rfl ⟨by decide +kernel, _, rfl, by first | rfl | (unfold bI; split <;> rfl)⟩ ?_ ?_ ?_
    · rw [if_neg hτ]
    · rfl
    · rfl
  · try simp only [bI_0, Decidable.not_not] at c9
    refine m_blk [(.aload_n 0, .null), (.iload_n 1, .null), (.iload_n 2, .null)] (Nat.le_of_ble_eq_true rfl) (by decide +kernel) ?_
    refine gx_aload_n_0 (gx_iload_n_1 (gx_iload_n_2 ((gx_nil ?_))))
    refine m_call kX10_118 (r_find ht h4 _ _) (by decide +kernel) rfl rfl (Nat.le_of_ble_eq_true rfl) (Nat.le_of_ble_eq_true rfl) (Nat.le_of_ble_eq_true rfl) rfl ?_
    try simp only [Option.toList_some, Option.toList_none, List.cons_append, List.nil_append, bI_0, n1_0, n0_0, Decidable.not_not, not_true_eq_false, not_false_eq_true, nI_add, pk_mul, Nat.add_zero, Nat.zero_add, Nat.reduceAdd, Nat.reduceMul]
    refine m_blk [(.iconst (-1), .int (-1))] (Nat.le_of_ble_eq_true rfl) (by decide +kernel) ?_
    refine gx_iconst ((gx_nil ?_))
    refine m_icmp_eq (off := 7) (tgt := 26) (by decide +kernel) (by decide) (fun c19 => ?_) (fun c19 => ?_)
    · try simp only [bI_0, Decidable.not_not] at c19
      refine m_blk [(.iconst 0, .int (nI 0))] (Nat.le_of_ble_eq_true rfl) (by decide +kernel) ?_
      refine gx_iconst ((gx_nil ?_))
      have hτ : rT (bI (rPx dg ln = true)) (nI 1) (nI 1) = 0 := (rT_iff _ _ _).mpr (by simp only [bI_0, n1_0, n0_0, Decidable.not_not, not_true_eq_false, not_false_eq_true, and_true]; first | exact c9 | simp_all)
      refine m_end (some (.int _)) rfl ⟨by decide +kernel, _, rfl, by first | rfl | (unfold bI; split <;> rfl)⟩ ?_ ?_ ?_
      · rw [if_pos hτ]
        try first | done | rfl | rw [bI_f (fun z => z c19)]
      · rfl
      · rfl
    · try simp only [bI_0, Decidable.not_not] at c19
      refine m_blk [(.iconst 1, .int (nI 1)), (.goto 4, .retAddr 27)] (Nat.le_of_ble_eq_true rfl) (by decide +kernel) ?_
      refine gx_iconst (gx_goto ((gx_nil ?_)))
      have hτ : rT (bI (rPx dg ln = true)) (nI 1) (nI 1) = 0 := (rT_iff _ _ _).mpr (by simp only [bI_0, n1_0, n0_0, Decidable.not_not, not_true_eq_false, not_false_eq_true, and_true]; first | exact c9 | simp_all)
      refine m_end (some (.int _)) rfl ⟨by decide +kernel, _, rfl, by first | rfl | (unfold bI; split <;> rfl)⟩ ?_ ?_ ?_
      · rw [if_pos hτ]
        try first | done | rfl | rw [bI_t c19]
      · rfl
      · rfl
theorem r_routeOf {t : Nat} (ht : t ≤ 12) (h4 : F 0 4 = nI t) (code : Int32) : mC Γ o ad M_X10_routeOf [.int code] V F 3 (some (.int (if rT (bI (nI 0 ≤ code ∧ code ≤ nI 9999)) (bI ((nI 0 ≤ code ∧ code ≤ nI 9999) ∧ ¬ rRoute (F 0) code t = -1)) (nI 1) = 0 then rRoute (F 0) code t else nI 0))) (vU V 13 (rT (bI (nI 0 ≤ code ∧ code ≤ nI 9999)) (bI ((nI 0 ≤ code ∧ code ≤ nI 9999) ∧ ¬ rRoute (F 0) code t = -1)) (nI 1))) F := by
  refine mC_of (by decide) rfl (Nat.le_of_ble_eq_true rfl) [some (.ref o), some (.int code), none] rfl ?_
  refine m_blk [(.iload_n 1, .null)] (Nat.le_of_ble_eq_true rfl) (by decide +kernel) ?_
  refine gx_iload_n_1 ((gx_nil ?_))
  refine m_callS kX10_106 (r_isCode _) (by decide +kernel) rfl rfl (Nat.le_of_ble_eq_true rfl) (Nat.le_of_ble_eq_true rfl) (Nat.le_of_ble_eq_true rfl) rfl ?_
  try simp only [Option.toList_some, Option.toList_none, List.cons_append, List.nil_append, bI_0, n1_0, n0_0, Decidable.not_not, not_true_eq_false, not_false_eq_true, nI_add, pk_mul, Nat.add_zero, Nat.zero_add, Nat.reduceAdd, Nat.reduceMul]
  refine m_if_eq (off := 11) (tgt := 15) (by decide +kernel) (by decide) (fun c4 => ?_) (fun c4 => ?_)
  · try simp only [bI_0, Decidable.not_not] at c4
    refine m_blk [(.iconst (-1), .int (-1)), (.istore_n 2, .null), (.aload_n 0, .null), (.iload_n 1, .null)] (Nat.le_of_ble_eq_true rfl) (by decide +kernel) ?_
    refine gx_iconst (gx_istore_n_2 rfl (gx_aload_n_0 (gx_iload_n_1 ((gx_nil ?_)))))
    refine m_callS kX10_106 (r_isCode _) (by decide +kernel) rfl rfl (Nat.le_of_ble_eq_true rfl) (Nat.le_of_ble_eq_true rfl) (Nat.le_of_ble_eq_true rfl) rfl ?_
    try simp only [Option.toList_some, Option.toList_none, List.cons_append, List.nil_append, bI_0, n1_0, n0_0, Decidable.not_not, not_true_eq_false, not_false_eq_true, nI_add, pk_mul, Nat.add_zero, Nat.zero_add, Nat.reduceAdd, Nat.reduceMul]
    refine m_blk [(.iload_n 2, .null), (.iconst (-1), .int (-1))] (Nat.le_of_ble_eq_true rfl) (by decide +kernel) ?_
    refine gx_iload_n_2 (gx_iconst ((gx_nil ?_)))
    refine m_icmp_eq (off := 7) (tgt := 31) (by decide +kernel) (by decide) (fun c24 => ?_) (fun c24 => ?_)
    · try simp only [bI_0, Decidable.not_not] at c24
      refine m_blk [(.iconst 0, .int (nI 0)), (.iconst 1, .int (nI 1))] (Nat.le_of_ble_eq_true rfl) (by decide +kernel) ?_
      refine gx_iconst (gx_iconst ((gx_nil ?_)))
      refine m_call kX10_48 (r_holds _ _ _) (by decide +kernel) rfl rfl (Nat.le_of_ble_eq_true rfl) (Nat.le_of_ble_eq_true rfl) (Nat.le_of_ble_eq_true rfl) rfl ?_
      try simp only [Option.toList_some, Option.toList_none, List.cons_append, List.nil_append, bI_0, n1_0, n0_0, Decidable.not_not, not_true_eq_false, not_false_eq_true, nI_add, pk_mul, Nat.add_zero, Nat.zero_add, Nat.reduceAdd, Nat.reduceMul]
      refine m_if_eq (off := 7) (tgt := 43) (by decide +kernel) (by decide) (fun c36 => ?_) (fun c36 => ?_)
      · try simp only [bI_0, Decidable.not_not] at c36
        refine m_blk [(.iconst 0, .int (nI 0))] (Nat.le_of_ble_eq_true rfl) (by decide +kernel) ?_
        refine gx_iconst ((gx_nil ?_))
        rw [bI_f (p := nI 0 ≤ code ∧ code ≤ nI 9999) c4, bI_f (p := (nI 0 ≤ code ∧ code ≤ nI 9999) ∧ ¬ rRoute (F 0) code t = -1) (fun z => c4 z.1)]
        have hτ : ¬ rT (nI 0) (nI 0) (nI 1) = 0 := by decide
        refine m_end (some (.int _)) rfl ⟨by decide +kernel, _, rfl, rfl⟩ ?_ ?_ ?_
        · rw [if_neg hτ]
        · rfl
        · rfl
      · try simp only [bI_0, Decidable.not_not] at c36
        exfalso
        first | exact c4 c36.1 | exact c36.2.1.elim | exact c36.2.1 trivial | simp_all
    · try simp only [bI_0, Decidable.not_not] at c24
      exact (c24 trivial).elim
  · try simp only [bI_0, Decidable.not_not] at c4
    refine m_blk [(.aload_n 0, .null), (.iload_n 1, .null)] (Nat.le_of_ble_eq_true rfl) (by decide +kernel) ?_
    refine gx_aload_n_0 (gx_iload_n_1 ((gx_nil ?_)))
    refine m_call kX10_131 (r_routed ht h4 _) (by decide +kernel) rfl rfl (Nat.le_of_ble_eq_true rfl) (Nat.le_of_ble_eq_true rfl) (Nat.le_of_ble_eq_true rfl) rfl ?_
    try simp only [Option.toList_some, Option.toList_none, List.cons_append, List.nil_append, bI_0, n1_0, n0_0, Decidable.not_not, not_true_eq_false, not_false_eq_true, nI_add, pk_mul, Nat.add_zero, Nat.zero_add, Nat.reduceAdd, Nat.reduceMul]
    refine m_blk [(.goto 4, .retAddr 16), (.istore_n 2, .null), (.aload_n 0, .null), (.iload_n 1, .null)] (Nat.le_of_ble_eq_true rfl) (by decide +kernel) ?_
    refine gx_goto (gx_istore_n_2 rfl (gx_aload_n_0 (gx_iload_n_1 ((gx_nil ?_)))))
    refine m_callS kX10_106 (r_isCode _) (by decide +kernel) rfl rfl (Nat.le_of_ble_eq_true rfl) (Nat.le_of_ble_eq_true rfl) (Nat.le_of_ble_eq_true rfl) rfl ?_
    try simp only [Option.toList_some, Option.toList_none, List.cons_append, List.nil_append, bI_0, n1_0, n0_0, Decidable.not_not, not_true_eq_false, not_false_eq_true, nI_add, pk_mul, Nat.add_zero, Nat.zero_add, Nat.reduceAdd, Nat.reduceMul]
    refine m_blk [(.iload_n 2, .null), (.iconst (-1), .int (-1))] (Nat.le_of_ble_eq_true rfl) (by decide +kernel) ?_
    refine gx_iload_n_2 (gx_iconst ((gx_nil ?_)))
    refine m_icmp_eq (off := 7) (tgt := 31) (by decide +kernel) (by decide) (fun c24 => ?_) (fun c24 => ?_)
    · try simp only [bI_0, Decidable.not_not] at c24
      refine m_blk [(.iconst 0, .int (nI 0)), (.iconst 1, .int (nI 1))] (Nat.le_of_ble_eq_true rfl) (by decide +kernel) ?_
      refine gx_iconst (gx_iconst ((gx_nil ?_)))
      refine m_call kX10_48 (r_holds _ _ _) (by decide +kernel) rfl rfl (Nat.le_of_ble_eq_true rfl) (Nat.le_of_ble_eq_true rfl) (Nat.le_of_ble_eq_true rfl) rfl ?_
      try simp only [Option.toList_some, Option.toList_none, List.cons_append, List.nil_append, bI_0, n1_0, n0_0, Decidable.not_not, not_true_eq_false, not_false_eq_true, nI_add, pk_mul, Nat.add_zero, Nat.zero_add, Nat.reduceAdd, Nat.reduceMul]
      refine m_if_eq (off := 7) (tgt := 43) (by decide +kernel) (by decide) (fun c36 => ?_) (fun c36 => ?_)
      · try simp only [bI_0, Decidable.not_not] at c36
        refine m_blk [(.iconst 0, .int (nI 0))] (Nat.le_of_ble_eq_true rfl) (by decide +kernel) ?_
        refine gx_iconst ((gx_nil ?_))
        rw [bI_t (p := nI 0 ≤ code ∧ code ≤ nI 9999) c4, bI_f (p := (nI 0 ≤ code ∧ code ≤ nI 9999) ∧ ¬ rRoute (F 0) code t = -1) (fun z => z.2 c24)]
        have hτ : ¬ rT (nI 1) (nI 0) (nI 1) = 0 := by decide
        refine m_end (some (.int _)) rfl ⟨by decide +kernel, _, rfl, rfl⟩ ?_ ?_ ?_
        · rw [if_neg hτ]
        · rfl
        · rfl
      · try simp only [bI_0, Decidable.not_not] at c36
        exfalso
        first | exact c4 c36.1 | exact c36.2.1.elim | exact c36.2.1 trivial | simp_all
    · try simp only [bI_0, Decidable.not_not] at c24
      refine m_blk [(.iconst 1, .int (nI 1)), (.goto 4, .retAddr 32), (.iconst 1, .int (nI 1))] (Nat.le_of_ble_eq_true rfl) (by decide +kernel) ?_
      refine gx_iconst (gx_goto (gx_iconst ((gx_nil ?_))))
      refine m_call kX10_48 (r_holds _ _ _) (by decide +kernel) rfl rfl (Nat.le_of_ble_eq_true rfl) (Nat.le_of_ble_eq_true rfl) (Nat.le_of_ble_eq_true rfl) rfl ?_
      try simp only [Option.toList_some, Option.toList_none, List.cons_append, List.nil_append, bI_0, n1_0, n0_0, Decidable.not_not, not_true_eq_false, not_false_eq_true, nI_add, pk_mul, Nat.add_zero, Nat.zero_add, Nat.reduceAdd, Nat.reduceMul]
      refine m_if_eq (off := 7) (tgt := 43) (by decide +kernel) (by decide) (fun c36 => ?_) (fun c36 => ?_)
      · try simp only [bI_0, Decidable.not_not] at c36
        exact (c36 ⟨c4, by decide, by decide⟩).elim
      · try simp only [bI_0, Decidable.not_not] at c36
        refine m_blk [(.iload_n 2, .null), (.goto 4, .retAddr 44)] (Nat.le_of_ble_eq_true rfl) (by decide +kernel) ?_
        refine gx_iload_n_2 (gx_goto ((gx_nil ?_)))
        rw [bI_t (p := nI 0 ≤ code ∧ code ≤ nI 9999) c4, bI_t (p := (nI 0 ≤ code ∧ code ≤ nI 9999) ∧ ¬ rRoute (F 0) code t = -1) ⟨c4, c24⟩]
        have hτ : rT (nI 1) (nI 1) (nI 1) = 0 := by decide
        refine m_end (some (.int _)) rfl ⟨by decide +kernel, _, rfl, rfl⟩ ?_ ?_ ?_
        · rw [if_pos hτ]
          try first | done | rfl | rfl
        · rfl
        · rfl
theorem rp_routeFor {t : Nat} (ht : t ≤ 12) (h4 : F 0 4 = nI t) (code : Int32) : mC Γ o ad M_X10_routeFor [.int code] V F 4 (some (.int (if rT (bI (nI 0 ≤ code ∧ code ≤ nI 9999)) (bI ((nI 0 ≤ code ∧ code ≤ nI 9999) ∧ ¬ rRoute (F 0) code t = -1)) (nI 1) = 0 then rRoute (F 0) code t else nI 0))) (vU V 13 (rT (bI (nI 0 ≤ code ∧ code ≤ nI 9999)) (bI ((nI 0 ≤ code ∧ code ≤ nI 9999) ∧ ¬ rRoute (F 0) code t = -1)) (nI 1))) (F) := by
  refine mC_of (by decide) rfl (Nat.le_of_ble_eq_true rfl) [some (.ref o), some (.int code)] rfl ?_
  refine m_blk [(.aload_n 0, .null), (.iload_n 1, .null)] (Nat.le_of_ble_eq_true rfl) (by decide +kernel) ?_
  refine gx_aload_n_0 (gx_iload_n_1 ((gx_nil ?_)))
  refine m_call kX10_188 (r_routeOf ht h4 _) (by decide +kernel) rfl rfl (Nat.le_of_ble_eq_true rfl) (Nat.le_of_ble_eq_true rfl) (Nat.le_of_ble_eq_true rfl) rfl ?_
  try simp only [Option.toList_some, Option.toList_none, List.cons_append, List.nil_append, bI_0, n1_0, n0_0, Decidable.not_not, not_true_eq_false, not_false_eq_true, nI_add, pk_mul, Nat.add_zero, Nat.zero_add, Nat.reduceAdd, Nat.reduceMul]
  refine m_end (some (.int _)) rfl ⟨by decide +kernel, _, rfl, rfl⟩ ?_ ?_ ?_
  all_goals first | rfl | (simp_all [rThr, bI, bI_0, bI_n]; done) | (simp only [Option.some.injEq, Value.int.injEq, bI, Int32.lt_iff_toInt_lt, Int32.le_iff_toInt_le, Int32.not_lt, Int32.not_le] at *; split <;> first | rfl | omega)
theorem rp_routeForByTree {t : Nat} (ht : t ≤ 12) (h4 : F 0 4 = nI t) (code : Int32) : mC Γ o ad M_X10_routeForByTree [.int code] V F 4 (some (.int (if rT (bI (nI 0 ≤ code ∧ code ≤ nI 9999)) (bI ((nI 0 ≤ code ∧ code ≤ nI 9999) ∧ ¬ rRoute (F 0) code t = -1)) (nI 1) = 0 then rRoute (F 0) code t else nI 0))) (vU V 13 (rT (bI (nI 0 ≤ code ∧ code ≤ nI 9999)) (bI ((nI 0 ≤ code ∧ code ≤ nI 9999) ∧ ¬ rRoute (F 0) code t = -1)) (nI 1))) (F) := by
  refine mC_of (by decide) rfl (Nat.le_of_ble_eq_true rfl) [some (.ref o), some (.int code)] rfl ?_
  refine m_blk [(.aload_n 0, .null), (.iload_n 1, .null)] (Nat.le_of_ble_eq_true rfl) (by decide +kernel) ?_
  refine gx_aload_n_0 (gx_iload_n_1 ((gx_nil ?_)))
  refine m_call kX10_188 (r_routeOf ht h4 _) (by decide +kernel) rfl rfl (Nat.le_of_ble_eq_true rfl) (Nat.le_of_ble_eq_true rfl) (Nat.le_of_ble_eq_true rfl) rfl ?_
  try simp only [Option.toList_some, Option.toList_none, List.cons_append, List.nil_append, bI_0, n1_0, n0_0, Decidable.not_not, not_true_eq_false, not_false_eq_true, nI_add, pk_mul, Nat.add_zero, Nat.zero_add, Nat.reduceAdd, Nat.reduceMul]
  refine m_end (some (.int _)) rfl ⟨by decide +kernel, _, rfl, rfl⟩ ?_ ?_ ?_
  all_goals first | rfl | (simp_all [rThr, bI, bI_0, bI_n]; done) | (simp only [Option.some.injEq, Value.int.injEq, bI, Int32.lt_iff_toInt_lt, Int32.le_iff_toInt_le, Int32.not_lt, Int32.not_le] at *; split <;> first | rfl | omega)
def rML (N : Nat → Int32) (code : Int32) (t : Nat) : Int32 := if rMatch N code (nI 4) (nI 4) t = -1 then nI 0 else N (26 + 3 * (rMatch N code (nI 4) (nI 4) t).toNatClampNeg + 1)
theorem rp_matchLength {t : Nat} (ht : t ≤ 12) (h4 : F 0 4 = nI t) (code : Int32) : mC Γ o ad M_X10_matchLength [.int code] V F 3 (some (.int (if rT (bI (nI 0 ≤ code ∧ code ≤ nI 9999)) (nI 1) (nI 1) = 0 then rML (F 0) code t else nI 0))) (vU V 13 (rT (bI (nI 0 ≤ code ∧ code ≤ nI 9999)) (nI 1) (nI 1))) F := by
  refine mC_of (by decide) rfl (Nat.le_of_ble_eq_true rfl) [some (.ref o), some (.int code), none] rfl ?_
  refine m_blk [(.aload_n 0, .null), (.iload_n 1, .null)] (Nat.le_of_ble_eq_true rfl) (by decide +kernel) ?_
  refine gx_aload_n_0 (gx_iload_n_1 ((gx_nil ?_)))
  refine m_callS kX10_106 (r_isCode _) (by decide +kernel) rfl rfl (Nat.le_of_ble_eq_true rfl) (Nat.le_of_ble_eq_true rfl) (Nat.le_of_ble_eq_true rfl) rfl ?_
  try simp only [Option.toList_some, Option.toList_none, List.cons_append, List.nil_append, bI_0, n1_0, n0_0, Decidable.not_not, not_true_eq_false, not_false_eq_true, nI_add, pk_mul, Nat.add_zero, Nat.zero_add, Nat.reduceAdd, Nat.reduceMul]
  refine m_call kX10_62 (r_goes _) (by decide +kernel) rfl rfl (Nat.le_of_ble_eq_true rfl) (Nat.le_of_ble_eq_true rfl) (Nat.le_of_ble_eq_true rfl) rfl ?_
  try simp only [Option.toList_some, Option.toList_none, List.cons_append, List.nil_append, bI_0, n1_0, n0_0, Decidable.not_not, not_true_eq_false, not_false_eq_true, nI_add, pk_mul, Nat.add_zero, Nat.zero_add, Nat.reduceAdd, Nat.reduceMul]
  refine m_if_ne (off := 5) (tgt := 13) (by decide +kernel) (by decide) (fun c8 => ?_) (fun c8 => ?_)
  · try simp only [bI_0, Decidable.not_not] at c8
    refine m_blk [(.aload_n 0, .null), (.iload_n 1, .null), (.iconst 4, .int (nI 4)), (.iconst 4, .int (nI 4))] (Nat.le_of_ble_eq_true rfl) (by decide +kernel) ?_
    refine gx_aload_n_0 (gx_iload_n_1 (gx_iconst (gx_iconst ((gx_nil ?_)))))
    refine m_call kX10_90 (r_matching ht h4 _ _ _) (by decide +kernel) rfl rfl (Nat.le_of_ble_eq_true rfl) (Nat.le_of_ble_eq_true rfl) (Nat.le_of_ble_eq_true rfl) rfl ?_
    try simp only [Option.toList_some, Option.toList_none, List.cons_append, List.nil_append, bI_0, n1_0, n0_0, Decidable.not_not, not_true_eq_false, not_false_eq_true, nI_add, pk_mul, Nat.add_zero, Nat.zero_add, Nat.reduceAdd, Nat.reduceMul]
    refine m_blk [(.istore_n 2, .null), (.iload_n 2, .null), (.iconst (-1), .int (-1))] (Nat.le_of_ble_eq_true rfl) (by decide +kernel) ?_
    refine gx_istore_n_2 rfl (gx_iload_n_2 (gx_iconst ((gx_nil ?_))))
    refine m_icmp_ne (off := 7) (tgt := 30) (by decide +kernel) (by decide) (fun c23 => ?_) (fun c23 => ?_)
    · try simp only [bI_0, Decidable.not_not] at c23
      obtain ⟨p, hp, ep⟩ := rMatch_in.resolve_left c23
      refine m_lcl (L' := [some (.ref o), some (.int code), some (.int (nI p))]) (by rw [ep]) ?_
      refine m_blk [(.aload_n 0, .null), (.iload_n 2, .null), (.iconst 1, .int (nI 1))] (Nat.le_of_ble_eq_true rfl) (by decide +kernel) ?_
      refine gx_aload_n_0 (gx_iload_n_2 (gx_iconst ((gx_nil ?_))))
      refine m_call kX10_81 (r_ofPrefix p 1 (by omega) (by omega)) (by decide +kernel) rfl rfl (Nat.le_of_ble_eq_true rfl) (Nat.le_of_ble_eq_true rfl) (Nat.le_of_ble_eq_true rfl) rfl ?_
      try simp only [Option.toList_some, Option.toList_none, List.cons_append, List.nil_append, bI_0, n1_0, n0_0, Decidable.not_not, not_true_eq_false, not_false_eq_true, nI_add, pk_mul, Nat.add_zero, Nat.zero_add, Nat.reduceAdd, Nat.reduceMul]
      have hτ : rT (bI (nI 0 ≤ code ∧ code ≤ nI 9999)) (nI 1) (nI 1) = 0 := (rT_iff _ _ _).mpr (by simp only [bI_0, n1_0, n0_0, Decidable.not_not, not_true_eq_false, not_false_eq_true, and_true]; first | exact c8 | simp_all)
      refine m_end (some (.int _)) rfl ⟨by decide +kernel, _, rfl, rfl⟩ ?_ ?_ ?_
      · rw [if_pos hτ]
        try first | done | rfl | (unfold rML; rw [if_neg c23, ep, nI_clamp (by omega)])
      · rfl
      · rfl
    · try simp only [bI_0, Decidable.not_not] at c23
      refine m_blk [(.iconst 0, .int (nI 0)), (.goto 9, .retAddr 36)] (Nat.le_of_ble_eq_true rfl) (by decide +kernel) ?_
      refine gx_iconst (gx_goto ((gx_nil ?_)))
      have hτ : rT (bI (nI 0 ≤ code ∧ code ≤ nI 9999)) (nI 1) (nI 1) = 0 := (rT_iff _ _ _).mpr (by simp only [bI_0, n1_0, n0_0, Decidable.not_not, not_true_eq_false, not_false_eq_true, and_true]; first | exact c8 | simp_all)
      refine m_end (some (.int _)) rfl ⟨by decide +kernel, _, rfl, rfl⟩ ?_ ?_ ?_
      · rw [if_pos hτ]
        try first | done | rfl | (unfold rML; rw [if_pos c23])
      · rfl
      · rfl
  · try simp only [bI_0, Decidable.not_not] at c8
    refine m_blk [(.iconst 0, .int (nI 0))] (Nat.le_of_ble_eq_true rfl) (by decide +kernel) ?_
    refine gx_iconst ((gx_nil ?_))
    have hτ : ¬ rT (bI (nI 0 ≤ code ∧ code ≤ nI 9999)) (nI 1) (nI 1) = 0 := fun z => by
      have z1 := (rT_iff _ _ _).mp z
      simp only [bI_0, n1_0, n0_0, Decidable.not_not, not_true_eq_false, not_false_eq_true, and_true] at z1
      first | exact c8 z1 | exact z1 c8 | simp_all
    refine m_end (some (.int _)) rfl ⟨by decide +kernel, _, rfl, rfl⟩ ?_ ?_ ?_
    · rw [if_neg hτ]
    · rfl
    · rfl
end S23ref14leantxt
