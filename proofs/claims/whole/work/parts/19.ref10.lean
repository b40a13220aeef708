section S19ref10leantxt
variable {Γ : gE} {o : Nat} {ad : Nat → Nat} {V : Nat → Int32} {F : Nat → Nat → Int32}
def rDL (rt : Int32) (t : Nat) : Nat → (Nat → Int32) → Nat → Int32 → (Nat → Int32) × Int32
  | 0, N, _, m => (N, m)
  | n + 1, N, p, m => if N (62 + 7 * p + 5) = rt then (if rRoute N (N (62 + 7 * p + 1)) t = rt then rDL rt t n (rLv N p) p (m + nI 1) else if N (62 + 7 * p + 4) + nI 1 = nI 3 then rDL rt t n (rLv (rBk N p) p) p m else rDL rt t n (rBk N p) (p + 1) m) else rDL rt t n N (p + 1) m
theorem rDL_s {rt : Int32} {t n p : Nat} {N : Nat → Int32} {m : Int32} : rDL rt t (n + 1) N p m = if N (62 + 7 * p + 5) = rt then (if rRoute N (N (62 + 7 * p + 1)) t = rt then rDL rt t n (rLv N p) p (m + nI 1) else if N (62 + 7 * p + 4) + nI 1 = nI 3 then rDL rt t n (rLv (rBk N p) p) p m else rDL rt t n (rBk N p) (p + 1) m) else rDL rt t n N (p + 1) m := rfl
def rDE (rt : Int32) (R : (Nat → Int32) × Int32) : Nat → Int32 := upd (upd R.1 (8 + 3 * rIx rt + 2) (nI 0)) 5 (upd R.1 (8 + 3 * rIx rt + 2) (nI 0) 5 + R.2)
theorem n1_1 : nI 1 = 1 := by decide
theorem a_n0 (m : Int32) : m + nI 0 = m := by
  rw [show nI 0 = 0 by decide]
  exact Int32.add_zero m
theorem rLv_3 {N : Nat → Int32} {p c : Nat} (h : N 3 = nI (c + 1)) : rLv N p 3 = nI c := by
  unfold rLv
  rw [pk_us, h, n1_1, nI_pred]
theorem rLv_k {N : Nat → Int32} {p q : Nat} (h : q < 62 + 7 * p) (h3 : q ≠ 3) : rLv N p q = N q := by
  unfold rLv
  rw [pk_un h3, rShf_lo h]
theorem rBk_k {N : Nat → Int32} {p q : Nat} (h : q < 62) (h6 : q ≠ 6) (h7 : q ≠ 7) : rBk N p q = N q := by
  unfold rBk
  rw [pk_un h6, pk_un h7, pk_un (by omega), pk_un (by omega)]
theorem rDL_g {rt : Int32} {t : Nat} : ∀ (n p c : Nat) (N : Nat → Int32) (m : Int32), p + n = c → N 3 = nI c → (∃ c', c' ≤ c ∧ (rDL rt t n N p m).1 3 = nI c') ∧ ∀ q, q < 62 → q ≠ 3 → q ≠ 6 → q ≠ 7 → (rDL rt t n N p m).1 q = N q
  | 0, p, c, N, m, _, h3 => ⟨⟨c, Nat.le_refl _, h3⟩, fun _ _ _ _ _ => rfl⟩
  | n + 1, p, c, N, m, hn, h3 => by
    obtain ⟨c0, rfl⟩ : ∃ c0, c = c0 + 1 := ⟨c - 1, by omega⟩
    rw [rDL_s]
    split
    · split
      · obtain ⟨⟨c', a, b⟩, k⟩ := rDL_g n p c0 (rLv N p) (m + nI 1) (by omega) (rLv_3 h3)
        exact ⟨⟨c', by omega, b⟩, fun q h1 h2 h4 h5 => (k q h1 h2 h4 h5).trans (rLv_k (by omega) h2)⟩
      · split
        · obtain ⟨⟨c', a, b⟩, k⟩ := rDL_g n p c0 (rLv (rBk N p) p) m (by omega) (rLv_3 ((rBk_k (by omega) (by omega) (by omega)).trans h3))
          exact ⟨⟨c', by omega, b⟩, fun q h1 h2 h4 h5 => ((k q h1 h2 h4 h5).trans (rLv_k (by omega) h2)).trans (rBk_k h1 h4 h5)⟩
        · obtain ⟨⟨c', a, b⟩, k⟩ := rDL_g n (p + 1) (c0 + 1) (rBk N p) m (by omega) ((rBk_k (by omega) (by omega) (by omega)).trans h3)
          exact ⟨⟨c', by omega, b⟩, fun q h1 h2 h4 h5 => (k q h1 h2 h4 h5).trans (rBk_k h1 h4 h5)⟩
    · obtain ⟨⟨c', a, b⟩, k⟩ := rDL_g n (p + 1) (c0 + 1) N m (by omega) h3
      exact ⟨⟨c', by omega, b⟩, fun q h1 h2 h4 h5 => k q h1 h2 h4 h5⟩
theorem r_departs {c : Nat} (hc : c ≤ 20) (h3 : F 0 3 = nI c) {t : Nat} (ht : t ≤ 12) (h4 : F 0 4 = nI t) (rt : Int32) : mC Γ o ad M_X10_departs [.int rt] V F 3 (some (.int (rDL rt t c (F 0) 0 (nI 0)).2)) V (fR F 0 (rDE rt (rDL rt t c (F 0) 0 (nI 0)))) := by
  have hx5 := rIx_le rt
  have loop : ∀ n p c m (Fk : Nat → Nat → Int32), p + n = c → c ≤ 20 → Fk 0 3 = nI c → Fk 0 4 = nI t → mG Γ o ad M_X10_departs 3 (some (.int (rDL rt t n (Fk 0) p m).2)) V (fR Fk 0 (rDE rt (rDL rt t n (Fk 0) p m))) 4 [some (.ref o), some (.int rt), some (.int m), some (.int (nI p)), none, none, none] [] V Fk := by
    intro n
    induction n with
    | zero =>
      intro p c m Fk hn hc h3k h4k
      refine m_blk [(.iload_n 3, .null), (.aload_n 0, .null)] (Nat.le_of_ble_eq_true rfl) (by decide +kernel) ?_
      refine gx_iload_n_3 (gx_aload_n_0 ((gx_nil ?_)))
      refine m_getR fX10_9 (by decide +kernel) rfl ?_
      refine m_blk [(.iconst 3, .int (nI 3))] (Nat.le_of_ble_eq_true rfl) (by decide +kernel) ?_
      refine gx_iconst ((gx_nil ?_))
      refine m_al (j := 0) rfl (by decide +kernel) (show _ < 202 from by omega) ?_
      refine m_icmp_ge (off := 103) (tgt := 114) (by decide +kernel) (by decide) (fun c11 => ?_) (fun c11 => ?_)
      · try simp only [bI_0, Decidable.not_not] at c11
        refine m_blk [(.aload_n 0, .null)] (Nat.le_of_ble_eq_true rfl) (by decide +kernel) ?_
        refine gx_aload_n_0 ((gx_nil ?_))
        refine m_getR fX10_9 (by decide +kernel) rfl ?_
        refine m_blk [(.iload_n 1, .null)] (Nat.le_of_ble_eq_true rfl) (by decide +kernel) ?_
        refine gx_iload_n_1 ((gx_nil ?_))
        refine m_callS kX10_41 (r_routeAt _) (by decide +kernel) rfl rfl (Nat.le_of_ble_eq_true rfl) (Nat.le_of_ble_eq_true rfl) (Nat.le_of_ble_eq_true rfl) rfl ?_
        try simp only [Option.toList_some, Option.toList_none, List.cons_append, List.nil_append, bI_0, n1_0, n0_0, Decidable.not_not, not_true_eq_false, not_false_eq_true, nI_add, pk_mul, Nat.add_zero, Nat.zero_add, Nat.reduceAdd, Nat.reduceMul]
        refine m_blk [(.iconst 2, .int (nI 2)), (.iadd, .null), (.iconst 0, .int (nI 0))] (Nat.le_of_ble_eq_true rfl) (by decide +kernel) ?_
        refine gx_iconst (gx_iadd (gx_iconst ((gx_nil ?_))))
        try simp only [nI_add, pk_mul, Nat.add_zero, Nat.zero_add, Nat.reduceAdd, Nat.reduceMul]
        refine m_as (j := 0) rfl (by decide +kernel) (show _ < 202 from by omega) ?_
        refine m_blk [(.aload_n 0, .null)] (Nat.le_of_ble_eq_true rfl) (by decide +kernel) ?_
        refine gx_aload_n_0 ((gx_nil ?_))
        refine m_getR fX10_9 (by decide +kernel) rfl ?_
        refine m_blk [(.iconst 5, .int (nI 5)), (.dup2, .null)] (Nat.le_of_ble_eq_true rfl) (by decide +kernel) ?_
        refine gx_iconst (gx_dup2ir ((gx_nil ?_)))
        refine m_al (j := 0) rfl (by decide +kernel) (show _ < 202 from by omega) ?_
        simp only [fU_row, fR_s, fR_fR]
        refine m_blk [(.iload_n 2, .null), (.iadd, .null)] (Nat.le_of_ble_eq_true rfl) (by decide +kernel) ?_
        refine gx_iload_n_2 (gx_iadd ((gx_nil ?_)))
        try simp only [nI_add, pk_mul, Nat.add_zero, Nat.zero_add, Nat.reduceAdd, Nat.reduceMul]
        refine m_as (j := 0) rfl (by decide +kernel) (show _ < 202 from by omega) ?_
        refine m_blk [(.iload_n 2, .null)] (Nat.le_of_ble_eq_true rfl) (by decide +kernel) ?_
        refine gx_iload_n_2 ((gx_nil ?_))
        refine m_end (some (.int _)) rfl ⟨by decide +kernel, _, rfl, rfl⟩ ?_ ?_ ?_
        · rfl
        · rfl
        · simp only [fU_row, fR_fR, fR_s]
          rfl
      · try simp only [bI_0, Decidable.not_not] at c11
        exact absurd (by rw [h3k]; exact nI_le (by omega) (by omega)) c11
    | succ n ih =>
      intro p c m Fk hn hc h3k h4k
      obtain ⟨c0, rfl⟩ : ∃ c0, c = c0 + 1 := ⟨c - 1, by omega⟩
      rw [rDL_s]
      refine m_blk [(.iload_n 3, .null), (.aload_n 0, .null)] (Nat.le_of_ble_eq_true rfl) (by decide +kernel) ?_
      refine gx_iload_n_3 (gx_aload_n_0 ((gx_nil ?_)))
      refine m_getR fX10_9 (by decide +kernel) rfl ?_
      refine m_blk [(.iconst 3, .int (nI 3))] (Nat.le_of_ble_eq_true rfl) (by decide +kernel) ?_
      refine gx_iconst ((gx_nil ?_))
      refine m_al (j := 0) rfl (by decide +kernel) (show _ < 202 from by omega) ?_
      refine m_icmp_ge (off := 103) (tgt := 114) (by decide +kernel) (by decide) (fun c11 => ?_) (fun c11 => ?_)
      · try simp only [bI_0, Decidable.not_not] at c11
        exact absurd c11 (by rw [h3k]; exact nI_ge (by omega) (by omega))
      · try simp only [bI_0, Decidable.not_not] at c11
        refine m_blk [(.iload_n 3, .null)] (Nat.le_of_ble_eq_true rfl) (by decide +kernel) ?_
        refine gx_iload_n_3 ((gx_nil ?_))
        refine m_callS kX10_94 (r_letterAt _) (by decide +kernel) rfl rfl (Nat.le_of_ble_eq_true rfl) (Nat.le_of_ble_eq_true rfl) (Nat.le_of_ble_eq_true rfl) rfl ?_
        try simp only [Option.toList_some, Option.toList_none, List.cons_append, List.nil_append, bI_0, n1_0, n0_0, Decidable.not_not, not_true_eq_false, not_false_eq_true, nI_add, pk_mul, Nat.add_zero, Nat.zero_add, Nat.reduceAdd, Nat.reduceMul]
        refine m_blk [(.istore 4, .null), (.aload_n 0, .null)] (Nat.le_of_ble_eq_true rfl) (by decide +kernel) ?_
        refine gx_istore_4 rfl (gx_aload_n_0 ((gx_nil ?_)))
        refine m_getR fX10_9 (by decide +kernel) rfl ?_
        refine m_blk [(.iload 4, .null), (.iconst 5, .int (nI 5)), (.iadd, .null)] (Nat.le_of_ble_eq_true rfl) (by decide +kernel) ?_
        refine gx_iload_4 (gx_iconst (gx_iadd ((gx_nil ?_))))
        try simp only [nI_add, pk_mul, Nat.add_zero, Nat.zero_add, Nat.reduceAdd, Nat.reduceMul]
        refine m_al (j := 0) rfl (by decide +kernel) (show _ < 202 from by omega) ?_
        refine m_blk [(.iload_n 1, .null)] (Nat.le_of_ble_eq_true rfl) (by decide +kernel) ?_
        refine gx_iload_n_1 ((gx_nil ?_))
        refine m_icmp_ne (off := 7) (tgt := 37) (by decide +kernel) (by decide) (fun c30 => ?_) (fun c30 => ?_)
        · try simp only [bI_0, Decidable.not_not] at c30
          refine m_blk [(.iconst 0, .int (nI 0)), (.istore 5, .null), (.iload 5, .null)] (Nat.le_of_ble_eq_true rfl) (by decide +kernel) ?_
          refine gx_iconst (gx_istore_5 rfl (gx_iload_5 ((gx_nil ?_))))
          refine m_if_eq (off := 24) (tgt := 66) (by decide +kernel) (by decide) (fun c42 => ?_) (fun c42 => ?_)
          · try simp only [bI_0, Decidable.not_not] at c42
            refine m_blk [(.iconst 0, .int (nI 0)), (.istore 6, .null), (.iload_n 2, .null), (.iload 6, .null)] (Nat.le_of_ble_eq_true rfl) (by decide +kernel) ?_
            refine gx_iconst (gx_istore_6 rfl (gx_iload_n_2 (gx_iload_6 ((gx_nil ?_)))))
            refine m_if_eq (off := 7) (tgt := 79) (by decide +kernel) (by decide) (fun c72 => ?_) (fun c72 => ?_)
            · try simp only [bI_0, Decidable.not_not] at c72
              refine m_blk [(.iconst 0, .int (nI 0)), (.iadd, .null), (.istore_n 2, .null), (.iload 6, .null)] (Nat.le_of_ble_eq_true rfl) (by decide +kernel) ?_
              refine gx_iconst (gx_iadd (gx_istore_n_2 rfl (gx_iload_6 ((gx_nil ?_)))))
              try simp only [nI_add, pk_mul, Nat.add_zero, Nat.zero_add, Nat.reduceAdd, Nat.reduceMul]
              refine m_if_ne (off := 16) (tgt := 100) (by decide +kernel) (by decide) (fun c84 => ?_) (fun c84 => ?_)
              · exact absurd (by decide) c84
              · try simp only [bI_0, Decidable.not_not] at c84
                refine m_blk [(.iload 5, .null)] (Nat.le_of_ble_eq_true rfl) (by decide +kernel) ?_
                refine gx_iload_5 ((gx_nil ?_))
                refine m_if_eq (off := 19) (tgt := 108) (by decide +kernel) (by decide) (fun c89 => ?_) (fun c89 => ?_)
                · try simp only [bI_0, Decidable.not_not] at c89
                  refine m_blk [(.iinc 3 1, .int (nI 1)), (.goto (-107), .retAddr 4)] (Nat.le_of_ble_eq_true rfl) (by decide +kernel) ?_
                  refine gx_iinc_3 rfl (gx_goto ((gx_nil ?_)))
                  try simp only [nI_add, pk_mul, Nat.add_zero, Nat.zero_add, Nat.reduceAdd, Nat.reduceMul]
                  rw [if_neg c30, a_n0]
                  exact m_weak (by simp [gLe, nI_add]) (ih (p + 1) (c0 + 1) m Fk (by omega) hc h3k h4k)
                · exact absurd (by decide) c89
            · exact absurd (by decide) c72
          · exact absurd (by decide) c42
        · try simp only [bI_0, Decidable.not_not] at c30
          refine m_blk [(.iconst 1, .int (nI 1)), (.goto 4, .retAddr 38), (.istore 5, .null), (.iload 5, .null)] (Nat.le_of_ble_eq_true rfl) (by decide +kernel) ?_
          refine gx_iconst (gx_goto (gx_istore_5 rfl (gx_iload_5 ((gx_nil ?_)))))
          refine m_if_eq (off := 24) (tgt := 66) (by decide +kernel) (by decide) (fun c42 => ?_) (fun c42 => ?_)
          · exact absurd c42 (by decide)
          · try simp only [bI_0, Decidable.not_not] at c42
            refine m_blk [(.aload_n 0, .null), (.aload_n 0, .null)] (Nat.le_of_ble_eq_true rfl) (by decide +kernel) ?_
            refine gx_aload_n_0 (gx_aload_n_0 ((gx_nil ?_)))
            refine m_getR fX10_9 (by decide +kernel) rfl ?_
            refine m_blk [(.iload 4, .null), (.iconst 1, .int (nI 1)), (.iadd, .null)] (Nat.le_of_ble_eq_true rfl) (by decide +kernel) ?_
            refine gx_iload_4 (gx_iconst (gx_iadd ((gx_nil ?_))))
            try simp only [nI_add, pk_mul, Nat.add_zero, Nat.zero_add, Nat.reduceAdd, Nat.reduceMul]
            refine m_al (j := 0) rfl (by decide +kernel) (show _ < 202 from by omega) ?_
            refine m_call kX10_131 (r_routed ht h4k _) (by decide +kernel) rfl rfl (Nat.le_of_ble_eq_true rfl) (Nat.le_of_ble_eq_true rfl) (Nat.le_of_ble_eq_true rfl) rfl ?_
            try simp only [Option.toList_some, Option.toList_none, List.cons_append, List.nil_append, bI_0, n1_0, n0_0, Decidable.not_not, not_true_eq_false, not_false_eq_true, nI_add, pk_mul, Nat.add_zero, Nat.zero_add, Nat.reduceAdd, Nat.reduceMul]
            refine m_blk [(.iload_n 1, .null)] (Nat.le_of_ble_eq_true rfl) (by decide +kernel) ?_
            refine gx_iload_n_1 ((gx_nil ?_))
            refine m_icmp_ne (off := 7) (tgt := 66) (by decide +kernel) (by decide) (fun c59 => ?_) (fun c59 => ?_)
            · try simp only [bI_0, Decidable.not_not] at c59
              refine m_blk [(.iconst 0, .int (nI 0)), (.istore 6, .null), (.iload_n 2, .null), (.iload 6, .null)] (Nat.le_of_ble_eq_true rfl) (by decide +kernel) ?_
              refine gx_iconst (gx_istore_6 rfl (gx_iload_n_2 (gx_iload_6 ((gx_nil ?_)))))
              refine m_if_eq (off := 7) (tgt := 79) (by decide +kernel) (by decide) (fun c72 => ?_) (fun c72 => ?_)
              · try simp only [bI_0, Decidable.not_not] at c72
                refine m_blk [(.iconst 0, .int (nI 0)), (.iadd, .null), (.istore_n 2, .null), (.iload 6, .null)] (Nat.le_of_ble_eq_true rfl) (by decide +kernel) ?_
                refine gx_iconst (gx_iadd (gx_istore_n_2 rfl (gx_iload_6 ((gx_nil ?_)))))
                try simp only [nI_add, pk_mul, Nat.add_zero, Nat.zero_add, Nat.reduceAdd, Nat.reduceMul]
                refine m_if_ne (off := 16) (tgt := 100) (by decide +kernel) (by decide) (fun c84 => ?_) (fun c84 => ?_)
                · exact absurd (by decide) c84
                · try simp only [bI_0, Decidable.not_not] at c84
                  refine m_blk [(.iload 5, .null)] (Nat.le_of_ble_eq_true rfl) (by decide +kernel) ?_
                  refine gx_iload_5 ((gx_nil ?_))
                  refine m_if_eq (off := 19) (tgt := 108) (by decide +kernel) (by decide) (fun c89 => ?_) (fun c89 => ?_)
                  · exact absurd c89 (by decide)
                  · try simp only [bI_0, Decidable.not_not] at c89
                    refine m_blk [(.aload_n 0, .null), (.iload_n 3, .null)] (Nat.le_of_ble_eq_true rfl) (by decide +kernel) ?_
                    refine gx_aload_n_0 (gx_iload_n_3 ((gx_nil ?_)))
                    refine m_call kX10_166 (r_isDead p (by omega)) (by decide +kernel) rfl rfl (Nat.le_of_ble_eq_true rfl) (Nat.le_of_ble_eq_true rfl) (Nat.le_of_ble_eq_true rfl) rfl ?_
                    try simp only [Option.toList_some, Option.toList_none, List.cons_append, List.nil_append, bI_0, n1_0, n0_0, Decidable.not_not, not_true_eq_false, not_false_eq_true, nI_add, pk_mul, Nat.add_zero, Nat.zero_add, Nat.reduceAdd, Nat.reduceMul]
                    refine m_if_eq (off := 11) (tgt := 108) (by decide +kernel) (by decide) (fun c97 => ?_) (fun c97 => ?_)
                    · try simp only [bI_0, Decidable.not_not] at c97
                      refine m_blk [(.iinc 3 1, .int (nI 1)), (.goto (-107), .retAddr 4)] (Nat.le_of_ble_eq_true rfl) (by decide +kernel) ?_
                      refine gx_iinc_3 rfl (gx_goto ((gx_nil ?_)))
                      try simp only [nI_add, pk_mul, Nat.add_zero, Nat.zero_add, Nat.reduceAdd, Nat.reduceMul]
                      rw [if_pos c30, if_neg c59, if_neg c97, a_n0]
                      have e9 := ih (p + 1) (c0 + 1) m (fR Fk 0 (rBk (Fk 0) p)) (by omega) hc (by rw [fR_s]; exact (rBk_k (by omega) (by omega) (by omega)).trans h3k) (by rw [fR_s]; exact (rBk_k (by omega) (by omega) (by omega)).trans h4k)
                      simp only [fR_s, fR_fR] at e9 ⊢
                      exact m_weak (by simp [gLe, nI_add]) e9
                    · try simp only [bI_0, Decidable.not_not] at c97
                      refine m_blk [(.aload_n 0, .null), (.iload_n 3, .null)] (Nat.le_of_ble_eq_true rfl) (by decide +kernel) ?_
                      refine gx_aload_n_0 (gx_iload_n_3 ((gx_nil ?_)))
                      refine m_call kX10_169 (r_leaves p (by omega)) (by decide +kernel) rfl rfl (Nat.le_of_ble_eq_true rfl) (Nat.le_of_ble_eq_true rfl) (Nat.le_of_ble_eq_true rfl) rfl ?_
                      try simp only [Option.toList_some, Option.toList_none, List.cons_append, List.nil_append, bI_0, n1_0, n0_0, Decidable.not_not, not_true_eq_false, not_false_eq_true, nI_add, pk_mul, Nat.add_zero, Nat.zero_add, Nat.reduceAdd, Nat.reduceMul]
                      refine m_blk [(.goto 6, .retAddr 111), (.goto (-107), .retAddr 4)] (Nat.le_of_ble_eq_true rfl) (by decide +kernel) ?_
                      refine gx_goto (gx_goto ((gx_nil ?_)))
                      rw [if_pos c30, if_neg c59, if_pos c97, a_n0]
                      have h3b : rBk (Fk 0) p 3 = nI (c0 + 1) := (rBk_k (by omega) (by omega) (by omega)).trans h3k
                      have e9 := ih p c0 m (fR Fk 0 (rLv (rBk (Fk 0) p) p)) (by omega) (by omega) (by rw [fR_s]; exact rLv_3 h3b) (by rw [fR_s, rLv_k (by omega) (by omega)]; exact (rBk_k (by omega) (by omega) (by omega)).trans h4k)
                      simp only [fR_s, fR_fR] at e9 ⊢
                      exact m_weak (by simp [gLe]) e9
              · exact absurd (by decide) c72
            · try simp only [bI_0, Decidable.not_not] at c59
              refine m_blk [(.iconst 1, .int (nI 1)), (.goto 4, .retAddr 67), (.istore 6, .null), (.iload_n 2, .null), (.iload 6, .null)] (Nat.le_of_ble_eq_true rfl) (by decide +kernel) ?_
              refine gx_iconst (gx_goto (gx_istore_6 rfl (gx_iload_n_2 (gx_iload_6 ((gx_nil ?_))))))
              refine m_if_eq (off := 7) (tgt := 79) (by decide +kernel) (by decide) (fun c72 => ?_) (fun c72 => ?_)
              · exact absurd c72 (by decide)
              · try simp only [bI_0, Decidable.not_not] at c72
                refine m_blk [(.iconst 1, .int (nI 1)), (.goto 4, .retAddr 80), (.iadd, .null), (.istore_n 2, .null), (.iload 6, .null)] (Nat.le_of_ble_eq_true rfl) (by decide +kernel) ?_
                refine gx_iconst (gx_goto (gx_iadd (gx_istore_n_2 rfl (gx_iload_6 ((gx_nil ?_))))))
                try simp only [nI_add, pk_mul, Nat.add_zero, Nat.zero_add, Nat.reduceAdd, Nat.reduceMul]
                refine m_if_ne (off := 16) (tgt := 100) (by decide +kernel) (by decide) (fun c84 => ?_) (fun c84 => ?_)
                · try simp only [bI_0, Decidable.not_not] at c84
                  refine m_blk [(.aload_n 0, .null), (.iload_n 3, .null)] (Nat.le_of_ble_eq_true rfl) (by decide +kernel) ?_
                  refine gx_aload_n_0 (gx_iload_n_3 ((gx_nil ?_)))
                  refine m_call kX10_169 (r_leaves p (by omega)) (by decide +kernel) rfl rfl (Nat.le_of_ble_eq_true rfl) (Nat.le_of_ble_eq_true rfl) (Nat.le_of_ble_eq_true rfl) rfl ?_
                  try simp only [Option.toList_some, Option.toList_none, List.cons_append, List.nil_append, bI_0, n1_0, n0_0, Decidable.not_not, not_true_eq_false, not_false_eq_true, nI_add, pk_mul, Nat.add_zero, Nat.zero_add, Nat.reduceAdd, Nat.reduceMul]
                  refine m_blk [(.goto 6, .retAddr 111), (.goto (-107), .retAddr 4)] (Nat.le_of_ble_eq_true rfl) (by decide +kernel) ?_
                  refine gx_goto (gx_goto ((gx_nil ?_)))
                  rw [if_pos c30, if_pos c59]
                  have e9 := ih p c0 (m + nI 1) (fR Fk 0 (rLv (Fk 0) p)) (by omega) (by omega) (by rw [fR_s]; exact rLv_3 h3k) (by rw [fR_s, rLv_k (by omega) (by omega)]; exact h4k)
                  simp only [fR_s, fR_fR] at e9 ⊢
                  exact m_weak (by simp [gLe]) e9
                · exact absurd c84 (by decide)
  refine mC_of (by decide) rfl (Nat.le_of_ble_eq_true rfl) [some (.ref o), some (.int rt), none, none, none, none, none] rfl ?_
  refine m_blk [(.iconst 0, .int (nI 0)), (.istore_n 2, .null), (.iconst 0, .int (nI 0)), (.istore_n 3, .null)] (Nat.le_of_ble_eq_true rfl) (by decide +kernel) ?_
  refine gx_iconst (gx_istore_n_2 rfl (gx_iconst (gx_istore_n_3 rfl ((gx_nil ?_)))))
  exact loop c 0 c (nI 0) F (by omega) hc h3 h4
end S19ref10leantxt
