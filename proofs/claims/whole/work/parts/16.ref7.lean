section S16ref7leantxt
variable {Γ : gE} {o : Nat} {ad : Nat → Nat} {V : Nat → Int32} {F : Nat → Nat → Int32}
theorem rT_iff (a b c : Int32) : rT a b c = 0 ↔ (¬ a = 0 ∧ ¬ b = 0 ∧ ¬ c = 0) := by
  unfold rT
  split
  · next h => exact ⟨fun z => absurd z (by decide), fun z => absurd h z.1⟩
  · next h =>
    split
    · next h2 => exact ⟨fun z => absurd z (by decide), fun z => absurd h2 z.2.1⟩
    · next h2 =>
      split
      · next h3 => exact ⟨fun z => absurd z (by decide), fun z => absurd h3 z.2.2⟩
      · next h3 => exact ⟨fun _ => ⟨h, h2, h3⟩, fun _ => by decide⟩
def rShf (N : Nat → Int32) (a k w : Nat) : Nat → Int32 := fun q => if a ≤ q ∧ q < k then N (q + w) else N q
theorem rShf_s {N : Nat → Int32} {a k w : Nat} (h : a ≤ k) (hw : 0 < w) : upd (rShf N a k w) k (rShf N a k w (k + w)) = rShf N a (k + 1) w := by
  funext q
  unfold upd rShf
  by_cases e : q = k
  · rw [if_pos e, if_neg (by omega), if_pos (by omega), e]
  · rw [if_neg e]
    by_cases h2 : a ≤ q ∧ q < k
    · rw [if_pos h2, if_pos (by omega)]
    · rw [if_neg h2, if_neg (by omega)]
theorem rShf_0 {N : Nat → Int32} {a w : Nat} : rShf N a a w = N := by
  funext q
  unfold rShf
  exact if_neg (by omega)
theorem rShf_lo {N : Nat → Int32} {a k w q : Nat} (h : q < a) : rShf N a k w q = N q := by
  unfold rShf
  exact if_neg (by omega)
def rRm (N : Nat → Int32) (p : Nat) : Nat → Int32 := upd (rShf N (26 + 3 * p) 59 3) 4 (N 4 - nI 1)
def rLv (N : Nat → Int32) (p : Nat) : Nat → Int32 := upd (rShf N (62 + 7 * p) 195 7) 3 (N 3 - nI 1)
theorem r_leaves (p : Nat) (hp : p < 20) : mC Γ o ad M_X10_leaves [.int (nI p)] V F 1 none V (fR F 0 (rLv (F 0) p)) := by
  have loop : ∀ n k, 62 + 7 * p ≤ k → k ≤ 195 → 195 < k + n → mG Γ o ad M_X10_leaves 1 none V (fR F 0 (rLv (F 0) p)) 5 [some (.ref o), some (.int (nI p)), some (.int (nI k))] [] V (fR F 0 (rShf (F 0) (62 + 7 * p) k 7)) := by
    intro n
    induction n with
    | zero => intro k h1 h2 h3; omega
    | succ n ih =>
      intro k ha hk hn
      refine m_blk [(.iload_n 2, .null), (.sipush 195, .int (nI 195))] (Nat.le_of_ble_eq_true rfl) (by decide +kernel) ?_
      refine gx_iload_n_2 (gx_sipush ((gx_nil ?_)))
      refine m_icmp_ge (off := 24) (tgt := 33) (by decide +kernel) (by decide) (fun c9 => ?_) (fun c9 => ?_)
      · try simp only [bI_0, Decidable.not_not] at c9
        have hic : k = 195 := by
          have := (nI_leI (by omega) (by omega)).mp c9
          omega
        subst hic
        refine m_blk [(.aload_n 0, .null)] (Nat.le_of_ble_eq_true rfl) (by decide +kernel) ?_
        refine gx_aload_n_0 ((gx_nil ?_))
        refine m_getR fX10_9 (by decide +kernel) rfl ?_
        refine m_blk [(.iconst 3, .int (nI 3)), (.dup2, .null)] (Nat.le_of_ble_eq_true rfl) (by decide +kernel) ?_
        refine gx_iconst (gx_dup2ir ((gx_nil ?_)))
        refine m_al (j := 0) rfl (by decide +kernel) (show _ < 202 from by omega) ?_
        simp only [fR_s]
        rw [rShf_lo (by omega)]
        refine m_blk [(.iconst 1, .int (nI 1)), (.isub, .null)] (Nat.le_of_ble_eq_true rfl) (by decide +kernel) ?_
        refine gx_iconst (gx_isub ((gx_nil ?_)))
        refine m_as (j := 0) rfl (by decide +kernel) (show _ < 202 from by omega) ?_
        refine m_end none rfl ⟨by decide +kernel, rfl⟩ ?_ ?_ ?_
        · rfl
        · rfl
        · simp only [fU_row, fR_fR, fR_s]
          rfl
      · try simp only [bI_0, Decidable.not_not] at c9
        have hic : k < 195 := by
          rcases Nat.lt_or_ge k 195 with q | q
          · exact q
          · exact absurd (nI_le q (by omega)) c9
        refine m_blk [(.aload_n 0, .null)] (Nat.le_of_ble_eq_true rfl) (by decide +kernel) ?_
        refine gx_aload_n_0 ((gx_nil ?_))
        refine m_getR fX10_9 (by decide +kernel) rfl ?_
        refine m_blk [(.iload_n 2, .null), (.aload_n 0, .null)] (Nat.le_of_ble_eq_true rfl) (by decide +kernel) ?_
        refine gx_iload_n_2 (gx_aload_n_0 ((gx_nil ?_)))
        refine m_getR fX10_9 (by decide +kernel) rfl ?_
        refine m_blk [(.iload_n 2, .null), (.bipush 7, .int (nI 7)), (.iadd, .null)] (Nat.le_of_ble_eq_true rfl) (by decide +kernel) ?_
        refine gx_iload_n_2 (gx_bipush (gx_iadd ((gx_nil ?_))))
        try simp only [nI_add, pk_mul, Nat.add_zero, Nat.zero_add, Nat.reduceAdd, Nat.reduceMul]
        refine m_al (j := 0) rfl (by decide +kernel) (show _ < 202 from by omega) ?_
        refine m_as (j := 0) rfl (by decide +kernel) (show _ < 202 from by omega) ?_
        refine m_blk [(.iinc 2 1, .int (nI 1)), (.goto (-25), .retAddr 5)] (Nat.le_of_ble_eq_true rfl) (by decide +kernel) ?_
        refine gx_iinc_2 rfl (gx_goto ((gx_nil ?_)))
        try simp only [nI_add, pk_mul, Nat.add_zero, Nat.zero_add, Nat.reduceAdd, Nat.reduceMul]
        simp only [fU_row, fR_fR, fR_s]
        rw [rShf_s ha (by decide)]
        exact ih (k + 1) (by omega) (by omega) (by omega)
  refine mC_of (by decide) rfl (Nat.le_of_ble_eq_true rfl) [some (.ref o), some (.int (nI p)), none] rfl ?_
  refine m_blk [(.iload_n 1, .null)] (Nat.le_of_ble_eq_true rfl) (by decide +kernel) ?_
  refine gx_iload_n_1 ((gx_nil ?_))
  refine m_callS kX10_94 (r_letterAt _) (by decide +kernel) rfl rfl (Nat.le_of_ble_eq_true rfl) (Nat.le_of_ble_eq_true rfl) (Nat.le_of_ble_eq_true rfl) rfl ?_
  try simp only [Option.toList_some, Option.toList_none, List.cons_append, List.nil_append, bI_0, n1_0, n0_0, Decidable.not_not, not_true_eq_false, not_false_eq_true, nI_add, pk_mul, Nat.add_zero, Nat.zero_add, Nat.reduceAdd, Nat.reduceMul]
  refine m_blk [(.istore_n 2, .null)] (Nat.le_of_ble_eq_true rfl) (by decide +kernel) ?_
  refine gx_istore_n_2 rfl ((gx_nil ?_))
  have e9 := loop 196 (62 + 7 * p) (by omega) (by omega) (by omega)
  rw [rShf_0, fR_self] at e9
  exact e9
theorem r_removes {t : Nat} (ht : t ≤ 12) (h4 : F 0 4 = nI t) (dg ln : Int32) : mC Γ o ad M_X10_removes [.int dg, .int ln] V F 2 (some (.int (if rT (bI (rPx dg ln = true)) (bI (¬ rFind (F 0) dg ln t = -1)) (nI 1) = 0 then F 0 (26 + 3 * (rFind (F 0) dg ln t).toNatClampNeg + 2) else nI 0))) (vU V 13 (rT (bI (rPx dg ln = true)) (bI (¬ rFind (F 0) dg ln t = -1)) (nI 1))) (fR F 0 (if rT (bI (rPx dg ln = true)) (bI (¬ rFind (F 0) dg ln t = -1)) (nI 1) = 0 then rRm (F 0) (rFind (F 0) dg ln t).toNatClampNeg else F 0)) := by
  have loop : ∀ (p : Nat) (hp : p < 12) (x : Int32) (V1 : Nat → Int32) (x3 : Int32), ∀ n k, 26 + 3 * p ≤ k → k ≤ 59 → 59 < k + n → mG Γ o ad M_X10_removes 2 (some (.int x)) V1 (fR F 0 (rRm (F 0) p)) 48 [some (.ref o), some (.int dg), some (.int ln), some (.int x3), some (.int x), some (.int (nI k))] [] V1 (fR F 0 (rShf (F 0) (26 + 3 * p) k 3)) := by
    intro p hp x V1 x3 n
    induction n with
    | zero => intro k h1 h2 h3; omega
    | succ n ih =>
      intro k ha hk hn
      refine m_blk [(.iload 5, .null), (.bipush 59, .int (nI 59))] (Nat.le_of_ble_eq_true rfl) (by decide +kernel) ?_
      refine gx_iload_5 (gx_bipush ((gx_nil ?_)))
      refine m_icmp_ge (off := 25) (tgt := 77) (by decide +kernel) (by decide) (fun c52 => ?_) (fun c52 => ?_)
      · try simp only [bI_0, Decidable.not_not] at c52
        have hic : k = 59 := by
          have := (nI_leI (by omega) (by omega)).mp c52
          omega
        subst hic
        refine m_blk [(.aload_n 0, .null)] (Nat.le_of_ble_eq_true rfl) (by decide +kernel) ?_
        refine gx_aload_n_0 ((gx_nil ?_))
        refine m_getR fX10_9 (by decide +kernel) rfl ?_
        refine m_blk [(.iconst 4, .int (nI 4)), (.dup2, .null)] (Nat.le_of_ble_eq_true rfl) (by decide +kernel) ?_
        refine gx_iconst (gx_dup2ir ((gx_nil ?_)))
        refine m_al (j := 0) rfl (by decide +kernel) (show _ < 202 from by omega) ?_
        simp only [fR_s]
        rw [rShf_lo (by omega)]
        refine m_blk [(.iconst 1, .int (nI 1)), (.isub, .null)] (Nat.le_of_ble_eq_true rfl) (by decide +kernel) ?_
        refine gx_iconst (gx_isub ((gx_nil ?_)))
        refine m_as (j := 0) rfl (by decide +kernel) (show _ < 202 from by omega) ?_
        refine m_blk [(.iload 4, .null)] (Nat.le_of_ble_eq_true rfl) (by decide +kernel) ?_
        refine gx_iload_4 ((gx_nil ?_))
        refine m_end (some (.int _)) rfl ⟨by decide +kernel, _, rfl, rfl⟩ ?_ ?_ ?_
        · rfl
        · rfl
        · simp only [fU_row, fR_fR, fR_s]
          rfl
      · try simp only [bI_0, Decidable.not_not] at c52
        have hic : k < 59 := by
          rcases Nat.lt_or_ge k 59 with q | q
          · exact q
          · exact absurd (nI_le q (by omega)) c52
        refine m_blk [(.aload_n 0, .null)] (Nat.le_of_ble_eq_true rfl) (by decide +kernel) ?_
        refine gx_aload_n_0 ((gx_nil ?_))
        refine m_getR fX10_9 (by decide +kernel) rfl ?_
        refine m_blk [(.iload 5, .null), (.aload_n 0, .null)] (Nat.le_of_ble_eq_true rfl) (by decide +kernel) ?_
        refine gx_iload_5 (gx_aload_n_0 ((gx_nil ?_)))
        refine m_getR fX10_9 (by decide +kernel) rfl ?_
        refine m_blk [(.iload 5, .null), (.iconst 3, .int (nI 3)), (.iadd, .null)] (Nat.le_of_ble_eq_true rfl) (by decide +kernel) ?_
        refine gx_iload_5 (gx_iconst (gx_iadd ((gx_nil ?_))))
        try simp only [nI_add, pk_mul, Nat.add_zero, Nat.zero_add, Nat.reduceAdd, Nat.reduceMul]
        refine m_al (j := 0) rfl (by decide +kernel) (show _ < 202 from by omega) ?_
        refine m_as (j := 0) rfl (by decide +kernel) (show _ < 202 from by omega) ?_
        refine m_blk [(.iinc 5 1, .int (nI 1)), (.goto (-26), .retAddr 48)] (Nat.le_of_ble_eq_true rfl) (by decide +kernel) ?_
        refine gx_iinc_5 rfl (gx_goto ((gx_nil ?_)))
        try simp only [nI_add, pk_mul, Nat.add_zero, Nat.zero_add, Nat.reduceAdd, Nat.reduceMul]
        simp only [fU_row, fR_fR, fR_s]
        rw [rShf_s ha (by decide)]
        exact ih (k + 1) (by omega) (by omega) (by omega)
  refine mC_of (by decide) rfl (Nat.le_of_ble_eq_true rfl) [some (.ref o), some (.int dg), some (.int ln), none, none, none] rfl ?_
  refine m_blk [(.aload_n 0, .null), (.iload_n 1, .null), (.iload_n 2, .null)] (Nat.le_of_ble_eq_true rfl) (by decide +kernel) ?_
  refine gx_aload_n_0 (gx_iload_n_1 (gx_iload_n_2 ((gx_nil ?_))))
  refine m_call kX10_118 (r_find ht h4 _ _) (by decide +kernel) rfl rfl (Nat.le_of_ble_eq_true rfl) (Nat.le_of_ble_eq_true rfl) (Nat.le_of_ble_eq_true rfl) rfl ?_
  try simp only [Option.toList_some, Option.toList_none, List.cons_append, List.nil_append, bI_0, n1_0, n0_0, Decidable.not_not, not_true_eq_false, not_false_eq_true, nI_add, pk_mul, Nat.add_zero, Nat.zero_add, Nat.reduceAdd, Nat.reduceMul]
  refine m_blk [(.istore_n 3, .null), (.aload_n 0, .null), (.iload_n 1, .null), (.iload_n 2, .null)] (Nat.le_of_ble_eq_true rfl) (by decide +kernel) ?_
  refine gx_istore_n_3 rfl (gx_aload_n_0 (gx_iload_n_1 (gx_iload_n_2 ((gx_nil ?_)))))
  refine m_callS kX10_121 (r_isPrefix _ _) (by decide +kernel) rfl rfl (Nat.le_of_ble_eq_true rfl) (Nat.le_of_ble_eq_true rfl) (Nat.le_of_ble_eq_true rfl) rfl ?_
  try simp only [Option.toList_some, Option.toList_none, List.cons_append, List.nil_append, bI_0, n1_0, n0_0, Decidable.not_not, not_true_eq_false, not_false_eq_true, nI_add, pk_mul, Nat.add_zero, Nat.zero_add, Nat.reduceAdd, Nat.reduceMul]
  refine m_blk [(.iload_n 3, .null), (.iconst (-1), .int (-1))] (Nat.le_of_ble_eq_true rfl) (by decide +kernel) ?_
  refine gx_iload_n_3 (gx_iconst ((gx_nil ?_)))
  refine m_icmp_eq (off := 7) (tgt := 22) (by decide +kernel) (by decide) (fun c15 => ?_) (fun c15 => ?_)
  · try simp only [bI_0, Decidable.not_not] at c15
    have q2 : bI (¬ rFind (F 0) dg ln t = -1) = nI 0 := bI_f (fun z => z c15)
    refine m_blk [(.iconst 0, .int (nI 0)), (.iconst 1, .int (nI 1))] (Nat.le_of_ble_eq_true rfl) (by decide +kernel) ?_
    refine gx_iconst (gx_iconst ((gx_nil ?_)))
    refine m_call kX10_48 (r_holds _ _ _) (by decide +kernel) rfl rfl (Nat.le_of_ble_eq_true rfl) (Nat.le_of_ble_eq_true rfl) (Nat.le_of_ble_eq_true rfl) rfl ?_
    try simp only [Option.toList_some, Option.toList_none, List.cons_append, List.nil_append, bI_0, n1_0, n0_0, Decidable.not_not, not_true_eq_false, not_false_eq_true, nI_add, pk_mul, Nat.add_zero, Nat.zero_add, Nat.reduceAdd, Nat.reduceMul]
    refine m_if_ne (off := 5) (tgt := 32) (by decide +kernel) (by decide) (fun c27 => ?_) (fun c27 => ?_)
    · try simp only [bI_0, Decidable.not_not] at c27
      exact c27.2.1.elim
    · try simp only [bI_0, Decidable.not_not] at c27
      refine m_blk [(.iconst 0, .int (nI 0))] (Nat.le_of_ble_eq_true rfl) (by decide +kernel) ?_
      refine gx_iconst ((gx_nil ?_))
      rw [q2]
      have hτ : ¬ rT (bI (rPx dg ln = true)) (nI 0) (nI 1) = 0 := fun z => c27 (by simpa only [bI_0, n1_0, n0_0, Decidable.not_not, not_true_eq_false, not_false_eq_true] using (rT_iff _ _ _).mp z)
      refine m_end (some (.int _)) rfl ⟨by decide +kernel, _, rfl, rfl⟩ ?_ ?_ ?_
      · rw [if_neg hτ]
      · rfl
      · rw [if_neg hτ, fR_self]
  · try simp only [bI_0, Decidable.not_not] at c15
    have q2 : bI (¬ rFind (F 0) dg ln t = -1) = nI 1 := bI_t c15
    obtain ⟨p, hp, ep⟩ := rFind_in.resolve_left c15
    refine m_blk [(.iconst 1, .int (nI 1)), (.goto 4, .retAddr 23), (.iconst 1, .int (nI 1))] (Nat.le_of_ble_eq_true rfl) (by decide +kernel) ?_
    refine gx_iconst (gx_goto (gx_iconst ((gx_nil ?_))))
    refine m_call kX10_48 (r_holds _ _ _) (by decide +kernel) rfl rfl (Nat.le_of_ble_eq_true rfl) (Nat.le_of_ble_eq_true rfl) (Nat.le_of_ble_eq_true rfl) rfl ?_
    try simp only [Option.toList_some, Option.toList_none, List.cons_append, List.nil_append, bI_0, n1_0, n0_0, Decidable.not_not, not_true_eq_false, not_false_eq_true, nI_add, pk_mul, Nat.add_zero, Nat.zero_add, Nat.reduceAdd, Nat.reduceMul]
    refine m_if_ne (off := 5) (tgt := 32) (by decide +kernel) (by decide) (fun c27 => ?_) (fun c27 => ?_)
    · try simp only [bI_0, Decidable.not_not] at c27
      rw [ep] at q2 ⊢
      refine m_blk [(.aload_n 0, .null), (.iload_n 3, .null), (.iconst 2, .int (nI 2))] (Nat.le_of_ble_eq_true rfl) (by decide +kernel) ?_
      refine gx_aload_n_0 (gx_iload_n_3 (gx_iconst ((gx_nil ?_))))
      refine m_call kX10_81 (r_ofPrefix p 2 (by omega) (by omega)) (by decide +kernel) rfl rfl (Nat.le_of_ble_eq_true rfl) (Nat.le_of_ble_eq_true rfl) (Nat.le_of_ble_eq_true rfl) rfl ?_
      try simp only [Option.toList_some, Option.toList_none, List.cons_append, List.nil_append, bI_0, n1_0, n0_0, Decidable.not_not, not_true_eq_false, not_false_eq_true, nI_add, pk_mul, Nat.add_zero, Nat.zero_add, Nat.reduceAdd, Nat.reduceMul]
      refine m_blk [(.istore 4, .null), (.bipush 26, .int (nI 26)), (.iconst 3, .int (nI 3)), (.iload_n 3, .null), (.imul, .null), (.iadd, .null), (.istore 5, .null)] (Nat.le_of_ble_eq_true rfl) (by decide +kernel) ?_
      refine gx_istore_4 rfl (gx_bipush (gx_iconst (gx_iload_n_3 (gx_imul (gx_iadd (gx_istore_5 rfl ((gx_nil ?_))))))))
      try simp only [nI_add, pk_mul, Nat.add_zero, Nat.zero_add, Nat.reduceAdd, Nat.reduceMul]
      rw [q2]
      have hτ : rT (bI (rPx dg ln = true)) (nI 1) (nI 1) = 0 := (rT_iff _ _ _).mpr (by simpa only [bI_0, n1_0, n0_0, Decidable.not_not, not_true_eq_false, not_false_eq_true] using c27)
      rw [if_pos hτ, if_pos hτ, nI_clamp (by omega)]
      have e9 := loop p (by omega) (F 0 (26 + 3 * p + 2)) (vU V 13 (rT (bI (rPx dg ln = true)) (nI 1) (nI 1))) (nI p) 60 (26 + 3 * p) (by omega) (by omega) (by omega)
      rw [rShf_0, fR_self] at e9
      exact e9
    · try simp only [bI_0, Decidable.not_not] at c27
      refine m_blk [(.iconst 0, .int (nI 0))] (Nat.le_of_ble_eq_true rfl) (by decide +kernel) ?_
      refine gx_iconst ((gx_nil ?_))
      rw [q2]
      have hτ : ¬ rT (bI (rPx dg ln = true)) (nI 1) (nI 1) = 0 := fun z => c27 (by simpa only [bI_0, n1_0, n0_0, Decidable.not_not, not_true_eq_false, not_false_eq_true] using (rT_iff _ _ _).mp z)
      refine m_end (some (.int _)) rfl ⟨by decide +kernel, _, rfl, rfl⟩ ?_ ?_ ?_
      · rw [if_neg hτ]
      · rfl
      · rw [if_neg hτ, fR_self]
end S16ref7leantxt
