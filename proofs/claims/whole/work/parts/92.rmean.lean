section SRm
variable {Γ : gE} {o : Nat} {ad : Nat → Nat} {V : Nat → Int32} {F : Nat → Nat → Int32} {c t nx : Nat}
theorem rSm_S {N : Nat → Int32} : ∀ {c : Nat}, rLv1 N c → ∃ S, rSm N c = nI S ∧ S ≤ 50 * c
  | 0, _ => ⟨0, rfl, Nat.le_refl _⟩
  | c + 1, h => by
    obtain ⟨S, e, hS⟩ := rSm_S (N := N) (c := c) (fun i hi => h i (by omega))
    obtain ⟨m, cd, w, pr, q, e1, h1, e2, h2, e3, h3, h3', -⟩ := h c (by omega)
    exact ⟨S + w, by show rSm N c + N (62 + 7 * c + 2) = _; rw [e, e3, nI_add], by omega⟩
theorem nI_c1 : ∀ {c : Nat}, c < 128 → ((nI c).toUInt32 % 65536).toInt32 = nI c := by decide +kernel
/-- the mean weight of c letters -/
def rMw (N : Nat → Int32) (c : Nat) : UInt64 := FP.ddiv (FP.i2d (rSm N c)) (FP.i2d (nI c))
theorem rMw_n {N : Nat → Int32} {c nx t : Nat} (h : rIV N c t nx) (hn : nx ≤ 100000) (h0 : ¬ c = 0) : vf_n64 (rMw N c) := by
  obtain ⟨S, e, hS⟩ := rSm_S (h.lv hn)
  have := h.hc
  unfold rMw
  rw [e]
  exact f64_ok (by omega) (by omega) h0
def rSh2 (N : Nat → Int32) : UInt32 := FP.fdiv (FP.i2f (N 5)) (FP.i2f (N 2))
theorem rSh2_n {N : Nat → Int32} {c nx t : Nat} (h : rIV N c t nx) (hn : nx < 10000) (h0 : ¬ nx = 0) : vf_n32 (rSh2 N) := by
  obtain ⟨dl, dd, e5, -, e⟩ := h.sum
  unfold rSh2
  rw [e5, h.n2]
  exact f32_ok (by omega) (by omega) h0
theorem rp_meanWeight (h : rIV (F 0) c t nx) (hn : nx ≤ 100000) : mC Γ o ad M_X10_meanWeight [] V F 3 (some (.double (if c = 0 then FP.dconst0 else rMw (F 0) c))) (vU V 13 (if c = 0 then nI 1 else nI 0)) (F) := by
  have hc := h.hc
  have h3 := h.h3
  obtain ⟨v0, hv0⟩ : ∃ z, (if c = 0 then FP.dconst0 else rMw (F 0) c) = z := ⟨_, rfl⟩
  have loop : ∀ n i, i + n = c → mG Γ o ad M_X10_meanWeight 3 (some (.double (if c = 0 then FP.dconst0 else rMw (F 0) c))) (vU V 13 (if c = 0 then nI 1 else nI 0)) F 4 [some (.ref o), some (.int (rSm (F 0) i)), some (.int (nI i))] [] V F := by
    intro n
    induction n with
    | zero =>
      intro i hi
      obtain rfl : i = c := by omega
      by_cases h0 : i = 0
      · refine m_blk [(.iload_n 2, .null), (.aload_n 0, .null)] (Nat.le_of_ble_eq_true rfl) (by decide +kernel) ?_
        refine gx_iload_n_2 (gx_aload_n_0 ((gx_nil ?_)))
        refine m_getR fX10_9 (by decide +kernel) rfl ?_
        refine m_blk [(.iconst 3, .int (nI 3))] (Nat.le_of_ble_eq_true rfl) (by decide +kernel) ?_
        refine gx_iconst ((gx_nil ?_))
        refine m_al (j := 0) rfl (by decide +kernel) (show _ < 202 from by omega) ?_
        rw [h3]
        refine m_icmp_ge (off := 23) (tgt := 34) (by decide +kernel) (by decide) (fun c11 => ?_) (fun c11 => ?_)
        · try simp only [bI_0, Decidable.not_not] at c11
          refine m_blk [(.aload_n 0, .null), (.aload_n 0, .null)] (Nat.le_of_ble_eq_true rfl) (by decide +kernel) ?_
          refine gx_aload_n_0 (gx_aload_n_0 ((gx_nil ?_)))
          refine m_getR fX10_9 (by decide +kernel) rfl ?_
          refine m_blk [(.iconst 3, .int (nI 3))] (Nat.le_of_ble_eq_true rfl) (by decide +kernel) ?_
          refine gx_iconst ((gx_nil ?_))
          refine m_al (j := 0) rfl (by decide +kernel) (show _ < 202 from by omega) ?_
          rw [h3]
          refine m_if_le (off := 7) (tgt := 48) (by decide +kernel) (by decide) (fun c41 => ?_) (fun c41 => ?_)
          · try simp only [bI_0, Decidable.not_not] at c41
            refine m_blk [(.iconst 0, .int (nI 0))] (Nat.le_of_ble_eq_true rfl) (by decide +kernel) ?_
            refine gx_iconst ((gx_nil ?_))
            refine m_call kX10_62 (r_goes _) (by decide +kernel) rfl rfl (Nat.le_of_ble_eq_true rfl) (Nat.le_of_ble_eq_true rfl) (Nat.le_of_ble_eq_true rfl) rfl ?_
            rw [show bI (¬ nI 0 = 0) = nI 0 from by decide]
            simp only [Option.toList_some, List.cons_append, List.nil_append]
            refine m_if_eq (off := 16) (tgt := 68) (by decide +kernel) (by decide) (fun c52 => ?_) (fun c52 => ?_)
            · try simp only [bI_0, Decidable.not_not] at c52
              refine m_dconst0 (by decide +kernel) ?_
              refine m_end (some (.double _)) rfl ⟨by decide +kernel, rfl⟩ ?_ ?_ ?_
              · rw [if_pos h0]
              · rw [if_pos h0]; rfl
              · rfl
            · exact absurd (by decide) c52
          · try simp only [bI_0, Decidable.not_not] at c41
            exact absurd (by rw [h0]; decide) c41
        · try simp only [bI_0, Decidable.not_not] at c11
          exact absurd (Int32.le_refl _) c11
      · refine m_blk [(.iload_n 2, .null), (.aload_n 0, .null)] (Nat.le_of_ble_eq_true rfl) (by decide +kernel) ?_
        refine gx_iload_n_2 (gx_aload_n_0 ((gx_nil ?_)))
        refine m_getR fX10_9 (by decide +kernel) rfl ?_
        refine m_blk [(.iconst 3, .int (nI 3))] (Nat.le_of_ble_eq_true rfl) (by decide +kernel) ?_
        refine gx_iconst ((gx_nil ?_))
        refine m_al (j := 0) rfl (by decide +kernel) (show _ < 202 from by omega) ?_
        rw [h3]
        refine m_icmp_ge (off := 23) (tgt := 34) (by decide +kernel) (by decide) (fun c11 => ?_) (fun c11 => ?_)
        · try simp only [bI_0, Decidable.not_not] at c11
          refine m_blk [(.aload_n 0, .null), (.aload_n 0, .null)] (Nat.le_of_ble_eq_true rfl) (by decide +kernel) ?_
          refine gx_aload_n_0 (gx_aload_n_0 ((gx_nil ?_)))
          refine m_getR fX10_9 (by decide +kernel) rfl ?_
          refine m_blk [(.iconst 3, .int (nI 3))] (Nat.le_of_ble_eq_true rfl) (by decide +kernel) ?_
          refine gx_iconst ((gx_nil ?_))
          refine m_al (j := 0) rfl (by decide +kernel) (show _ < 202 from by omega) ?_
          rw [h3]
          refine m_if_le (off := 7) (tgt := 48) (by decide +kernel) (by decide) (fun c41 => ?_) (fun c41 => ?_)
          · try simp only [bI_0, Decidable.not_not] at c41
            exact absurd (Int32.not_le.mpr ((show (0 : Int32) = nI 0 by decide) ▸ (nI_ltI (by decide) (by omega)).mpr (Nat.pos_of_ne_zero h0))) (fun z => z c41)
          · try simp only [bI_0, Decidable.not_not] at c41
            refine m_blk [(.iconst 1, .int (nI 1)), (.goto 4, .retAddr 49)] (Nat.le_of_ble_eq_true rfl) (by decide +kernel) ?_
            refine gx_iconst (gx_goto ((gx_nil ?_)))
            refine m_call kX10_62 (r_goes _) (by decide +kernel) rfl rfl (Nat.le_of_ble_eq_true rfl) (Nat.le_of_ble_eq_true rfl) (Nat.le_of_ble_eq_true rfl) rfl ?_
            rw [show bI (¬ nI 1 = 0) = nI 1 from by decide]
            simp only [Option.toList_some, List.cons_append, List.nil_append]
            refine m_if_eq (off := 16) (tgt := 68) (by decide +kernel) (by decide) (fun c52 => ?_) (fun c52 => ?_)
            · exact absurd c52 (by decide)
            · try simp only [bI_0, Decidable.not_not] at c52
              refine m_blk [(.iload_n 1, .null), (.i2d, .null), (.aload_n 0, .null)] (Nat.le_of_ble_eq_true rfl) (by decide +kernel) ?_
              refine gx_iload_n_1 (gx_i2d (gx_aload_n_0 ((gx_nil ?_))))
              refine m_getR fX10_9 (by decide +kernel) rfl ?_
              refine m_blk [(.iconst 3, .int (nI 3))] (Nat.le_of_ble_eq_true rfl) (by decide +kernel) ?_
              refine gx_iconst ((gx_nil ?_))
              refine m_al (j := 0) rfl (by decide +kernel) (show _ < 202 from by omega) ?_
              rw [h3]
              refine m_blk [(.i2d, .null)] (Nat.le_of_ble_eq_true rfl) (by decide +kernel) ?_
              refine gx_i2d ((gx_nil ?_))
              refine m_ddiv (rMw_n h hn h0) (by decide +kernel) ?_
              refine m_blk [(.goto 4, .retAddr 69)] (Nat.le_of_ble_eq_true rfl) (by decide +kernel) ?_
              refine gx_goto ((gx_nil ?_))
              refine m_end (some (.double _)) rfl ⟨by decide +kernel, rfl⟩ ?_ ?_ ?_
              · rw [if_neg h0]; rfl
              · rw [if_neg h0]; rfl
              · rfl
        · try simp only [bI_0, Decidable.not_not] at c11
          exact absurd (Int32.le_refl _) c11
    | succ n ih =>
      intro i hi
      refine m_blk [(.iload_n 2, .null), (.aload_n 0, .null)] (Nat.le_of_ble_eq_true rfl) (by decide +kernel) ?_
      refine gx_iload_n_2 (gx_aload_n_0 ((gx_nil ?_)))
      refine m_getR fX10_9 (by decide +kernel) rfl ?_
      refine m_blk [(.iconst 3, .int (nI 3))] (Nat.le_of_ble_eq_true rfl) (by decide +kernel) ?_
      refine gx_iconst ((gx_nil ?_))
      refine m_al (j := 0) rfl (by decide +kernel) (show _ < 202 from by omega) ?_
      rw [h3]
      refine m_icmp_ge (off := 23) (tgt := 34) (by decide +kernel) (by decide) (fun c11 => ?_) (fun c11 => ?_)
      · try simp only [bI_0, Decidable.not_not] at c11
        exact absurd c11 (nI_ge (by omega) (by omega))
      · try simp only [bI_0, Decidable.not_not] at c11
        refine m_blk [(.iload_n 1, .null), (.aload_n 0, .null)] (Nat.le_of_ble_eq_true rfl) (by decide +kernel) ?_
        refine gx_iload_n_1 (gx_aload_n_0 ((gx_nil ?_)))
        refine m_getR fX10_9 (by decide +kernel) rfl ?_
        refine m_blk [(.iload_n 2, .null)] (Nat.le_of_ble_eq_true rfl) (by decide +kernel) ?_
        refine gx_iload_n_2 ((gx_nil ?_))
        refine m_callS kX10_94 (r_letterAt _) (by decide +kernel) rfl rfl (Nat.le_of_ble_eq_true rfl) (Nat.le_of_ble_eq_true rfl) (Nat.le_of_ble_eq_true rfl) rfl ?_
        try simp only [Option.toList_some, Option.toList_none, List.cons_append, List.nil_append, bI_0, n1_0, n0_0, Decidable.not_not, not_true_eq_false, not_false_eq_true, nI_add, pk_mul, Nat.add_zero, Nat.zero_add, Nat.reduceAdd, Nat.reduceMul]
        refine m_blk [(.iconst 2, .int (nI 2)), (.iadd, .null)] (Nat.le_of_ble_eq_true rfl) (by decide +kernel) ?_
        refine gx_iconst (gx_iadd ((gx_nil ?_)))
        try simp only [nI_add, pk_mul, Nat.add_zero, Nat.zero_add, Nat.reduceAdd, Nat.reduceMul]
        refine m_al (j := 0) rfl (by decide +kernel) (show _ < 202 from by omega) ?_
        refine m_blk [(.iadd, .null), (.istore_n 1, .null), (.iinc 2 1, .int (nI 1)), (.goto (-27), .retAddr 4)] (Nat.le_of_ble_eq_true rfl) (by decide +kernel) ?_
        refine gx_iadd (gx_istore_n_1 rfl (gx_iinc_2 rfl (gx_goto ((gx_nil ?_)))))
        try simp only [nI_add, pk_mul, Nat.add_zero, Nat.zero_add, Nat.reduceAdd, Nat.reduceMul]
        exact ih (i + 1) (by omega)
  refine mC_of (by decide) rfl (Nat.le_of_ble_eq_true rfl) [some (.ref o), none, none] rfl ?_
  refine m_blk [(.iconst 0, .int (nI 0)), (.istore_n 1, .null), (.iconst 0, .int (nI 0)), (.istore_n 2, .null)] (Nat.le_of_ble_eq_true rfl) (by decide +kernel) ?_
  refine gx_iconst (gx_istore_n_1 rfl (gx_iconst (gx_istore_n_2 rfl ((gx_nil ?_)))))
  exact loop c 0 (by omega)
theorem rp_lineChar {n : Nat} {lx : Nat → Nat} (h12 : V 12 = nI n) (hn : n ≤ 60) (hL : ∀ i, i < n → F 11 i = nI (lx i) ∧ lx i < 128) (x : Int32) : mC Γ o ad M_X10_lineChar [.int x] V F 2 (some (.int (if nI 0 ≤ x ∧ x ≤ nI n - nI 1 then nI (lx x.toNatClampNeg) else nI 0))) (vU V 13 (rT (bI (nI 0 ≤ x ∧ x ≤ nI n - nI 1)) (nI 1) (nI 1))) (F) := by
  by_cases hx : nI 0 ≤ x ∧ x ≤ nI n - nI 1
  · obtain ⟨k, rfl, hk⟩ : ∃ k, x = nI k ∧ k < n := by
      by_cases z : n = 0
      · rw [z] at hx
        exact absurd (Int32.le_trans hx.1 hx.2) (by decide)
      · rw [nI_subN (by omega)] at hx
        obtain ⟨k, e, -, hk⟩ := i32_in (by omega) (by omega) hx
        exact ⟨k, e, by omega⟩
    have hk9 := hL k hk
    rw [if_pos hx, bI_t hx, nI_clamp (by omega)]
    refine mC_of (by decide) rfl (Nat.le_of_ble_eq_true rfl) [some (.ref o), some (.int (nI k))] rfl ?_
    refine m_blk [(.aload_n 0, .null), (.iload_n 1, .null), (.iconst 0, .int (nI 0)), (.aload_n 0, .null)] (Nat.le_of_ble_eq_true rfl) (by decide +kernel) ?_
    refine gx_aload_n_0 (gx_iload_n_1 (gx_iconst (gx_aload_n_0 ((gx_nil ?_)))))
    refine m_getI fX10_209 (by decide +kernel) rfl ?_
    try simp only [vU_s, vU_n, ne_eq, Nat.reduceEqDiff, not_false_eq_true, h12, nI_add, pk_mul, Nat.add_zero, Nat.zero_add, Nat.reduceAdd, Nat.reduceMul]
    refine m_blk [(.iconst 1, .int (nI 1)), (.isub, .null)] (Nat.le_of_ble_eq_true rfl) (by decide +kernel) ?_
    refine gx_iconst (gx_isub ((gx_nil ?_)))
    refine m_callS kX10_70 (r_isIn _ _ _) (by decide +kernel) rfl rfl (Nat.le_of_ble_eq_true rfl) (Nat.le_of_ble_eq_true rfl) (Nat.le_of_ble_eq_true rfl) rfl ?_
    simp only [Option.toList_some, List.cons_append, List.nil_append]
    rw [bI_t hx]
    refine m_call kX10_62 (r_goes _) (by decide +kernel) rfl rfl (Nat.le_of_ble_eq_true rfl) (Nat.le_of_ble_eq_true rfl) (Nat.le_of_ble_eq_true rfl) rfl ?_
    simp only [Option.toList_some, List.cons_append, List.nil_append]
    refine m_if_eq (off := 13) (tgt := 28) (by decide +kernel) (by decide) (fun c15 => ?_) (fun c15 => ?_)
    · try simp only [bI_0, Decidable.not_not] at c15
      exact absurd c15 (by decide)
    · try simp only [bI_0, Decidable.not_not] at c15
      refine m_blk [(.aload_n 0, .null)] (Nat.le_of_ble_eq_true rfl) (by decide +kernel) ?_
      refine gx_aload_n_0 ((gx_nil ?_))
      refine m_getR fX10_35 (by decide +kernel) rfl ?_
      refine m_blk [(.iload_n 1, .null)] (Nat.le_of_ble_eq_true rfl) (by decide +kernel) ?_
      refine gx_iload_n_1 ((gx_nil ?_))
      refine m_al (j := 11) rfl (by decide +kernel) (show _ < 60 from by omega) ?_
      rw [hk9.1]
      refine m_blk [(.i2c, .null), (.goto 4, .retAddr 29)] (Nat.le_of_ble_eq_true rfl) (by decide +kernel) ?_
      refine gx_i2c (gx_goto ((gx_nil ?_)))
      rw [nI_c1 hk9.2]
      refine m_end (some (.int _)) rfl ⟨by decide +kernel, _, rfl, nar_c hk9.2⟩ ?_ ?_ ?_
      · rfl
      · rfl
      · rfl
  · rw [if_neg hx, bI_f hx]
    refine mC_of (by decide) rfl (Nat.le_of_ble_eq_true rfl) [some (.ref o), some (.int x)] rfl ?_
    refine m_blk [(.aload_n 0, .null), (.iload_n 1, .null), (.iconst 0, .int (nI 0)), (.aload_n 0, .null)] (Nat.le_of_ble_eq_true rfl) (by decide +kernel) ?_
    refine gx_aload_n_0 (gx_iload_n_1 (gx_iconst (gx_aload_n_0 ((gx_nil ?_)))))
    refine m_getI fX10_209 (by decide +kernel) rfl ?_
    try simp only [vU_s, vU_n, ne_eq, Nat.reduceEqDiff, not_false_eq_true, h12, nI_add, pk_mul, Nat.add_zero, Nat.zero_add, Nat.reduceAdd, Nat.reduceMul]
    refine m_blk [(.iconst 1, .int (nI 1)), (.isub, .null)] (Nat.le_of_ble_eq_true rfl) (by decide +kernel) ?_
    refine gx_iconst (gx_isub ((gx_nil ?_)))
    refine m_callS kX10_70 (r_isIn _ _ _) (by decide +kernel) rfl rfl (Nat.le_of_ble_eq_true rfl) (Nat.le_of_ble_eq_true rfl) (Nat.le_of_ble_eq_true rfl) rfl ?_
    simp only [Option.toList_some, List.cons_append, List.nil_append]
    rw [bI_f hx]
    refine m_call kX10_62 (r_goes _) (by decide +kernel) rfl rfl (Nat.le_of_ble_eq_true rfl) (Nat.le_of_ble_eq_true rfl) (Nat.le_of_ble_eq_true rfl) rfl ?_
    simp only [Option.toList_some, List.cons_append, List.nil_append]
    refine m_if_eq (off := 13) (tgt := 28) (by decide +kernel) (by decide) (fun c15 => ?_) (fun c15 => ?_)
    · try simp only [bI_0, Decidable.not_not] at c15
      refine m_blk [(.iconst 0, .int (nI 0))] (Nat.le_of_ble_eq_true rfl) (by decide +kernel) ?_
      refine gx_iconst ((gx_nil ?_))
      refine m_end (some (.int _)) rfl ⟨by decide +kernel, _, rfl, rfl⟩ ?_ ?_ ?_
      · rfl
      · rfl
      · rfl
    · try simp only [bI_0, Decidable.not_not] at c15
      exact absurd (by decide) c15
end SRm
