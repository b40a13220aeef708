section S20ref11leantxt
variable {Γ : gE} {o : Nat} {ad : Nat → Nat} {V : Nat → Int32} {F : Nat → Nat → Int32}
theorem rIx_nI {i : Nat} (h : i ≤ 5) : rIx (nI i) = i := by
  unfold rIx
  rw [if_pos ⟨nI_le (by omega) (by omega), nI_le h (by omega)⟩, nI_clamp (by omega)]
def rc (N : Nat → Int32) : Nat := (N 3).toNatClampNeg
def rtt (N : Nat → Int32) : Nat := (N 4).toNatClampNeg
def rGd (N : Nat → Int32) : Prop := (∃ c, c ≤ 20 ∧ N 3 = nI c) ∧ (∃ t, t ≤ 12 ∧ N 4 = nI t) ∧ rOK N
theorem rGd.c {N : Nat → Int32} (h : rGd N) : rc N ≤ 20 ∧ N 3 = nI (rc N) := by
  obtain ⟨⟨c, h1, h2⟩, -, -⟩ := h
  unfold rc
  rw [h2, nI_clamp (by omega)]
  exact ⟨h1, rfl⟩
theorem rGd.t {N : Nat → Int32} (h : rGd N) : rtt N ≤ 12 ∧ N 4 = nI (rtt N) := by
  obtain ⟨-, ⟨c, h1, h2⟩, -⟩ := h
  unfold rtt
  rw [h2, nI_clamp (by omega)]
  exact ⟨h1, rfl⟩
theorem rDE_g {N : Nat → Int32} (h : rGd N) (i : Nat) (hi : i ≤ 5) : rGd (rDE (nI i) (rDL (nI i) (rtt N) (rc N) N 0 (nI 0))) := by
  have hc := h.c
  obtain ⟨⟨c', a, b⟩, k⟩ := rDL_g (rt := nI i) (t := rtt N) (rc N) 0 (rc N) N (nI 0) (by omega) hc.2
  have hx5 := rIx_le (nI i)
  unfold rDE
  refine ⟨⟨c', by omega, ?_⟩, ⟨rtt N, h.t.1, ?_⟩, fun r hr => ?_⟩
  · rw [pk_un (by omega), pk_un (by omega)]; exact b
  · rw [pk_un (by omega), pk_un (by omega), k 4 (by omega) (by omega) (by omega) (by omega)]; exact h.t.2
  · rw [pk_un (by omega)]
    by_cases e : r = rIx (nI i)
    · subst e
      rw [pk_us]
      exact ⟨0, by omega, rfl⟩
    · rw [pk_un (by omega), k _ (by omega) (by omega) (by omega) (by omega)]
      exact h.2.2 r hr
def rRt (X : (Nat → Int32) × Int32) (i : Nat) : (Nat → Int32) × Int32 := if X.1 (8 + 3 * i + 1) = X.1 0 then (rDE (nI i) (rDL (nI i) (rtt X.1) (rc X.1) X.1 0 (nI 0)), X.2 + (rDL (nI i) (rtt X.1) (rc X.1) X.1 0 (nI 0)).2) else X
theorem rRt_g {X : (Nat → Int32) × Int32} (h : rGd X.1) (i : Nat) (hi : i ≤ 5) : rGd (rRt X i).1 := by
  unfold rRt
  split
  · exact rDE_g h i hi
  · exact h
def rRF : Nat → Nat → (Nat → Int32) × Int32 → (Nat → Int32) × Int32
  | 0, _, X => X
  | n + 1, i, X => rRF n (i + 1) (rRt X i)
theorem rRF_g : ∀ (n i : Nat) (X : (Nat → Int32) × Int32), i + n = 6 → rGd X.1 → rGd (rRF n i X).1
  | 0, _, _, _, h => h
  | n + 1, i, X, e, h => rRF_g n (i + 1) (rRt X i) (by omega) (rRt_g h i (by omega))
def rTick (N : Nat → Int32) : Nat → Int32 := upd (upd N 1 (N 1 + (if N 0 = nI 23 then nI 1 else nI 0))) 0 (N 0 + nI 1 - (N 0 + nI 1) / nI 24 * nI 24)
theorem rTick_g {N : Nat → Int32} (h : rGd N) : rGd (rTick N) := by
  unfold rTick
  refine ⟨⟨rc N, h.c.1, ?_⟩, ⟨rtt N, h.t.1, ?_⟩, fun r hr => ?_⟩
  · rw [pk_un (by omega), pk_un (by omega)]; exact h.c.2
  · rw [pk_un (by omega), pk_un (by omega)]; exact h.t.2
  · rw [pk_un (by omega), pk_un (by omega)]; exact h.2.2 r hr
def rHF : Nat → (Nat → Int32) × Int32 → (Nat → Int32) × Int32
  | 0, X => X
  | n + 1, X => rHF n (rRF 6 0 (rTick X.1, X.2))
theorem rHF_g : ∀ (n : Nat) (X : (Nat → Int32) × Int32), rGd X.1 → rGd (rHF n X).1
  | 0, _, h => h
  | n + 1, X, h => rHF_g n _ (rRF_g 6 0 _ rfl (rTick_g h))
theorem r_wIn {v : Option Value} {V' : Nat → Int32} {F' : Nat → Nat → Int32} {H k : Int32} : ∀ n i (X : (Nat → Int32) × Int32), i + n = 6 → rGd X.1 → mG Γ o ad M_X10_waits 4 v V' F' 117 [some (.ref o), some (.int H), some (.int (rRF n i X).2), some (.int k), none] [] V (fR F 0 (rRF n i X).1) → mG Γ o ad M_X10_waits 4 v V' F' 70 [some (.ref o), some (.int H), some (.int X.2), some (.int k), some (.int (nI i))] [] V (fR F 0 X.1) := by
  intro n
  induction n with
  | zero =>
    intro i X hn hg cont
    refine m_blk [(.iload 4, .null), (.bipush 6, .int (nI 6))] (Nat.le_of_ble_eq_true rfl) (by decide +kernel) ?_
    refine gx_iload_4 (gx_bipush ((gx_nil ?_)))
    refine m_icmp_ge (off := 43) (tgt := 117) (by decide +kernel) (by decide) (fun c74 => ?_) (fun c74 => ?_)
    · try simp only [bI_0, Decidable.not_not] at c74
      exact m_weak (by simp [gLe, rRF]) cont
    · try simp only [bI_0, Decidable.not_not] at c74
      exact absurd (nI_le (by omega) (by omega)) c74
  | succ n ih =>
    intro i X hn hg cont
    have hix := rIx_nI (i := i) (by omega)
    refine m_blk [(.iload 4, .null), (.bipush 6, .int (nI 6))] (Nat.le_of_ble_eq_true rfl) (by decide +kernel) ?_
    refine gx_iload_4 (gx_bipush ((gx_nil ?_)))
    refine m_icmp_ge (off := 43) (tgt := 117) (by decide +kernel) (by decide) (fun c74 => ?_) (fun c74 => ?_)
    · try simp only [bI_0, Decidable.not_not] at c74
      exact absurd c74 (nI_ge (by omega) (by omega))
    · try simp only [bI_0, Decidable.not_not] at c74
      refine m_blk [(.iload_n 2, .null), (.aload_n 0, .null)] (Nat.le_of_ble_eq_true rfl) (by decide +kernel) ?_
      refine gx_iload_n_2 (gx_aload_n_0 ((gx_nil ?_)))
      refine m_getR fX10_9 (by decide +kernel) rfl ?_
      refine m_blk [(.iload 4, .null)] (Nat.le_of_ble_eq_true rfl) (by decide +kernel) ?_
      refine gx_iload_4 ((gx_nil ?_))
      refine m_callS kX10_41 (r_routeAt _) (by decide +kernel) rfl rfl (Nat.le_of_ble_eq_true rfl) (Nat.le_of_ble_eq_true rfl) (Nat.le_of_ble_eq_true rfl) rfl ?_
      try simp only [Option.toList_some, Option.toList_none, List.cons_append, List.nil_append, bI_0, n1_0, n0_0, Decidable.not_not, not_true_eq_false, not_false_eq_true, nI_add, pk_mul, Nat.add_zero, Nat.zero_add, Nat.reduceAdd, Nat.reduceMul]
      refine m_blk [(.iconst 1, .int (nI 1)), (.iadd, .null)] (Nat.le_of_ble_eq_true rfl) (by decide +kernel) ?_
      refine gx_iconst (gx_iadd ((gx_nil ?_)))
      try simp only [nI_add, pk_mul, Nat.add_zero, Nat.zero_add, Nat.reduceAdd, Nat.reduceMul]
      refine m_al (j := 0) rfl (by decide +kernel) (show _ < 202 from by omega) ?_
      rw [hix]
      simp only [fR_s]
      refine m_blk [(.aload_n 0, .null)] (Nat.le_of_ble_eq_true rfl) (by decide +kernel) ?_
      refine gx_aload_n_0 ((gx_nil ?_))
      refine m_getR fX10_9 (by decide +kernel) rfl ?_
      refine m_blk [(.iconst 0, .int (nI 0))] (Nat.le_of_ble_eq_true rfl) (by decide +kernel) ?_
      refine gx_iconst ((gx_nil ?_))
      refine m_al (j := 0) rfl (by decide +kernel) (show _ < 202 from by omega) ?_
      simp only [fR_s]
      refine m_icmp_ne (off := 12) (tgt := 108) (by decide +kernel) (by decide) (fun c96 => ?_) (fun c96 => ?_)
      · try simp only [bI_0, Decidable.not_not] at c96
        refine m_blk [(.iconst 0, .int (nI 0)), (.iadd, .null), (.istore_n 2, .null), (.iinc 4 1, .int (nI 1)), (.goto (-44), .retAddr 70)] (Nat.le_of_ble_eq_true rfl) (by decide +kernel) ?_
        refine gx_iconst (gx_iadd (gx_istore_n_2 rfl (gx_iinc_4 rfl (gx_goto ((gx_nil ?_))))))
        try simp only [nI_add, pk_mul, Nat.add_zero, Nat.zero_add, Nat.reduceAdd, Nat.reduceMul]
        have hX : rRt X i = X := if_neg c96
        have e9 := ih (i + 1) X (by omega) hg (by rw [show rRF n (i + 1) X = rRF (n + 1) i X by show _ = rRF n (i + 1) (rRt X i); rw [hX]]; exact cont)
        rw [a_n0]
        exact e9
      · try simp only [bI_0, Decidable.not_not] at c96
        refine m_blk [(.aload_n 0, .null), (.iload 4, .null)] (Nat.le_of_ble_eq_true rfl) (by decide +kernel) ?_
        refine gx_aload_n_0 (gx_iload_4 ((gx_nil ?_)))
        refine m_call kX10_173 (r_departs hg.c.1 hg.c.2 hg.t.1 hg.t.2 (nI i)) (by decide +kernel) rfl rfl (Nat.le_of_ble_eq_true rfl) (Nat.le_of_ble_eq_true rfl) (Nat.le_of_ble_eq_true rfl) rfl ?_
        try simp only [Option.toList_some, Option.toList_none, List.cons_append, List.nil_append, bI_0, n1_0, n0_0, Decidable.not_not, not_true_eq_false, not_false_eq_true, nI_add, pk_mul, Nat.add_zero, Nat.zero_add, Nat.reduceAdd, Nat.reduceMul]
        refine m_blk [(.goto 4, .retAddr 109), (.iadd, .null), (.istore_n 2, .null), (.iinc 4 1, .int (nI 1)), (.goto (-44), .retAddr 70)] (Nat.le_of_ble_eq_true rfl) (by decide +kernel) ?_
        refine gx_goto (gx_iadd (gx_istore_n_2 rfl (gx_iinc_4 rfl (gx_goto ((gx_nil ?_))))))
        try simp only [nI_add, pk_mul, Nat.add_zero, Nat.zero_add, Nat.reduceAdd, Nat.reduceMul]
        have hX : rRt X i = (rDE (nI i) (rDL (nI i) (rtt X.1) (rc X.1) X.1 0 (nI 0)), X.2 + (rDL (nI i) (rtt X.1) (rc X.1) X.1 0 (nI 0)).2) := if_pos c96
        have e9 := ih (i + 1) (rRt X i) (by omega) (rRt_g hg i (by omega)) cont
        rw [hX] at e9
        simp only [fR_s, fR_fR]
        exact e9
theorem r_wOut {H : Nat} (hH : H ≤ 48) : ∀ n k (X : (Nat → Int32) × Int32), k + n = H → rGd X.1 → mG Γ o ad M_X10_waits 4 (some (.int (rHF n X).2)) V (fR F 0 (rHF n X).1) 20 [some (.ref o), some (.int (nI H)), some (.int X.2), some (.int (nI k)), none] [] V (fR F 0 X.1) := by
  intro n
  induction n with
  | zero =>
    intro k X hn hg
    refine m_blk [(.iload_n 3, .null), (.iload_n 1, .null)] (Nat.le_of_ble_eq_true rfl) (by decide +kernel) ?_
    refine gx_iload_n_3 (gx_iload_n_1 ((gx_nil ?_)))
    refine m_icmp_ge (off := 101) (tgt := 123) (by decide +kernel) (by decide) (fun c22 => ?_) (fun c22 => ?_)
    · try simp only [bI_0, Decidable.not_not] at c22
      refine m_blk [(.iload_n 2, .null)] (Nat.le_of_ble_eq_true rfl) (by decide +kernel) ?_
      refine gx_iload_n_2 ((gx_nil ?_))
      refine m_end (some (.int _)) rfl ⟨by decide +kernel, _, rfl, rfl⟩ ?_ ?_ ?_
      · rfl
      · rfl
      · rfl
    · try simp only [bI_0, Decidable.not_not] at c22
      exact absurd (nI_le (by omega) (by omega)) c22
  | succ n ih =>
    intro k X hn hg
    refine m_blk [(.iload_n 3, .null), (.iload_n 1, .null)] (Nat.le_of_ble_eq_true rfl) (by decide +kernel) ?_
    refine gx_iload_n_3 (gx_iload_n_1 ((gx_nil ?_)))
    refine m_icmp_ge (off := 101) (tgt := 123) (by decide +kernel) (by decide) (fun c22 => ?_) (fun c22 => ?_)
    · try simp only [bI_0, Decidable.not_not] at c22
      exact absurd c22 (nI_ge (by omega) (by omega))
    · try simp only [bI_0, Decidable.not_not] at c22
      refine m_blk [(.aload_n 0, .null)] (Nat.le_of_ble_eq_true rfl) (by decide +kernel) ?_
      refine gx_aload_n_0 ((gx_nil ?_))
      refine m_getR fX10_9 (by decide +kernel) rfl ?_
      refine m_blk [(.iconst 1, .int (nI 1)), (.dup2, .null)] (Nat.le_of_ble_eq_true rfl) (by decide +kernel) ?_
      refine gx_iconst (gx_dup2ir ((gx_nil ?_)))
      refine m_al (j := 0) rfl (by decide +kernel) (show _ < 202 from by omega) ?_
      simp only [fR_s]
      refine m_blk [(.aload_n 0, .null)] (Nat.le_of_ble_eq_true rfl) (by decide +kernel) ?_
      refine gx_aload_n_0 ((gx_nil ?_))
      refine m_getR fX10_9 (by decide +kernel) rfl ?_
      refine m_blk [(.iconst 0, .int (nI 0))] (Nat.le_of_ble_eq_true rfl) (by decide +kernel) ?_
      refine gx_iconst ((gx_nil ?_))
      refine m_al (j := 0) rfl (by decide +kernel) (show _ < 202 from by omega) ?_
      simp only [fR_s]
      refine m_blk [(.bipush 23, .int (nI 23))] (Nat.le_of_ble_eq_true rfl) (by decide +kernel) ?_
      refine gx_bipush ((gx_nil ?_))
      refine m_icmp_ne (off := 7) (tgt := 47) (by decide +kernel) (by decide) (fun c40 => ?_) (fun c40 => ?_)
      · try simp only [bI_0, Decidable.not_not] at c40
        refine m_blk [(.iconst 0, .int (nI 0)), (.iadd, .null)] (Nat.le_of_ble_eq_true rfl) (by decide +kernel) ?_
        refine gx_iconst (gx_iadd ((gx_nil ?_)))
        try simp only [nI_add, pk_mul, Nat.add_zero, Nat.zero_add, Nat.reduceAdd, Nat.reduceMul]
        refine m_as (j := 0) rfl (by decide +kernel) (show _ < 202 from by omega) ?_
        refine m_blk [(.aload_n 0, .null)] (Nat.le_of_ble_eq_true rfl) (by decide +kernel) ?_
        refine gx_aload_n_0 ((gx_nil ?_))
        refine m_getR fX10_9 (by decide +kernel) rfl ?_
        refine m_blk [(.iconst 0, .int (nI 0)), (.aload_n 0, .null)] (Nat.le_of_ble_eq_true rfl) (by decide +kernel) ?_
        refine gx_iconst (gx_aload_n_0 ((gx_nil ?_)))
        refine m_getR fX10_9 (by decide +kernel) rfl ?_
        refine m_blk [(.iconst 0, .int (nI 0))] (Nat.le_of_ble_eq_true rfl) (by decide +kernel) ?_
        refine gx_iconst ((gx_nil ?_))
        refine m_al (j := 0) rfl (by decide +kernel) (show _ < 202 from by omega) ?_
        refine m_blk [(.iconst 1, .int (nI 1)), (.iadd, .null), (.bipush 24, .int (nI 24))] (Nat.le_of_ble_eq_true rfl) (by decide +kernel) ?_
        refine gx_iconst (gx_iadd (gx_bipush ((gx_nil ?_))))
        try simp only [nI_add, pk_mul, Nat.add_zero, Nat.zero_add, Nat.reduceAdd, Nat.reduceMul]
        refine m_irem (by decide) (by decide +kernel) ?_
        refine m_as (j := 0) rfl (by decide +kernel) (show _ < 202 from by omega) ?_
        refine m_blk [(.iconst 0, .int (nI 0)), (.istore 4, .null)] (Nat.le_of_ble_eq_true rfl) (by decide +kernel) ?_
        refine gx_iconst (gx_istore_4 rfl ((gx_nil ?_)))
        have hT : rTick X.1 = upd (upd X.1 1 (X.1 1 + nI 0)) 0 (X.1 0 + nI 1 - (X.1 0 + nI 1) / nI 24 * nI 24) := by
          unfold rTick
          rw [if_neg c40]
        simp only [fU_row, fR_s, fR_fR]
        rw [pk_un (by omega), ← hT]
        refine r_wIn 6 0 (rTick X.1, X.2) rfl (rTick_g hg) ?_
        refine m_blk [(.iinc 3 1, .int (nI 1)), (.goto (-100), .retAddr 20)] (Nat.le_of_ble_eq_true rfl) (by decide +kernel) ?_
        refine gx_iinc_3 rfl (gx_goto ((gx_nil ?_)))
        try simp only [nI_add, pk_mul, Nat.add_zero, Nat.zero_add, Nat.reduceAdd, Nat.reduceMul]
        exact ih (k + 1) (rRF 6 0 (rTick X.1, X.2)) (by omega) (rRF_g 6 0 _ rfl (rTick_g hg))
      · try simp only [bI_0, Decidable.not_not] at c40
        refine m_blk [(.iconst 1, .int (nI 1)), (.goto 4, .retAddr 48), (.iadd, .null)] (Nat.le_of_ble_eq_true rfl) (by decide +kernel) ?_
        refine gx_iconst (gx_goto (gx_iadd ((gx_nil ?_))))
        try simp only [nI_add, pk_mul, Nat.add_zero, Nat.zero_add, Nat.reduceAdd, Nat.reduceMul]
        refine m_as (j := 0) rfl (by decide +kernel) (show _ < 202 from by omega) ?_
        refine m_blk [(.aload_n 0, .null)] (Nat.le_of_ble_eq_true rfl) (by decide +kernel) ?_
        refine gx_aload_n_0 ((gx_nil ?_))
        refine m_getR fX10_9 (by decide +kernel) rfl ?_
        refine m_blk [(.iconst 0, .int (nI 0)), (.aload_n 0, .null)] (Nat.le_of_ble_eq_true rfl) (by decide +kernel) ?_
        refine gx_iconst (gx_aload_n_0 ((gx_nil ?_)))
        refine m_getR fX10_9 (by decide +kernel) rfl ?_
        refine m_blk [(.iconst 0, .int (nI 0))] (Nat.le_of_ble_eq_true rfl) (by decide +kernel) ?_
        refine gx_iconst ((gx_nil ?_))
        refine m_al (j := 0) rfl (by decide +kernel) (show _ < 202 from by omega) ?_
        refine m_blk [(.iconst 1, .int (nI 1)), (.iadd, .null), (.bipush 24, .int (nI 24))] (Nat.le_of_ble_eq_true rfl) (by decide +kernel) ?_
        refine gx_iconst (gx_iadd (gx_bipush ((gx_nil ?_))))
        try simp only [nI_add, pk_mul, Nat.add_zero, Nat.zero_add, Nat.reduceAdd, Nat.reduceMul]
        refine m_irem (by decide) (by decide +kernel) ?_
        refine m_as (j := 0) rfl (by decide +kernel) (show _ < 202 from by omega) ?_
        refine m_blk [(.iconst 0, .int (nI 0)), (.istore 4, .null)] (Nat.le_of_ble_eq_true rfl) (by decide +kernel) ?_
        refine gx_iconst (gx_istore_4 rfl ((gx_nil ?_)))
        have hT : rTick X.1 = upd (upd X.1 1 (X.1 1 + nI 1)) 0 (X.1 0 + nI 1 - (X.1 0 + nI 1) / nI 24 * nI 24) := by
          unfold rTick
          rw [if_pos c40]
        simp only [fU_row, fR_s, fR_fR]
        rw [pk_un (by omega), ← hT]
        refine r_wIn 6 0 (rTick X.1, X.2) rfl (rTick_g hg) ?_
        refine m_blk [(.iinc 3 1, .int (nI 1)), (.goto (-100), .retAddr 20)] (Nat.le_of_ble_eq_true rfl) (by decide +kernel) ?_
        refine gx_iinc_3 rfl (gx_goto ((gx_nil ?_)))
        try simp only [nI_add, pk_mul, Nat.add_zero, Nat.zero_add, Nat.reduceAdd, Nat.reduceMul]
        exact ih (k + 1) (rRF 6 0 (rTick X.1, X.2)) (by omega) (rRF_g 6 0 _ rfl (rTick_g hg))
theorem r_waits (hg : rGd (F 0)) (hrs : Int32) : mC Γ o ad M_X10_waits [.int hrs] V F 4 (some (.int (if rT (bI (nI 1 ≤ hrs ∧ hrs ≤ nI 48)) (nI 1) (nI 1) = 0 then (rHF hrs.toNatClampNeg (F 0, nI 0)).2 else nI 0))) (vU V 13 (rT (bI (nI 1 ≤ hrs ∧ hrs ≤ nI 48)) (nI 1) (nI 1))) (fR F 0 (if rT (bI (nI 1 ≤ hrs ∧ hrs ≤ nI 48)) (nI 1) (nI 1) = 0 then (rHF hrs.toNatClampNeg (F 0, nI 0)).1 else F 0)) := by
  refine mC_of (by decide) rfl (Nat.le_of_ble_eq_true rfl) [some (.ref o), some (.int hrs), none, none, none] rfl ?_
  refine m_blk [(.aload_n 0, .null), (.iload_n 1, .null), (.iconst 1, .int (nI 1)), (.bipush 48, .int (nI 48))] (Nat.le_of_ble_eq_true rfl) (by decide +kernel) ?_
  refine gx_aload_n_0 (gx_iload_n_1 (gx_iconst (gx_bipush ((gx_nil ?_)))))
  refine m_callS kX10_70 (r_isIn _ _ _) (by decide +kernel) rfl rfl (Nat.le_of_ble_eq_true rfl) (Nat.le_of_ble_eq_true rfl) (Nat.le_of_ble_eq_true rfl) rfl ?_
  try simp only [Option.toList_some, Option.toList_none, List.cons_append, List.nil_append, bI_0, n1_0, n0_0, Decidable.not_not, not_true_eq_false, not_false_eq_true, nI_add, pk_mul, Nat.add_zero, Nat.zero_add, Nat.reduceAdd, Nat.reduceMul]
  refine m_call kX10_62 (r_goes _) (by decide +kernel) rfl rfl (Nat.le_of_ble_eq_true rfl) (Nat.le_of_ble_eq_true rfl) (Nat.le_of_ble_eq_true rfl) rfl ?_
  try simp only [Option.toList_some, Option.toList_none, List.cons_append, List.nil_append, bI_0, n1_0, n0_0, Decidable.not_not, not_true_eq_false, not_false_eq_true, nI_add, pk_mul, Nat.add_zero, Nat.zero_add, Nat.reduceAdd, Nat.reduceMul]
  refine m_if_ne (off := 5) (tgt := 16) (by decide +kernel) (by decide) (fun c11 => ?_) (fun c11 => ?_)
  · try simp only [bI_0, Decidable.not_not] at c11
    refine m_blk [(.iconst 0, .int (nI 0)), (.istore_n 2, .null), (.iconst 0, .int (nI 0)), (.istore_n 3, .null)] (Nat.le_of_ble_eq_true rfl) (by decide +kernel) ?_
    refine gx_iconst (gx_istore_n_2 rfl (gx_iconst (gx_istore_n_3 rfl ((gx_nil ?_)))))
    have hq : nI 1 ≤ hrs ∧ hrs ≤ nI 48 := c11
    have hτ : rT (bI (nI 1 ≤ hrs ∧ hrs ≤ nI 48)) (nI 1) (nI 1) = 0 := (rT_iff _ _ _).mpr ⟨by rw [bI_0]; exact fun y => y hq, by decide, by decide⟩
    rw [if_pos hτ, if_pos hτ]
    obtain ⟨H, hH, rfl⟩ := nI_of2 (M := nI 48) (n := 48) (by decide) (by rw [Int32.not_lt]; exact Int32.le_trans (by decide) hq.1) hq.2
    rw [nI_clamp (by omega)]
    have e9 := r_wOut (Γ := Γ) (o := o) (ad := ad) (V := vU V 13 (rT (bI (nI 1 ≤ nI H ∧ nI H ≤ nI 48)) (nI 1) (nI 1))) (F := F) hH H 0 (F 0, nI 0) (by omega) hg
    rw [show fR F 0 (F 0, nI 0).1 = F from fR_self] at e9
    exact e9
  · try simp only [bI_0, Decidable.not_not] at c11
    refine m_blk [(.iconst 0, .int (nI 0))] (Nat.le_of_ble_eq_true rfl) (by decide +kernel) ?_
    refine gx_iconst ((gx_nil ?_))
    have hτ : ¬ rT (bI (nI 1 ≤ hrs ∧ hrs ≤ nI 48)) (nI 1) (nI 1) = 0 := fun z => by
      have := ((rT_iff _ _ _).mp z).1
      rw [bI_0] at this
      exact this (fun y => c11 y)
    refine m_end (some (.int _)) rfl ⟨by decide +kernel, _, rfl, rfl⟩ ?_ ?_ ?_
    · rw [if_neg hτ]
    · rfl
    · rw [if_neg hτ, fR_self]
end S20ref11leantxt
