section GOf5
variable {Γ : gE} {de : Nat} {h : gHp}
theorem s_n0 (m : Int32) : m - nI 0 = m := by
  rw [show nI 0 = 0 by decide]
  exact Int32.sub_zero m
def gRb (N : Nat → Int32) (c r s : Nat) : Bool := decide (rWt N (nI s) (-1) c < rWt N (nI r) (-1) c ∨ (rWt N (nI r) (-1) c = rWt N (nI s) (-1) c ∧ (gCb N (nI s) < gCb N (nI r) ∨ (gCb N (nI r) = gCb N (nI s) ∧ nI r < nI s))))
def gRank (N : Nat → Int32) (c a : Nat) : Nat → Int32
  | 0 => nI 0
  | b + 1 => gRank N c a b + bI (gRb N c b a = true)
theorem of_ranksBefore {o c t la ta ca da ba pa ep : Nat} {fl fq ls ps : List Nat} {N : Nat → Int32} (H : gOx Γ de h o N c t la ta ca da ba pa ep fl fq ls ps) (hc : c ≤ 20) {r s : Nat} (hr : r < 6) (hs : s < 6) : pC Γ M_X4_ranksBefore [.ref o, .int (nI r), .int (nI s)] h 4 (some (.int (bI (gRb N c r s = true)))) := by
  have H0 := H
  obtain ⟨ho, HL, hlc, hls, hta, HP, hpc, hps, hep, ⟨fc, hca, hfc⟩, ⟨fd, hda, hfd⟩, ⟨fb, hba, hfb⟩⟩ := H0
  refine pC_of (by decide) rfl (Nat.le_of_ble_eq_true rfl) [some (.ref o), some (.int (nI r)), some (.int (nI s)), none, none] rfl ?_
  refine g_blk [(.aload_n 0, .null), (.iload_n 1, .null)] (Nat.le_of_ble_eq_true rfl) (by decide +kernel) ?_
  refine gx_aload_n_0 (gx_iload_n_1 ((gx_nil ?_)))
  refine g_pV kX4_186 (of_weightByLetters H hc _) (by decide +kernel) rfl rfl ho rfl (Nat.le_of_ble_eq_true rfl) (Nat.le_of_ble_eq_true rfl) (Nat.le_of_ble_eq_true rfl) rfl ?_
  try simp only [Option.toList_some, Option.toList_none, List.cons_append, List.nil_append, bI_0, n1_0, n0_0, Decidable.not_not, not_true_eq_false, not_false_eq_true, nI_add, Nat.add_zero, Nat.zero_add, Nat.reduceAdd]
  refine g_blk [(.istore_n 3, .null), (.aload_n 0, .null), (.iload_n 2, .null)] (Nat.le_of_ble_eq_true rfl) (by decide +kernel) ?_
  refine gx_istore_n_3 rfl (gx_aload_n_0 (gx_iload_n_2 ((gx_nil ?_))))
  refine g_pV kX4_186 (of_weightByLetters H hc _) (by decide +kernel) rfl rfl ho rfl (Nat.le_of_ble_eq_true rfl) (Nat.le_of_ble_eq_true rfl) (Nat.le_of_ble_eq_true rfl) rfl ?_
  try simp only [Option.toList_some, Option.toList_none, List.cons_append, List.nil_append, bI_0, n1_0, n0_0, Decidable.not_not, not_true_eq_false, not_false_eq_true, nI_add, Nat.add_zero, Nat.zero_add, Nat.reduceAdd]
  refine g_blk [(.istore 4, .null), (.iload_n 3, .null), (.iload 4, .null)] (Nat.le_of_ble_eq_true rfl) (by decide +kernel) ?_
  refine gx_istore_4 rfl (gx_iload_n_3 (gx_iload_4 ((gx_nil ?_))))
  refine g_icmp_eq (off := 15) (tgt := 31) (by decide +kernel) (by decide) (fun c16 => ?_) (fun c16 => ?_)
  · try simp only [bI_0, Decidable.not_not] at c16
    refine g_blk [(.aload_n 0, .null), (.iload_n 1, .null)] (Nat.le_of_ble_eq_true rfl) (by decide +kernel) ?_
    refine gx_aload_n_0 (gx_iload_n_1 ((gx_nil ?_)))
    refine g_pV kX4_179 (of_countBags H _) (by decide +kernel) rfl rfl ho rfl (Nat.le_of_ble_eq_true rfl) (Nat.le_of_ble_eq_true rfl) (Nat.le_of_ble_eq_true rfl) rfl ?_
    try simp only [Option.toList_some, Option.toList_none, List.cons_append, List.nil_append, bI_0, n1_0, n0_0, Decidable.not_not, not_true_eq_false, not_false_eq_true, nI_add, Nat.add_zero, Nat.zero_add, Nat.reduceAdd]
    refine g_blk [(.aload_n 0, .null), (.iload_n 2, .null)] (Nat.le_of_ble_eq_true rfl) (by decide +kernel) ?_
    refine gx_aload_n_0 (gx_iload_n_2 ((gx_nil ?_)))
    refine g_pV kX4_179 (of_countBags H _) (by decide +kernel) rfl rfl ho rfl (Nat.le_of_ble_eq_true rfl) (Nat.le_of_ble_eq_true rfl) (Nat.le_of_ble_eq_true rfl) rfl ?_
    try simp only [Option.toList_some, Option.toList_none, List.cons_append, List.nil_append, bI_0, n1_0, n0_0, Decidable.not_not, not_true_eq_false, not_false_eq_true, nI_add, Nat.add_zero, Nat.zero_add, Nat.reduceAdd]
    refine g_icmp_eq (off := 22) (tgt := 63) (by decide +kernel) (by decide) (fun c41 => ?_) (fun c41 => ?_)
    · try simp only [bI_0, Decidable.not_not] at c41
      refine g_blk [(.iload_n 1, .null), (.iload_n 2, .null)] (Nat.le_of_ble_eq_true rfl) (by decide +kernel) ?_
      refine gx_iload_n_1 (gx_iload_n_2 ((gx_nil ?_)))
      refine g_icmp_ge (off := 7) (tgt := 72) (by decide +kernel) (by decide) (fun c65 => ?_) (fun c65 => ?_)
      · try simp only [bI_0, Decidable.not_not] at c65
        refine g_blk [(.iconst 0, .int (nI 0))] (Nat.le_of_ble_eq_true rfl) (by decide +kernel) ?_
        refine gx_iconst ((gx_nil ?_))
        refine g_end (some (.int _)) rfl ⟨by decide +kernel, _, rfl, by first | rfl | exact bI_nar _⟩ ⟨?_, rfl⟩
        rw [bI_f (p := gRb N c r s = true) (fun z => (of_decide_eq_true z).elim (fun y => by rw [c16] at y; exact absurd y Int32.lt_irrefl) (fun y => y.2.elim (fun x => by rw [c41] at x; exact absurd x Int32.lt_irrefl) (fun x => absurd x.2 (Int32.not_lt.mpr c65))))]
      · try simp only [bI_0, Decidable.not_not] at c65
        refine g_blk [(.iconst 1, .int (nI 1)), (.goto 4, .retAddr 73)] (Nat.le_of_ble_eq_true rfl) (by decide +kernel) ?_
        refine gx_iconst (gx_goto ((gx_nil ?_)))
        refine g_end (some (.int _)) rfl ⟨by decide +kernel, _, rfl, by first | rfl | exact bI_nar _⟩ ⟨?_, rfl⟩
        rw [bI_t (p := gRb N c r s = true) (decide_eq_true (Or.inr ⟨c16, Or.inr ⟨c41, Int32.not_le.mp c65⟩⟩))]
    · try simp only [bI_0, Decidable.not_not] at c41
      refine g_blk [(.aload_n 0, .null), (.iload_n 1, .null)] (Nat.le_of_ble_eq_true rfl) (by decide +kernel) ?_
      refine gx_aload_n_0 (gx_iload_n_1 ((gx_nil ?_)))
      refine g_pV kX4_179 (of_countBags H _) (by decide +kernel) rfl rfl ho rfl (Nat.le_of_ble_eq_true rfl) (Nat.le_of_ble_eq_true rfl) (Nat.le_of_ble_eq_true rfl) rfl ?_
      try simp only [Option.toList_some, Option.toList_none, List.cons_append, List.nil_append, bI_0, n1_0, n0_0, Decidable.not_not, not_true_eq_false, not_false_eq_true, nI_add, Nat.add_zero, Nat.zero_add, Nat.reduceAdd]
      refine g_blk [(.aload_n 0, .null), (.iload_n 2, .null)] (Nat.le_of_ble_eq_true rfl) (by decide +kernel) ?_
      refine gx_aload_n_0 (gx_iload_n_2 ((gx_nil ?_)))
      refine g_pV kX4_179 (of_countBags H _) (by decide +kernel) rfl rfl ho rfl (Nat.le_of_ble_eq_true rfl) (Nat.le_of_ble_eq_true rfl) (Nat.le_of_ble_eq_true rfl) rfl ?_
      try simp only [Option.toList_some, Option.toList_none, List.cons_append, List.nil_append, bI_0, n1_0, n0_0, Decidable.not_not, not_true_eq_false, not_false_eq_true, nI_add, Nat.add_zero, Nat.zero_add, Nat.reduceAdd]
      refine g_icmp_le (off := 7) (tgt := 61) (by decide +kernel) (by decide) (fun c54 => ?_) (fun c54 => ?_)
      · try simp only [bI_0, Decidable.not_not] at c54
        refine g_blk [(.iconst 0, .int (nI 0))] (Nat.le_of_ble_eq_true rfl) (by decide +kernel) ?_
        refine gx_iconst ((gx_nil ?_))
        refine g_end (some (.int _)) rfl ⟨by decide +kernel, _, rfl, by first | rfl | exact bI_nar _⟩ ⟨?_, rfl⟩
        rw [bI_f (p := gRb N c r s = true) (fun z => (of_decide_eq_true z).elim (fun y => by rw [c16] at y; exact absurd y Int32.lt_irrefl) (fun y => y.2.elim (fun x => absurd x (Int32.not_lt.mpr c54)) (fun x => c41 x.1)))]
      · try simp only [bI_0, Decidable.not_not] at c54
        refine g_blk [(.iconst 1, .int (nI 1)), (.goto 4, .retAddr 62)] (Nat.le_of_ble_eq_true rfl) (by decide +kernel) ?_
        refine gx_iconst (gx_goto ((gx_nil ?_)))
        refine g_end (some (.int _)) rfl ⟨by decide +kernel, _, rfl, by first | rfl | exact bI_nar _⟩ ⟨?_, rfl⟩
        rw [bI_t (p := gRb N c r s = true) (decide_eq_true (Or.inr ⟨c16, Or.inl (Int32.not_le.mp c54)⟩))]
  · try simp only [bI_0, Decidable.not_not] at c16
    refine g_blk [(.iload_n 3, .null), (.iload 4, .null)] (Nat.le_of_ble_eq_true rfl) (by decide +kernel) ?_
    refine gx_iload_n_3 (gx_iload_4 ((gx_nil ?_)))
    refine g_icmp_le (off := 7) (tgt := 29) (by decide +kernel) (by decide) (fun c22 => ?_) (fun c22 => ?_)
    · try simp only [bI_0, Decidable.not_not] at c22
      refine g_blk [(.iconst 0, .int (nI 0))] (Nat.le_of_ble_eq_true rfl) (by decide +kernel) ?_
      refine gx_iconst ((gx_nil ?_))
      refine g_end (some (.int _)) rfl ⟨by decide +kernel, _, rfl, by first | rfl | exact bI_nar _⟩ ⟨?_, rfl⟩
      rw [bI_f (p := gRb N c r s = true) (fun z => (of_decide_eq_true z).elim (fun y => absurd y (Int32.not_lt.mpr c22)) (fun y => c16 y.1))]
    · try simp only [bI_0, Decidable.not_not] at c22
      refine g_blk [(.iconst 1, .int (nI 1)), (.goto 4, .retAddr 30)] (Nat.le_of_ble_eq_true rfl) (by decide +kernel) ?_
      refine gx_iconst (gx_goto ((gx_nil ?_)))
      refine g_end (some (.int _)) rfl ⟨by decide +kernel, _, rfl, by first | rfl | exact bI_nar _⟩ ⟨?_, rfl⟩
      rw [bI_t (p := gRb N c r s = true) (decide_eq_true (Or.inl (Int32.not_le.mp c22)))]
theorem of_rankOf {o c t la ta ca da ba pa ep : Nat} {fl fq ls ps : List Nat} {N : Nat → Int32} (H : gOx Γ de h o N c t la ta ca da ba pa ep fl fq ls ps) (hc : c ≤ 20) {a : Nat} (ha : a < 6) : pC Γ M_X4_rankOf [.ref o, .int (nI a)] h 5 (some (.int (gRank N c a 6))) := by
  have H0 := H
  obtain ⟨ho, HL, hlc, hls, hta, HP, hpc, hps, hep, ⟨fc, hca, hfc⟩, ⟨fd, hda, hfd⟩, ⟨fb, hba, hfb⟩⟩ := H0
  have loop : ∀ n i, i + n = 6 → pG Γ M_X4_rankOf 5 (some (.int (gRank N c a 6))) h 4 [some (.ref o), some (.int (nI a)), some (.int (gRank N c a i)), some (.int (nI i))] [] := by
    intro n
    induction n with
    | zero =>
      intro i hi
      obtain rfl : i = 6 := by omega
      refine g_blk [(.iload_n 3, .null), (.bipush 6, .int (nI 6))] (Nat.le_of_ble_eq_true rfl) (by decide +kernel) ?_
      refine gx_iload_n_3 (gx_bipush ((gx_nil ?_)))
      refine g_icmp_ge (off := 21) (tgt := 28) (by decide +kernel) (by decide) (fun c7 => ?_) (fun c7 => ?_)
      · try simp only [bI_0, Decidable.not_not] at c7
        refine g_blk [(.iload_n 2, .null)] (Nat.le_of_ble_eq_true rfl) (by decide +kernel) ?_
        refine gx_iload_n_2 ((gx_nil ?_))
        refine g_end (some (.int _)) rfl ⟨by decide +kernel, _, rfl, rfl⟩ ⟨?_, rfl⟩
        rfl
      · try simp only [bI_0, Decidable.not_not] at c7
        exact absurd (nI_le (by omega) (by omega)) c7
    | succ n ih =>
      intro i hi
      refine g_blk [(.iload_n 3, .null), (.bipush 6, .int (nI 6))] (Nat.le_of_ble_eq_true rfl) (by decide +kernel) ?_
      refine gx_iload_n_3 (gx_bipush ((gx_nil ?_)))
      refine g_icmp_ge (off := 21) (tgt := 28) (by decide +kernel) (by decide) (fun c7 => ?_) (fun c7 => ?_)
      · try simp only [bI_0, Decidable.not_not] at c7
        exact absurd c7 (nI_ge (by omega) (by omega))
      · try simp only [bI_0, Decidable.not_not] at c7
        refine g_blk [(.aload_n 0, .null), (.iload_n 3, .null), (.iload_n 1, .null)] (Nat.le_of_ble_eq_true rfl) (by decide +kernel) ?_
        refine gx_aload_n_0 (gx_iload_n_3 (gx_iload_n_1 ((gx_nil ?_))))
        refine g_pV kX4_183 (of_ranksBefore H hc (by omega) ha) (by decide +kernel) rfl rfl ho rfl (Nat.le_of_ble_eq_true rfl) (Nat.le_of_ble_eq_true rfl) (Nat.le_of_ble_eq_true rfl) rfl ?_
        try simp only [Option.toList_some, Option.toList_none, List.cons_append, List.nil_append, bI_0, n1_0, n0_0, Decidable.not_not, not_true_eq_false, not_false_eq_true, nI_add, Nat.add_zero, Nat.zero_add, Nat.reduceAdd]
        refine g_if_eq (off := 6) (tgt := 22) (by decide +kernel) (by decide) (fun c16 => ?_) (fun c16 => ?_)
        · try simp only [bI_0, Decidable.not_not] at c16
          refine g_blk [(.iinc 3 1, .int (nI 1)), (.goto (-21), .retAddr 4)] (Nat.le_of_ble_eq_true rfl) (by decide +kernel) ?_
          refine gx_iinc_3 rfl (gx_goto ((gx_nil ?_)))
          try simp only [nI_add, Nat.add_zero, Nat.zero_add, Nat.reduceAdd]
          have e9 := ih (i + 1) (by omega)
          rw [show gRank N c a (i + 1) = gRank N c a i + bI (gRb N c i a = true) from rfl, bI_f c16, a_n0] at e9
          exact g_wk (by simp [gLe, nI_add]) e9
        · try simp only [bI_0, Decidable.not_not] at c16
          refine g_blk [(.iinc 2 1, .int (nI 1)), (.iinc 3 1, .int (nI 1)), (.goto (-21), .retAddr 4)] (Nat.le_of_ble_eq_true rfl) (by decide +kernel) ?_
          refine gx_iinc_2 rfl (gx_iinc_3 rfl (gx_goto ((gx_nil ?_))))
          try simp only [nI_add, Nat.add_zero, Nat.zero_add, Nat.reduceAdd]
          have e9 := ih (i + 1) (by omega)
          rw [show gRank N c a (i + 1) = gRank N c a i + bI (gRb N c i a = true) from rfl, bI_t c16] at e9
          exact g_wk (by simp [gLe, nI_add]) e9
  refine pC_of (by decide) rfl (Nat.le_of_ble_eq_true rfl) [some (.ref o), some (.int (nI a)), none, none] rfl ?_
  refine g_blk [(.iconst 0, .int (nI 0)), (.istore_n 2, .null), (.iconst 0, .int (nI 0)), (.istore_n 3, .null)] (Nat.le_of_ble_eq_true rfl) (by decide +kernel) ?_
  refine gx_iconst (gx_istore_n_2 rfl (gx_iconst (gx_istore_n_3 rfl ((gx_nil ?_)))))
  exact loop 6 0 rfl
def gHu (N : Nat → Int32) (r : Nat) : Int32 := if 0 < N (8 + 3 * r + 1) - N 0 then N (8 + 3 * r + 1) - N 0 else N (8 + 3 * r + 1) - N 0 + nI 24
theorem of_hours {o c t la ta ca da ba pa ep : Nat} {fl fq ls ps : List Nat} {N : Nat → Int32} (H : gOx Γ de h o N c t la ta ca da ba pa ep fl fq ls ps) {r : Nat} (hr : r < 6) : pC Γ M_X4_hoursUntilDeparture [.ref o, .int (nI r)] h 1 (some (.int (gHu N r))) := by
  have H0 := H
  obtain ⟨ho, HL, hlc, hls, hta, HP, hpc, hps, hep, ⟨fc, hca, hfc⟩, ⟨fd, hda, hfd⟩, ⟨fb, hba, hfb⟩⟩ := H0
  refine pC_of (by decide) rfl (Nat.le_of_ble_eq_true rfl) [some (.ref o), some (.int (nI r)), none] rfl ?_
  refine g_blk [(.iload_n 1, .null)] (Nat.le_of_ble_eq_true rfl) (by decide +kernel) ?_
  refine gx_iload_n_1 ((gx_nil ?_))
  refine g_pSN kX4_95 (pc_isRoute _) (by decide +kernel) rfl rfl (Nat.le_of_ble_eq_true rfl) (Nat.le_of_ble_eq_true rfl) (Nat.le_of_ble_eq_true rfl) rfl ?_
  try simp only [Option.toList_some, Option.toList_none, List.cons_append, List.nil_append, bI_0, n1_0, n0_0, Decidable.not_not, not_true_eq_false, not_false_eq_true, nI_add, Nat.add_zero, Nat.zero_add, Nat.reduceAdd]
  refine g_if_ne (off := 6) (tgt := 10) (by decide +kernel) (by decide) (fun c4 => ?_) (fun c4 => ?_)
  · try simp only [bI_0, Decidable.not_not] at c4
    refine g_blk [(.aload_n 0, .null)] (Nat.le_of_ble_eq_true rfl) (by decide +kernel) ?_
    refine gx_aload_n_0 ((gx_nil ?_))
    refine g_getf fX4_29 (by decide +kernel) ho rfl ?_
    refine g_blk [(.iload_n 1, .null)] (Nat.le_of_ble_eq_true rfl) (by decide +kernel) ?_
    refine gx_iload_n_1 ((gx_nil ?_))
    refine g_iaload (by decide +kernel) hda (vp_in_nI hr (by omega)) ?_
    rw [nI_clamp (by omega), hfd r hr]
    refine g_blk [(.aload_n 0, .null)] (Nat.le_of_ble_eq_true rfl) (by decide +kernel) ?_
    refine gx_aload_n_0 ((gx_nil ?_))
    refine g_getf fX4_35 (by decide +kernel) ho rfl ?_
    refine g_blk [(.isub, .null), (.istore_n 2, .null), (.iload_n 2, .null)] (Nat.le_of_ble_eq_true rfl) (by decide +kernel) ?_
    refine gx_isub (gx_istore_n_2 rfl (gx_iload_n_2 ((gx_nil ?_))))
    refine g_if_le (off := 7) (tgt := 30) (by decide +kernel) (by decide) (fun c23 => ?_) (fun c23 => ?_)
    · try simp only [bI_0, Decidable.not_not] at c23
      refine g_blk [(.iload_n 2, .null), (.bipush 24, .int (nI 24)), (.iadd, .null)] (Nat.le_of_ble_eq_true rfl) (by decide +kernel) ?_
      refine gx_iload_n_2 (gx_bipush (gx_iadd ((gx_nil ?_))))
      try simp only [nI_add, Nat.add_zero, Nat.zero_add, Nat.reduceAdd]
      refine g_end (some (.int _)) rfl ⟨by decide +kernel, _, rfl, rfl⟩ ⟨?_, rfl⟩
      (unfold gHu; first | rw [if_pos (Int32.not_le.mp c23)] | rw [if_neg (Int32.not_lt.mpr c23)])
    · try simp only [bI_0, Decidable.not_not] at c23
      refine g_blk [(.iload_n 2, .null), (.goto 7, .retAddr 34)] (Nat.le_of_ble_eq_true rfl) (by decide +kernel) ?_
      refine gx_iload_n_2 (gx_goto ((gx_nil ?_)))
      refine g_end (some (.int _)) rfl ⟨by decide +kernel, _, rfl, rfl⟩ ⟨?_, rfl⟩
      (unfold gHu; first | rw [if_pos (Int32.not_le.mp c23)] | rw [if_neg (Int32.not_lt.mpr c23)])
  · try simp only [bI_0, Decidable.not_not] at c4
    exact absurd ⟨nI_le (by omega) (by omega), nI_le (by omega) (by omega)⟩ c4
theorem of_addUp {o c t la ta ca da ba pa ep : Nat} {fl fq ls ps : List Nat} {N : Nat → Int32} (H : gOx Γ de h o N c t la ta ca da ba pa ep fl fq ls ps) : pC Γ M_X4_lettersAddUp [.ref o] h 1 (some (.int (bI (N 2 = nI c + N 5 + N 6)))) := by
  have H0 := H
  obtain ⟨ho, HL, hlc, hls, hta, HP, hpc, hps, hep, ⟨fc, hca, hfc⟩, ⟨fd, hda, hfd⟩, ⟨fb, hba, hfb⟩⟩ := H0
  refine pC_of (by decide) rfl (Nat.le_of_ble_eq_true rfl) [some (.ref o)] rfl ?_
  refine g_blk [(.aload_n 0, .null)] (Nat.le_of_ble_eq_true rfl) (by decide +kernel) ?_
  refine gx_aload_n_0 ((gx_nil ?_))
  refine g_getf fX4_42 (by decide +kernel) ho rfl ?_
  refine g_blk [(.aload_n 0, .null)] (Nat.le_of_ble_eq_true rfl) (by decide +kernel) ?_
  refine gx_aload_n_0 ((gx_nil ?_))
  refine g_getf fX4_12 (by decide +kernel) ho rfl ?_
  refine g_pV kX4_55 (al_size HL) (by decide +kernel) rfl rfl (al_cell HL) rfl (Nat.le_of_ble_eq_true rfl) (Nat.le_of_ble_eq_true rfl) (Nat.le_of_ble_eq_true rfl) rfl ?_
  simp only [Option.toList_some, List.cons_append, List.nil_append]
  rw [hlc]
  refine g_blk [(.aload_n 0, .null)] (Nat.le_of_ble_eq_true rfl) (by decide +kernel) ?_
  refine gx_aload_n_0 ((gx_nil ?_))
  refine g_getf fX4_45 (by decide +kernel) ho rfl ?_
  refine g_blk [(.iadd, .null), (.aload_n 0, .null)] (Nat.le_of_ble_eq_true rfl) (by decide +kernel) ?_
  refine gx_iadd (gx_aload_n_0 ((gx_nil ?_)))
  refine g_getf fX4_48 (by decide +kernel) ho rfl ?_
  refine g_blk [(.iadd, .null)] (Nat.le_of_ble_eq_true rfl) (by decide +kernel) ?_
  refine gx_iadd ((gx_nil ?_))
  refine g_icmp_ne (off := 7) (tgt := 28) (by decide +kernel) (by decide) (fun c21 => ?_) (fun c21 => ?_)
  · try simp only [bI_0, Decidable.not_not] at c21
    refine g_blk [(.iconst 0, .int (nI 0))] (Nat.le_of_ble_eq_true rfl) (by decide +kernel) ?_
    refine gx_iconst ((gx_nil ?_))
    refine g_end (some (.int _)) rfl ⟨by decide +kernel, _, rfl, by first | rfl | exact bI_nar _⟩ ⟨?_, rfl⟩
    first | rw [bI_t c21] | rw [bI_f c21]
  · try simp only [bI_0, Decidable.not_not] at c21
    refine g_blk [(.iconst 1, .int (nI 1)), (.goto 4, .retAddr 29)] (Nat.le_of_ble_eq_true rfl) (by decide +kernel) ?_
    refine gx_iconst (gx_goto ((gx_nil ?_)))
    refine g_end (some (.int _)) rfl ⟨by decide +kernel, _, rfl, by first | rfl | exact bI_nar _⟩ ⟨?_, rfl⟩
    first | rw [bI_t c21] | rw [bI_f c21]
theorem of_sound {o c t la ta ca da ba pa ep : Nat} {fl fq ls ps : List Nat} {N : Nat → Int32} (H : gOx Γ de h o N c t la ta ca da ba pa ep fl fq ls ps) (hc : c ≤ 20) (hOK : rOK N) (hS : ∀ r, r < 6 → rWt N (nI r) (-1) c = gWb N (nI r) c (rOp N (nI r)) ∧ gHt N (nI r) c (rOp N (nI r)) = false) : pC Γ M_X4_bagsAreSound [.ref o] h 5 (some (.int (nI 1))) := by
  have H0 := H
  obtain ⟨ho, HL, hlc, hls, hta, HP, hpc, hps, hep, ⟨fc, hca, hfc⟩, ⟨fd, hda, hfd⟩, ⟨fb, hba, hfb⟩⟩ := H0
  have loop : ∀ n i, i + n = 6 → pG Γ M_X4_bagsAreSound 5 (some (.int (nI 1))) h 2 [some (.ref o), some (.int (nI i))] [] := by
    intro n
    induction n with
    | zero =>
      intro i hi
      obtain rfl : i = 6 := by omega
      refine g_blk [(.iload_n 1, .null), (.bipush 6, .int (nI 6))] (Nat.le_of_ble_eq_true rfl) (by decide +kernel) ?_
      refine gx_iload_n_1 (gx_bipush ((gx_nil ?_)))
      refine g_icmp_ge (off := 32) (tgt := 37) (by decide +kernel) (by decide) (fun c5 => ?_) (fun c5 => ?_)
      · try simp only [bI_0, Decidable.not_not] at c5
        refine g_blk [(.iconst 1, .int (nI 1))] (Nat.le_of_ble_eq_true rfl) (by decide +kernel) ?_
        refine gx_iconst ((gx_nil ?_))
        refine g_end (some (.int _)) rfl ⟨by decide +kernel, _, rfl, by first | rfl | exact bI_nar _⟩ ⟨?_, rfl⟩
        rfl
      · try simp only [bI_0, Decidable.not_not] at c5
        exact absurd (nI_le (by omega) (by omega)) c5
    | succ n ih =>
      intro i hi
      have hop := hOK.get (nI i)
      have hS1 := hS i (by omega)
      have hcb : gCb N (nI i) = nI (rOp N (nI i)) := by
        unfold gCb
        rw [if_pos ⟨nI_le (by omega) (by omega), nI_le (by omega) (by omega)⟩]
        exact hop.2
      have hin : ¬ nI i = -1 := nI_nm1 (by omega)
      refine g_blk [(.iload_n 1, .null), (.bipush 6, .int (nI 6))] (Nat.le_of_ble_eq_true rfl) (by decide +kernel) ?_
      refine gx_iload_n_1 (gx_bipush ((gx_nil ?_)))
      refine g_icmp_ge (off := 32) (tgt := 37) (by decide +kernel) (by decide) (fun c5 => ?_) (fun c5 => ?_)
      · try simp only [bI_0, Decidable.not_not] at c5
        exact absurd c5 (nI_ge (by omega) (by omega))
      · try simp only [bI_0, Decidable.not_not] at c5
        refine g_blk [(.aload_n 0, .null), (.iload_n 1, .null)] (Nat.le_of_ble_eq_true rfl) (by decide +kernel) ?_
        refine gx_aload_n_0 (gx_iload_n_1 ((gx_nil ?_)))
        refine g_pV kX4_186 (of_weightByLetters H hc _) (by decide +kernel) rfl rfl ho rfl (Nat.le_of_ble_eq_true rfl) (Nat.le_of_ble_eq_true rfl) (Nat.le_of_ble_eq_true rfl) rfl ?_
        try simp only [Option.toList_some, Option.toList_none, List.cons_append, List.nil_append, bI_0, n1_0, n0_0, Decidable.not_not, not_true_eq_false, not_false_eq_true, nI_add, Nat.add_zero, Nat.zero_add, Nat.reduceAdd]
        refine g_blk [(.aload_n 0, .null), (.iload_n 1, .null)] (Nat.le_of_ble_eq_true rfl) (by decide +kernel) ?_
        refine gx_aload_n_0 (gx_iload_n_1 ((gx_nil ?_)))
        refine g_pV kX4_194 (of_weightByBags H hc hop.1 hin hcb) (by decide +kernel) rfl rfl ho rfl (Nat.le_of_ble_eq_true rfl) (Nat.le_of_ble_eq_true rfl) (Nat.le_of_ble_eq_true rfl) rfl ?_
        try simp only [Option.toList_some, Option.toList_none, List.cons_append, List.nil_append, bI_0, n1_0, n0_0, Decidable.not_not, not_true_eq_false, not_false_eq_true, nI_add, Nat.add_zero, Nat.zero_add, Nat.reduceAdd]
        refine g_icmp_ne (off := 11) (tgt := 29) (by decide +kernel) (by decide) (fun c18 => ?_) (fun c18 => ?_)
        · try simp only [bI_0, Decidable.not_not] at c18
          exact absurd hS1.1 c18
        · try simp only [bI_0, Decidable.not_not] at c18
          refine g_blk [(.aload_n 0, .null), (.iload_n 1, .null)] (Nat.le_of_ble_eq_true rfl) (by decide +kernel) ?_
          refine gx_aload_n_0 (gx_iload_n_1 ((gx_nil ?_)))
          refine g_pV kX4_197 (of_hasTooHeavy H hc hop.1 hin hcb) (by decide +kernel) rfl rfl ho rfl (Nat.le_of_ble_eq_true rfl) (Nat.le_of_ble_eq_true rfl) (Nat.le_of_ble_eq_true rfl) rfl ?_
          try simp only [Option.toList_some, Option.toList_none, List.cons_append, List.nil_append, bI_0, n1_0, n0_0, Decidable.not_not, not_true_eq_false, not_false_eq_true, nI_add, Nat.add_zero, Nat.zero_add, Nat.reduceAdd]
          refine g_if_eq (off := 5) (tgt := 31) (by decide +kernel) (by decide) (fun c26 => ?_) (fun c26 => ?_)
          · try simp only [bI_0, Decidable.not_not] at c26
            refine g_blk [(.iinc 1 1, .int (nI 1)), (.goto (-32), .retAddr 2)] (Nat.le_of_ble_eq_true rfl) (by decide +kernel) ?_
            refine gx_iinc_1 rfl (gx_goto ((gx_nil ?_)))
            try simp only [nI_add, Nat.add_zero, Nat.zero_add, Nat.reduceAdd]
            exact ih (i + 1) (by omega)
          · try simp only [bI_0, Decidable.not_not] at c26
            exact absurd c26 (by rw [hS1.2]; decide)
  refine pC_of (by decide) rfl (Nat.le_of_ble_eq_true rfl) [some (.ref o), none] rfl ?_
  refine g_blk [(.iconst 0, .int (nI 0)), (.istore_n 1, .null)] (Nat.le_of_ble_eq_true rfl) (by decide +kernel) ?_
  refine gx_iconst (gx_istore_n_1 rfl ((gx_nil ?_)))
  exact loop 6 0 rfl
/-- a prefix around a prefix, told by the first code -/
theorem rAb_eq {N : Nat → Int32} {t j dg ln : Nat} (ht : t ≤ 12) (hv : rPv N t) (h1 : 1 ≤ ln) (h2 : ln ≤ 4) (hd : dg < 10 ^ ln) (e1 : N (26 + 3 * j + 0) = nI dg) (e2 : N (26 + 3 * j + 1) = nI ln) : ∀ i, i ≤ t → rMatch N (nI (dg * 10 ^ (4 - ln))) (nI 4) (nI ln - nI 1) i = rMatch N (N (26 + 3 * j + 0)) (N (26 + 3 * j + 1)) (N (26 + 3 * j + 1) - nI 1) i := by
  have hp : 10 ^ ln * 10 ^ (4 - ln) = 10000 := by
    rcases pw_cases h1 h2 with rfl | rfl | rfl | rfl <;> decide
  have hpos : 0 < 10 ^ (4 - ln) := Nat.pow_pos (by decide)
  have hlt : dg * 10 ^ (4 - ln) < 10000 := by
    rw [← hp]
    exact Nat.mul_lt_mul_of_pos_right hd hpos
  intro i
  induction i with
  | zero => intro _; rfl
  | succ i ih =>
    intro hi
    have ih := ih (by omega)
    obtain ⟨dg', ln', rt', f1, f2, -, v1, v2, v3, -⟩ := hv i (by omega)
    rw [rMatch_s, rMatch_s, ih, f1, f2, e1, e2]
    by_cases z : nI ln' ≤ nI ln - nI 1
    · rw [nI_subN h1] at z
      have hz := (nI_leI (by omega) (by omega)).mp z
      have key : nI (dg * 10 ^ (4 - ln)) / rTens (rMax (nI 0) (nI 4 - nI ln')) = nI dg / rTens (rMax (nI 0) (nI ln - nI ln')) := by
        have hdl : dg < 10000 := Nat.lt_of_le_of_lt (Nat.le_mul_of_pos_right _ hpos) hlt
        rw [nI_subN v2, nI_subN (by omega), rMax_0 (by omega), rMax_0 (by omega), rTens_n (by omega), rTens_n (by omega)]
        have q1 : 0 < 10 ^ (4 - ln') := Nat.pow_pos (by decide)
        have q2 : 0 < 10 ^ (ln - ln') := Nat.pow_pos (by decide)
        have b1 : 10 ^ (4 - ln') ≤ 10 ^ 4 := Nat.pow_le_pow_right (by decide) (by omega)
        have b2 : 10 ^ (ln - ln') ≤ 10 ^ 4 := Nat.pow_le_pow_right (by decide) (by omega)
        rw [pk_div (by omega) q1 (by omega), pk_div (by omega) q2 (by omega)]
        have hs : 10 ^ (4 - ln') = 10 ^ (ln - ln') * 10 ^ (4 - ln) := by rw [← Nat.pow_add]; congr 1; omega
        rw [hs, Nat.mul_div_mul_right _ _ hpos]
      rw [key]
    · rw [if_neg (fun y => z y.1.1), if_neg (fun y => z y.1.1)]
theorem tb_countCodes {t ta pa ep : Nat} {fq ps : List Nat} {N : Nat → Int32} (hta : h ta = some (gJ 11 [.ref pa, .ref ep])) (HP : gAL Γ de h pa fq ps) (hpc : ps.length = t) (hps : ∀ j p, ps[j]? = some p → gPre h N j p) (hep : h ep = some (gJ 9 [.int 0, .int 0, .int (-1), .int (nI 10000), .int 0])) (ht : t ≤ 12) (hv : rPv N t) {rt : Int32} (hr : ¬ rt = -1) : pC Γ M_X8_countCodes [.ref ta, .int rt] h 4 (some (.int (rCs N rt t t))) := by
  have loop : ∀ n i, i ≤ t → t < i + n → pG Γ M_X8_countCodes 4 (some (.int (rCs N rt t t))) h 4 [some (.ref ta), some (.int rt), some (.int (rCs N rt t i)), some (.int (nI i)), none, none] [] := by
    intro n
    induction n with
    | zero => intro i h1 h2; omega
    | succ n ih =>
      intro i hi hn
      refine g_blk [(.iload_n 3, .null), (.aload_n 0, .null)] (Nat.le_of_ble_eq_true rfl) (by decide +kernel) ?_
      refine gx_iload_n_3 (gx_aload_n_0 ((gx_nil ?_)))
      refine g_getf fX8_12 (by decide +kernel) hta rfl ?_
      refine g_pV kX8_27 (al_size HP) (by decide +kernel) rfl rfl (al_cell HP) rfl (Nat.le_of_ble_eq_true rfl) (Nat.le_of_ble_eq_true rfl) (Nat.le_of_ble_eq_true rfl) rfl ?_
      simp only [Option.toList_some, List.cons_append, List.nil_append]
      rw [hpc]
      refine g_icmp_ge (off := 74) (tgt := 86) (by decide +kernel) (by decide) (fun c12 => ?_) (fun c12 => ?_)
      · try simp only [bI_0, Decidable.not_not] at c12
        have hic : t = i := by
          have := (nI_leI (by omega) (by omega)).mp c12
          omega
        subst hic
        refine g_blk [(.iload_n 2, .null)] (Nat.le_of_ble_eq_true rfl) (by decide +kernel) ?_
        refine gx_iload_n_2 ((gx_nil ?_))
        refine g_end (some (.int _)) rfl ⟨by decide +kernel, _, rfl, rfl⟩ ⟨?_, rfl⟩
        rfl
      · try simp only [bI_0, Decidable.not_not] at c12
        have hic : i < t := by
          rcases Nat.lt_or_ge i t with q | q
          · exact q
          · exact absurd (nI_le q (by omega)) c12
        obtain ⟨p9, hx9⟩ : ∃ z, ps[i]? = some z := ⟨_, List.getElem?_eq_getElem (by omega)⟩
        have hp9 := hps i p9 hx9
        obtain ⟨dg, ln, rt1, ed, el, er, v1, v2, v3, v4⟩ := hv i hic
        have hsp : gSpan N i = rTens (nI 4 - N (26 + 3 * i + 1)) := rfl
        have hpos : 0 < 10 ^ (4 - ln) := Nat.pow_pos (by decide)
        have hlt : dg * 10 ^ (4 - ln) < 10000 := by
          rw [show 10000 = 10 ^ ln * 10 ^ (4 - ln) by rcases pw_cases v1 v2 with rfl | rfl | rfl | rfl <;> decide]
          exact Nat.mul_lt_mul_of_pos_right v3 hpos
        have hfc : N (26 + 3 * i) * gSpan N i = nI (dg * 10 ^ (4 - ln)) := by rw [hsp, ed, el, nI_subN v2, rTens_n (by omega), pk_mul]
        have hab : rMatch N (nI (dg * 10 ^ (4 - ln))) (nI 4) (N (26 + 3 * i + 1) - nI 1) t = rAb N t i := by
          have e9 := rAb_eq ht hv v1 v2 v3 (j := i) ed el t (Nat.le_refl _)
          rw [el]
          exact e9
        obtain ⟨la, lb, lc, hlg⟩ := pR_cell hpc hps hep (m := rAb N t i) ht rMatch_in
        have hto : pTo N (rAb N t i) = rt ↔ (¬ rAb N t i = -1 ∧ N (26 + 3 * (rAb N t i).toNatClampNeg + 2) = rt) := by
          unfold pTo
          by_cases y : rAb N t i = -1
          · rw [if_pos y]; exact ⟨fun z => absurd z.symm hr, fun z => absurd y z.1⟩
          · rw [if_neg y]; exact ⟨fun z => ⟨y, z⟩, fun z => z.2⟩
        refine g_blk [(.aload_n 0, .null)] (Nat.le_of_ble_eq_true rfl) (by decide +kernel) ?_
        refine gx_aload_n_0 ((gx_nil ?_))
        refine g_getf fX8_12 (by decide +kernel) hta rfl ?_
        refine g_blk [(.iload_n 3, .null)] (Nat.le_of_ble_eq_true rfl) (by decide +kernel) ?_
        refine gx_iload_n_3 ((gx_nil ?_))
        refine g_pV kX8_31 (al_get HP hx9) (by decide +kernel) rfl rfl (al_cell HP) rfl (Nat.le_of_ble_eq_true rfl) (Nat.le_of_ble_eq_true rfl) (Nat.le_of_ble_eq_true rfl) rfl ?_
        try simp only [Option.toList_some, Option.toList_none, List.cons_append, List.nil_append, bI_0, n1_0, n0_0, Decidable.not_not, not_true_eq_false, not_false_eq_true, nI_add]
        refine g_castO hp9 rfl rfl (clX8_18) (by decide +kernel) ?_
        refine g_blk [(.astore 4, .null), (.aload_n 0, .null), (.aload 4, .null)] (Nat.le_of_ble_eq_true rfl) (by decide +kernel) ?_
        refine gx_astore_4 rfl (gx_aload_n_0 (gx_aload_4 ((gx_nil ?_))))
        refine g_getf fX8_64 (by decide +kernel) hp9 rfl ?_
        rw [hfc]
        refine g_blk [(.aload 4, .null)] (Nat.le_of_ble_eq_true rfl) (by decide +kernel) ?_
        refine gx_aload_4 ((gx_nil ?_))
        refine g_getf fX8_61 (by decide +kernel) hp9 rfl ?_
        refine g_blk [(.iconst 1, .int (nI 1)), (.isub, .null)] (Nat.le_of_ble_eq_true rfl) (by decide +kernel) ?_
        refine gx_iconst (gx_isub ((gx_nil ?_)))
        refine g_pV kX8_70 (tb_longest hta HP hpc hps hep ht hv hlt _) (by decide +kernel) rfl rfl hta rfl (Nat.le_of_ble_eq_true rfl) (Nat.le_of_ble_eq_true rfl) (Nat.le_of_ble_eq_true rfl) rfl ?_
        simp only [Option.toList_some, List.cons_append, List.nil_append]
        rw [hab]
        refine g_blk [(.astore 5, .null), (.aload 4, .null)] (Nat.le_of_ble_eq_true rfl) (by decide +kernel) ?_
        refine gx_astore_5 rfl (gx_aload_4 ((gx_nil ?_)))
        refine g_getf fX8_54 (by decide +kernel) hp9 rfl ?_
        refine g_blk [(.iload_n 1, .null)] (Nat.le_of_ble_eq_true rfl) (by decide +kernel) ?_
        refine gx_iload_n_1 ((gx_nil ?_))
        refine g_icmp_ne (off := 11) (tgt := 63) (by decide +kernel) (by decide) (fun c52 => ?_) (fun c52 => ?_)
        · try simp only [bI_0, Decidable.not_not] at c52
          refine g_blk [(.aload 5, .null)] (Nat.le_of_ble_eq_true rfl) (by decide +kernel) ?_
          refine gx_aload_5 ((gx_nil ?_))
          refine g_getf fX8_54 (by decide +kernel) hlg rfl ?_
          refine g_blk [(.iload_n 1, .null)] (Nat.le_of_ble_eq_true rfl) (by decide +kernel) ?_
          refine gx_iload_n_1 ((gx_nil ?_))
          refine g_icmp_ne (off := 11) (tgt := 80) (by decide +kernel) (by decide) (fun c69 => ?_) (fun c69 => ?_)
          · try simp only [bI_0, Decidable.not_not] at c69
            refine g_blk [(.iinc 3 1, .int (nI 1)), (.goto (-79), .retAddr 4)] (Nat.le_of_ble_eq_true rfl) (by decide +kernel) ?_
            refine gx_iinc_3 rfl (gx_goto ((gx_nil ?_)))
            try simp only [nI_add]
            have e9 := ih (i + 1) (by omega) (by omega)
            rw [rCs_s, if_neg c52, if_neg (fun z => c69 (hto.mpr z)), a_n0, s_n0] at e9
            exact g_wk (by simp [gLe, nI_add]) e9
          · try simp only [bI_0, Decidable.not_not] at c69
            refine g_blk [(.iload_n 2, .null), (.aload 4, .null)] (Nat.le_of_ble_eq_true rfl) (by decide +kernel) ?_
            refine gx_iload_n_2 (gx_aload_4 ((gx_nil ?_)))
            refine g_getf fX8_67 (by decide +kernel) hp9 rfl ?_
            refine g_blk [(.isub, .null), (.istore_n 2, .null), (.iinc 3 1, .int (nI 1)), (.goto (-79), .retAddr 4)] (Nat.le_of_ble_eq_true rfl) (by decide +kernel) ?_
            refine gx_isub (gx_istore_n_2 rfl (gx_iinc_3 rfl (gx_goto ((gx_nil ?_)))))
            try simp only [nI_add]
            have e9 := ih (i + 1) (by omega) (by omega)
            rw [rCs_s, if_neg c52, if_pos (hto.mp c69), a_n0, ← hsp] at e9
            exact g_wk (by simp [gLe, nI_add]) e9
        · try simp only [bI_0, Decidable.not_not] at c52
          refine g_blk [(.iload_n 2, .null), (.aload 4, .null)] (Nat.le_of_ble_eq_true rfl) (by decide +kernel) ?_
          refine gx_iload_n_2 (gx_aload_4 ((gx_nil ?_)))
          refine g_getf fX8_67 (by decide +kernel) hp9 rfl ?_
          refine g_blk [(.iadd, .null), (.istore_n 2, .null), (.aload 5, .null)] (Nat.le_of_ble_eq_true rfl) (by decide +kernel) ?_
          refine gx_iadd (gx_istore_n_2 rfl (gx_aload_5 ((gx_nil ?_))))
          try simp only [nI_add]
          refine g_getf fX8_54 (by decide +kernel) hlg rfl ?_
          refine g_blk [(.iload_n 1, .null)] (Nat.le_of_ble_eq_true rfl) (by decide +kernel) ?_
          refine gx_iload_n_1 ((gx_nil ?_))
          refine g_icmp_ne (off := 11) (tgt := 80) (by decide +kernel) (by decide) (fun c69 => ?_) (fun c69 => ?_)
          · try simp only [bI_0, Decidable.not_not] at c69
            refine g_blk [(.iinc 3 1, .int (nI 1)), (.goto (-79), .retAddr 4)] (Nat.le_of_ble_eq_true rfl) (by decide +kernel) ?_
            refine gx_iinc_3 rfl (gx_goto ((gx_nil ?_)))
            try simp only [nI_add]
            have e9 := ih (i + 1) (by omega) (by omega)
            rw [rCs_s, if_pos c52, if_neg (fun z => c69 (hto.mpr z)), s_n0, ← hsp] at e9
            exact g_wk (by simp [gLe, nI_add]) e9
          · try simp only [bI_0, Decidable.not_not] at c69
            refine g_blk [(.iload_n 2, .null), (.aload 4, .null)] (Nat.le_of_ble_eq_true rfl) (by decide +kernel) ?_
            refine gx_iload_n_2 (gx_aload_4 ((gx_nil ?_)))
            refine g_getf fX8_67 (by decide +kernel) hp9 rfl ?_
            refine g_blk [(.isub, .null), (.istore_n 2, .null), (.iinc 3 1, .int (nI 1)), (.goto (-79), .retAddr 4)] (Nat.le_of_ble_eq_true rfl) (by decide +kernel) ?_
            refine gx_isub (gx_istore_n_2 rfl (gx_iinc_3 rfl (gx_goto ((gx_nil ?_)))))
            try simp only [nI_add]
            have e9 := ih (i + 1) (by omega) (by omega)
            rw [rCs_s, if_pos c52, if_pos (hto.mp c69), ← hsp] at e9
            exact g_wk (by simp [gLe, nI_add]) e9
  refine pC_of (by decide) rfl (Nat.le_of_ble_eq_true rfl) [some (.ref ta), some (.int rt), none, none, none, none] rfl ?_
  refine g_blk [(.iconst 0, .int (nI 0)), (.istore_n 2, .null), (.iconst 0, .int (nI 0)), (.istore_n 3, .null)] (Nat.le_of_ble_eq_true rfl) (by decide +kernel) ?_
  refine gx_iconst (gx_istore_n_2 rfl (gx_iconst (gx_istore_n_3 rfl ((gx_nil ?_)))))
  exact loop (t + 1) 0 (Nat.zero_le _) (by omega)
end GOf5
