section SRk
variable {Γ : gE} {o : Nat} {ad : Nat → Nat} {V : Nat → Int32} {F : Nat → Nat → Int32}
theorem kwn_at : ∀ w, w < 10 → ∀ k, k < (kw w).length → kwn[kws w + k]? = (kw w)[k]? := by decide +kernel
theorem kws_s : ∀ w, w < 10 → kws (w + 1) = kws w + (kw w).length ∧ kws w ≤ 66 := by decide +kernel
theorem rMax_nI {a b : Nat} (ha : a < 2 ^ 31) (hb : b < 2 ^ 31) : rMax (nI a) (nI b) = nI (max a b) := by
  unfold rMax
  by_cases h : a < b
  · rw [if_pos (nI_lt h hb), Nat.max_eq_right (by omega)]
  · rw [if_neg (nI_nlt (by omega) ha), Nat.max_eq_left (by omega)]
def gPnm (Γ : gE) (nm : Nat) : Prop := gPs Γ RX10 236 "priority standard prefix unprefix sortplace pull cutoff departure hours " nm ∧ gCs Γ nm kwn
theorem r_startOf {w : Nat} (hw : w ≤ 10) : sC Γ M_X10_startOf [.int (nI w)] 0 (some (.int (nI (kws w)))) := by
  intro h
  have : w = 0 ∨ w = 1 ∨ w = 2 ∨ w = 3 ∨ w = 4 ∨ w = 5 ∨ w = 6 ∨ w = 7 ∨ w = 8 ∨ w = 9 ∨ w = 10 := by omega
  rcases this with rfl | rfl | rfl | rfl | rfl | rfl | rfl | rfl | rfl | rfl | rfl
  · refine gC_of (by decide) rfl (Nat.le_of_ble_eq_true rfl) [some (.int (nI 0))] rfl ?_
    refine g_blk [(.iload_n 0, .null)] (Nat.le_of_ble_eq_true rfl) (by decide +kernel) ?_
    refine gx_iload_n_0 ((gx_nil ?_))
    refine g_tableIn (dflt := 84) (lo := 0) (hi := 9) (offs := #[55, 55, 60, 63, 66, 69, 72, 75, 78, 81]) (len := 55) (off := 55) (tgt := 56) (by decide +kernel) (by decide) (by decide) (by decide) (by decide) ?_
    refine g_blk [(.bipush 9, .int (nI 9)), (.iload_n 0, .null), (.imul, .null)] (Nat.le_of_ble_eq_true rfl) (by decide +kernel) ?_
    refine gx_bipush (gx_iload_n_0 (gx_imul ((gx_nil ?_))))
    exact g_end (some (.int _)) rfl ⟨by decide +kernel, _, rfl, rfl⟩ ⟨by decide, rfl⟩
  · refine gC_of (by decide) rfl (Nat.le_of_ble_eq_true rfl) [some (.int (nI 1))] rfl ?_
    refine g_blk [(.iload_n 0, .null)] (Nat.le_of_ble_eq_true rfl) (by decide +kernel) ?_
    refine gx_iload_n_0 ((gx_nil ?_))
    refine g_tableIn (dflt := 84) (lo := 0) (hi := 9) (offs := #[55, 55, 60, 63, 66, 69, 72, 75, 78, 81]) (len := 55) (off := 55) (tgt := 56) (by decide +kernel) (by decide) (by decide) (by decide) (by decide) ?_
    refine g_blk [(.bipush 9, .int (nI 9)), (.iload_n 0, .null), (.imul, .null)] (Nat.le_of_ble_eq_true rfl) (by decide +kernel) ?_
    refine gx_bipush (gx_iload_n_0 (gx_imul ((gx_nil ?_))))
    exact g_end (some (.int _)) rfl ⟨by decide +kernel, _, rfl, rfl⟩ ⟨by decide, rfl⟩
  · refine gC_of (by decide) rfl (Nat.le_of_ble_eq_true rfl) [some (.int (nI 2))] rfl ?_
    refine g_blk [(.iload_n 0, .null)] (Nat.le_of_ble_eq_true rfl) (by decide +kernel) ?_
    refine gx_iload_n_0 ((gx_nil ?_))
    refine g_tableIn (dflt := 84) (lo := 0) (hi := 9) (offs := #[55, 55, 60, 63, 66, 69, 72, 75, 78, 81]) (len := 55) (off := 60) (tgt := 61) (by decide +kernel) (by decide) (by decide) (by decide) (by decide) ?_
    refine g_blk [(.bipush 18, .int (nI 18))] (Nat.le_of_ble_eq_true rfl) (by decide +kernel) ?_
    refine gx_bipush ((gx_nil ?_))
    exact g_end (some (.int _)) rfl ⟨by decide +kernel, _, rfl, rfl⟩ ⟨by decide, rfl⟩
  · refine gC_of (by decide) rfl (Nat.le_of_ble_eq_true rfl) [some (.int (nI 3))] rfl ?_
    refine g_blk [(.iload_n 0, .null)] (Nat.le_of_ble_eq_true rfl) (by decide +kernel) ?_
    refine gx_iload_n_0 ((gx_nil ?_))
    refine g_tableIn (dflt := 84) (lo := 0) (hi := 9) (offs := #[55, 55, 60, 63, 66, 69, 72, 75, 78, 81]) (len := 55) (off := 63) (tgt := 64) (by decide +kernel) (by decide) (by decide) (by decide) (by decide) ?_
    refine g_blk [(.bipush 25, .int (nI 25))] (Nat.le_of_ble_eq_true rfl) (by decide +kernel) ?_
    refine gx_bipush ((gx_nil ?_))
    exact g_end (some (.int _)) rfl ⟨by decide +kernel, _, rfl, rfl⟩ ⟨by decide, rfl⟩
  · refine gC_of (by decide) rfl (Nat.le_of_ble_eq_true rfl) [some (.int (nI 4))] rfl ?_
    refine g_blk [(.iload_n 0, .null)] (Nat.le_of_ble_eq_true rfl) (by decide +kernel) ?_
    refine gx_iload_n_0 ((gx_nil ?_))
    refine g_tableIn (dflt := 84) (lo := 0) (hi := 9) (offs := #[55, 55, 60, 63, 66, 69, 72, 75, 78, 81]) (len := 55) (off := 66) (tgt := 67) (by decide +kernel) (by decide) (by decide) (by decide) (by decide) ?_
    refine g_blk [(.bipush 34, .int (nI 34))] (Nat.le_of_ble_eq_true rfl) (by decide +kernel) ?_
    refine gx_bipush ((gx_nil ?_))
    exact g_end (some (.int _)) rfl ⟨by decide +kernel, _, rfl, rfl⟩ ⟨by decide, rfl⟩
  · refine gC_of (by decide) rfl (Nat.le_of_ble_eq_true rfl) [some (.int (nI 5))] rfl ?_
    refine g_blk [(.iload_n 0, .null)] (Nat.le_of_ble_eq_true rfl) (by decide +kernel) ?_
    refine gx_iload_n_0 ((gx_nil ?_))
    refine g_tableIn (dflt := 84) (lo := 0) (hi := 9) (offs := #[55, 55, 60, 63, 66, 69, 72, 75, 78, 81]) (len := 55) (off := 69) (tgt := 70) (by decide +kernel) (by decide) (by decide) (by decide) (by decide) ?_
    refine g_blk [(.bipush 38, .int (nI 38))] (Nat.le_of_ble_eq_true rfl) (by decide +kernel) ?_
    refine gx_bipush ((gx_nil ?_))
    exact g_end (some (.int _)) rfl ⟨by decide +kernel, _, rfl, rfl⟩ ⟨by decide, rfl⟩
  · refine gC_of (by decide) rfl (Nat.le_of_ble_eq_true rfl) [some (.int (nI 6))] rfl ?_
    refine g_blk [(.iload_n 0, .null)] (Nat.le_of_ble_eq_true rfl) (by decide +kernel) ?_
    refine gx_iload_n_0 ((gx_nil ?_))
    refine g_tableIn (dflt := 84) (lo := 0) (hi := 9) (offs := #[55, 55, 60, 63, 66, 69, 72, 75, 78, 81]) (len := 55) (off := 72) (tgt := 73) (by decide +kernel) (by decide) (by decide) (by decide) (by decide) ?_
    refine g_blk [(.bipush 44, .int (nI 44))] (Nat.le_of_ble_eq_true rfl) (by decide +kernel) ?_
    refine gx_bipush ((gx_nil ?_))
    exact g_end (some (.int _)) rfl ⟨by decide +kernel, _, rfl, rfl⟩ ⟨by decide, rfl⟩
  · refine gC_of (by decide) rfl (Nat.le_of_ble_eq_true rfl) [some (.int (nI 7))] rfl ?_
    refine g_blk [(.iload_n 0, .null)] (Nat.le_of_ble_eq_true rfl) (by decide +kernel) ?_
    refine gx_iload_n_0 ((gx_nil ?_))
    refine g_tableIn (dflt := 84) (lo := 0) (hi := 9) (offs := #[55, 55, 60, 63, 66, 69, 72, 75, 78, 81]) (len := 55) (off := 75) (tgt := 76) (by decide +kernel) (by decide) (by decide) (by decide) (by decide) ?_
    refine g_blk [(.bipush 49, .int (nI 49))] (Nat.le_of_ble_eq_true rfl) (by decide +kernel) ?_
    refine gx_bipush ((gx_nil ?_))
    exact g_end (some (.int _)) rfl ⟨by decide +kernel, _, rfl, rfl⟩ ⟨by decide, rfl⟩
  · refine gC_of (by decide) rfl (Nat.le_of_ble_eq_true rfl) [some (.int (nI 8))] rfl ?_
    refine g_blk [(.iload_n 0, .null)] (Nat.le_of_ble_eq_true rfl) (by decide +kernel) ?_
    refine gx_iload_n_0 ((gx_nil ?_))
    refine g_tableIn (dflt := 84) (lo := 0) (hi := 9) (offs := #[55, 55, 60, 63, 66, 69, 72, 75, 78, 81]) (len := 55) (off := 78) (tgt := 79) (by decide +kernel) (by decide) (by decide) (by decide) (by decide) ?_
    refine g_blk [(.bipush 56, .int (nI 56))] (Nat.le_of_ble_eq_true rfl) (by decide +kernel) ?_
    refine gx_bipush ((gx_nil ?_))
    exact g_end (some (.int _)) rfl ⟨by decide +kernel, _, rfl, rfl⟩ ⟨by decide, rfl⟩
  · refine gC_of (by decide) rfl (Nat.le_of_ble_eq_true rfl) [some (.int (nI 9))] rfl ?_
    refine g_blk [(.iload_n 0, .null)] (Nat.le_of_ble_eq_true rfl) (by decide +kernel) ?_
    refine gx_iload_n_0 ((gx_nil ?_))
    refine g_tableIn (dflt := 84) (lo := 0) (hi := 9) (offs := #[55, 55, 60, 63, 66, 69, 72, 75, 78, 81]) (len := 55) (off := 81) (tgt := 82) (by decide +kernel) (by decide) (by decide) (by decide) (by decide) ?_
    refine g_blk [(.bipush 66, .int (nI 66))] (Nat.le_of_ble_eq_true rfl) (by decide +kernel) ?_
    refine gx_bipush ((gx_nil ?_))
    exact g_end (some (.int _)) rfl ⟨by decide +kernel, _, rfl, rfl⟩ ⟨by decide, rfl⟩
  · refine gC_of (by decide) rfl (Nat.le_of_ble_eq_true rfl) [some (.int (nI 10))] rfl ?_
    refine g_blk [(.iload_n 0, .null)] (Nat.le_of_ble_eq_true rfl) (by decide +kernel) ?_
    refine gx_iload_n_0 ((gx_nil ?_))
    refine g_tableOut (dflt := 84) (lo := 0) (hi := 9) (offs := #[55, 55, 60, 63, 66, 69, 72, 75, 78, 81]) (len := 55) (tgt := 85) (by decide +kernel) (by decide) (by decide) ?_
    refine g_blk [(.bipush 72, .int (nI 72))] (Nat.le_of_ble_eq_true rfl) (by decide +kernel) ?_
    refine gx_bipush ((gx_nil ?_))
    exact g_end (some (.int _)) rfl ⟨by decide +kernel, _, rfl, rfl⟩ ⟨by decide, rfl⟩
theorem r_kindHere {d1 d10 : Nat} {vf : Value} (hp : gPsb Γ d1 d10 vf) {nm : Nat} (hnm : gPnm Γ nm) {sp n : Nat} {tx : Nat → Nat} (e15 : V 15 = nI sp) (e14 : V 14 = nI n) (hsp : sp ≤ n) (hn : n ≤ 60) (hT : ∀ i, i < n → F 9 i = nI (tx i) ∧ tx i < 128) (e16 : V 16 = -1) : mE Γ o ad M_X10_kindHere [] V F 4 (fun v V1 F1 => F1 = F ∧ ((kd tx n sp 10 = none ∧ v = some (.int (-1)) ∧ V1 = vU (vU V 16 (nI (sp + kdL tx n sp 10))) 15 (nI sp)) ∨ ∃ w, kd tx n sp 10 = some w ∧ v = some (.int (nI w)) ∧ V1 = vU (vU V 16 (-1)) 15 (nI (sp + (kw w).length)))) := by
  have fin0 : ∀ f x3 x4 x5, kd tx n sp 10 = none → f = nI (sp + kdL tx n sp 10) → mH Γ o ad M_X10_kindHere 4 (fun v V1 F1 => F1 = F ∧ ((kd tx n sp 10 = none ∧ v = some (.int (-1)) ∧ V1 = vU (vU V 16 (nI (sp + kdL tx n sp 10))) 15 (nI sp)) ∨ ∃ w, kd tx n sp 10 = some w ∧ v = some (.int (nI w)) ∧ V1 = vU (vU V 16 (-1)) 15 (nI (sp + (kw w).length)))) 121 [some (.ref o), some (.int f), some (.int (-1)), x3, x4, x5] [] V F := by
    intro f x3 x4 x5 hk hf
    subst hf
    refine n_blk [(.aload_n 0, .null), (.iload_n 2, .null), (.iconst (-1), .int (-1))] (Nat.le_of_ble_eq_true rfl) (by decide +kernel) ?_
    refine gx_aload_n_0 (gx_iload_n_2 (gx_iconst ((gx_nil ?_))))
    refine n_icmp_ne (off := 7) (tgt := 131) (by decide +kernel) (by decide) (fun c124 => ?_) (fun c124 => ?_)
    · try simp only [bI_0, Decidable.not_not] at c124
      exact (c124 trivial).elim
    · try simp only [bI_0, Decidable.not_not] at c124
      refine n_blk [(.iload_n 1, .null), (.goto 7, .retAddr 135)] (Nat.le_of_ble_eq_true rfl) (by decide +kernel) ?_
      refine gx_iload_n_1 (gx_goto ((gx_nil ?_)))
      refine n_putI fX10_221 (by decide +kernel) rfl (by decide) rfl rfl ?_
      refine n_blk [(.aload_n 0, .null), (.dup, .null)] (Nat.le_of_ble_eq_true rfl) (by decide +kernel) ?_
      refine gx_aload_n_0 (gx_dupr ((gx_nil ?_)))
      refine n_getI fX10_215 (by decide +kernel) rfl ?_
      try simp only [vU_s, vU_n, ne_eq, Nat.reduceEqDiff, not_false_eq_true, e15, e14, e16, nI_add, pk_mul, Nat.add_zero, Nat.zero_add, Nat.reduceAdd, Nat.reduceMul]
      refine n_blk [(.iload_n 2, .null), (.iconst (-1), .int (-1))] (Nat.le_of_ble_eq_true rfl) (by decide +kernel) ?_
      refine gx_iload_n_2 (gx_iconst ((gx_nil ?_)))
      refine n_icmp_ne (off := 7) (tgt := 152) (by decide +kernel) (by decide) (fun c145 => ?_) (fun c145 => ?_)
      · try simp only [bI_0, Decidable.not_not] at c145
        exact (c145 trivial).elim
      · try simp only [bI_0, Decidable.not_not] at c145
        refine n_blk [(.iconst 0, .int (nI 0)), (.goto 14, .retAddr 163), (.iadd, .null)] (Nat.le_of_ble_eq_true rfl) (by decide +kernel) ?_
        refine gx_iconst (gx_goto (gx_iadd ((gx_nil ?_))))
        try simp only [e15, e14, e16, nI_add, pk_mul, Nat.add_zero, Nat.zero_add, Nat.reduceAdd, Nat.reduceMul]
        refine n_putI fX10_215 (by decide +kernel) rfl (by decide) rfl rfl ?_
        refine n_blk [(.iload_n 2, .null)] (Nat.le_of_ble_eq_true rfl) (by decide +kernel) ?_
        refine gx_iload_n_2 ((gx_nil ?_))
        refine n_end (some (.int _)) rfl ⟨by decide +kernel, _, rfl, rfl⟩ ?_
        exact ⟨rfl, Or.inl ⟨hk, rfl, rfl⟩⟩
  have fin1 : ∀ w f x3 x4 x5, kd tx n sp 10 = some w → mH Γ o ad M_X10_kindHere 4 (fun v V1 F1 => F1 = F ∧ ((kd tx n sp 10 = none ∧ v = some (.int (-1)) ∧ V1 = vU (vU V 16 (nI (sp + kdL tx n sp 10))) 15 (nI sp)) ∨ ∃ w, kd tx n sp 10 = some w ∧ v = some (.int (nI w)) ∧ V1 = vU (vU V 16 (-1)) 15 (nI (sp + (kw w).length)))) 121 [some (.ref o), some (.int f), some (.int (nI w)), x3, x4, x5] [] V F := by
    intro w f x3 x4 x5 hk
    obtain ⟨hw, hcm⟩ := kd_in hk
    obtain ⟨ks, kl⟩ := kws_s w hw
    have hl := kw_len w hw
    have hw1 : ¬ nI w = -1 := nI_nm1 (by omega)
    refine n_blk [(.aload_n 0, .null), (.iload_n 2, .null), (.iconst (-1), .int (-1))] (Nat.le_of_ble_eq_true rfl) (by decide +kernel) ?_
    refine gx_aload_n_0 (gx_iload_n_2 (gx_iconst ((gx_nil ?_))))
    refine n_icmp_ne (off := 7) (tgt := 131) (by decide +kernel) (by decide) (fun c124 => ?_) (fun c124 => ?_)
    · try simp only [bI_0, Decidable.not_not] at c124
      refine n_blk [(.aload_n 0, .null)] (Nat.le_of_ble_eq_true rfl) (by decide +kernel) ?_
      refine gx_aload_n_0 ((gx_nil ?_))
      refine n_getI fX10_221 (by decide +kernel) rfl ?_
      try simp only [vU_s, vU_n, ne_eq, Nat.reduceEqDiff, not_false_eq_true, e15, e14, e16, nI_add, pk_mul, Nat.add_zero, Nat.zero_add, Nat.reduceAdd, Nat.reduceMul]
      refine n_putI fX10_221 (by decide +kernel) rfl (by decide) rfl rfl ?_
      refine n_blk [(.aload_n 0, .null), (.dup, .null)] (Nat.le_of_ble_eq_true rfl) (by decide +kernel) ?_
      refine gx_aload_n_0 (gx_dupr ((gx_nil ?_)))
      refine n_getI fX10_215 (by decide +kernel) rfl ?_
      try simp only [vU_s, vU_n, ne_eq, Nat.reduceEqDiff, not_false_eq_true, e15, e14, e16, nI_add, pk_mul, Nat.add_zero, Nat.zero_add, Nat.reduceAdd, Nat.reduceMul]
      refine n_blk [(.iload_n 2, .null), (.iconst (-1), .int (-1))] (Nat.le_of_ble_eq_true rfl) (by decide +kernel) ?_
      refine gx_iload_n_2 (gx_iconst ((gx_nil ?_)))
      refine n_icmp_ne (off := 7) (tgt := 152) (by decide +kernel) (by decide) (fun c145 => ?_) (fun c145 => ?_)
      · try simp only [bI_0, Decidable.not_not] at c145
        refine n_blk [(.iload_n 2, .null), (.iconst 1, .int (nI 1)), (.iadd, .null)] (Nat.le_of_ble_eq_true rfl) (by decide +kernel) ?_
        refine gx_iload_n_2 (gx_iconst (gx_iadd ((gx_nil ?_))))
        try simp only [e15, e14, e16, nI_add, pk_mul, Nat.add_zero, Nat.zero_add, Nat.reduceAdd, Nat.reduceMul]
        refine n_callS kX10_233 (r_startOf (w := w + 1) (by omega)) (by decide +kernel) rfl rfl (Nat.le_of_ble_eq_true rfl) (Nat.le_of_ble_eq_true rfl) (Nat.le_of_ble_eq_true rfl) rfl ?_
        try simp only [Option.toList_some, Option.toList_none, List.cons_append, List.nil_append, bI_0, n1_0, n0_0, Decidable.not_not, not_true_eq_false, not_false_eq_true, e15, e14, e16, nI_add, pk_mul, Nat.add_zero, Nat.zero_add, Nat.reduceAdd, Nat.reduceMul]
        refine n_blk [(.iload_n 2, .null)] (Nat.le_of_ble_eq_true rfl) (by decide +kernel) ?_
        refine gx_iload_n_2 ((gx_nil ?_))
        refine n_callS kX10_233 (r_startOf (w := w) (by omega)) (by decide +kernel) rfl rfl (Nat.le_of_ble_eq_true rfl) (Nat.le_of_ble_eq_true rfl) (Nat.le_of_ble_eq_true rfl) rfl ?_
        try simp only [Option.toList_some, Option.toList_none, List.cons_append, List.nil_append, bI_0, n1_0, n0_0, Decidable.not_not, not_true_eq_false, not_false_eq_true, e15, e14, e16, nI_add, pk_mul, Nat.add_zero, Nat.zero_add, Nat.reduceAdd, Nat.reduceMul]
        refine n_blk [(.isub, .null)] (Nat.le_of_ble_eq_true rfl) (by decide +kernel) ?_
        refine gx_isub ((gx_nil ?_))
        rw [pk_sub (show kws w ≤ kws (w + 1) by omega), show kws (w + 1) - kws w = (kw w).length by omega]
        refine n_blk [(.iadd, .null)] (Nat.le_of_ble_eq_true rfl) (by decide +kernel) ?_
        refine gx_iadd ((gx_nil ?_))
        try simp only [e15, e14, e16, nI_add, pk_mul, Nat.add_zero, Nat.zero_add, Nat.reduceAdd, Nat.reduceMul]
        refine n_putI fX10_215 (by decide +kernel) rfl (by decide) rfl rfl ?_
        refine n_blk [(.iload_n 2, .null)] (Nat.le_of_ble_eq_true rfl) (by decide +kernel) ?_
        refine gx_iload_n_2 ((gx_nil ?_))
        refine n_end (some (.int _)) rfl ⟨by decide +kernel, _, rfl, rfl⟩ ?_
        exact ⟨rfl, Or.inr ⟨w, hk, rfl, rfl⟩⟩
      · try simp only [bI_0, Decidable.not_not] at c145
        exact absurd c145 hw1
    · try simp only [bI_0, Decidable.not_not] at c124
      exact absurd c124 hw1
  have inner : ∀ w, w < 10 → ∀ f, (mH Γ o ad M_X10_kindHere 4 (fun v V1 F1 => F1 = F ∧ ((kd tx n sp 10 = none ∧ v = some (.int (-1)) ∧ V1 = vU (vU V 16 (nI (sp + kdL tx n sp 10))) 15 (nI sp)) ∨ ∃ w, kd tx n sp 10 = some w ∧ v = some (.int (nI w)) ∧ V1 = vU (vU V 16 (-1)) 15 (nI (sp + (kw w).length)))) 90 [some (.ref o), some (.int f), some (.int (-1)), some (.int (nI w)), some (.int (nI (kw w).length)), some (.int (nI (cm tx n (kw w) sp)))] [] V F) → ∀ m k, k + m = (kw w).length → k ≤ cm tx n (kw w) sp → mH Γ o ad M_X10_kindHere 4 (fun v V1 F1 => F1 = F ∧ ((kd tx n sp 10 = none ∧ v = some (.int (-1)) ∧ V1 = vU (vU V 16 (nI (sp + kdL tx n sp 10))) 15 (nI sp)) ∨ ∃ w, kd tx n sp 10 = some w ∧ v = some (.int (nI w)) ∧ V1 = vU (vU V 16 (-1)) 15 (nI (sp + (kw w).length)))) 36 [some (.ref o), some (.int f), some (.int (-1)), some (.int (nI w)), some (.int (nI (kw w).length)), some (.int (nI k))] [] V F := by
    intro w hw f cont m
    have hl := kw_len w hw
    obtain ⟨ks, kl⟩ := kws_s w hw
    have hcl := (cm_le (tx := tx) (n := n) (W := kw w) (p := sp)).1
    induction m with
    | zero =>
      intro k hk hkc
      have e9 : k = cm tx n (kw w) sp := by omega
      refine n_blk [(.iload 5, .null), (.iload 4, .null)] (Nat.le_of_ble_eq_true rfl) (by decide +kernel) ?_
      refine gx_iload_5 (gx_iload_4 ((gx_nil ?_)))
      refine n_icmp_ge (off := 50) (tgt := 90) (by decide +kernel) (by decide) (fun c40 => ?_) (fun c40 => ?_)
      · try simp only [bI_0, Decidable.not_not] at c40
        rw [e9]
        exact cont
      · try simp only [bI_0, Decidable.not_not] at c40
        exact absurd (nI_le (by omega) (by omega)) c40
    | succ m ih =>
      intro k hk hkc
      obtain ⟨x, hx⟩ : ∃ z, (kw w)[k]? = some z := ⟨_, List.getElem?_eq_getElem (by omega)⟩
      have hst := cm_st (tx := tx) (n := n) (W := kw w) (p := sp) hkc hx
      have hx8 := kw_128 w hw x (List.mem_of_getElem? hx)
      have hxn := (kwn_at w hw k (by omega)).trans hx
      refine n_blk [(.iload 5, .null), (.iload 4, .null)] (Nat.le_of_ble_eq_true rfl) (by decide +kernel) ?_
      refine gx_iload_5 (gx_iload_4 ((gx_nil ?_)))
      refine n_icmp_ge (off := 50) (tgt := 90) (by decide +kernel) (by decide) (fun c40 => ?_) (fun c40 => ?_)
      · try simp only [bI_0, Decidable.not_not] at c40
        exact absurd c40 (nI_ge (by omega) (by omega))
      · try simp only [bI_0, Decidable.not_not] at c40
        refine n_blk [(.aload_n 0, .null)] (Nat.le_of_ble_eq_true rfl) (by decide +kernel) ?_
        refine gx_aload_n_0 ((gx_nil ?_))
        refine n_getI fX10_215 (by decide +kernel) rfl ?_
        try simp only [vU_s, vU_n, ne_eq, Nat.reduceEqDiff, not_false_eq_true, e15, e14, nI_add, pk_mul, Nat.add_zero, Nat.zero_add, Nat.reduceAdd, Nat.reduceMul]
        refine n_blk [(.iload 5, .null), (.iadd, .null), (.aload_n 0, .null)] (Nat.le_of_ble_eq_true rfl) (by decide +kernel) ?_
        refine gx_iload_5 (gx_iadd (gx_aload_n_0 ((gx_nil ?_))))
        try simp only [e15, e14, nI_add, pk_mul, Nat.add_zero, Nat.zero_add, Nat.reduceAdd, Nat.reduceMul]
        refine n_getI fX10_218 (by decide +kernel) rfl ?_
        try simp only [vU_s, vU_n, ne_eq, Nat.reduceEqDiff, not_false_eq_true, e15, e14, nI_add, pk_mul, Nat.add_zero, Nat.zero_add, Nat.reduceAdd, Nat.reduceMul]
        refine n_icmp_ge (off := 36) (tgt := 90) (by decide +kernel) (by decide) (fun c54 => ?_) (fun c54 => ?_)
        · try simp only [bI_0, Decidable.not_not] at c54
          have e9 : k = cm tx n (kw w) sp := by
            have : ¬ k < cm tx n (kw w) sp := fun z => absurd (hst.mp z).1 (fun y => absurd c54 (nI_ge y (by omega)))
            omega
          rw [e9]
          exact cont
        · try simp only [bI_0, Decidable.not_not] at c54
          have hlt : sp + k < n := Nat.lt_of_not_le (fun z => c54 (nI_le z (by omega)))
          refine n_blk [(.aload_n 0, .null)] (Nat.le_of_ble_eq_true rfl) (by decide +kernel) ?_
          refine gx_aload_n_0 ((gx_nil ?_))
          refine n_getR fX10_32 (by decide +kernel) rfl ?_
          refine n_blk [(.aload_n 0, .null)] (Nat.le_of_ble_eq_true rfl) (by decide +kernel) ?_
          refine gx_aload_n_0 ((gx_nil ?_))
          refine n_getI fX10_215 (by decide +kernel) rfl ?_
          try simp only [vU_s, vU_n, ne_eq, Nat.reduceEqDiff, not_false_eq_true, e15, e14, nI_add, pk_mul, Nat.add_zero, Nat.zero_add, Nat.reduceAdd, Nat.reduceMul]
          refine n_blk [(.iload 5, .null), (.iadd, .null)] (Nat.le_of_ble_eq_true rfl) (by decide +kernel) ?_
          refine gx_iload_5 (gx_iadd ((gx_nil ?_)))
          try simp only [e15, e14, nI_add, pk_mul, Nat.add_zero, Nat.zero_add, Nat.reduceAdd, Nat.reduceMul]
          refine n_al (j := 9) rfl (by decide +kernel) (show _ < 60 from by omega) ?_
          rw [(hT _ hlt).1]
          refine n_ldc hnm.1 (by decide +kernel) ?_
          refine n_blk [(.iload_n 3, .null)] (Nat.le_of_ble_eq_true rfl) (by decide +kernel) ?_
          refine gx_iload_n_3 ((gx_nil ?_))
          refine n_callS kX10_233 (r_startOf (w := w) (by omega)) (by decide +kernel) rfl rfl (Nat.le_of_ble_eq_true rfl) (Nat.le_of_ble_eq_true rfl) (Nat.le_of_ble_eq_true rfl) rfl ?_
          try simp only [Option.toList_some, Option.toList_none, List.cons_append, List.nil_append, bI_0, n1_0, n0_0, Decidable.not_not, not_true_eq_false, not_false_eq_true, e15, e14, nI_add, pk_mul, Nat.add_zero, Nat.zero_add, Nat.reduceAdd, Nat.reduceMul]
          refine n_blk [(.iload 5, .null), (.iadd, .null)] (Nat.le_of_ble_eq_true rfl) (by decide +kernel) ?_
          refine gx_iload_5 (gx_iadd ((gx_nil ?_)))
          try simp only [e15, e14, nI_add, pk_mul, Nat.add_zero, Nat.zero_add, Nat.reduceAdd, Nat.reduceMul]
          obtain ⟨nmw, nm1, nm2⟩ := id hnm.2
          refine n_callP (gLkP_of kX10_238) (fun h9 => st_charAt hp hnm.2 (h := h9) hxn (by decide)) (by decide +kernel) rfl nm1 rfl (Nat.le_of_ble_eq_true rfl) (Nat.le_of_ble_eq_true rfl) (Nat.le_of_ble_eq_true rfl) rfl ?_
          simp only [Option.toList_some, List.cons_append, List.nil_append]
          refine n_icmp_ne (off := 9) (tgt := 90) (by decide +kernel) (by decide) (fun c81 => ?_) (fun c81 => ?_)
          · try simp only [bI_0, Decidable.not_not] at c81
            have e9 : k = cm tx n (kw w) sp := by
              have : ¬ k < cm tx n (kw w) sp := fun z => c81 (by rw [(hst.mp z).2])
              omega
            rw [e9]
            exact cont
          · try simp only [bI_0, Decidable.not_not] at c81
            refine n_blk [(.iinc 5 1, .int (nI 1)), (.goto (-51), .retAddr 36)] (Nat.le_of_ble_eq_true rfl) (by decide +kernel) ?_
            refine gx_iinc_5 rfl (gx_goto ((gx_nil ?_)))
            try simp only [e15, e14, nI_add, pk_mul, Nat.add_zero, Nat.zero_add, Nat.reduceAdd, Nat.reduceMul]
            have hk2 : k < cm tx n (kw w) sp := hst.mpr ⟨hlt, (nI_eq (by have := (hT _ hlt).2; omega) (by omega)).mp c81⟩
            exact ih (k + 1) (by omega) (by omega)
  have outer : ∀ m w, w + m = 10 → kd tx n sp w = none → mH Γ o ad M_X10_kindHere 4 (fun v V1 F1 => F1 = F ∧ ((kd tx n sp 10 = none ∧ v = some (.int (-1)) ∧ V1 = vU (vU V 16 (nI (sp + kdL tx n sp 10))) 15 (nI sp)) ∨ ∃ w, kd tx n sp 10 = some w ∧ v = some (.int (nI w)) ∧ V1 = vU (vU V 16 (-1)) 15 (nI (sp + (kw w).length)))) 9 [some (.ref o), some (.int (nI (sp + kdL tx n sp w))), some (.int (-1)), some (.int (nI w)), none, none] [] V F := by
    intro m
    induction m with
    | zero =>
      intro w hw hk
      obtain rfl : w = 10 := by omega
      refine n_blk [(.iload_n 3, .null), (.bipush 10, .int (nI 10))] (Nat.le_of_ble_eq_true rfl) (by decide +kernel) ?_
      refine gx_iload_n_3 (gx_bipush ((gx_nil ?_)))
      refine n_icmp_ge (off := 109) (tgt := 121) (by decide +kernel) (by decide) (fun c12 => ?_) (fun c12 => ?_)
      · try simp only [bI_0, Decidable.not_not] at c12
        exact fin0 _ _ _ _ hk rfl
      · try simp only [bI_0, Decidable.not_not] at c12
        exact absurd (Int32.le_refl _) c12
    | succ m ih =>
      intro w hw hk
      have hw10 : w < 10 := by omega
      obtain ⟨ks, kl⟩ := kws_s w hw10
      have hl := kw_len w hw10
      have hcl := (cm_le (tx := tx) (n := n) (W := kw w) (p := sp)).1
      have hkl := kdL_le (tx := tx) hsp w (by omega)
      refine n_blk [(.iload_n 3, .null), (.bipush 10, .int (nI 10))] (Nat.le_of_ble_eq_true rfl) (by decide +kernel) ?_
      refine gx_iload_n_3 (gx_bipush ((gx_nil ?_)))
      refine n_icmp_ge (off := 109) (tgt := 121) (by decide +kernel) (by decide) (fun c12 => ?_) (fun c12 => ?_)
      · try simp only [bI_0, Decidable.not_not] at c12
        exact absurd c12 (nI_ge (a := w) (b := 10) (by omega) (by omega))
      · try simp only [bI_0, Decidable.not_not] at c12
        refine n_blk [(.iload_n 2, .null), (.iconst (-1), .int (-1))] (Nat.le_of_ble_eq_true rfl) (by decide +kernel) ?_
        refine gx_iload_n_2 (gx_iconst ((gx_nil ?_)))
        refine n_icmp_ne (off := 104) (tgt := 121) (by decide +kernel) (by decide) (fun c17 => ?_) (fun c17 => ?_)
        · try simp only [bI_0, Decidable.not_not] at c17
          exact (c17 trivial).elim
        · try simp only [bI_0, Decidable.not_not] at c17
          refine n_blk [(.iload_n 3, .null), (.iconst 1, .int (nI 1)), (.iadd, .null)] (Nat.le_of_ble_eq_true rfl) (by decide +kernel) ?_
          refine gx_iload_n_3 (gx_iconst (gx_iadd ((gx_nil ?_))))
          try simp only [e15, nI_add, pk_mul, Nat.add_zero, Nat.zero_add, Nat.reduceAdd, Nat.reduceMul]
          refine n_callS kX10_233 (r_startOf (w := w + 1) (by omega)) (by decide +kernel) rfl rfl (Nat.le_of_ble_eq_true rfl) (Nat.le_of_ble_eq_true rfl) (Nat.le_of_ble_eq_true rfl) rfl ?_
          try simp only [Option.toList_some, Option.toList_none, List.cons_append, List.nil_append, bI_0, n1_0, n0_0, Decidable.not_not, not_true_eq_false, not_false_eq_true, e15, nI_add, pk_mul, Nat.add_zero, Nat.zero_add, Nat.reduceAdd, Nat.reduceMul]
          refine n_blk [(.iload_n 3, .null)] (Nat.le_of_ble_eq_true rfl) (by decide +kernel) ?_
          refine gx_iload_n_3 ((gx_nil ?_))
          refine n_callS kX10_233 (r_startOf (w := w) (by omega)) (by decide +kernel) rfl rfl (Nat.le_of_ble_eq_true rfl) (Nat.le_of_ble_eq_true rfl) (Nat.le_of_ble_eq_true rfl) rfl ?_
          try simp only [Option.toList_some, Option.toList_none, List.cons_append, List.nil_append, bI_0, n1_0, n0_0, Decidable.not_not, not_true_eq_false, not_false_eq_true, e15, nI_add, pk_mul, Nat.add_zero, Nat.zero_add, Nat.reduceAdd, Nat.reduceMul]
          refine n_blk [(.isub, .null)] (Nat.le_of_ble_eq_true rfl) (by decide +kernel) ?_
          refine gx_isub ((gx_nil ?_))
          rw [pk_sub (show kws w ≤ kws (w + 1) by omega), show kws (w + 1) - kws w = (kw w).length by omega]
          refine n_blk [(.istore 4, .null), (.iconst 0, .int (nI 0)), (.istore 5, .null)] (Nat.le_of_ble_eq_true rfl) (by decide +kernel) ?_
          refine gx_istore_4 rfl (gx_iconst (gx_istore_5 rfl ((gx_nil ?_))))
          refine inner w hw10 _ ?_ (kw w).length 0 (by omega) (Nat.zero_le _)
          refine n_blk [(.iload_n 1, .null), (.aload_n 0, .null)] (Nat.le_of_ble_eq_true rfl) (by decide +kernel) ?_
          refine gx_iload_n_1 (gx_aload_n_0 ((gx_nil ?_)))
          refine n_getI fX10_215 (by decide +kernel) rfl ?_
          try simp only [vU_s, vU_n, ne_eq, Nat.reduceEqDiff, not_false_eq_true, e15, nI_add, pk_mul, Nat.add_zero, Nat.zero_add, Nat.reduceAdd, Nat.reduceMul]
          refine n_blk [(.iload 5, .null), (.iadd, .null)] (Nat.le_of_ble_eq_true rfl) (by decide +kernel) ?_
          refine gx_iload_5 (gx_iadd ((gx_nil ?_)))
          try simp only [e15, nI_add, pk_mul, Nat.add_zero, Nat.zero_add, Nat.reduceAdd, Nat.reduceMul]
          refine n_mmax kMX10_85 (by decide +kernel) (by decide) (Nat.le_of_ble_eq_true rfl) ?_
          refine n_blk [(.istore_n 1, .null), (.iload 5, .null), (.iload 4, .null)] (Nat.le_of_ble_eq_true rfl) (by decide +kernel) ?_
          refine gx_istore_n_1 rfl (gx_iload_5 (gx_iload_4 ((gx_nil ?_))))
          refine n_icmp_ne (off := 7) (tgt := 113) (by decide +kernel) (by decide) (fun c106 => ?_) (fun c106 => ?_)
          · try simp only [bI_0, Decidable.not_not] at c106
            refine n_blk [(.iload_n 2, .null), (.istore_n 2, .null), (.iinc 3 1, .int (nI 1)), (.goto (-109), .retAddr 9)] (Nat.le_of_ble_eq_true rfl) (by decide +kernel) ?_
            refine gx_iload_n_2 (gx_istore_n_2 rfl (gx_iinc_3 rfl (gx_goto ((gx_nil ?_)))))
            try simp only [e15, nI_add, pk_mul, Nat.add_zero, Nat.zero_add, Nat.reduceAdd, Nat.reduceMul]
            have hk1 : kd tx n sp (w + 1) = none := by
              rw [kd_s, if_neg (fun z => c106 (by rw [z])), hk]
            refine n_lcl (L' := [some (.ref o), some (.int (nI (sp + kdL tx n sp (w + 1)))), some (.int (-1)), some (.int (nI (w + 1))), some (.int (nI (kw w).length)), some (.int (nI (cm tx n (kw w) sp)))]) ?_ (n_weak (by simp [gLe]) (ih (w + 1) (by omega) hk1))
            rw [kdL_s, rMax_nI (by omega) (by omega), show max (sp + kdL tx n sp w) (sp + cm tx n (kw w) sp) = sp + max (kdL tx n sp w) (cm tx n (kw w) sp) by omega]
          · try simp only [bI_0, Decidable.not_not] at c106
            refine n_blk [(.iload_n 3, .null), (.goto 4, .retAddr 114), (.istore_n 2, .null), (.iinc 3 1, .int (nI 1)), (.goto (-109), .retAddr 9)] (Nat.le_of_ble_eq_true rfl) (by decide +kernel) ?_
            refine gx_iload_n_3 (gx_goto (gx_istore_n_2 rfl (gx_iinc_3 rfl (gx_goto ((gx_nil ?_))))))
            try simp only [e15, nI_add, pk_mul, Nat.add_zero, Nat.zero_add, Nat.reduceAdd, Nat.reduceMul]
            have hcm : cm tx n (kw w) sp = (kw w).length := (nI_eq (by omega) (by omega)).mp c106
            have hk1 : kd tx n sp 10 = some w := kd_some hw10 (Nat.le_refl _) hcm
            refine n_blk [(.iload_n 3, .null), (.bipush 10, .int (nI 10))] (Nat.le_of_ble_eq_true rfl) (by decide +kernel) ?_
            refine gx_iload_n_3 (gx_bipush ((gx_nil ?_)))
            refine n_icmp_ge (off := 109) (tgt := 121) (by decide +kernel) (by decide) (fun c12 => ?_) (fun c12 => ?_)
            · try simp only [bI_0, Decidable.not_not] at c12
              exact fin1 w _ _ _ _ hk1
            · try simp only [bI_0, Decidable.not_not] at c12
              refine n_blk [(.iload_n 2, .null), (.iconst (-1), .int (-1))] (Nat.le_of_ble_eq_true rfl) (by decide +kernel) ?_
              refine gx_iload_n_2 (gx_iconst ((gx_nil ?_)))
              refine n_icmp_ne (off := 104) (tgt := 121) (by decide +kernel) (by decide) (fun c17 => ?_) (fun c17 => ?_)
              · try simp only [bI_0, Decidable.not_not] at c17
                exact fin1 w _ _ _ _ hk1
              · try simp only [bI_0, Decidable.not_not] at c17
                exact absurd c17 (nI_nm1 (by omega))
  refine mE_of (by decide) rfl (Nat.le_of_ble_eq_true rfl) [some (.ref o), none, none, none, none, none] rfl ?_
  refine n_blk [(.aload_n 0, .null)] (Nat.le_of_ble_eq_true rfl) (by decide +kernel) ?_
  refine gx_aload_n_0 ((gx_nil ?_))
  refine n_getI fX10_215 (by decide +kernel) rfl ?_
  try simp only [vU_s, vU_n, ne_eq, Nat.reduceEqDiff, not_false_eq_true, e15, nI_add, pk_mul, Nat.add_zero, Nat.zero_add, Nat.reduceAdd, Nat.reduceMul]
  refine n_blk [(.istore_n 1, .null), (.iconst (-1), .int (-1)), (.istore_n 2, .null), (.iconst 0, .int (nI 0)), (.istore_n 3, .null)] (Nat.le_of_ble_eq_true rfl) (by decide +kernel) ?_
  refine gx_istore_n_1 rfl (gx_iconst (gx_istore_n_2 rfl (gx_iconst (gx_istore_n_3 rfl ((gx_nil ?_))))))
  exact outer 10 0 (by omega) rfl
end SRk
