section GMu2
variable {Γ : gE} {de : Nat} {h : gHp}
theorem of_placeById {o c t la ta ca da ba pa ep : Nat} {fl fq ls ps : List Nat} {N : Nat → Int32} (H : gOx Γ de h o N c t la ta ca da ba pa ep fl fq ls ps) (nd : (gFp o ta ca da ba fl fq ls).Nodup) (hc : c ≤ 20) (ht : t ≤ 12) (hv : rPv N t) (hw : rLv1 N c) (hOK : rOK N) (hu : rUq N c) (id rt : Int32) : gC Γ M_X4_placeById [.ref o, .int id, .int rt] h 6 0 0 (cmdZ Γ de h o la ta ca da ba pa ep (gFp o ta ca da ba fl fq ls) (rT (bI (¬ rPlace N id c = -1)) (bI (nI 0 ≤ rt ∧ rt ≤ nI 5)) (bI (¬ rPlace N id c = -1 ∧ rGo N (rIdx N id c) rt c (rOp N rt) = true))) (rBag N rt (N (62 + 7 * rIdx N id c + 2)) c (rOp N rt)) (ccd (-3) (-2) (-4)) (rInto N (rIdx N id c) rt c (rOp N rt)) c t) (fun _ _ => False) := by
  have H0 := H
  obtain ⟨ho, HL, hlc, hls, hta, HP, hpc, hps, hep, ⟨fc, hca, hfc⟩, ⟨fd, hda, hfd⟩, ⟨fb, hba, hfb⟩⟩ := H0
  refine gC_of (by decide) rfl (Nat.le_of_ble_eq_true rfl) [some (.ref o), some (.int id), some (.int rt), none] rfl ?_
  by_cases hn : rPlace N id c = -1
  · have hpx : bI (¬ rPlace N id c = -1) = nI 0 := bI_f (fun z => z hn)
    refine g_blk [(.aload_n 0, .null), (.iload_n 1, .null)] (Nat.le_of_ble_eq_true rfl) (by decide +kernel) ?_
    refine gx_aload_n_0 (gx_iload_n_1 ((gx_nil ?_)))
    refine g_pV kX4_87 (of_letterWith H hc hu id) (by decide +kernel) rfl rfl ho rfl (Nat.le_of_ble_eq_true rfl) (Nat.le_of_ble_eq_true rfl) (Nat.le_of_ble_eq_true rfl) rfl ?_
    simp only [Option.toList_some, List.cons_append, List.nil_append]
    rw [gLw_no hn]
    refine g_blk [(.astore_n 3, .null), (.aload_n 3, .null)] (Nat.le_of_ble_eq_true rfl) (by decide +kernel) ?_
    refine gx_astoreN_n_3 rfl (gx_aloadN_n_3 ((gx_nil ?_)))
    refine g_ifnonnullN (off := 6) (by decide +kernel) ?_
    refine g_blk [(.bipush (-3), .int (-3))] (Nat.le_of_ble_eq_true rfl) (by decide +kernel) ?_
    refine gx_bipush ((gx_nil ?_))
    refine g_end (some (.int _)) rfl ⟨by decide +kernel, _, rfl, rfl⟩ ?_
    refine Or.inr ⟨?_, ?_, rfl⟩
    · rw [hpx, rT_1]; decide
    · rw [hpx, rT_1]; rfl
  · obtain ⟨p, hp, ep9⟩ := rPlace_in.resolve_left hn
    have hix := rIdx_of (by omega) ep9
    obtain ⟨a, hx9⟩ : ∃ z, ls[p]? = some z := ⟨_, List.getElem?_eq_getElem (by omega)⟩
    have hl9 := hls p a hx9
    have hpx : bI (¬ rPlace N id c = -1) = nI 1 := bI_t hn
    refine g_blk [(.aload_n 0, .null), (.iload_n 1, .null)] (Nat.le_of_ble_eq_true rfl) (by decide +kernel) ?_
    refine gx_aload_n_0 (gx_iload_n_1 ((gx_nil ?_)))
    refine g_pV kX4_87 (of_letterWith H hc hu id) (by decide +kernel) rfl rfl ho rfl (Nat.le_of_ble_eq_true rfl) (Nat.le_of_ble_eq_true rfl) (Nat.le_of_ble_eq_true rfl) rfl ?_
    simp only [Option.toList_some, List.cons_append, List.nil_append]
    rw [gLw_at ep9 (by omega) hx9]
    refine g_blk [(.astore_n 3, .null), (.aload_n 3, .null)] (Nat.le_of_ble_eq_true rfl) (by decide +kernel) ?_
    refine gx_astore_n_3 rfl (gx_aload_n_3 ((gx_nil ?_)))
    refine g_ifnonnull (off := 6) (tgt := 13) (by decide +kernel) (by decide) ?_
    refine g_blk [(.iload_n 2, .null)] (Nat.le_of_ble_eq_true rfl) (by decide +kernel) ?_
    refine gx_iload_n_2 ((gx_nil ?_))
    refine g_pSN kX4_95 (pc_isRoute _) (by decide +kernel) rfl rfl (Nat.le_of_ble_eq_true rfl) (Nat.le_of_ble_eq_true rfl) (Nat.le_of_ble_eq_true rfl) rfl ?_
    try simp only [Option.toList_some, Option.toList_none, List.cons_append, List.nil_append, bI_0, n1_0, n0_0, Decidable.not_not, not_true_eq_false, not_false_eq_true, nI_add, Nat.add_zero, Nat.zero_add, Nat.reduceAdd]
    refine g_if_eq (off := 12) (tgt := 29) (by decide +kernel) (by decide) (fun c17 => ?_) (fun c17 => ?_)
    · try simp only [bI_0, Decidable.not_not] at c17
      refine g_blk [(.bipush (-2), .int (-2))] (Nat.le_of_ble_eq_true rfl) (by decide +kernel) ?_
      refine gx_bipush ((gx_nil ?_))
      refine g_end (some (.int _)) rfl ⟨by decide +kernel, _, rfl, rfl⟩ ?_
      refine Or.inr ⟨?_, ?_, rfl⟩
      · rw [hpx, bI_f c17, rT_2]; decide
      · rw [hpx, bI_f c17, rT_2]; rfl
    · try simp only [bI_0, Decidable.not_not] at c17
      refine g_blk [(.aload_n 0, .null), (.aload_n 3, .null), (.iload_n 2, .null)] (Nat.le_of_ble_eq_true rfl) (by decide +kernel) ?_
      refine gx_aload_n_0 (gx_aload_n_3 (gx_iload_n_2 ((gx_nil ?_))))
      refine g_callV (rc' := 0) (rs' := 0) kX4_98 (of_put H nd hc ht hv hw hOK hx9 rt) (by decide +kernel) rfl rfl ho rfl (Nat.le_of_ble_eq_true rfl) (Nat.le_of_ble_eq_true rfl) (Nat.le_of_ble_eq_true rfl) (by omega) (by omega) rfl (fun _ _ z => z.elim) (fun v9 h5 hz => ?_)
      have hv9 : ∃ x, v9 = some (.int x) := by
        rcases hz with ⟨-, e, -⟩ | ⟨-, e, -⟩ <;> exact ⟨_, e⟩
      obtain ⟨x9, hv9⟩ := hv9
      rw [hv9]
      simp only [Option.toList_some, Option.toList_none, List.cons_append, List.nil_append]
      refine g_blk [(.goto 5, .retAddr 31)] (Nat.le_of_ble_eq_true rfl) (by decide +kernel) ?_
      refine gx_goto ((gx_nil ?_))
      refine g_end (some (.int _)) rfl ⟨by decide +kernel, _, rfl, rfl⟩ ?_
      rw [← hv9]
      rcases hz with ⟨y1, rfl, rfl⟩ | ⟨y1, rfl, y3, y4⟩
      · refine Or.inr ⟨?_, ?_, rfl⟩
        · rw [hpx, bI_t c17, bI_f (p := ¬ rPlace N id c = -1 ∧ rGo N (rIdx N id c) rt c (rOp N rt) = true) (fun z => (gBf_ne.mpr (by have z2 := z.2; rw [hix] at z2; exact z2)) y1), rT_3]; decide
        · rw [hpx, bI_t c17, bI_f (p := ¬ rPlace N id c = -1 ∧ rGo N (rIdx N id c) rt c (rOp N rt) = true) (fun z => (gBf_ne.mpr (by have z2 := z.2; rw [hix] at z2; exact z2)) y1), rT_3]; rfl
      · refine Or.inl ⟨?_, ?_, ?_⟩
        · rw [hpx, bI_t c17, bI_t (p := ¬ rPlace N id c = -1 ∧ rGo N (rIdx N id c) rt c (rOp N rt) = true) ⟨hn, by rw [hix]; exact gBf_ne.mp y1⟩, rT_0]
        · rw [hix]; exact congrArg (fun x => some (Value.int x)) (if_pos (gBf_ne.mp y1))
        · rw [hix]; exact gPost_same y3 nd y4
theorem of_takeOut {o c t la ta ca da ba pa ep : Nat} {fl fq ls ps : List Nat} {N : Nat → Int32} (H : gOx Γ de h o N c t la ta ca da ba pa ep fl fq ls ps) (nd : (gFp o ta ca da ba fl fq ls).Nodup) (hc : c ≤ 20) (ht : t ≤ 12) (hv : rPv N t) (hw : rLv1 N c) (hu : rUq N c) (id : Int32) : gC Γ M_X4_takeOut [.ref o, .int id] h 4 0 0 (cmdZ Γ de h o la ta ca da ba pa ep (gFp o ta ca da ba fl fq ls) (rT (bI (¬ rPlace N id c = -1)) (bI (¬ N (62 + 7 * rIdx N id c + 5) = -1)) (nI 1)) (N (62 + 7 * rIdx N id c + 5)) (ccd (-3) (-4) 0) (upd N (62 + 7 * rIdx N id c + 5) (-1)) c t) (fun _ _ => False) := by
  have H0 := H
  obtain ⟨ho, HL, hlc, hls, hta, HP, hpc, hps, hep, ⟨fc, hca, hfc⟩, ⟨fd, hda, hfd⟩, ⟨fb, hba, hfb⟩⟩ := H0
  refine gC_of (by decide) rfl (Nat.le_of_ble_eq_true rfl) [some (.ref o), some (.int id), none, none] rfl ?_
  by_cases hn : rPlace N id c = -1
  · have hpx : bI (¬ rPlace N id c = -1) = nI 0 := bI_f (fun z => z hn)
    refine g_blk [(.aload_n 0, .null), (.iload_n 1, .null)] (Nat.le_of_ble_eq_true rfl) (by decide +kernel) ?_
    refine gx_aload_n_0 (gx_iload_n_1 ((gx_nil ?_)))
    refine g_pV kX4_87 (of_letterWith H hc hu id) (by decide +kernel) rfl rfl ho rfl (Nat.le_of_ble_eq_true rfl) (Nat.le_of_ble_eq_true rfl) (Nat.le_of_ble_eq_true rfl) rfl ?_
    simp only [Option.toList_some, List.cons_append, List.nil_append]
    rw [gLw_no hn]
    refine g_blk [(.astore_n 2, .null), (.aload_n 2, .null)] (Nat.le_of_ble_eq_true rfl) (by decide +kernel) ?_
    refine gx_astoreN_n_2 rfl (gx_aloadN_n_2 ((gx_nil ?_)))
    refine g_ifnonnullN (off := 6) (by decide +kernel) ?_
    refine g_blk [(.bipush (-3), .int (-3))] (Nat.le_of_ble_eq_true rfl) (by decide +kernel) ?_
    refine gx_bipush ((gx_nil ?_))
    refine g_end (some (.int _)) rfl ⟨by decide +kernel, _, rfl, rfl⟩ ?_
    refine Or.inr ⟨?_, ?_, rfl⟩
    · rw [hpx, rT_1]; decide
    · rw [hpx, rT_1]; rfl
  · obtain ⟨p, hp, ep9⟩ := rPlace_in.resolve_left hn
    have hix := rIdx_of (by omega) ep9
    obtain ⟨a, hx9⟩ : ∃ z, ls[p]? = some z := ⟨_, List.getElem?_eq_getElem (by omega)⟩
    have hl9 := hls p a hx9
    have hpx : bI (¬ rPlace N id c = -1) = nI 1 := bI_t hn
    refine g_blk [(.aload_n 0, .null), (.iload_n 1, .null)] (Nat.le_of_ble_eq_true rfl) (by decide +kernel) ?_
    refine gx_aload_n_0 (gx_iload_n_1 ((gx_nil ?_)))
    refine g_pV kX4_87 (of_letterWith H hc hu id) (by decide +kernel) rfl rfl ho rfl (Nat.le_of_ble_eq_true rfl) (Nat.le_of_ble_eq_true rfl) (Nat.le_of_ble_eq_true rfl) rfl ?_
    simp only [Option.toList_some, List.cons_append, List.nil_append]
    rw [gLw_at ep9 (by omega) hx9]
    refine g_blk [(.astore_n 2, .null), (.aload_n 2, .null)] (Nat.le_of_ble_eq_true rfl) (by decide +kernel) ?_
    refine gx_astore_n_2 rfl (gx_aload_n_2 ((gx_nil ?_)))
    refine g_ifnonnull (off := 6) (tgt := 13) (by decide +kernel) (by decide) ?_
    refine g_blk [(.aload_n 2, .null)] (Nat.le_of_ble_eq_true rfl) (by decide +kernel) ?_
    refine gx_aload_n_2 ((gx_nil ?_))
    refine g_pV kX4_102 (le_inTray hl9) (by decide +kernel) rfl rfl hl9 rfl (Nat.le_of_ble_eq_true rfl) (Nat.le_of_ble_eq_true rfl) (Nat.le_of_ble_eq_true rfl) rfl ?_
    try simp only [Option.toList_some, Option.toList_none, List.cons_append, List.nil_append, bI_0, n1_0, n0_0, Decidable.not_not, not_true_eq_false, not_false_eq_true, nI_add, Nat.add_zero, Nat.zero_add, Nat.reduceAdd]
    refine g_if_eq (off := 6) (tgt := 23) (by decide +kernel) (by decide) (fun c17 => ?_) (fun c17 => ?_)
    · try simp only [bI_0, Decidable.not_not] at c17
      refine g_blk [(.aload_n 2, .null)] (Nat.le_of_ble_eq_true rfl) (by decide +kernel) ?_
      refine gx_aload_n_2 ((gx_nil ?_))
      refine g_getf fX4_106 (by decide +kernel) hl9 rfl ?_
      refine g_blk [(.istore_n 3, .null), (.aload_n 2, .null)] (Nat.le_of_ble_eq_true rfl) (by decide +kernel) ?_
      refine gx_istore_n_3 rfl (gx_aload_n_2 ((gx_nil ?_)))
      refine g_callV (rc' := 0) (rs' := 0) kX4_109 (le_moveToTray hl9) (by decide +kernel) rfl rfl hl9 rfl (Nat.le_of_ble_eq_true rfl) (Nat.le_of_ble_eq_true rfl) (Nat.le_of_ble_eq_true rfl) (by omega) (by omega) rfl (fun _ _ z => z.elim) (fun v9 h5 hz => ?_)
      obtain ⟨rfl, rfl⟩ := hz
      simp only [Option.toList_some, Option.toList_none, List.cons_append, List.nil_append]
      refine g_blk [(.iload_n 3, .null)] (Nat.le_of_ble_eq_true rfl) (by decide +kernel) ?_
      refine gx_iload_n_3 ((gx_nil ?_))
      refine g_end (some (.int _)) rfl ⟨by decide +kernel, _, rfl, rfl⟩ ?_
      refine Or.inl ⟨?_, ?_, ?_⟩
      · rw [hpx, bI_t (p := ¬ N (62 + 7 * rIdx N id c + 5) = -1) (by rw [hix]; exact c17), rT_0]
      · rw [hix]
      · rw [hix]; exact gPost_same (gOx_upL H ht nd hx9 (N' := upd N (62 + 7 * p + 5) (-1)) (fun q q1 q2 => by rw [pk_un (by omega)]) (by
          unfold gBg
          rw [pk_us, if_pos rfl, pk_un (by omega), pk_un (by omega), pk_un (by omega), pk_un (by omega), pk_un (by omega)])) nd (gKeep.up (memS (List.mem_of_getElem? hx9)))
    · try simp only [bI_0, Decidable.not_not] at c17
      refine g_blk [(.bipush (-4), .int (-4))] (Nat.le_of_ble_eq_true rfl) (by decide +kernel) ?_
      refine gx_bipush ((gx_nil ?_))
      refine g_end (some (.int _)) rfl ⟨by decide +kernel, _, rfl, rfl⟩ ?_
      refine Or.inr ⟨?_, ?_, rfl⟩
      · rw [hpx, bI_f (p := ¬ N (62 + 7 * rIdx N id c + 5) = -1) (fun z => z (by rw [hix]; exact c17)), rT_2]; decide
      · rw [hpx, bI_f (p := ¬ N (62 + 7 * rIdx N id c + 5) = -1) (fun z => z (by rw [hix]; exact c17)), rT_2]; rfl
theorem of_changeCutoff {o c t la ta ca da ba pa ep : Nat} {fl fq ls ps : List Nat} {N : Nat → Int32} (H : gOx Γ de h o N c t la ta ca da ba pa ep fl fq ls ps) (nd : (gFp o ta ca da ba fl fq ls).Nodup) (rt ho9 : Int32) : gC Γ M_X4_changeCutoff [.ref o, .int rt, .int ho9] h 2 0 0 (cmdZ Γ de h o la ta ca da ba pa ep (gFp o ta ca da ba fl fq ls) (rT (bI (nI 0 ≤ rt ∧ rt ≤ nI 5)) (bI (nI 0 ≤ ho9 ∧ ho9 ≤ nI 24)) (nI 1)) (N (8 + 3 * rIx rt + 0)) (ccd (-2) (-1) 0) (upd N (8 + 3 * rIx rt + 0) ho9) c t) (fun _ _ => False) := by
  have H0 := H
  obtain ⟨ho, HL, hlc, hls, hta, HP, hpc, hps, hep, ⟨fc, hca, hfc⟩, ⟨fd, hda, hfd⟩, ⟨fb, hba, hfb⟩⟩ := H0
  have hz0 : nI 0 = (0 : Int32) := by decide
  have e24 : ho9 < nI 24 ↔ ho9 ≤ nI 23 := by
    have e1 : (nI 24).toInt = 24 := by decide
    have e2 : (nI 23).toInt = 23 := by decide
    rw [Int32.lt_iff_toInt_lt, Int32.le_iff_toInt_le]
    omega
  refine gC_of (by decide) rfl (Nat.le_of_ble_eq_true rfl) [some (.ref o), some (.int rt), some (.int ho9), none] rfl ?_
  refine g_blk [(.iload_n 1, .null)] (Nat.le_of_ble_eq_true rfl) (by decide +kernel) ?_
  refine gx_iload_n_1 ((gx_nil ?_))
  refine g_pSN kX4_95 (pc_isRoute _) (by decide +kernel) rfl rfl (Nat.le_of_ble_eq_true rfl) (Nat.le_of_ble_eq_true rfl) (Nat.le_of_ble_eq_true rfl) rfl ?_
  try simp only [Option.toList_some, Option.toList_none, List.cons_append, List.nil_append, bI_0, n1_0, n0_0, Decidable.not_not, not_true_eq_false, not_false_eq_true, nI_add, Nat.add_zero, Nat.zero_add, Nat.reduceAdd]
  refine g_if_ne (off := 6) (tgt := 10) (by decide +kernel) (by decide) (fun c4 => ?_) (fun c4 => ?_)
  · try simp only [bI_0, Decidable.not_not] at c4
    obtain ⟨r, hr6, er⟩ : ∃ r, r < 6 ∧ rt = nI r := ⟨rIx rt, (r5_lt c4).2, (r5_lt c4).1⟩
    have hcl : rt.toNatClampNeg = r := by rw [er, nI_clamp (by omega)]
    have hix5 : rIx rt = r := by rw [er, rIx_nI (by omega)]
    refine g_blk [(.iload_n 2, .null)] (Nat.le_of_ble_eq_true rfl) (by decide +kernel) ?_
    refine gx_iload_n_2 ((gx_nil ?_))
    refine g_if_lt (off := 9) (tgt := 20) (by decide +kernel) (by decide) (fun c11 => ?_) (fun c11 => ?_)
    · try simp only [bI_0, Decidable.not_not] at c11
      refine g_blk [(.iconst (-1), .int (-1))] (Nat.le_of_ble_eq_true rfl) (by decide +kernel) ?_
      refine gx_iconst ((gx_nil ?_))
      refine g_end (some (.int _)) rfl ⟨by decide +kernel, _, rfl, rfl⟩ ?_
      refine Or.inr ⟨?_, ?_, rfl⟩
      · rw [bI_t c4, bI_f (p := nI 0 ≤ ho9 ∧ ho9 ≤ nI 24) (fun z => absurd c11 (Int32.not_lt.mpr (by rw [← hz0]; exact z.1))), rT_2]; decide
      · rw [bI_t c4, bI_f (p := nI 0 ≤ ho9 ∧ ho9 ≤ nI 24) (fun z => absurd c11 (Int32.not_lt.mpr (by rw [← hz0]; exact z.1))), rT_2]; rfl
    · try simp only [bI_0, Decidable.not_not] at c11
      refine g_blk [(.iload_n 2, .null), (.bipush 24, .int (nI 24))] (Nat.le_of_ble_eq_true rfl) (by decide +kernel) ?_
      refine gx_iload_n_2 (gx_bipush ((gx_nil ?_)))
      refine g_icmp_le (off := 5) (tgt := 22) (by decide +kernel) (by decide) (fun c17 => ?_) (fun c17 => ?_)
      · try simp only [bI_0, Decidable.not_not] at c17
        refine g_blk [(.aload_n 0, .null)] (Nat.le_of_ble_eq_true rfl) (by decide +kernel) ?_
        refine gx_aload_n_0 ((gx_nil ?_))
        refine g_getf fX4_25 (by decide +kernel) ho rfl ?_
        refine g_blk [(.iload_n 1, .null)] (Nat.le_of_ble_eq_true rfl) (by decide +kernel) ?_
        refine gx_iload_n_1 ((gx_nil ?_))
        refine g_iaload (by decide +kernel) hca (by rw [er]; exact vp_in_nI hr6 (by omega)) ?_
        rw [hcl, hfc r hr6]
        refine g_blk [(.istore_n 3, .null), (.aload_n 0, .null)] (Nat.le_of_ble_eq_true rfl) (by decide +kernel) ?_
        refine gx_istore_n_3 rfl (gx_aload_n_0 ((gx_nil ?_)))
        refine g_getf fX4_25 (by decide +kernel) ho rfl ?_
        refine g_blk [(.iload_n 1, .null), (.iload_n 2, .null)] (Nat.le_of_ble_eq_true rfl) (by decide +kernel) ?_
        refine gx_iload_n_1 (gx_iload_n_2 ((gx_nil ?_)))
        refine g_iastore (by decide +kernel) hca (by rw [er]; exact vp_in_nI hr6 (by omega)) ?_
        rw [hcl]
        refine g_blk [(.iload_n 3, .null)] (Nat.le_of_ble_eq_true rfl) (by decide +kernel) ?_
        refine gx_iload_n_3 ((gx_nil ?_))
        refine g_end (some (.int _)) rfl ⟨by decide +kernel, _, rfl, rfl⟩ ?_
        refine Or.inl ⟨?_, ?_, ?_⟩
        · rw [bI_t c4, bI_t (p := nI 0 ≤ ho9 ∧ ho9 ≤ nI 24) ⟨by rw [hz0]; exact Int32.not_lt.mp c11, c17⟩, rT_0]
        · rw [hix5]
        · exact gPost_same (gOx_upC H nd (N' := upd N (8 + 3 * rIx rt + 0) ho9) (f := upd fc r ho9) (fun z hz => by
            rw [hix5]
            by_cases y : z = r
            · subst y; rw [pk_us, pk_us]
            · rw [pk_un y, pk_un (by omega)]
              exact hfc z hz) (fun z z1 z2 => by rw [hix5]; exact (pk_un (by omega)).symm)) nd (gKeep.up memC)
      · try simp only [bI_0, Decidable.not_not] at c17
        refine g_blk [(.iconst (-1), .int (-1))] (Nat.le_of_ble_eq_true rfl) (by decide +kernel) ?_
        refine gx_iconst ((gx_nil ?_))
        refine g_end (some (.int _)) rfl ⟨by decide +kernel, _, rfl, rfl⟩ ?_
        refine Or.inr ⟨?_, ?_, rfl⟩
        · rw [bI_t c4, bI_f (p := nI 0 ≤ ho9 ∧ ho9 ≤ nI 24) (fun z => c17 z.2), rT_2]; decide
        · rw [bI_t c4, bI_f (p := nI 0 ≤ ho9 ∧ ho9 ≤ nI 24) (fun z => c17 z.2), rT_2]; rfl
  · try simp only [bI_0, Decidable.not_not] at c4
    refine g_blk [(.bipush (-2), .int (-2))] (Nat.le_of_ble_eq_true rfl) (by decide +kernel) ?_
    refine gx_bipush ((gx_nil ?_))
    refine g_end (some (.int _)) rfl ⟨by decide +kernel, _, rfl, rfl⟩ ?_
    refine Or.inr ⟨?_, ?_, rfl⟩
    · rw [bI_f c4, rT_1]; decide
    · rw [bI_f c4, rT_1]; rfl
theorem of_changeDeparture {o c t la ta ca da ba pa ep : Nat} {fl fq ls ps : List Nat} {N : Nat → Int32} (H : gOx Γ de h o N c t la ta ca da ba pa ep fl fq ls ps) (nd : (gFp o ta ca da ba fl fq ls).Nodup) (rt ho9 : Int32) : gC Γ M_X4_changeDeparture [.ref o, .int rt, .int ho9] h 2 0 0 (cmdZ Γ de h o la ta ca da ba pa ep (gFp o ta ca da ba fl fq ls) (rT (bI (nI 0 ≤ rt ∧ rt ≤ nI 5)) (bI (nI 0 ≤ ho9 ∧ ho9 ≤ nI 23)) (nI 1)) (N (8 + 3 * rIx rt + 1)) (ccd (-2) (-1) 0) (upd N (8 + 3 * rIx rt + 1) ho9) c t) (fun _ _ => False) := by
  have H0 := H
  obtain ⟨ho, HL, hlc, hls, hta, HP, hpc, hps, hep, ⟨fc, hca, hfc⟩, ⟨fd, hda, hfd⟩, ⟨fb, hba, hfb⟩⟩ := H0
  have hz0 : nI 0 = (0 : Int32) := by decide
  have e24 : ho9 < nI 24 ↔ ho9 ≤ nI 23 := by
    have e1 : (nI 24).toInt = 24 := by decide
    have e2 : (nI 23).toInt = 23 := by decide
    rw [Int32.lt_iff_toInt_lt, Int32.le_iff_toInt_le]
    omega
  refine gC_of (by decide) rfl (Nat.le_of_ble_eq_true rfl) [some (.ref o), some (.int rt), some (.int ho9), none] rfl ?_
  refine g_blk [(.iload_n 1, .null)] (Nat.le_of_ble_eq_true rfl) (by decide +kernel) ?_
  refine gx_iload_n_1 ((gx_nil ?_))
  refine g_pSN kX4_95 (pc_isRoute _) (by decide +kernel) rfl rfl (Nat.le_of_ble_eq_true rfl) (Nat.le_of_ble_eq_true rfl) (Nat.le_of_ble_eq_true rfl) rfl ?_
  try simp only [Option.toList_some, Option.toList_none, List.cons_append, List.nil_append, bI_0, n1_0, n0_0, Decidable.not_not, not_true_eq_false, not_false_eq_true, nI_add, Nat.add_zero, Nat.zero_add, Nat.reduceAdd]
  refine g_if_ne (off := 6) (tgt := 10) (by decide +kernel) (by decide) (fun c4 => ?_) (fun c4 => ?_)
  · try simp only [bI_0, Decidable.not_not] at c4
    obtain ⟨r, hr6, er⟩ : ∃ r, r < 6 ∧ rt = nI r := ⟨rIx rt, (r5_lt c4).2, (r5_lt c4).1⟩
    have hcl : rt.toNatClampNeg = r := by rw [er, nI_clamp (by omega)]
    have hix5 : rIx rt = r := by rw [er, rIx_nI (by omega)]
    refine g_blk [(.iload_n 2, .null)] (Nat.le_of_ble_eq_true rfl) (by decide +kernel) ?_
    refine gx_iload_n_2 ((gx_nil ?_))
    refine g_if_lt (off := 9) (tgt := 20) (by decide +kernel) (by decide) (fun c11 => ?_) (fun c11 => ?_)
    · try simp only [bI_0, Decidable.not_not] at c11
      refine g_blk [(.iconst (-1), .int (-1))] (Nat.le_of_ble_eq_true rfl) (by decide +kernel) ?_
      refine gx_iconst ((gx_nil ?_))
      refine g_end (some (.int _)) rfl ⟨by decide +kernel, _, rfl, rfl⟩ ?_
      refine Or.inr ⟨?_, ?_, rfl⟩
      · rw [bI_t c4, bI_f (p := nI 0 ≤ ho9 ∧ ho9 ≤ nI 23) (fun z => absurd c11 (Int32.not_lt.mpr (by rw [← hz0]; exact z.1))), rT_2]; decide
      · rw [bI_t c4, bI_f (p := nI 0 ≤ ho9 ∧ ho9 ≤ nI 23) (fun z => absurd c11 (Int32.not_lt.mpr (by rw [← hz0]; exact z.1))), rT_2]; rfl
    · try simp only [bI_0, Decidable.not_not] at c11
      refine g_blk [(.iload_n 2, .null), (.bipush 24, .int (nI 24))] (Nat.le_of_ble_eq_true rfl) (by decide +kernel) ?_
      refine gx_iload_n_2 (gx_bipush ((gx_nil ?_)))
      refine g_icmp_lt (off := 5) (tgt := 22) (by decide +kernel) (by decide) (fun c17 => ?_) (fun c17 => ?_)
      · try simp only [bI_0, Decidable.not_not] at c17
        refine g_blk [(.aload_n 0, .null)] (Nat.le_of_ble_eq_true rfl) (by decide +kernel) ?_
        refine gx_aload_n_0 ((gx_nil ?_))
        refine g_getf fX4_29 (by decide +kernel) ho rfl ?_
        refine g_blk [(.iload_n 1, .null)] (Nat.le_of_ble_eq_true rfl) (by decide +kernel) ?_
        refine gx_iload_n_1 ((gx_nil ?_))
        refine g_iaload (by decide +kernel) hda (by rw [er]; exact vp_in_nI hr6 (by omega)) ?_
        rw [hcl, hfd r hr6]
        refine g_blk [(.istore_n 3, .null), (.aload_n 0, .null)] (Nat.le_of_ble_eq_true rfl) (by decide +kernel) ?_
        refine gx_istore_n_3 rfl (gx_aload_n_0 ((gx_nil ?_)))
        refine g_getf fX4_29 (by decide +kernel) ho rfl ?_
        refine g_blk [(.iload_n 1, .null), (.iload_n 2, .null)] (Nat.le_of_ble_eq_true rfl) (by decide +kernel) ?_
        refine gx_iload_n_1 (gx_iload_n_2 ((gx_nil ?_)))
        refine g_iastore (by decide +kernel) hda (by rw [er]; exact vp_in_nI hr6 (by omega)) ?_
        rw [hcl]
        refine g_blk [(.iload_n 3, .null)] (Nat.le_of_ble_eq_true rfl) (by decide +kernel) ?_
        refine gx_iload_n_3 ((gx_nil ?_))
        refine g_end (some (.int _)) rfl ⟨by decide +kernel, _, rfl, rfl⟩ ?_
        refine Or.inl ⟨?_, ?_, ?_⟩
        · rw [bI_t c4, bI_t (p := nI 0 ≤ ho9 ∧ ho9 ≤ nI 23) ⟨by rw [hz0]; exact Int32.not_lt.mp c11, e24.mp c17⟩, rT_0]
        · rw [hix5]
        · exact gPost_same (gOx_upD H nd (N' := upd N (8 + 3 * rIx rt + 1) ho9) (f := upd fd r ho9) (fun z hz => by
            rw [hix5]
            by_cases y : z = r
            · subst y; rw [pk_us, pk_us]
            · rw [pk_un y, pk_un (by omega)]
              exact hfd z hz) (fun z z1 z2 => by rw [hix5]; exact (pk_un (by omega)).symm)) nd (gKeep.up memD)
      · try simp only [bI_0, Decidable.not_not] at c17
        refine g_blk [(.iconst (-1), .int (-1))] (Nat.le_of_ble_eq_true rfl) (by decide +kernel) ?_
        refine gx_iconst ((gx_nil ?_))
        refine g_end (some (.int _)) rfl ⟨by decide +kernel, _, rfl, rfl⟩ ?_
        refine Or.inr ⟨?_, ?_, rfl⟩
        · rw [bI_t c4, bI_f (p := nI 0 ≤ ho9 ∧ ho9 ≤ nI 23) (fun z => c17 (e24.mpr z.2)), rT_2]; decide
        · rw [bI_t c4, bI_f (p := nI 0 ≤ ho9 ∧ ho9 ≤ nI 23) (fun z => c17 (e24.mpr z.2)), rT_2]; rfl
  · try simp only [bI_0, Decidable.not_not] at c4
    refine g_blk [(.bipush (-2), .int (-2))] (Nat.le_of_ble_eq_true rfl) (by decide +kernel) ?_
    refine gx_bipush ((gx_nil ?_))
    refine g_end (some (.int _)) rfl ⟨by decide +kernel, _, rfl, rfl⟩ ?_
    refine Or.inr ⟨?_, ?_, rfl⟩
    · rw [bI_f c4, rT_1]; decide
    · rw [bI_f c4, rT_1]; rfl
end GMu2
