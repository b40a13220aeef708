/-! THE FACE: ROUTES AND BAGS -/
section GFr2
variable {Γ : gE} {de : Nat} {h : gHp} {m hl tt bu sb : Nat} {sv : Value} {bl e8 f8 : Int32}
theorem cd_in {cd : Nat} (h : cd < 10000) : nI 0 ≤ nI cd ∧ nI cd ≤ nI 9999 := ⟨nI_le (Nat.zero_le _) (by omega), nI_le (by omega) (by omega)⟩
theorem y_ne {y : Int32} (hy : nI 0 ≤ y ∧ y ≤ nI 5) : ¬ y = -1 := fun z => by
  rw [z] at hy
  exact absurd hy.1 (by decide)
theorem mo_hasPrefix {o c t la ta ca da ba pa ep : Nat} {fl fq ls ps : List Nat} {N : Nat → Int32} (hm : gMc h m o sv hl tt bu bl sb e8 f8) (H : gOx Γ de h o N c t la ta ca da ba pa ep fl fq ls ps) (ht : t ≤ 12) (hv : rPv N t) (hu : rUp N t) {dg ln : Int32} (hx : rPx dg ln = true) : pC Γ M_X9_hasPrefix [.ref m, .int dg, .int ln] h 4 (some (.int (bI (¬ rFind N dg ln t = -1)))) := by
  have H0 := H
  obtain ⟨ho, HL, hlc, hls, hta, HP, hpc, hps, hep, ⟨fc, hca, hfc⟩, ⟨fd, hda, hfd⟩, ⟨fb, hba, hfb⟩⟩ := H0
  refine pC_of (by decide) rfl (Nat.le_of_ble_eq_true rfl) [some (.ref m), some (.int dg), some (.int ln)] rfl ?_
  refine g_blk [(.iload_n 1, .null), (.iload_n 2, .null)] (Nat.le_of_ble_eq_true rfl) (by decide +kernel) ?_
  refine gx_iload_n_1 (gx_iload_n_2 ((gx_nil ?_)))
  refine g_pS kX9_220 (pc_isPrefix _ _) (by decide +kernel) rfl rfl (Nat.le_of_ble_eq_true rfl) (Nat.le_of_ble_eq_true rfl) (Nat.le_of_ble_eq_true rfl) rfl ?_
  simp only [Option.toList_some, Option.toList_none, List.cons_append, List.nil_append]
  rw [bI_t hx]
  refine g_if_ne (off := 13) (tgt := 18) (by decide +kernel) (by decide) (fun c5 => ?_) (fun c5 => ?_)
  · try simp only [bI_0, Decidable.not_not] at c5
    refine g_blk [(.aload_n 0, .null)] (Nat.le_of_ble_eq_true rfl) (by decide +kernel) ?_
    refine gx_aload_n_0 ((gx_nil ?_))
    refine g_getf fX9_10 (by decide +kernel) hm rfl ?_
    refine g_getf fX9_66 (by decide +kernel) ho rfl ?_
    refine g_blk [(.iload_n 1, .null), (.iload_n 2, .null)] (Nat.le_of_ble_eq_true rfl) (by decide +kernel) ?_
    refine gx_iload_n_1 (gx_iload_n_2 ((gx_nil ?_)))
    refine g_pV kX9_226 (tb_positionOf hta HP hpc hps ht hu _ _) (by decide +kernel) rfl rfl hta rfl (Nat.le_of_ble_eq_true rfl) (Nat.le_of_ble_eq_true rfl) (Nat.le_of_ble_eq_true rfl) rfl ?_
    simp only [Option.toList_some, Option.toList_none, List.cons_append, List.nil_append]
    refine g_blk [(.iconst (-1), .int (-1))] (Nat.le_of_ble_eq_true rfl) (by decide +kernel) ?_
    refine gx_iconst ((gx_nil ?_))
    refine g_icmp_eq (off := 7) (tgt := 38) (by decide +kernel) (by decide) (fun c31 => ?_) (fun c31 => ?_)
    · try simp only [bI_0, Decidable.not_not] at c31
      refine g_blk [(.iconst 0, .int (nI 0))] (Nat.le_of_ble_eq_true rfl) (by decide +kernel) ?_
      refine gx_iconst ((gx_nil ?_))
      refine g_end (some (.int _)) rfl ⟨by decide +kernel, _, rfl, by first | rfl | exact bI_nar _⟩ ⟨?_, rfl⟩
      rw [bI_f (fun z => z c31)]
    · try simp only [bI_0, Decidable.not_not] at c31
      refine g_blk [(.iconst 1, .int (nI 1)), (.goto 4, .retAddr 39)] (Nat.le_of_ble_eq_true rfl) (by decide +kernel) ?_
      refine gx_iconst (gx_goto ((gx_nil ?_)))
      refine g_end (some (.int _)) rfl ⟨by decide +kernel, _, rfl, by first | rfl | exact bI_nar _⟩ ⟨?_, rfl⟩
      rw [bI_t c31]
  · try simp only [bI_0, Decidable.not_not] at c5
    exact absurd c5 (by decide)
theorem mo_hasPrefix_no {o : Nat} (hp : gPxs Γ) (hm : gMc h m o sv hl tt bu bl sb e8 f8) {dg ln : Int32} (hx : ¬ rPx dg ln = true) : gC Γ M_X9_hasPrefix [.ref m, .int dg, .int ln] h 6 1 6 (fun _ _ => False) (fun E h' => E = xIA ∧ h' = h) := by
  refine gC_of (by decide) rfl (Nat.le_of_ble_eq_true rfl) [some (.ref m), some (.int dg), some (.int ln)] rfl ?_
  refine g_blk [(.iload_n 1, .null), (.iload_n 2, .null)] (Nat.le_of_ble_eq_true rfl) (by decide +kernel) ?_
  refine gx_iload_n_1 (gx_iload_n_2 ((gx_nil ?_)))
  refine g_pS kX9_220 (pc_isPrefix _ _) (by decide +kernel) rfl rfl (Nat.le_of_ble_eq_true rfl) (Nat.le_of_ble_eq_true rfl) (Nat.le_of_ble_eq_true rfl) rfl ?_
  simp only [Option.toList_some, Option.toList_none, List.cons_append, List.nil_append]
  rw [bI_f hx]
  refine g_if_ne (off := 13) (tgt := 18) (by decide +kernel) (by decide) (fun c5 => ?_) (fun c5 => ?_)
  · try simp only [bI_0, Decidable.not_not] at c5
    exact absurd (by decide) c5
  · try simp only [bI_0, Decidable.not_not] at c5
    obtain ⟨sa, hsa⟩ := hp.at (k := 224) (tx := "the length or the digits are out of range") (by decide)
    exact g_throw thr_ia hp.1 hsa (by decide +kernel) (by decide +kernel) (by decide +kernel) (by decide +kernel) (by decide +kernel) rfl (by decide) (Nat.le_of_ble_eq_true rfl) (by omega) (by omega) ⟨rfl, rfl⟩
theorem mo_foundRoute {y : Int32} (hy : ¬ y = -1) : pC Γ M_X9_foundRoute [.int y] h 0 (some (.int y)) := by
  refine pC_of (by decide) rfl (Nat.le_of_ble_eq_true rfl) [some (.int y)] rfl ?_
  refine g_blk [(.iload_n 0, .null), (.iconst (-1), .int (-1))] (Nat.le_of_ble_eq_true rfl) (by decide +kernel) ?_
  refine gx_iload_n_0 (gx_iconst ((gx_nil ?_)))
  refine g_icmp_ne (off := 14) (tgt := 16) (by decide +kernel) (by decide) (fun c2 => ?_) (fun c2 => ?_)
  · try simp only [bI_0, Decidable.not_not] at c2
    refine g_blk [(.iload_n 0, .null)] (Nat.le_of_ble_eq_true rfl) (by decide +kernel) ?_
    refine gx_iload_n_0 ((gx_nil ?_))
    refine g_end (some (.int _)) rfl ⟨by decide +kernel, _, rfl, rfl⟩ ⟨?_, rfl⟩
    rfl
  · try simp only [bI_0, Decidable.not_not] at c2
    exact absurd c2 hy
theorem mo_foundRoute_no (hp : gPxs Γ) : gC Γ M_X9_foundRoute [.int (-1)] h 6 1 6 (fun _ _ => False) (fun E h' => E = xNS ∧ h' = h) := by
  refine gC_of (by decide) rfl (Nat.le_of_ble_eq_true rfl) [some (.int (-1))] rfl ?_
  refine g_blk [(.iload_n 0, .null), (.iconst (-1), .int (-1))] (Nat.le_of_ble_eq_true rfl) (by decide +kernel) ?_
  refine gx_iload_n_0 (gx_iconst ((gx_nil ?_)))
  refine g_icmp_ne (off := 14) (tgt := 16) (by decide +kernel) (by decide) (fun c2 => ?_) (fun c2 => ?_)
  · try simp only [bI_0, Decidable.not_not] at c2
    exact absurd trivial c2
  · try simp only [bI_0, Decidable.not_not] at c2
    obtain ⟨sa, hsa⟩ := hp.at (k := 267) (tx := "the code has no route") (by decide)
    exact g_throwXW thr_ns hp.1 hsa (by decide +kernel) (by decide +kernel) (by decide +kernel) (by decide +kernel) (by decide +kernel) rfl (by decide) (Nat.le_of_ble_eq_true rfl) (by omega) (by omega) ⟨rfl, rfl⟩
theorem mo_matchLength {o c t la ta ca da ba pa ep : Nat} {fl fq ls ps : List Nat} {N : Nat → Int32} (hm : gMc h m o sv hl tt bu bl sb e8 f8) (H : gOx Γ de h o N c t la ta ca da ba pa ep fl fq ls ps) (ht : t ≤ 12) (hv : rPv N t) {cd : Nat} (hcd : cd < 10000) : pC Γ M_X9_matchLength [.ref m, .int (nI cd)] h 4 (some (.int (rML N (nI cd) t))) := by
  have H0 := H
  obtain ⟨ho, HL, hlc, hls, hta, HP, hpc, hps, hep, ⟨fc, hca, hfc⟩, ⟨fd, hda, hfd⟩, ⟨fb, hba, hfb⟩⟩ := H0
  obtain ⟨x1, x2, x3, hcell⟩ := pR_cell hpc hps hep ht (rMatch_in (N := N) (dg := nI cd) (ln := nI 4) (most := nI 4) (c := t))
  refine pC_of (by decide) rfl (Nat.le_of_ble_eq_true rfl) [some (.ref m), some (.int (nI cd))] rfl ?_
  refine g_blk [(.iload_n 1, .null)] (Nat.le_of_ble_eq_true rfl) (by decide +kernel) ?_
  refine gx_iload_n_1 ((gx_nil ?_))
  refine g_pS kX9_229 (mo_requireCode (cd_in hcd)) (by decide +kernel) rfl rfl (Nat.le_of_ble_eq_true rfl) (Nat.le_of_ble_eq_true rfl) (Nat.le_of_ble_eq_true rfl) rfl ?_
  simp only [Option.toList_some, Option.toList_none, List.cons_append, List.nil_append]
  refine g_blk [(.aload_n 0, .null)] (Nat.le_of_ble_eq_true rfl) (by decide +kernel) ?_
  refine gx_aload_n_0 ((gx_nil ?_))
  refine g_getf fX9_10 (by decide +kernel) hm rfl ?_
  refine g_getf fX9_66 (by decide +kernel) ho rfl ?_
  refine g_blk [(.iload_n 1, .null), (.iconst 4, .int (nI 4))] (Nat.le_of_ble_eq_true rfl) (by decide +kernel) ?_
  refine gx_iload_n_1 (gx_iconst ((gx_nil ?_)))
  refine g_pV kX9_232 (tb_longest hta HP hpc hps hep ht hv hcd _) (by decide +kernel) rfl rfl hta rfl (Nat.le_of_ble_eq_true rfl) (Nat.le_of_ble_eq_true rfl) (Nat.le_of_ble_eq_true rfl) rfl ?_
  simp only [Option.toList_some, Option.toList_none, List.cons_append, List.nil_append]
  refine g_getf fX9_249 (by decide +kernel) hcell rfl ?_
  refine g_end (some (.int _)) rfl ⟨by decide +kernel, _, rfl, rfl⟩ ⟨?_, rfl⟩
  unfold pLen rML
  split
  · rfl
  · rfl
theorem mo_matchLength_no {o : Nat} (hp : gPxs Γ) (hm : gMc h m o sv hl tt bu bl sb e8 f8) {y : Int32} (hy : ¬ (nI 0 ≤ y ∧ y ≤ nI 9999)) : gC Γ M_X9_matchLength [.ref m, .int y] h 7 1 6 (fun _ _ => False) (fun E h' => E = xIA ∧ h' = h) := by
  refine gC_of (by decide) rfl (Nat.le_of_ble_eq_true rfl) [some (.ref m), some (.int y)] rfl ?_
  refine g_blk [(.iload_n 1, .null)] (Nat.le_of_ble_eq_true rfl) (by decide +kernel) ?_
  refine gx_iload_n_1 ((gx_nil ?_))
  exact g_callS (rc' := 0) (rs' := 0) kX9_229 (mo_requireCode_no hp hy) (by decide +kernel) rfl rfl (Nat.le_of_ble_eq_true rfl) (Nat.le_of_ble_eq_true rfl) (Nat.le_of_ble_eq_true rfl) (Nat.le_refl _) (Nat.le_refl _) rfl (fun _ _ z => z) (fun _ _ z => z.elim)
theorem mo_routeFor {o c t la ta ca da ba pa ep : Nat} {fl fq ls ps : List Nat} {N : Nat → Int32} (hm : gMc h m o sv hl tt bu bl sb e8 f8) (H : gOx Γ de h o N c t la ta ca da ba pa ep fl fq ls ps) (ht : t ≤ 12) (hv : rPv N t) {cd : Nat} (hcd : cd < 10000) (hr : ¬ rRoute N (nI cd) t = -1) : pC Γ M_X9_routeFor [.ref m, .int (nI cd)] h 4 (some (.int (rRoute N (nI cd) t))) := by
  have H0 := H
  obtain ⟨ho, HL, hlc, hls, hta, HP, hpc, hps, hep, ⟨fc, hca, hfc⟩, ⟨fd, hda, hfd⟩, ⟨fb, hba, hfb⟩⟩ := H0
  obtain ⟨x1, x2, x3, hcell⟩ := pR_cell hpc hps hep ht (rMatch_in (N := N) (dg := nI cd) (ln := nI 4) (most := nI 4) (c := t))
  refine pC_of (by decide) rfl (Nat.le_of_ble_eq_true rfl) [some (.ref m), some (.int (nI cd))] rfl ?_
  refine g_blk [(.iload_n 1, .null)] (Nat.le_of_ble_eq_true rfl) (by decide +kernel) ?_
  refine gx_iload_n_1 ((gx_nil ?_))
  refine g_pS kX9_229 (mo_requireCode (cd_in hcd)) (by decide +kernel) rfl rfl (Nat.le_of_ble_eq_true rfl) (Nat.le_of_ble_eq_true rfl) (Nat.le_of_ble_eq_true rfl) rfl ?_
  simp only [Option.toList_some, Option.toList_none, List.cons_append, List.nil_append]
  refine g_blk [(.aload_n 0, .null)] (Nat.le_of_ble_eq_true rfl) (by decide +kernel) ?_
  refine gx_aload_n_0 ((gx_nil ?_))
  refine g_getf fX9_10 (by decide +kernel) hm rfl ?_
  refine g_getf fX9_66 (by decide +kernel) ho rfl ?_
  refine g_blk [(.iload_n 1, .null), (.iconst 4, .int (nI 4))] (Nat.le_of_ble_eq_true rfl) (by decide +kernel) ?_
  refine gx_iload_n_1 (gx_iconst ((gx_nil ?_)))
  refine g_pV kX9_232 (tb_longest hta HP hpc hps hep ht hv hcd _) (by decide +kernel) rfl rfl hta rfl (Nat.le_of_ble_eq_true rfl) (Nat.le_of_ble_eq_true rfl) (Nat.le_of_ble_eq_true rfl) rfl ?_
  simp only [Option.toList_some, Option.toList_none, List.cons_append, List.nil_append]
  refine g_getf fX9_236 (by decide +kernel) hcell rfl ?_
  rw [pTo_r]
  refine g_pS kX9_239 (mo_foundRoute hr) (by decide +kernel) rfl rfl (Nat.le_of_ble_eq_true rfl) (Nat.le_of_ble_eq_true rfl) (Nat.le_of_ble_eq_true rfl) rfl ?_
  simp only [Option.toList_some, Option.toList_none, List.cons_append, List.nil_append]
  refine g_end (some (.int _)) rfl ⟨by decide +kernel, _, rfl, rfl⟩ ⟨?_, rfl⟩
  rfl
theorem mo_routeFor_no {o : Nat} (hp : gPxs Γ) (hm : gMc h m o sv hl tt bu bl sb e8 f8) {y : Int32} (hy : ¬ (nI 0 ≤ y ∧ y ≤ nI 9999)) : gC Γ M_X9_routeFor [.ref m, .int y] h 7 1 6 (fun _ _ => False) (fun E h' => E = xIA ∧ h' = h) := by
  refine gC_of (by decide) rfl (Nat.le_of_ble_eq_true rfl) [some (.ref m), some (.int y)] rfl ?_
  refine g_blk [(.iload_n 1, .null)] (Nat.le_of_ble_eq_true rfl) (by decide +kernel) ?_
  refine gx_iload_n_1 ((gx_nil ?_))
  exact g_callS (rc' := 0) (rs' := 0) kX9_229 (mo_requireCode_no hp hy) (by decide +kernel) rfl rfl (Nat.le_of_ble_eq_true rfl) (Nat.le_of_ble_eq_true rfl) (Nat.le_of_ble_eq_true rfl) (Nat.le_refl _) (Nat.le_refl _) rfl (fun _ _ z => z) (fun _ _ z => z.elim)
theorem mo_routeFor_none {o c t la ta ca da ba pa ep : Nat} {fl fq ls ps : List Nat} {N : Nat → Int32} (hp : gPxs Γ) (hm : gMc h m o sv hl tt bu bl sb e8 f8) (H : gOx Γ de h o N c t la ta ca da ba pa ep fl fq ls ps) (ht : t ≤ 12) (hv : rPv N t) {cd : Nat} (hcd : cd < 10000) (hr : rRoute N (nI cd) t = -1) : gC Γ M_X9_routeFor [.ref m, .int (nI cd)] h 7 1 6 (fun _ _ => False) (fun E h' => E = xNS ∧ h' = h) := by
  have H0 := H
  obtain ⟨ho, HL, hlc, hls, hta, HP, hpc, hps, hep, ⟨fc, hca, hfc⟩, ⟨fd, hda, hfd⟩, ⟨fb, hba, hfb⟩⟩ := H0
  obtain ⟨x1, x2, x3, hcell⟩ := pR_cell hpc hps hep ht (rMatch_in (N := N) (dg := nI cd) (ln := nI 4) (most := nI 4) (c := t))
  refine gC_of (by decide) rfl (Nat.le_of_ble_eq_true rfl) [some (.ref m), some (.int (nI cd))] rfl ?_
  refine g_blk [(.iload_n 1, .null)] (Nat.le_of_ble_eq_true rfl) (by decide +kernel) ?_
  refine gx_iload_n_1 ((gx_nil ?_))
  refine g_pS kX9_229 (mo_requireCode (cd_in hcd)) (by decide +kernel) rfl rfl (Nat.le_of_ble_eq_true rfl) (Nat.le_of_ble_eq_true rfl) (Nat.le_of_ble_eq_true rfl) rfl ?_
  simp only [Option.toList_some, Option.toList_none, List.cons_append, List.nil_append]
  refine g_blk [(.aload_n 0, .null)] (Nat.le_of_ble_eq_true rfl) (by decide +kernel) ?_
  refine gx_aload_n_0 ((gx_nil ?_))
  refine g_getf fX9_10 (by decide +kernel) hm rfl ?_
  refine g_getf fX9_66 (by decide +kernel) ho rfl ?_
  refine g_blk [(.iload_n 1, .null), (.iconst 4, .int (nI 4))] (Nat.le_of_ble_eq_true rfl) (by decide +kernel) ?_
  refine gx_iload_n_1 (gx_iconst ((gx_nil ?_)))
  refine g_pV kX9_232 (tb_longest hta HP hpc hps hep ht hv hcd _) (by decide +kernel) rfl rfl hta rfl (Nat.le_of_ble_eq_true rfl) (Nat.le_of_ble_eq_true rfl) (Nat.le_of_ble_eq_true rfl) rfl ?_
  simp only [Option.toList_some, Option.toList_none, List.cons_append, List.nil_append]
  refine g_getf fX9_236 (by decide +kernel) hcell rfl ?_
  rw [pTo_r, hr]
  exact g_callS (rc' := 0) (rs' := 0) kX9_239 (mo_foundRoute_no hp) (by decide +kernel) rfl rfl (Nat.le_of_ble_eq_true rfl) (Nat.le_of_ble_eq_true rfl) (Nat.le_of_ble_eq_true rfl) (Nat.le_refl _) (Nat.le_refl _) rfl (fun _ _ z => z) (fun _ _ z => z.elim)
theorem mo_codesOf {o c t la ta ca da ba pa ep : Nat} {fl fq ls ps : List Nat} {N : Nat → Int32} (hm : gMc h m o sv hl tt bu bl sb e8 f8) (H : gOx Γ de h o N c t la ta ca da ba pa ep fl fq ls ps) (ht : t ≤ 12) (hv : rPv N t) {y : Int32} (hy : nI 0 ≤ y ∧ y ≤ nI 5) : pC Γ M_X9_codesOf [.ref m, .int y] h 5 (some (.int (rCs N y t t))) := by
  have H0 := H
  obtain ⟨ho, HL, hlc, hls, hta, HP, hpc, hps, hep, ⟨fc, hca, hfc⟩, ⟨fd, hda, hfd⟩, ⟨fb, hba, hfb⟩⟩ := H0
  refine pC_of (by decide) rfl (Nat.le_of_ble_eq_true rfl) [some (.ref m), some (.int y)] rfl ?_
  refine g_blk [(.iload_n 1, .null)] (Nat.le_of_ble_eq_true rfl) (by decide +kernel) ?_
  refine gx_iload_n_1 ((gx_nil ?_))
  refine g_pS kX9_252 (mo_requireRoute hy) (by decide +kernel) rfl rfl (Nat.le_of_ble_eq_true rfl) (Nat.le_of_ble_eq_true rfl) (Nat.le_of_ble_eq_true rfl) rfl ?_
  simp only [Option.toList_some, Option.toList_none, List.cons_append, List.nil_append]
  refine g_blk [(.aload_n 0, .null)] (Nat.le_of_ble_eq_true rfl) (by decide +kernel) ?_
  refine gx_aload_n_0 ((gx_nil ?_))
  refine g_getf fX9_10 (by decide +kernel) hm rfl ?_
  refine g_getf fX9_66 (by decide +kernel) ho rfl ?_
  refine g_blk [(.iload_n 1, .null)] (Nat.le_of_ble_eq_true rfl) (by decide +kernel) ?_
  refine gx_iload_n_1 ((gx_nil ?_))
  refine g_pV kX9_255 (tb_countCodes hta HP hpc hps hep ht hv (y_ne hy)) (by decide +kernel) rfl rfl hta rfl (Nat.le_of_ble_eq_true rfl) (Nat.le_of_ble_eq_true rfl) (Nat.le_of_ble_eq_true rfl) rfl ?_
  simp only [Option.toList_some, Option.toList_none, List.cons_append, List.nil_append]
  refine g_end (some (.int _)) rfl ⟨by decide +kernel, _, rfl, rfl⟩ ⟨?_, rfl⟩
  rfl
theorem mo_codesOf_no {o : Nat} (hp : gPxs Γ) (hm : gMc h m o sv hl tt bu bl sb e8 f8) {y : Int32} (hy : ¬ (nI 0 ≤ y ∧ y ≤ nI 5)) : gC Γ M_X9_codesOf [.ref m, .int y] h 7 1 6 (fun _ _ => False) (fun E h' => E = xIO ∧ h' = h) := by
  refine gC_of (by decide) rfl (Nat.le_of_ble_eq_true rfl) [some (.ref m), some (.int y)] rfl ?_
  refine g_blk [(.iload_n 1, .null)] (Nat.le_of_ble_eq_true rfl) (by decide +kernel) ?_
  refine gx_iload_n_1 ((gx_nil ?_))
  exact g_callS (rc' := 0) (rs' := 0) kX9_252 (mo_requireRoute_no hp hy) (by decide +kernel) rfl rfl (Nat.le_of_ble_eq_true rfl) (Nat.le_of_ble_eq_true rfl) (Nat.le_of_ble_eq_true rfl) (Nat.le_refl _) (Nat.le_refl _) rfl (fun _ _ z => z) (fun _ _ z => z.elim)
theorem mo_bagCount {o c t la ta ca da ba pa ep : Nat} {fl fq ls ps : List Nat} {N : Nat → Int32} (hm : gMc h m o sv hl tt bu bl sb e8 f8) (H : gOx Γ de h o N c t la ta ca da ba pa ep fl fq ls ps)  {y : Int32} (hy : nI 0 ≤ y ∧ y ≤ nI 5) : pC Γ M_X9_bagCount [.ref m, .int y] h 3 (some (.int (gCb N y))) := by
  have H0 := H
  obtain ⟨ho, HL, hlc, hls, hta, HP, hpc, hps, hep, ⟨fc, hca, hfc⟩, ⟨fd, hda, hfd⟩, ⟨fb, hba, hfb⟩⟩ := H0
  refine pC_of (by decide) rfl (Nat.le_of_ble_eq_true rfl) [some (.ref m), some (.int y)] rfl ?_
  refine g_blk [(.iload_n 1, .null)] (Nat.le_of_ble_eq_true rfl) (by decide +kernel) ?_
  refine gx_iload_n_1 ((gx_nil ?_))
  refine g_pS kX9_252 (mo_requireRoute hy) (by decide +kernel) rfl rfl (Nat.le_of_ble_eq_true rfl) (Nat.le_of_ble_eq_true rfl) (Nat.le_of_ble_eq_true rfl) rfl ?_
  simp only [Option.toList_some, Option.toList_none, List.cons_append, List.nil_append]
  refine g_blk [(.aload_n 0, .null)] (Nat.le_of_ble_eq_true rfl) (by decide +kernel) ?_
  refine gx_aload_n_0 ((gx_nil ?_))
  refine g_getf fX9_10 (by decide +kernel) hm rfl ?_
  refine g_blk [(.iload_n 1, .null)] (Nat.le_of_ble_eq_true rfl) (by decide +kernel) ?_
  refine gx_iload_n_1 ((gx_nil ?_))
  refine g_pV kX9_269 (of_countBags H _) (by decide +kernel) rfl rfl ho rfl (Nat.le_of_ble_eq_true rfl) (Nat.le_of_ble_eq_true rfl) (Nat.le_of_ble_eq_true rfl) rfl ?_
  simp only [Option.toList_some, Option.toList_none, List.cons_append, List.nil_append]
  refine g_end (some (.int _)) rfl ⟨by decide +kernel, _, rfl, rfl⟩ ⟨?_, rfl⟩
  rfl
theorem mo_bagCount_no {o : Nat} (hp : gPxs Γ) (hm : gMc h m o sv hl tt bu bl sb e8 f8) {y : Int32} (hy : ¬ (nI 0 ≤ y ∧ y ≤ nI 5)) : gC Γ M_X9_bagCount [.ref m, .int y] h 7 1 6 (fun _ _ => False) (fun E h' => E = xIO ∧ h' = h) := by
  refine gC_of (by decide) rfl (Nat.le_of_ble_eq_true rfl) [some (.ref m), some (.int y)] rfl ?_
  refine g_blk [(.iload_n 1, .null)] (Nat.le_of_ble_eq_true rfl) (by decide +kernel) ?_
  refine gx_iload_n_1 ((gx_nil ?_))
  exact g_callS (rc' := 0) (rs' := 0) kX9_252 (mo_requireRoute_no hp hy) (by decide +kernel) rfl rfl (Nat.le_of_ble_eq_true rfl) (Nat.le_of_ble_eq_true rfl) (Nat.le_of_ble_eq_true rfl) (Nat.le_refl _) (Nat.le_refl _) rfl (fun _ _ z => z) (fun _ _ z => z.elim)
theorem mo_routeWeight {o c t la ta ca da ba pa ep : Nat} {fl fq ls ps : List Nat} {N : Nat → Int32} (hm : gMc h m o sv hl tt bu bl sb e8 f8) (H : gOx Γ de h o N c t la ta ca da ba pa ep fl fq ls ps) (hc : c ≤ 20)  {y : Int32} (hy : nI 0 ≤ y ∧ y ≤ nI 5) : pC Γ M_X9_routeWeight [.ref m, .int y] h 4 (some (.int (rWt N y (-1) c))) := by
  have H0 := H
  obtain ⟨ho, HL, hlc, hls, hta, HP, hpc, hps, hep, ⟨fc, hca, hfc⟩, ⟨fd, hda, hfd⟩, ⟨fb, hba, hfb⟩⟩ := H0
  refine pC_of (by decide) rfl (Nat.le_of_ble_eq_true rfl) [some (.ref m), some (.int y)] rfl ?_
  refine g_blk [(.iload_n 1, .null)] (Nat.le_of_ble_eq_true rfl) (by decide +kernel) ?_
  refine gx_iload_n_1 ((gx_nil ?_))
  refine g_pS kX9_252 (mo_requireRoute hy) (by decide +kernel) rfl rfl (Nat.le_of_ble_eq_true rfl) (Nat.le_of_ble_eq_true rfl) (Nat.le_of_ble_eq_true rfl) rfl ?_
  simp only [Option.toList_some, Option.toList_none, List.cons_append, List.nil_append]
  refine g_blk [(.aload_n 0, .null)] (Nat.le_of_ble_eq_true rfl) (by decide +kernel) ?_
  refine gx_aload_n_0 ((gx_nil ?_))
  refine g_getf fX9_10 (by decide +kernel) hm rfl ?_
  refine g_blk [(.iload_n 1, .null)] (Nat.le_of_ble_eq_true rfl) (by decide +kernel) ?_
  refine gx_iload_n_1 ((gx_nil ?_))
  refine g_pV kX9_282 (of_weightByLetters H hc _) (by decide +kernel) rfl rfl ho rfl (Nat.le_of_ble_eq_true rfl) (Nat.le_of_ble_eq_true rfl) (Nat.le_of_ble_eq_true rfl) rfl ?_
  simp only [Option.toList_some, Option.toList_none, List.cons_append, List.nil_append]
  refine g_end (some (.int _)) rfl ⟨by decide +kernel, _, rfl, rfl⟩ ⟨?_, rfl⟩
  rfl
theorem mo_routeWeight_no {o : Nat} (hp : gPxs Γ) (hm : gMc h m o sv hl tt bu bl sb e8 f8) {y : Int32} (hy : ¬ (nI 0 ≤ y ∧ y ≤ nI 5)) : gC Γ M_X9_routeWeight [.ref m, .int y] h 7 1 6 (fun _ _ => False) (fun E h' => E = xIO ∧ h' = h) := by
  refine gC_of (by decide) rfl (Nat.le_of_ble_eq_true rfl) [some (.ref m), some (.int y)] rfl ?_
  refine g_blk [(.iload_n 1, .null)] (Nat.le_of_ble_eq_true rfl) (by decide +kernel) ?_
  refine gx_iload_n_1 ((gx_nil ?_))
  exact g_callS (rc' := 0) (rs' := 0) kX9_252 (mo_requireRoute_no hp hy) (by decide +kernel) rfl rfl (Nat.le_of_ble_eq_true rfl) (Nat.le_of_ble_eq_true rfl) (Nat.le_of_ble_eq_true rfl) (Nat.le_refl _) (Nat.le_refl _) rfl (fun _ _ z => z) (fun _ _ z => z.elim)
theorem mo_routeWeightByBags {o c t la ta ca da ba pa ep : Nat} {fl fq ls ps : List Nat} {N : Nat → Int32} (hm : gMc h m o sv hl tt bu bl sb e8 f8) (H : gOx Γ de h o N c t la ta ca da ba pa ep fl fq ls ps) (hc : c ≤ 20) {b9 : Nat} (hB : b9 ≤ 3) {y : Int32} (hy : nI 0 ≤ y ∧ y ≤ nI 5) (hC : gCb N y = nI b9) : pC Γ M_X9_routeWeightByBags [.ref m, .int y] h 5 (some (.int (gWb N y c b9))) := by
  have H0 := H
  obtain ⟨ho, HL, hlc, hls, hta, HP, hpc, hps, hep, ⟨fc, hca, hfc⟩, ⟨fd, hda, hfd⟩, ⟨fb, hba, hfb⟩⟩ := H0
  refine pC_of (by decide) rfl (Nat.le_of_ble_eq_true rfl) [some (.ref m), some (.int y)] rfl ?_
  refine g_blk [(.iload_n 1, .null)] (Nat.le_of_ble_eq_true rfl) (by decide +kernel) ?_
  refine gx_iload_n_1 ((gx_nil ?_))
  refine g_pS kX9_252 (mo_requireRoute hy) (by decide +kernel) rfl rfl (Nat.le_of_ble_eq_true rfl) (Nat.le_of_ble_eq_true rfl) (Nat.le_of_ble_eq_true rfl) rfl ?_
  simp only [Option.toList_some, Option.toList_none, List.cons_append, List.nil_append]
  refine g_blk [(.aload_n 0, .null)] (Nat.le_of_ble_eq_true rfl) (by decide +kernel) ?_
  refine gx_aload_n_0 ((gx_nil ?_))
  refine g_getf fX9_10 (by decide +kernel) hm rfl ?_
  refine g_blk [(.iload_n 1, .null)] (Nat.le_of_ble_eq_true rfl) (by decide +kernel) ?_
  refine gx_iload_n_1 ((gx_nil ?_))
  refine g_pV kX9_285 (of_weightByBags H hc hB (y_ne hy) hC) (by decide +kernel) rfl rfl ho rfl (Nat.le_of_ble_eq_true rfl) (Nat.le_of_ble_eq_true rfl) (Nat.le_of_ble_eq_true rfl) rfl ?_
  simp only [Option.toList_some, Option.toList_none, List.cons_append, List.nil_append]
  refine g_end (some (.int _)) rfl ⟨by decide +kernel, _, rfl, rfl⟩ ⟨?_, rfl⟩
  rfl
theorem mo_routeWeightByBags_no {o : Nat} (hp : gPxs Γ) (hm : gMc h m o sv hl tt bu bl sb e8 f8) {y : Int32} (hy : ¬ (nI 0 ≤ y ∧ y ≤ nI 5)) : gC Γ M_X9_routeWeightByBags [.ref m, .int y] h 7 1 6 (fun _ _ => False) (fun E h' => E = xIO ∧ h' = h) := by
  refine gC_of (by decide) rfl (Nat.le_of_ble_eq_true rfl) [some (.ref m), some (.int y)] rfl ?_
  refine g_blk [(.iload_n 1, .null)] (Nat.le_of_ble_eq_true rfl) (by decide +kernel) ?_
  refine gx_iload_n_1 ((gx_nil ?_))
  exact g_callS (rc' := 0) (rs' := 0) kX9_252 (mo_requireRoute_no hp hy) (by decide +kernel) rfl rfl (Nat.le_of_ble_eq_true rfl) (Nat.le_of_ble_eq_true rfl) (Nat.le_of_ble_eq_true rfl) (Nat.le_refl _) (Nat.le_refl _) rfl (fun _ _ z => z) (fun _ _ z => z.elim)
theorem mo_freeWeight {o c t la ta ca da ba pa ep : Nat} {fl fq ls ps : List Nat} {N : Nat → Int32} (hm : gMc h m o sv hl tt bu bl sb e8 f8) (H : gOx Γ de h o N c t la ta ca da ba pa ep fl fq ls ps) (hc : c ≤ 20)  {y : Int32} (hy : nI 0 ≤ y ∧ y ≤ nI 5) : pC Γ M_X9_freeWeight [.ref m, .int y] h 4 (some (.int (nI 450 - rWt N y (-1) c))) := by
  have H0 := H
  obtain ⟨ho, HL, hlc, hls, hta, HP, hpc, hps, hep, ⟨fc, hca, hfc⟩, ⟨fd, hda, hfd⟩, ⟨fb, hba, hfb⟩⟩ := H0
  refine pC_of (by decide) rfl (Nat.le_of_ble_eq_true rfl) [some (.ref m), some (.int y)] rfl ?_
  refine g_blk [(.iload_n 1, .null)] (Nat.le_of_ble_eq_true rfl) (by decide +kernel) ?_
  refine gx_iload_n_1 ((gx_nil ?_))
  refine g_pS kX9_252 (mo_requireRoute hy) (by decide +kernel) rfl rfl (Nat.le_of_ble_eq_true rfl) (Nat.le_of_ble_eq_true rfl) (Nat.le_of_ble_eq_true rfl) rfl ?_
  simp only [Option.toList_some, Option.toList_none, List.cons_append, List.nil_append]
  refine g_blk [(.sipush 450, .int (nI 450)), (.aload_n 0, .null)] (Nat.le_of_ble_eq_true rfl) (by decide +kernel) ?_
  refine gx_sipush (gx_aload_n_0 ((gx_nil ?_)))
  refine g_getf fX9_10 (by decide +kernel) hm rfl ?_
  refine g_blk [(.iload_n 1, .null)] (Nat.le_of_ble_eq_true rfl) (by decide +kernel) ?_
  refine gx_iload_n_1 ((gx_nil ?_))
  refine g_pV kX9_282 (of_weightByLetters H hc _) (by decide +kernel) rfl rfl ho rfl (Nat.le_of_ble_eq_true rfl) (Nat.le_of_ble_eq_true rfl) (Nat.le_of_ble_eq_true rfl) rfl ?_
  simp only [Option.toList_some, Option.toList_none, List.cons_append, List.nil_append]
  refine g_blk [(.isub, .null)] (Nat.le_of_ble_eq_true rfl) (by decide +kernel) ?_
  refine gx_isub ((gx_nil ?_))
  refine g_end (some (.int _)) rfl ⟨by decide +kernel, _, rfl, rfl⟩ ⟨?_, rfl⟩
  rfl
theorem mo_freeWeight_no {o : Nat} (hp : gPxs Γ) (hm : gMc h m o sv hl tt bu bl sb e8 f8) {y : Int32} (hy : ¬ (nI 0 ≤ y ∧ y ≤ nI 5)) : gC Γ M_X9_freeWeight [.ref m, .int y] h 7 1 6 (fun _ _ => False) (fun E h' => E = xIO ∧ h' = h) := by
  refine gC_of (by decide) rfl (Nat.le_of_ble_eq_true rfl) [some (.ref m), some (.int y)] rfl ?_
  refine g_blk [(.iload_n 1, .null)] (Nat.le_of_ble_eq_true rfl) (by decide +kernel) ?_
  refine gx_iload_n_1 ((gx_nil ?_))
  exact g_callS (rc' := 0) (rs' := 0) kX9_252 (mo_requireRoute_no hp hy) (by decide +kernel) rfl rfl (Nat.le_of_ble_eq_true rfl) (Nat.le_of_ble_eq_true rfl) (Nat.le_of_ble_eq_true rfl) (Nat.le_refl _) (Nat.le_refl _) rfl (fun _ _ z => z) (fun _ _ z => z.elim)
theorem r_in {r : Nat} (h : r < 6) : nI 0 ≤ nI r ∧ nI r ≤ nI 5 := ⟨nI_le (Nat.zero_le _) (by omega), nI_le (by omega) (by omega)⟩
theorem mo_hoursToDeparture {o c t la ta ca da ba pa ep : Nat} {fl fq ls ps : List Nat} {N : Nat → Int32} (hm : gMc h m o sv hl tt bu bl sb e8 f8) (H : gOx Γ de h o N c t la ta ca da ba pa ep fl fq ls ps) {r : Nat} (hr : r < 6) : pC Γ M_X9_hoursToDeparture [.ref m, .int (nI r)] h 3 (some (.int (gHu N r))) := by
  have H0 := H
  obtain ⟨ho, HL, hlc, hls, hta, HP, hpc, hps, hep, ⟨fc, hca, hfc⟩, ⟨fd, hda, hfd⟩, ⟨fb, hba, hfb⟩⟩ := H0
  refine pC_of (by decide) rfl (Nat.le_of_ble_eq_true rfl) [some (.ref m), some (.int (nI r))] rfl ?_
  refine g_blk [(.iload_n 1, .null)] (Nat.le_of_ble_eq_true rfl) (by decide +kernel) ?_
  refine gx_iload_n_1 ((gx_nil ?_))
  refine g_pS kX9_252 (mo_requireRoute (r_in hr)) (by decide +kernel) rfl rfl (Nat.le_of_ble_eq_true rfl) (Nat.le_of_ble_eq_true rfl) (Nat.le_of_ble_eq_true rfl) rfl ?_
  simp only [Option.toList_some, Option.toList_none, List.cons_append, List.nil_append]
  refine g_blk [(.aload_n 0, .null)] (Nat.le_of_ble_eq_true rfl) (by decide +kernel) ?_
  refine gx_aload_n_0 ((gx_nil ?_))
  refine g_getf fX9_10 (by decide +kernel) hm rfl ?_
  refine g_blk [(.iload_n 1, .null)] (Nat.le_of_ble_eq_true rfl) (by decide +kernel) ?_
  refine gx_iload_n_1 ((gx_nil ?_))
  refine g_pV kX9_295 (of_hours H hr) (by decide +kernel) rfl rfl ho rfl (Nat.le_of_ble_eq_true rfl) (Nat.le_of_ble_eq_true rfl) (Nat.le_of_ble_eq_true rfl) rfl ?_
  simp only [Option.toList_some, Option.toList_none, List.cons_append, List.nil_append]
  refine g_end (some (.int _)) rfl ⟨by decide +kernel, _, rfl, rfl⟩ ⟨?_, rfl⟩
  rfl
theorem mo_hoursToDeparture_no {o : Nat} (hp : gPxs Γ) (hm : gMc h m o sv hl tt bu bl sb e8 f8) {y : Int32} (hy : ¬ (nI 0 ≤ y ∧ y ≤ nI 5)) : gC Γ M_X9_hoursToDeparture [.ref m, .int y] h 7 1 6 (fun _ _ => False) (fun E h' => E = xIO ∧ h' = h) := by
  refine gC_of (by decide) rfl (Nat.le_of_ble_eq_true rfl) [some (.ref m), some (.int y)] rfl ?_
  refine g_blk [(.iload_n 1, .null)] (Nat.le_of_ble_eq_true rfl) (by decide +kernel) ?_
  refine gx_iload_n_1 ((gx_nil ?_))
  exact g_callS (rc' := 0) (rs' := 0) kX9_252 (mo_requireRoute_no hp hy) (by decide +kernel) rfl rfl (Nat.le_of_ble_eq_true rfl) (Nat.le_of_ble_eq_true rfl) (Nat.le_of_ble_eq_true rfl) (Nat.le_refl _) (Nat.le_refl _) rfl (fun _ _ z => z) (fun _ _ z => z.elim)
theorem mo_cutoff {o c t la ta ca da ba pa ep : Nat} {fl fq ls ps : List Nat} {N : Nat → Int32} (hm : gMc h m o sv hl tt bu bl sb e8 f8) (H : gOx Γ de h o N c t la ta ca da ba pa ep fl fq ls ps) {r : Nat} (hr : r < 6) : pC Γ M_X9_cutoff [.ref m, .int (nI r)] h 1 (some (.int (N (8 + 3 * r)))) := by
  have H0 := H
  obtain ⟨ho, HL, hlc, hls, hta, HP, hpc, hps, hep, ⟨fc, hca, hfc⟩, ⟨fd, hda, hfd⟩, ⟨fb, hba, hfb⟩⟩ := H0
  refine pC_of (by decide) rfl (Nat.le_of_ble_eq_true rfl) [some (.ref m), some (.int (nI r))] rfl ?_
  refine g_blk [(.iload_n 1, .null)] (Nat.le_of_ble_eq_true rfl) (by decide +kernel) ?_
  refine gx_iload_n_1 ((gx_nil ?_))
  refine g_pS kX9_264 (pc_isRoute _) (by decide +kernel) rfl rfl (Nat.le_of_ble_eq_true rfl) (Nat.le_of_ble_eq_true rfl) (Nat.le_of_ble_eq_true rfl) rfl ?_
  simp only [Option.toList_some, Option.toList_none, List.cons_append, List.nil_append]
  rw [bI_t (r_in hr)]
  refine g_if_ne (off := 13) (tgt := 17) (by decide +kernel) (by decide) (fun c4 => ?_) (fun c4 => ?_)
  · try simp only [bI_0, Decidable.not_not] at c4
    refine g_blk [(.aload_n 0, .null)] (Nat.le_of_ble_eq_true rfl) (by decide +kernel) ?_
    refine gx_aload_n_0 ((gx_nil ?_))
    refine g_getf fX9_10 (by decide +kernel) hm rfl ?_
    refine g_getf fX9_288 (by decide +kernel) ho rfl ?_
    refine g_blk [(.iload_n 1, .null)] (Nat.le_of_ble_eq_true rfl) (by decide +kernel) ?_
    refine gx_iload_n_1 ((gx_nil ?_))
    refine g_iaload (by decide +kernel) hca (vp_in_nI (by omega) (by omega)) ?_
    rw [nI_clamp (by omega), hfc r hr]
    refine g_end (some (.int _)) rfl ⟨by decide +kernel, _, rfl, rfl⟩ ⟨?_, rfl⟩
    rfl
  · try simp only [bI_0, Decidable.not_not] at c4
    exact absurd c4 (by decide)
theorem mo_cutoff_no {o : Nat} (hp : gPxs Γ) (hm : gMc h m o sv hl tt bu bl sb e8 f8) {y : Int32} (hy : ¬ (nI 0 ≤ y ∧ y ≤ nI 5)) : gC Γ M_X9_cutoff [.ref m, .int y] h 6 1 6 (fun _ _ => False) (fun E h' => E = xIO ∧ h' = h) := by
  refine gC_of (by decide) rfl (Nat.le_of_ble_eq_true rfl) [some (.ref m), some (.int y)] rfl ?_
  refine g_blk [(.iload_n 1, .null)] (Nat.le_of_ble_eq_true rfl) (by decide +kernel) ?_
  refine gx_iload_n_1 ((gx_nil ?_))
  refine g_pS kX9_264 (pc_isRoute _) (by decide +kernel) rfl rfl (Nat.le_of_ble_eq_true rfl) (Nat.le_of_ble_eq_true rfl) (Nat.le_of_ble_eq_true rfl) rfl ?_
  simp only [Option.toList_some, Option.toList_none, List.cons_append, List.nil_append]
  rw [bI_f hy]
  refine g_if_ne (off := 13) (tgt := 17) (by decide +kernel) (by decide) (fun c4 => ?_) (fun c4 => ?_)
  · try simp only [bI_0, Decidable.not_not] at c4
    exact absurd (by decide) c4
  · try simp only [bI_0, Decidable.not_not] at c4
    obtain ⟨sa, hsa⟩ := hp.at (k := 120) (tx := "there is no such route") (by decide)
    exact g_throw thr_io hp.1 hsa (by decide +kernel) (by decide +kernel) (by decide +kernel) (by decide +kernel) (by decide +kernel) rfl (by decide) (Nat.le_of_ble_eq_true rfl) (by omega) (by omega) ⟨rfl, rfl⟩
theorem mo_departure {o c t la ta ca da ba pa ep : Nat} {fl fq ls ps : List Nat} {N : Nat → Int32} (hm : gMc h m o sv hl tt bu bl sb e8 f8) (H : gOx Γ de h o N c t la ta ca da ba pa ep fl fq ls ps) {r : Nat} (hr : r < 6) : pC Γ M_X9_departure [.ref m, .int (nI r)] h 1 (some (.int (N (8 + 3 * r + 1)))) := by
  have H0 := H
  obtain ⟨ho, HL, hlc, hls, hta, HP, hpc, hps, hep, ⟨fc, hca, hfc⟩, ⟨fd, hda, hfd⟩, ⟨fb, hba, hfb⟩⟩ := H0
  refine pC_of (by decide) rfl (Nat.le_of_ble_eq_true rfl) [some (.ref m), some (.int (nI r))] rfl ?_
  refine g_blk [(.iload_n 1, .null)] (Nat.le_of_ble_eq_true rfl) (by decide +kernel) ?_
  refine gx_iload_n_1 ((gx_nil ?_))
  refine g_pS kX9_264 (pc_isRoute _) (by decide +kernel) rfl rfl (Nat.le_of_ble_eq_true rfl) (Nat.le_of_ble_eq_true rfl) (Nat.le_of_ble_eq_true rfl) rfl ?_
  simp only [Option.toList_some, Option.toList_none, List.cons_append, List.nil_append]
  rw [bI_t (r_in hr)]
  refine g_if_ne (off := 13) (tgt := 17) (by decide +kernel) (by decide) (fun c4 => ?_) (fun c4 => ?_)
  · try simp only [bI_0, Decidable.not_not] at c4
    refine g_blk [(.aload_n 0, .null)] (Nat.le_of_ble_eq_true rfl) (by decide +kernel) ?_
    refine gx_aload_n_0 ((gx_nil ?_))
    refine g_getf fX9_10 (by decide +kernel) hm rfl ?_
    refine g_getf fX9_292 (by decide +kernel) ho rfl ?_
    refine g_blk [(.iload_n 1, .null)] (Nat.le_of_ble_eq_true rfl) (by decide +kernel) ?_
    refine gx_iload_n_1 ((gx_nil ?_))
    refine g_iaload (by decide +kernel) hda (vp_in_nI (by omega) (by omega)) ?_
    rw [nI_clamp (by omega), hfd r hr]
    refine g_end (some (.int _)) rfl ⟨by decide +kernel, _, rfl, rfl⟩ ⟨?_, rfl⟩
    rfl
  · try simp only [bI_0, Decidable.not_not] at c4
    exact absurd c4 (by decide)
theorem mo_departure_no {o : Nat} (hp : gPxs Γ) (hm : gMc h m o sv hl tt bu bl sb e8 f8) {y : Int32} (hy : ¬ (nI 0 ≤ y ∧ y ≤ nI 5)) : gC Γ M_X9_departure [.ref m, .int y] h 6 1 6 (fun _ _ => False) (fun E h' => E = xIO ∧ h' = h) := by
  refine gC_of (by decide) rfl (Nat.le_of_ble_eq_true rfl) [some (.ref m), some (.int y)] rfl ?_
  refine g_blk [(.iload_n 1, .null)] (Nat.le_of_ble_eq_true rfl) (by decide +kernel) ?_
  refine gx_iload_n_1 ((gx_nil ?_))
  refine g_pS kX9_264 (pc_isRoute _) (by decide +kernel) rfl rfl (Nat.le_of_ble_eq_true rfl) (Nat.le_of_ble_eq_true rfl) (Nat.le_of_ble_eq_true rfl) rfl ?_
  simp only [Option.toList_some, Option.toList_none, List.cons_append, List.nil_append]
  rw [bI_f hy]
  refine g_if_ne (off := 13) (tgt := 17) (by decide +kernel) (by decide) (fun c4 => ?_) (fun c4 => ?_)
  · try simp only [bI_0, Decidable.not_not] at c4
    exact absurd (by decide) c4
  · try simp only [bI_0, Decidable.not_not] at c4
    obtain ⟨sa, hsa⟩ := hp.at (k := 120) (tx := "there is no such route") (by decide)
    exact g_throw thr_io hp.1 hsa (by decide +kernel) (by decide +kernel) (by decide +kernel) (by decide +kernel) (by decide +kernel) rfl (by decide) (Nat.le_of_ble_eq_true rfl) (by omega) (by omega) ⟨rfl, rfl⟩
theorem mo_requireBag {o c t la ta ca da ba pa ep : Nat} {fl fq ls ps : List Nat} {N : Nat → Int32} (hm : gMc h m o sv hl tt bu bl sb e8 f8) (H : gOx Γ de h o N c t la ta ca da ba pa ep fl fq ls ps) {y : Int32} (hy : nI 0 ≤ y ∧ y ≤ nI 5) {b9 : Nat} (hC : gCb N y = nI b9) (hB : b9 ≤ 3) {b : Nat} (hb : b < b9) : pC Γ M_X9_requireBag [.ref m, .int y, .int (nI b)] h 3 (none) := by
  have H0 := H
  obtain ⟨ho, HL, hlc, hls, hta, HP, hpc, hps, hep, ⟨fc, hca, hfc⟩, ⟨fd, hda, hfd⟩, ⟨fb, hba, hfb⟩⟩ := H0
  refine pC_of (by decide) rfl (Nat.le_of_ble_eq_true rfl) [some (.ref m), some (.int y), some (.int (nI b))] rfl ?_
  refine g_blk [(.iload_n 1, .null)] (Nat.le_of_ble_eq_true rfl) (by decide +kernel) ?_
  refine gx_iload_n_1 ((gx_nil ?_))
  refine g_pS kX9_252 (mo_requireRoute hy) (by decide +kernel) rfl rfl (Nat.le_of_ble_eq_true rfl) (Nat.le_of_ble_eq_true rfl) (Nat.le_of_ble_eq_true rfl) rfl ?_
  simp only [Option.toList_some, Option.toList_none, List.cons_append, List.nil_append]
  refine g_blk [(.iload_n 2, .null)] (Nat.le_of_ble_eq_true rfl) (by decide +kernel) ?_
  refine gx_iload_n_2 ((gx_nil ?_))
  refine g_if_lt (off := 15) (tgt := 20) (by decide +kernel) (by decide) (fun c5 => ?_) (fun c5 => ?_)
  · try simp only [bI_0, Decidable.not_not] at c5
    exact absurd c5 (nI_nn (by omega))
  · try simp only [bI_0, Decidable.not_not] at c5
    refine g_blk [(.iload_n 2, .null), (.aload_n 0, .null)] (Nat.le_of_ble_eq_true rfl) (by decide +kernel) ?_
    refine gx_iload_n_2 (gx_aload_n_0 ((gx_nil ?_)))
    refine g_getf fX9_10 (by decide +kernel) hm rfl ?_
    refine g_blk [(.iload_n 1, .null)] (Nat.le_of_ble_eq_true rfl) (by decide +kernel) ?_
    refine gx_iload_n_1 ((gx_nil ?_))
    refine g_pV kX9_269 (of_countBags H _) (by decide +kernel) rfl rfl ho rfl (Nat.le_of_ble_eq_true rfl) (Nat.le_of_ble_eq_true rfl) (Nat.le_of_ble_eq_true rfl) rfl ?_
    simp only [Option.toList_some, Option.toList_none, List.cons_append, List.nil_append]
    rw [hC]
    refine g_icmp_lt (off := 14) (tgt := 31) (by decide +kernel) (by decide) (fun c17 => ?_) (fun c17 => ?_)
    · try simp only [bI_0, Decidable.not_not] at c17
      refine g_end none rfl ⟨by decide +kernel, rfl⟩ ⟨?_, rfl⟩
      rfl
    · try simp only [bI_0, Decidable.not_not] at c17
      exact absurd (Int32.not_lt.mp c17) (fun z => by have := (nI_leI (by omega) (by omega)).mp z; omega)
theorem mo_requireBag_no {o : Nat} (hp : gPxs Γ) (hm : gMc h m o sv hl tt bu bl sb e8 f8) {y : Int32} (hy : ¬ (nI 0 ≤ y ∧ y ≤ nI 5)) (x : Int32) : gC Γ M_X9_requireBag [.ref m, .int y, .int x] h 7 1 6 (fun _ _ => False) (fun E h' => E = xIO ∧ h' = h) := by
  refine gC_of (by decide) rfl (Nat.le_of_ble_eq_true rfl) [some (.ref m), some (.int y), some (.int x)] rfl ?_
  refine g_blk [(.iload_n 1, .null)] (Nat.le_of_ble_eq_true rfl) (by decide +kernel) ?_
  refine gx_iload_n_1 ((gx_nil ?_))
  exact g_callS (rc' := 0) (rs' := 0) kX9_252 (mo_requireRoute_no hp hy) (by decide +kernel) rfl rfl (Nat.le_of_ble_eq_true rfl) (Nat.le_of_ble_eq_true rfl) (Nat.le_of_ble_eq_true rfl) (Nat.le_refl _) (Nat.le_refl _) rfl (fun _ _ z => z) (fun _ _ z => z.elim)
theorem mo_requireBag_none {o c t la ta ca da ba pa ep : Nat} {fl fq ls ps : List Nat} {N : Nat → Int32} (hp : gPxs Γ) (hm : gMc h m o sv hl tt bu bl sb e8 f8) (H : gOx Γ de h o N c t la ta ca da ba pa ep fl fq ls ps) {y : Int32} (hy : nI 0 ≤ y ∧ y ≤ nI 5) {b9 : Nat} (hC : gCb N y = nI b9) (hB : b9 ≤ 3) {x : Int32} (hx : ¬ (nI 0 ≤ x ∧ x ≤ nI b9 - nI 1)) : gC Γ M_X9_requireBag [.ref m, .int y, .int x] h 6 1 6 (fun _ _ => False) (fun E h' => E = xNS ∧ h' = h) := by
  have H0 := H
  obtain ⟨ho, HL, hlc, hls, hta, HP, hpc, hps, hep, ⟨fc, hca, hfc⟩, ⟨fd, hda, hfd⟩, ⟨fb, hba, hfb⟩⟩ := H0
  refine gC_of (by decide) rfl (Nat.le_of_ble_eq_true rfl) [some (.ref m), some (.int y), some (.int x)] rfl ?_
  refine g_blk [(.iload_n 1, .null)] (Nat.le_of_ble_eq_true rfl) (by decide +kernel) ?_
  refine gx_iload_n_1 ((gx_nil ?_))
  refine g_pS kX9_252 (mo_requireRoute hy) (by decide +kernel) rfl rfl (Nat.le_of_ble_eq_true rfl) (Nat.le_of_ble_eq_true rfl) (Nat.le_of_ble_eq_true rfl) rfl ?_
  simp only [Option.toList_some, Option.toList_none, List.cons_append, List.nil_append]
  refine g_blk [(.iload_n 2, .null)] (Nat.le_of_ble_eq_true rfl) (by decide +kernel) ?_
  refine gx_iload_n_2 ((gx_nil ?_))
  refine g_if_lt (off := 15) (tgt := 20) (by decide +kernel) (by decide) (fun c5 => ?_) (fun c5 => ?_)
  · try simp only [bI_0, Decidable.not_not] at c5
    obtain ⟨sa, hsa⟩ := hp.at (k := 311) (tx := "the route has no such bag") (by decide)
    exact g_throwXW thr_ns hp.1 hsa (by decide +kernel) (by decide +kernel) (by decide +kernel) (by decide +kernel) (by decide +kernel) rfl (by decide) (Nat.le_of_ble_eq_true rfl) (by omega) (by omega) ⟨rfl, rfl⟩
  · try simp only [bI_0, Decidable.not_not] at c5
    refine g_blk [(.iload_n 2, .null), (.aload_n 0, .null)] (Nat.le_of_ble_eq_true rfl) (by decide +kernel) ?_
    refine gx_iload_n_2 (gx_aload_n_0 ((gx_nil ?_)))
    refine g_getf fX9_10 (by decide +kernel) hm rfl ?_
    refine g_blk [(.iload_n 1, .null)] (Nat.le_of_ble_eq_true rfl) (by decide +kernel) ?_
    refine gx_iload_n_1 ((gx_nil ?_))
    refine g_pV kX9_269 (of_countBags H _) (by decide +kernel) rfl rfl ho rfl (Nat.le_of_ble_eq_true rfl) (Nat.le_of_ble_eq_true rfl) (Nat.le_of_ble_eq_true rfl) rfl ?_
    simp only [Option.toList_some, Option.toList_none, List.cons_append, List.nil_append]
    rw [hC]
    refine g_icmp_lt (off := 14) (tgt := 31) (by decide +kernel) (by decide) (fun c17 => ?_) (fun c17 => ?_)
    · try simp only [bI_0, Decidable.not_not] at c17
      exact absurd (rg_of c5 (Int32.not_le.mpr c17) (by omega)) hx
    · try simp only [bI_0, Decidable.not_not] at c17
      obtain ⟨sa, hsa⟩ := hp.at (k := 311) (tx := "the route has no such bag") (by decide)
      exact g_throwXW thr_ns hp.1 hsa (by decide +kernel) (by decide +kernel) (by decide +kernel) (by decide +kernel) (by decide +kernel) rfl (by decide) (Nat.le_of_ble_eq_true rfl) (by omega) (by omega) ⟨rfl, rfl⟩
theorem b_ne {b : Nat} (h : b < 2147483648) : ¬ nI b = -1 := nI_nm1 h
theorem mo_bagWeight {o c t la ta ca da ba pa ep : Nat} {fl fq ls ps : List Nat} {N : Nat → Int32} (hm : gMc h m o sv hl tt bu bl sb e8 f8) (H : gOx Γ de h o N c t la ta ca da ba pa ep fl fq ls ps) (hc : c ≤ 20) {y : Int32} (hy : nI 0 ≤ y ∧ y ≤ nI 5) {b9 : Nat} (hC : gCb N y = nI b9) (hB : b9 ≤ 3) {b : Nat} (hb : b < b9) : pC Γ M_X9_bagWeight [.ref m, .int y, .int (nI b)] h 4 (some (.int (rWt N y (nI b) c))) := by
  have H0 := H
  obtain ⟨ho, HL, hlc, hls, hta, HP, hpc, hps, hep, ⟨fc, hca, hfc⟩, ⟨fd, hda, hfd⟩, ⟨fb, hba, hfb⟩⟩ := H0
  refine pC_of (by decide) rfl (Nat.le_of_ble_eq_true rfl) [some (.ref m), some (.int y), some (.int (nI b))] rfl ?_
  refine g_blk [(.aload_n 0, .null), (.iload_n 1, .null), (.iload_n 2, .null)] (Nat.le_of_ble_eq_true rfl) (by decide +kernel) ?_
  refine gx_aload_n_0 (gx_iload_n_1 (gx_iload_n_2 ((gx_nil ?_))))
  refine g_pV kX9_272 (mo_requireBag hm H hy hC hB hb) (by decide +kernel) rfl rfl hm rfl (Nat.le_of_ble_eq_true rfl) (Nat.le_of_ble_eq_true rfl) (Nat.le_of_ble_eq_true rfl) rfl ?_
  simp only [Option.toList_some, Option.toList_none, List.cons_append, List.nil_append]
  refine g_blk [(.aload_n 0, .null)] (Nat.le_of_ble_eq_true rfl) (by decide +kernel) ?_
  refine gx_aload_n_0 ((gx_nil ?_))
  refine g_getf fX9_10 (by decide +kernel) hm rfl ?_
  refine g_blk [(.iload_n 1, .null), (.iload_n 2, .null)] (Nat.le_of_ble_eq_true rfl) (by decide +kernel) ?_
  refine gx_iload_n_1 (gx_iload_n_2 ((gx_nil ?_)))
  refine g_pV kX9_276 (of_weightInBag H hc (y_ne hy) (b_ne (by omega))) (by decide +kernel) rfl rfl ho rfl (Nat.le_of_ble_eq_true rfl) (Nat.le_of_ble_eq_true rfl) (Nat.le_of_ble_eq_true rfl) rfl ?_
  simp only [Option.toList_some, Option.toList_none, List.cons_append, List.nil_append]
  refine g_end (some (.int _)) rfl ⟨by decide +kernel, _, rfl, rfl⟩ ⟨?_, rfl⟩
  rfl
theorem mo_bagWeight_no {o : Nat} (hp : gPxs Γ) (hm : gMc h m o sv hl tt bu bl sb e8 f8) {y : Int32} (hy : ¬ (nI 0 ≤ y ∧ y ≤ nI 5)) (x : Int32) : gC Γ M_X9_bagWeight [.ref m, .int y, .int x] h 8 1 6 (fun _ _ => False) (fun E h' => E = xIO ∧ h' = h) := by
  refine gC_of (by decide) rfl (Nat.le_of_ble_eq_true rfl) [some (.ref m), some (.int y), some (.int x)] rfl ?_
  refine g_blk [(.aload_n 0, .null), (.iload_n 1, .null), (.iload_n 2, .null)] (Nat.le_of_ble_eq_true rfl) (by decide +kernel) ?_
  refine gx_aload_n_0 (gx_iload_n_1 (gx_iload_n_2 ((gx_nil ?_))))
  exact g_callV (rc' := 0) (rs' := 0) kX9_272 (mo_requireBag_no hp hm hy x) (by decide +kernel) rfl rfl hm rfl (Nat.le_of_ble_eq_true rfl) (Nat.le_of_ble_eq_true rfl) (Nat.le_of_ble_eq_true rfl) (Nat.le_refl _) (Nat.le_refl _) rfl (fun _ _ z => z) (fun _ _ z => z.elim)
theorem mo_bagWeight_none {o c t la ta ca da ba pa ep : Nat} {fl fq ls ps : List Nat} {N : Nat → Int32} (hp : gPxs Γ) (hm : gMc h m o sv hl tt bu bl sb e8 f8) (H : gOx Γ de h o N c t la ta ca da ba pa ep fl fq ls ps) {y : Int32} (hy : nI 0 ≤ y ∧ y ≤ nI 5) {b9 : Nat} (hC : gCb N y = nI b9) (hB : b9 ≤ 3) {x : Int32} (hx : ¬ (nI 0 ≤ x ∧ x ≤ nI b9 - nI 1)) : gC Γ M_X9_bagWeight [.ref m, .int y, .int x] h 7 1 6 (fun _ _ => False) (fun E h' => E = xNS ∧ h' = h) := by
  refine gC_of (by decide) rfl (Nat.le_of_ble_eq_true rfl) [some (.ref m), some (.int y), some (.int x)] rfl ?_
  refine g_blk [(.aload_n 0, .null), (.iload_n 1, .null), (.iload_n 2, .null)] (Nat.le_of_ble_eq_true rfl) (by decide +kernel) ?_
  refine gx_aload_n_0 (gx_iload_n_1 (gx_iload_n_2 ((gx_nil ?_))))
  exact g_callV (rc' := 0) (rs' := 0) kX9_272 (mo_requireBag_none hp hm H hy hC hB hx) (by decide +kernel) rfl rfl hm rfl (Nat.le_of_ble_eq_true rfl) (Nat.le_of_ble_eq_true rfl) (Nat.le_of_ble_eq_true rfl) (Nat.le_refl _) (Nat.le_refl _) rfl (fun _ _ z => z) (fun _ _ z => z.elim)
theorem mo_lettersInBag {o c t la ta ca da ba pa ep : Nat} {fl fq ls ps : List Nat} {N : Nat → Int32} (hm : gMc h m o sv hl tt bu bl sb e8 f8) (H : gOx Γ de h o N c t la ta ca da ba pa ep fl fq ls ps) (hc : c ≤ 20) {y : Int32} (hy : nI 0 ≤ y ∧ y ≤ nI 5) {b9 : Nat} (hC : gCb N y = nI b9) (hB : b9 ≤ 3) {b : Nat} (hb : b < b9) : pC Γ M_X9_lettersInBag [.ref m, .int y, .int (nI b)] h 4 (some (.int (rLn N y (nI b) c))) := by
  have H0 := H
  obtain ⟨ho, HL, hlc, hls, hta, HP, hpc, hps, hep, ⟨fc, hca, hfc⟩, ⟨fd, hda, hfd⟩, ⟨fb, hba, hfb⟩⟩ := H0
  refine pC_of (by decide) rfl (Nat.le_of_ble_eq_true rfl) [some (.ref m), some (.int y), some (.int (nI b))] rfl ?_
  refine g_blk [(.aload_n 0, .null), (.iload_n 1, .null), (.iload_n 2, .null)] (Nat.le_of_ble_eq_true rfl) (by decide +kernel) ?_
  refine gx_aload_n_0 (gx_iload_n_1 (gx_iload_n_2 ((gx_nil ?_))))
  refine g_pV kX9_272 (mo_requireBag hm H hy hC hB hb) (by decide +kernel) rfl rfl hm rfl (Nat.le_of_ble_eq_true rfl) (Nat.le_of_ble_eq_true rfl) (Nat.le_of_ble_eq_true rfl) rfl ?_
  simp only [Option.toList_some, Option.toList_none, List.cons_append, List.nil_append]
  refine g_blk [(.aload_n 0, .null)] (Nat.le_of_ble_eq_true rfl) (by decide +kernel) ?_
  refine gx_aload_n_0 ((gx_nil ?_))
  refine g_getf fX9_10 (by decide +kernel) hm rfl ?_
  refine g_blk [(.iload_n 1, .null), (.iload_n 2, .null)] (Nat.le_of_ble_eq_true rfl) (by decide +kernel) ?_
  refine gx_iload_n_1 (gx_iload_n_2 ((gx_nil ?_)))
  refine g_pV kX9_279 (of_countInBag H hc (y_ne hy)) (by decide +kernel) rfl rfl ho rfl (Nat.le_of_ble_eq_true rfl) (Nat.le_of_ble_eq_true rfl) (Nat.le_of_ble_eq_true rfl) rfl ?_
  simp only [Option.toList_some, Option.toList_none, List.cons_append, List.nil_append]
  refine g_end (some (.int _)) rfl ⟨by decide +kernel, _, rfl, rfl⟩ ⟨?_, rfl⟩
  rfl
theorem mo_lettersInBag_no {o : Nat} (hp : gPxs Γ) (hm : gMc h m o sv hl tt bu bl sb e8 f8) {y : Int32} (hy : ¬ (nI 0 ≤ y ∧ y ≤ nI 5)) (x : Int32) : gC Γ M_X9_lettersInBag [.ref m, .int y, .int x] h 8 1 6 (fun _ _ => False) (fun E h' => E = xIO ∧ h' = h) := by
  refine gC_of (by decide) rfl (Nat.le_of_ble_eq_true rfl) [some (.ref m), some (.int y), some (.int x)] rfl ?_
  refine g_blk [(.aload_n 0, .null), (.iload_n 1, .null), (.iload_n 2, .null)] (Nat.le_of_ble_eq_true rfl) (by decide +kernel) ?_
  refine gx_aload_n_0 (gx_iload_n_1 (gx_iload_n_2 ((gx_nil ?_))))
  exact g_callV (rc' := 0) (rs' := 0) kX9_272 (mo_requireBag_no hp hm hy x) (by decide +kernel) rfl rfl hm rfl (Nat.le_of_ble_eq_true rfl) (Nat.le_of_ble_eq_true rfl) (Nat.le_of_ble_eq_true rfl) (Nat.le_refl _) (Nat.le_refl _) rfl (fun _ _ z => z) (fun _ _ z => z.elim)
theorem mo_lettersInBag_none {o c t la ta ca da ba pa ep : Nat} {fl fq ls ps : List Nat} {N : Nat → Int32} (hp : gPxs Γ) (hm : gMc h m o sv hl tt bu bl sb e8 f8) (H : gOx Γ de h o N c t la ta ca da ba pa ep fl fq ls ps) {y : Int32} (hy : nI 0 ≤ y ∧ y ≤ nI 5) {b9 : Nat} (hC : gCb N y = nI b9) (hB : b9 ≤ 3) {x : Int32} (hx : ¬ (nI 0 ≤ x ∧ x ≤ nI b9 - nI 1)) : gC Γ M_X9_lettersInBag [.ref m, .int y, .int x] h 7 1 6 (fun _ _ => False) (fun E h' => E = xNS ∧ h' = h) := by
  refine gC_of (by decide) rfl (Nat.le_of_ble_eq_true rfl) [some (.ref m), some (.int y), some (.int x)] rfl ?_
  refine g_blk [(.aload_n 0, .null), (.iload_n 1, .null), (.iload_n 2, .null)] (Nat.le_of_ble_eq_true rfl) (by decide +kernel) ?_
  refine gx_aload_n_0 (gx_iload_n_1 (gx_iload_n_2 ((gx_nil ?_))))
  exact g_callV (rc' := 0) (rs' := 0) kX9_272 (mo_requireBag_none hp hm H hy hC hB hx) (by decide +kernel) rfl rfl hm rfl (Nat.le_of_ble_eq_true rfl) (Nat.le_of_ble_eq_true rfl) (Nat.le_of_ble_eq_true rfl) (Nat.le_refl _) (Nat.le_refl _) rfl (fun _ _ z => z) (fun _ _ z => z.elim)
theorem mo_fullestBag {o c t la ta ca da ba pa ep : Nat} {fl fq ls ps : List Nat} {N : Nat → Int32} (hm : gMc h m o sv hl tt bu bl sb e8 f8) (H : gOx Γ de h o N c t la ta ca da ba pa ep fl fq ls ps) (hc : c ≤ 20) {b9 : Nat} (hB : b9 ≤ 3) {y : Int32} (hy : nI 0 ≤ y ∧ y ≤ nI 5) (hC : gCb N y = nI b9) (hx : ¬ (gHv N y c b9).1 = -1) : pC Γ M_X9_fullestBag [.ref m, .int y] h 5 (some (.int (gHv N y c b9).1)) := by
  have H0 := H
  obtain ⟨ho, HL, hlc, hls, hta, HP, hpc, hps, hep, ⟨fc, hca, hfc⟩, ⟨fd, hda, hfd⟩, ⟨fb, hba, hfb⟩⟩ := H0
  refine pC_of (by decide) rfl (Nat.le_of_ble_eq_true rfl) [some (.ref m), some (.int y), none] rfl ?_
  refine g_blk [(.iload_n 1, .null)] (Nat.le_of_ble_eq_true rfl) (by decide +kernel) ?_
  refine gx_iload_n_1 ((gx_nil ?_))
  refine g_pS kX9_252 (mo_requireRoute hy) (by decide +kernel) rfl rfl (Nat.le_of_ble_eq_true rfl) (Nat.le_of_ble_eq_true rfl) (Nat.le_of_ble_eq_true rfl) rfl ?_
  simp only [Option.toList_some, Option.toList_none, List.cons_append, List.nil_append]
  refine g_blk [(.aload_n 0, .null)] (Nat.le_of_ble_eq_true rfl) (by decide +kernel) ?_
  refine gx_aload_n_0 ((gx_nil ?_))
  refine g_getf fX9_10 (by decide +kernel) hm rfl ?_
  refine g_blk [(.iload_n 1, .null)] (Nat.le_of_ble_eq_true rfl) (by decide +kernel) ?_
  refine gx_iload_n_1 ((gx_nil ?_))
  refine g_pV kX9_301 (of_heaviestBag H hc hB (y_ne hy) hC) (by decide +kernel) rfl rfl ho rfl (Nat.le_of_ble_eq_true rfl) (Nat.le_of_ble_eq_true rfl) (Nat.le_of_ble_eq_true rfl) rfl ?_
  simp only [Option.toList_some, Option.toList_none, List.cons_append, List.nil_append]
  refine g_blk [(.istore_n 2, .null), (.iload_n 2, .null), (.iconst (-1), .int (-1))] (Nat.le_of_ble_eq_true rfl) (by decide +kernel) ?_
  refine gx_istore_n_2 rfl (gx_iload_n_2 (gx_iconst ((gx_nil ?_))))
  refine g_icmp_ne (off := 14) (tgt := 29) (by decide +kernel) (by decide) (fun c15 => ?_) (fun c15 => ?_)
  · try simp only [bI_0, Decidable.not_not] at c15
    refine g_blk [(.iload_n 2, .null)] (Nat.le_of_ble_eq_true rfl) (by decide +kernel) ?_
    refine gx_iload_n_2 ((gx_nil ?_))
    refine g_end (some (.int _)) rfl ⟨by decide +kernel, _, rfl, rfl⟩ ⟨?_, rfl⟩
    rfl
  · try simp only [bI_0, Decidable.not_not] at c15
    exact absurd c15 hx
theorem mo_fullestBag_no {o : Nat} (hp : gPxs Γ) (hm : gMc h m o sv hl tt bu bl sb e8 f8) {y : Int32} (hy : ¬ (nI 0 ≤ y ∧ y ≤ nI 5)) : gC Γ M_X9_fullestBag [.ref m, .int y] h 7 1 6 (fun _ _ => False) (fun E h' => E = xIO ∧ h' = h) := by
  refine gC_of (by decide) rfl (Nat.le_of_ble_eq_true rfl) [some (.ref m), some (.int y), none] rfl ?_
  refine g_blk [(.iload_n 1, .null)] (Nat.le_of_ble_eq_true rfl) (by decide +kernel) ?_
  refine gx_iload_n_1 ((gx_nil ?_))
  exact g_callS (rc' := 0) (rs' := 0) kX9_252 (mo_requireRoute_no hp hy) (by decide +kernel) rfl rfl (Nat.le_of_ble_eq_true rfl) (Nat.le_of_ble_eq_true rfl) (Nat.le_of_ble_eq_true rfl) (Nat.le_refl _) (Nat.le_refl _) rfl (fun _ _ z => z) (fun _ _ z => z.elim)
theorem mo_fullestBag_none {o c t la ta ca da ba pa ep : Nat} {fl fq ls ps : List Nat} {N : Nat → Int32} (hp : gPxs Γ) (hm : gMc h m o sv hl tt bu bl sb e8 f8) (H : gOx Γ de h o N c t la ta ca da ba pa ep fl fq ls ps) (hc : c ≤ 20) {b9 : Nat} (hB : b9 ≤ 3) {y : Int32} (hy : nI 0 ≤ y ∧ y ≤ nI 5) (hC : gCb N y = nI b9) (hx : (gHv N y c b9).1 = -1) : gC Γ M_X9_fullestBag [.ref m, .int y] h 6 1 6 (fun _ _ => False) (fun E h' => E = xNS ∧ h' = h) := by
  have H0 := H
  obtain ⟨ho, HL, hlc, hls, hta, HP, hpc, hps, hep, ⟨fc, hca, hfc⟩, ⟨fd, hda, hfd⟩, ⟨fb, hba, hfb⟩⟩ := H0
  refine gC_of (by decide) rfl (Nat.le_of_ble_eq_true rfl) [some (.ref m), some (.int y), none] rfl ?_
  refine g_blk [(.iload_n 1, .null)] (Nat.le_of_ble_eq_true rfl) (by decide +kernel) ?_
  refine gx_iload_n_1 ((gx_nil ?_))
  refine g_pS kX9_252 (mo_requireRoute hy) (by decide +kernel) rfl rfl (Nat.le_of_ble_eq_true rfl) (Nat.le_of_ble_eq_true rfl) (Nat.le_of_ble_eq_true rfl) rfl ?_
  simp only [Option.toList_some, Option.toList_none, List.cons_append, List.nil_append]
  refine g_blk [(.aload_n 0, .null)] (Nat.le_of_ble_eq_true rfl) (by decide +kernel) ?_
  refine gx_aload_n_0 ((gx_nil ?_))
  refine g_getf fX9_10 (by decide +kernel) hm rfl ?_
  refine g_blk [(.iload_n 1, .null)] (Nat.le_of_ble_eq_true rfl) (by decide +kernel) ?_
  refine gx_iload_n_1 ((gx_nil ?_))
  refine g_pV kX9_301 (of_heaviestBag H hc hB (y_ne hy) hC) (by decide +kernel) rfl rfl ho rfl (Nat.le_of_ble_eq_true rfl) (Nat.le_of_ble_eq_true rfl) (Nat.le_of_ble_eq_true rfl) rfl ?_
  simp only [Option.toList_some, Option.toList_none, List.cons_append, List.nil_append]
  refine g_blk [(.istore_n 2, .null), (.iload_n 2, .null), (.iconst (-1), .int (-1))] (Nat.le_of_ble_eq_true rfl) (by decide +kernel) ?_
  refine gx_istore_n_2 rfl (gx_iload_n_2 (gx_iconst ((gx_nil ?_))))
  refine g_icmp_ne (off := 14) (tgt := 29) (by decide +kernel) (by decide) (fun c15 => ?_) (fun c15 => ?_)
  · try simp only [bI_0, Decidable.not_not] at c15
    exact absurd hx c15
  · try simp only [bI_0, Decidable.not_not] at c15
    obtain ⟨sa, hsa⟩ := hp.at (k := 304) (tx := "the route has no bags") (by decide)
    exact g_throwXW thr_ns hp.1 hsa (by decide +kernel) (by decide +kernel) (by decide +kernel) (by decide +kernel) (by decide +kernel) rfl (by decide) (Nat.le_of_ble_eq_true rfl) (by omega) (by omega) ⟨rfl, rfl⟩
theorem nI_z {k : Nat} (hk : k < 2147483648) (h : nI k = 0) : k = 0 := by
  rw [← z0] at h
  rcases Nat.eq_zero_or_pos k with z | z
  · exact z
  · have : k ≤ 0 := (nI_leI (by omega) (by omega)).mp (by rw [h]; exact Int32.le_refl _)
    omega
theorem mo_meanWeight {o c t la ta ca da ba pa ep : Nat} {fl fq ls ps : List Nat} {N : Nat → Int32} (hm : gMc h m o sv hl tt bu bl sb e8 f8) (H : gOx Γ de h o N c t la ta ca da ba pa ep fl fq ls ps) (hc : c ≤ 20) (h0 : ¬ c = 0) (hne : vf_n64 (rMw N c)) : pC Γ M_X9_meanWeight [.ref m] h 4 (some (.double (rMw N c))) := by
  have H0 := H
  obtain ⟨ho, HL, hlc, hls, hta, HP, hpc, hps, hep, ⟨fc, hca, hfc⟩, ⟨fd, hda, hfd⟩, ⟨fb, hba, hfb⟩⟩ := H0
  refine pC_of (by decide) rfl (Nat.le_of_ble_eq_true rfl) [some (.ref m), none] rfl ?_
  refine g_blk [(.aload_n 0, .null)] (Nat.le_of_ble_eq_true rfl) (by decide +kernel) ?_
  refine gx_aload_n_0 ((gx_nil ?_))
  refine g_getf fX9_10 (by decide +kernel) hm rfl ?_
  refine g_getf fX9_150 (by decide +kernel) ho rfl ?_
  refine g_pV kX9_133 (al_size HL) (by decide +kernel) rfl rfl (al_cell HL) rfl (Nat.le_of_ble_eq_true rfl) (Nat.le_of_ble_eq_true rfl) (Nat.le_of_ble_eq_true rfl) rfl ?_
  simp only [Option.toList_some, List.cons_append, List.nil_append]
  rw [hlc]
  refine g_blk [(.istore_n 1, .null), (.iload_n 1, .null)] (Nat.le_of_ble_eq_true rfl) (by decide +kernel) ?_
  refine gx_istore_n_1 rfl (gx_iload_n_1 ((gx_nil ?_)))
  refine g_if_ne (off := 14) (tgt := 26) (by decide +kernel) (by decide) (fun c12 => ?_) (fun c12 => ?_)
  · try simp only [bI_0, Decidable.not_not] at c12
    refine g_blk [(.aload_n 0, .null)] (Nat.le_of_ble_eq_true rfl) (by decide +kernel) ?_
    refine gx_aload_n_0 ((gx_nil ?_))
    refine g_getf fX9_10 (by decide +kernel) hm rfl ?_
    refine g_pV kX9_332 (of_totalWeight H hc) (by decide +kernel) rfl rfl ho rfl (Nat.le_of_ble_eq_true rfl) (Nat.le_of_ble_eq_true rfl) (Nat.le_of_ble_eq_true rfl) rfl ?_
    simp only [Option.toList_some, Option.toList_none, List.cons_append, List.nil_append]
    refine g_blk [(.i2d, .null), (.iload_n 1, .null), (.i2d, .null)] (Nat.le_of_ble_eq_true rfl) (by decide +kernel) ?_
    refine gx_i2d (gx_iload_n_1 (gx_i2d ((gx_nil ?_))))
    refine g_ddiv hne (by decide +kernel) ?_
    refine g_end (some (.double _)) rfl ⟨by decide +kernel, rfl⟩ ⟨?_, rfl⟩
    rfl
  · try simp only [bI_0, Decidable.not_not] at c12
    exact absurd (nI_z (by omega) c12) h0
theorem mo_meanWeight_no {o c t la ta ca da ba pa ep : Nat} {fl fq ls ps : List Nat} {N : Nat → Int32} (hp : gPxs Γ) (hm : gMc h m o sv hl tt bu bl sb e8 f8) (H : gOx Γ de h o N c t la ta ca da ba pa ep fl fq ls ps) (h0 : c = 0) : gC Γ M_X9_meanWeight [.ref m] h 6 1 6 (fun _ _ => False) (fun E h' => E = xAR ∧ h' = h) := by
  have H0 := H
  obtain ⟨ho, HL, hlc, hls, hta, HP, hpc, hps, hep, ⟨fc, hca, hfc⟩, ⟨fd, hda, hfd⟩, ⟨fb, hba, hfb⟩⟩ := H0
  refine gC_of (by decide) rfl (Nat.le_of_ble_eq_true rfl) [some (.ref m), none] rfl ?_
  refine g_blk [(.aload_n 0, .null)] (Nat.le_of_ble_eq_true rfl) (by decide +kernel) ?_
  refine gx_aload_n_0 ((gx_nil ?_))
  refine g_getf fX9_10 (by decide +kernel) hm rfl ?_
  refine g_getf fX9_150 (by decide +kernel) ho rfl ?_
  refine g_pV kX9_133 (al_size HL) (by decide +kernel) rfl rfl (al_cell HL) rfl (Nat.le_of_ble_eq_true rfl) (Nat.le_of_ble_eq_true rfl) (Nat.le_of_ble_eq_true rfl) rfl ?_
  simp only [Option.toList_some, Option.toList_none, List.cons_append, List.nil_append]
  rw [hlc, h0]
  refine g_blk [(.istore_n 1, .null), (.iload_n 1, .null)] (Nat.le_of_ble_eq_true rfl) (by decide +kernel) ?_
  refine gx_istore_n_1 rfl (gx_iload_n_1 ((gx_nil ?_)))
  refine g_if_ne (off := 14) (tgt := 26) (by decide +kernel) (by decide) (fun c12 => ?_) (fun c12 => ?_)
  · try simp only [bI_0, Decidable.not_not] at c12
    exact absurd z0 c12
  · try simp only [bI_0, Decidable.not_not] at c12
    obtain ⟨sa, hsa⟩ := hp.at (k := 329) (tx := "the office has no letters") (by decide)
    exact g_throwW thr_ar hp.1 hsa (by decide +kernel) (by decide +kernel) (by decide +kernel) (by decide +kernel) (by decide +kernel) rfl (by decide) (Nat.le_of_ble_eq_true rfl) (by omega) (by omega) ⟨rfl, rfl⟩
theorem mo_deliveredShare {o c t la ta ca da ba pa ep : Nat} {fl fq ls ps : List Nat} {N : Nat → Int32} (hm : gMc h m o sv hl tt bu bl sb e8 f8) (H : gOx Γ de h o N c t la ta ca da ba pa ep fl fq ls ps) (h0 : ¬ N 2 = 0) (hne : vf_n32 (rSh2 N)) : pC Γ M_X9_deliveredShare [.ref m] h 0 (some (.float (rSh2 N))) := by
  have H0 := H
  obtain ⟨ho, HL, hlc, hls, hta, HP, hpc, hps, hep, ⟨fc, hca, hfc⟩, ⟨fd, hda, hfd⟩, ⟨fb, hba, hfb⟩⟩ := H0
  refine pC_of (by decide) rfl (Nat.le_of_ble_eq_true rfl) [some (.ref m), none] rfl ?_
  refine g_blk [(.aload_n 0, .null)] (Nat.le_of_ble_eq_true rfl) (by decide +kernel) ?_
  refine gx_aload_n_0 ((gx_nil ?_))
  refine g_getf fX9_10 (by decide +kernel) hm rfl ?_
  refine g_getf fX9_335 (by decide +kernel) ho rfl ?_
  refine g_blk [(.istore_n 1, .null), (.iload_n 1, .null)] (Nat.le_of_ble_eq_true rfl) (by decide +kernel) ?_
  refine gx_istore_n_1 rfl (gx_iload_n_1 ((gx_nil ?_)))
  refine g_if_ne (off := 14) (tgt := 23) (by decide +kernel) (by decide) (fun c9 => ?_) (fun c9 => ?_)
  · try simp only [bI_0, Decidable.not_not] at c9
    refine g_blk [(.aload_n 0, .null)] (Nat.le_of_ble_eq_true rfl) (by decide +kernel) ?_
    refine gx_aload_n_0 ((gx_nil ?_))
    refine g_getf fX9_10 (by decide +kernel) hm rfl ?_
    refine g_getf fX9_318 (by decide +kernel) ho rfl ?_
    refine g_blk [(.i2f, .null), (.iload_n 1, .null), (.i2f, .null)] (Nat.le_of_ble_eq_true rfl) (by decide +kernel) ?_
    refine gx_i2f (gx_iload_n_1 (gx_i2f ((gx_nil ?_))))
    refine g_fdiv hne (by decide +kernel) ?_
    refine g_end (some (.float _)) rfl ⟨by decide +kernel, rfl⟩ ⟨?_, rfl⟩
    rfl
  · try simp only [bI_0, Decidable.not_not] at c9
    exact absurd c9 h0
theorem mo_deliveredShare_no {o c t la ta ca da ba pa ep : Nat} {fl fq ls ps : List Nat} {N : Nat → Int32} (hp : gPxs Γ) (hm : gMc h m o sv hl tt bu bl sb e8 f8) (H : gOx Γ de h o N c t la ta ca da ba pa ep fl fq ls ps) (h0 : N 2 = 0) : gC Γ M_X9_deliveredShare [.ref m] h 6 1 6 (fun _ _ => False) (fun E h' => E = xAR ∧ h' = h) := by
  have H0 := H
  obtain ⟨ho, HL, hlc, hls, hta, HP, hpc, hps, hep, ⟨fc, hca, hfc⟩, ⟨fd, hda, hfd⟩, ⟨fb, hba, hfb⟩⟩ := H0
  refine gC_of (by decide) rfl (Nat.le_of_ble_eq_true rfl) [some (.ref m), none] rfl ?_
  refine g_blk [(.aload_n 0, .null)] (Nat.le_of_ble_eq_true rfl) (by decide +kernel) ?_
  refine gx_aload_n_0 ((gx_nil ?_))
  refine g_getf fX9_10 (by decide +kernel) hm rfl ?_
  refine g_getf fX9_335 (by decide +kernel) ho rfl ?_
  refine g_blk [(.istore_n 1, .null), (.iload_n 1, .null)] (Nat.le_of_ble_eq_true rfl) (by decide +kernel) ?_
  refine gx_istore_n_1 rfl (gx_iload_n_1 ((gx_nil ?_)))
  refine g_if_ne (off := 14) (tgt := 23) (by decide +kernel) (by decide) (fun c9 => ?_) (fun c9 => ?_)
  · try simp only [bI_0, Decidable.not_not] at c9
    exact absurd h0 c9
  · try simp only [bI_0, Decidable.not_not] at c9
    obtain ⟨sa, hsa⟩ := hp.at (k := 338) (tx := "no letter has been accepted so far") (by decide)
    exact g_throwW thr_ar hp.1 hsa (by decide +kernel) (by decide +kernel) (by decide +kernel) (by decide +kernel) (by decide +kernel) rfl (by decide) (Nat.le_of_ble_eq_true rfl) (by omega) (by omega) ⟨rfl, rfl⟩
end GFr2
