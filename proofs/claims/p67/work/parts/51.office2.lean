section GOf2
variable {Γ : gE} {de : Nat} {h : gHp}
theorem rWt_s {N : Nat → Int32} {rt bg : Int32} {i : Nat} : rWt N rt bg (i + 1) = rWt N rt bg i + (if N (62 + 7 * i + 5) = rt ∧ (bg = -1 ∨ N (62 + 7 * i + 6) = bg) then N (62 + 7 * i + 2) else nI 0) := rfl
theorem rLn_s {N : Nat → Int32} {rt bg : Int32} {i : Nat} : rLn N rt bg (i + 1) = rLn N rt bg i + (if N (62 + 7 * i + 5) = rt ∧ (rt = -1 ∨ N (62 + 7 * i + 6) = bg) then nI 1 else nI 0) := rfl
def rSm (N : Nat → Int32) : Nat → Int32
  | 0 => nI 0
  | i + 1 => rSm N i + N (62 + 7 * i + 2)
theorem gBg_at {N : Nat → Int32} {i : Nat} (h : ¬ N (62 + 7 * i + 5) = -1) : gBg N i = N (62 + 7 * i + 6) := if_neg h
theorem gBg_iff {N : Nat → Int32} {i : Nat} {rt bg : Int32} (hr : ¬ rt = -1) : (N (62 + 7 * i + 5) = rt ∧ gBg N i = bg) ↔ (N (62 + 7 * i + 5) = rt ∧ N (62 + 7 * i + 6) = bg) := by
  constructor
  · rintro ⟨a, b⟩
    exact ⟨a, (gBg_at (by rw [a]; exact hr)).symm.trans b⟩
  · rintro ⟨a, b⟩
    exact ⟨a, by rw [gBg_at (by rw [a]; exact hr)]; exact b⟩
theorem of_weightInBag {o c t la ta ca da ba pa ep : Nat} {fl fq ls ps : List Nat} {N : Nat → Int32} (H : gOx Γ de h o N c t la ta ca da ba pa ep fl fq ls ps) (hc : c ≤ 20) {rt bg : Int32} (hr : ¬ rt = -1) (hb : ¬ bg = -1) : pC Γ M_X4_weightInBag [.ref o, .int rt, .int bg] h 3 (some (.int (rWt N rt bg c))) := by
  have H0 := H
  obtain ⟨ho, HL, hlc, hls, hta, HP, hpc, hps, hep, ⟨fc, hca, hfc⟩, ⟨fd, hda, hfd⟩, ⟨fb, hba, hfb⟩⟩ := H0
  have loop : ∀ n i, i ≤ c → c < i + n → pG Γ M_X4_weightInBag 3 (some (.int (rWt N rt bg c))) h 5 [some (.ref o), some (.int rt), some (.int bg), some (.int (rWt N rt bg i)), some (.int (nI i)), none] [] := by
    intro n
    induction n with
    | zero => intro i h1 h2; omega
    | succ n ih =>
      intro i hi hn
      refine g_blk [(.iload 4, .null), (.aload_n 0, .null)] (Nat.le_of_ble_eq_true rfl) (by decide +kernel) ?_
      refine gx_iload_4 (gx_aload_n_0 ((gx_nil ?_)))
      refine g_getf fX4_12 (by decide +kernel) ho rfl ?_
      refine g_pV kX4_55 (al_size HL) (by decide +kernel) rfl rfl (al_cell HL) rfl (Nat.le_of_ble_eq_true rfl) (Nat.le_of_ble_eq_true rfl) (Nat.le_of_ble_eq_true rfl) rfl ?_
      simp only [Option.toList_some, List.cons_append, List.nil_append]
      rw [hlc]
      refine g_icmp_ge (off := 41) (tgt := 55) (by decide +kernel) (by decide) (fun c14 => ?_) (fun c14 => ?_)
      · try simp only [bI_0, Decidable.not_not] at c14
        have hic : c = i := by
          have := (nI_leI (by omega) (by omega)).mp c14
          omega
        subst hic
        refine g_blk [(.iload_n 3, .null)] (Nat.le_of_ble_eq_true rfl) (by decide +kernel) ?_
        refine gx_iload_n_3 ((gx_nil ?_))
        refine g_end (some (.int _)) rfl ⟨by decide +kernel, _, rfl, rfl⟩ ⟨?_, rfl⟩
        rfl
      · try simp only [bI_0, Decidable.not_not] at c14
        have hic : i < c := by
          rcases Nat.lt_or_ge i c with q | q
          · exact q
          · exact absurd (nI_le q (by omega)) c14
        obtain ⟨a9, hx9⟩ : ∃ z, ls[i]? = some z := ⟨_, List.getElem?_eq_getElem (by omega)⟩
        have hl9 := hls i a9 hx9
        refine g_blk [(.aload_n 0, .null)] (Nat.le_of_ble_eq_true rfl) (by decide +kernel) ?_
        refine gx_aload_n_0 ((gx_nil ?_))
        refine g_getf fX4_12 (by decide +kernel) ho rfl ?_
        refine g_blk [(.iload 4, .null)] (Nat.le_of_ble_eq_true rfl) (by decide +kernel) ?_
        refine gx_iload_4 ((gx_nil ?_))
        refine g_pV kX4_59 (al_get HL hx9) (by decide +kernel) rfl rfl (al_cell HL) rfl (Nat.le_of_ble_eq_true rfl) (Nat.le_of_ble_eq_true rfl) (Nat.le_of_ble_eq_true rfl) rfl ?_
        try simp only [Option.toList_some, Option.toList_none, List.cons_append, List.nil_append, bI_0, n1_0, n0_0, Decidable.not_not, not_true_eq_false, not_false_eq_true, nI_add, Nat.add_zero, Nat.zero_add, Nat.reduceAdd]
        refine g_castO hl9 rfl rfl (clX4_63) (by decide +kernel) ?_
        refine g_blk [(.astore 5, .null), (.aload 5, .null), (.iload_n 1, .null), (.iload_n 2, .null)] (Nat.le_of_ble_eq_true rfl) (by decide +kernel) ?_
        refine gx_astore_5 rfl (gx_aload_5 (gx_iload_n_1 (gx_iload_n_2 ((gx_nil ?_)))))
        refine g_pV kX4_175 (le_isIn hl9 _ _) (by decide +kernel) rfl rfl hl9 rfl (Nat.le_of_ble_eq_true rfl) (Nat.le_of_ble_eq_true rfl) (Nat.le_of_ble_eq_true rfl) rfl ?_
        try simp only [Option.toList_some, Option.toList_none, List.cons_append, List.nil_append, bI_0, n1_0, n0_0, Decidable.not_not, not_true_eq_false, not_false_eq_true, nI_add, Nat.add_zero, Nat.zero_add, Nat.reduceAdd]
        refine g_if_eq (off := 11) (tgt := 49) (by decide +kernel) (by decide) (fun c38 => ?_) (fun c38 => ?_)
        · try simp only [bI_0, Decidable.not_not] at c38
          refine g_blk [(.iinc 4 1, .int (nI 1)), (.goto (-47), .retAddr 5)] (Nat.le_of_ble_eq_true rfl) (by decide +kernel) ?_
          refine gx_iinc_4 rfl (gx_goto ((gx_nil ?_)))
          try simp only [nI_add, Nat.add_zero, Nat.zero_add, Nat.reduceAdd]
          have e9 := ih (i + 1) (by omega) (by omega)
          rw [rWt_s, if_neg (fun z => c38 ((gBg_iff hr).mpr ⟨z.1, z.2.resolve_left hb⟩)), a_n0] at e9
          exact g_wk (by simp [gLe, nI_add]) e9
        · try simp only [bI_0, Decidable.not_not] at c38
          refine g_blk [(.iload_n 3, .null), (.aload 5, .null)] (Nat.le_of_ble_eq_true rfl) (by decide +kernel) ?_
          refine gx_iload_n_3 (gx_aload_5 ((gx_nil ?_)))
          refine g_getf fX4_134 (by decide +kernel) hl9 rfl ?_
          refine g_blk [(.iadd, .null), (.istore_n 3, .null), (.iinc 4 1, .int (nI 1)), (.goto (-47), .retAddr 5)] (Nat.le_of_ble_eq_true rfl) (by decide +kernel) ?_
          refine gx_iadd (gx_istore_n_3 rfl (gx_iinc_4 rfl (gx_goto ((gx_nil ?_)))))
          try simp only [nI_add, Nat.add_zero, Nat.zero_add, Nat.reduceAdd]
          have e9 := ih (i + 1) (by omega) (by omega)
          rw [rWt_s, if_pos ((gBg_iff hr).mp c38 |>.imp id Or.inr)] at e9
          exact g_wk (by simp [gLe, nI_add]) e9
  refine pC_of (by decide) rfl (Nat.le_of_ble_eq_true rfl) [some (.ref o), some (.int rt), some (.int bg), none, none, none] rfl ?_
  refine g_blk [(.iconst 0, .int (nI 0)), (.istore_n 3, .null), (.iconst 0, .int (nI 0)), (.istore 4, .null)] (Nat.le_of_ble_eq_true rfl) (by decide +kernel) ?_
  refine gx_iconst (gx_istore_n_3 rfl (gx_iconst (gx_istore_4 rfl ((gx_nil ?_)))))
  exact loop (c + 1) 0 (Nat.zero_le _) (by omega)
theorem of_countInBag {o c t la ta ca da ba pa ep : Nat} {fl fq ls ps : List Nat} {N : Nat → Int32} (H : gOx Γ de h o N c t la ta ca da ba pa ep fl fq ls ps) (hc : c ≤ 20) {rt bg : Int32} (hr : ¬ rt = -1) : pC Γ M_X4_countInBag [.ref o, .int rt, .int bg] h 3 (some (.int (rLn N rt bg c))) := by
  have H0 := H
  obtain ⟨ho, HL, hlc, hls, hta, HP, hpc, hps, hep, ⟨fc, hca, hfc⟩, ⟨fd, hda, hfd⟩, ⟨fb, hba, hfb⟩⟩ := H0
  have loop : ∀ n i, i ≤ c → c < i + n → pG Γ M_X4_countInBag 3 (some (.int (rLn N rt bg c))) h 5 [some (.ref o), some (.int rt), some (.int bg), some (.int (rLn N rt bg i)), some (.int (nI i))] [] := by
    intro n
    induction n with
    | zero => intro i h1 h2; omega
    | succ n ih =>
      intro i hi hn
      refine g_blk [(.iload 4, .null), (.aload_n 0, .null)] (Nat.le_of_ble_eq_true rfl) (by decide +kernel) ?_
      refine gx_iload_4 (gx_aload_n_0 ((gx_nil ?_)))
      refine g_getf fX4_12 (by decide +kernel) ho rfl ?_
      refine g_pV kX4_55 (al_size HL) (by decide +kernel) rfl rfl (al_cell HL) rfl (Nat.le_of_ble_eq_true rfl) (Nat.le_of_ble_eq_true rfl) (Nat.le_of_ble_eq_true rfl) rfl ?_
      simp only [Option.toList_some, List.cons_append, List.nil_append]
      rw [hlc]
      refine g_icmp_ge (off := 32) (tgt := 46) (by decide +kernel) (by decide) (fun c14 => ?_) (fun c14 => ?_)
      · try simp only [bI_0, Decidable.not_not] at c14
        have hic : c = i := by
          have := (nI_leI (by omega) (by omega)).mp c14
          omega
        subst hic
        refine g_blk [(.iload_n 3, .null)] (Nat.le_of_ble_eq_true rfl) (by decide +kernel) ?_
        refine gx_iload_n_3 ((gx_nil ?_))
        refine g_end (some (.int _)) rfl ⟨by decide +kernel, _, rfl, rfl⟩ ⟨?_, rfl⟩
        rfl
      · try simp only [bI_0, Decidable.not_not] at c14
        have hic : i < c := by
          rcases Nat.lt_or_ge i c with q | q
          · exact q
          · exact absurd (nI_le q (by omega)) c14
        obtain ⟨a9, hx9⟩ : ∃ z, ls[i]? = some z := ⟨_, List.getElem?_eq_getElem (by omega)⟩
        have hl9 := hls i a9 hx9
        refine g_blk [(.aload_n 0, .null)] (Nat.le_of_ble_eq_true rfl) (by decide +kernel) ?_
        refine gx_aload_n_0 ((gx_nil ?_))
        refine g_getf fX4_12 (by decide +kernel) ho rfl ?_
        refine g_blk [(.iload 4, .null)] (Nat.le_of_ble_eq_true rfl) (by decide +kernel) ?_
        refine gx_iload_4 ((gx_nil ?_))
        refine g_pV kX4_59 (al_get HL hx9) (by decide +kernel) rfl rfl (al_cell HL) rfl (Nat.le_of_ble_eq_true rfl) (Nat.le_of_ble_eq_true rfl) (Nat.le_of_ble_eq_true rfl) rfl ?_
        try simp only [Option.toList_some, Option.toList_none, List.cons_append, List.nil_append, bI_0, n1_0, n0_0, Decidable.not_not, not_true_eq_false, not_false_eq_true, nI_add, Nat.add_zero, Nat.zero_add, Nat.reduceAdd]
        refine g_castO hl9 rfl rfl (clX4_63) (by decide +kernel) ?_
        refine g_blk [(.iload_n 1, .null), (.iload_n 2, .null)] (Nat.le_of_ble_eq_true rfl) (by decide +kernel) ?_
        refine gx_iload_n_1 (gx_iload_n_2 ((gx_nil ?_)))
        refine g_pV kX4_175 (le_isIn hl9 _ _) (by decide +kernel) rfl rfl hl9 rfl (Nat.le_of_ble_eq_true rfl) (Nat.le_of_ble_eq_true rfl) (Nat.le_of_ble_eq_true rfl) rfl ?_
        try simp only [Option.toList_some, Option.toList_none, List.cons_append, List.nil_append, bI_0, n1_0, n0_0, Decidable.not_not, not_true_eq_false, not_false_eq_true, nI_add, Nat.add_zero, Nat.zero_add, Nat.reduceAdd]
        refine g_if_eq (off := 6) (tgt := 40) (by decide +kernel) (by decide) (fun c34 => ?_) (fun c34 => ?_)
        · try simp only [bI_0, Decidable.not_not] at c34
          refine g_blk [(.iinc 4 1, .int (nI 1)), (.goto (-38), .retAddr 5)] (Nat.le_of_ble_eq_true rfl) (by decide +kernel) ?_
          refine gx_iinc_4 rfl (gx_goto ((gx_nil ?_)))
          try simp only [nI_add, Nat.add_zero, Nat.zero_add, Nat.reduceAdd]
          have e9 := ih (i + 1) (by omega) (by omega)
          rw [rLn_s, if_neg (fun z => c34 ((gBg_iff hr).mpr ⟨z.1, z.2.resolve_left hr⟩)), a_n0] at e9
          exact g_wk (by simp [gLe, nI_add]) e9
        · try simp only [bI_0, Decidable.not_not] at c34
          refine g_blk [(.iinc 3 1, .int (nI 1)), (.iinc 4 1, .int (nI 1)), (.goto (-38), .retAddr 5)] (Nat.le_of_ble_eq_true rfl) (by decide +kernel) ?_
          refine gx_iinc_3 rfl (gx_iinc_4 rfl (gx_goto ((gx_nil ?_))))
          try simp only [nI_add, Nat.add_zero, Nat.zero_add, Nat.reduceAdd]
          have e9 := ih (i + 1) (by omega) (by omega)
          rw [rLn_s, if_pos ((gBg_iff hr).mp c34 |>.imp id Or.inr)] at e9
          exact g_wk (by simp [gLe, nI_add]) e9
  refine pC_of (by decide) rfl (Nat.le_of_ble_eq_true rfl) [some (.ref o), some (.int rt), some (.int bg), none, none] rfl ?_
  refine g_blk [(.iconst 0, .int (nI 0)), (.istore_n 3, .null), (.iconst 0, .int (nI 0)), (.istore 4, .null)] (Nat.le_of_ble_eq_true rfl) (by decide +kernel) ?_
  refine gx_iconst (gx_istore_n_3 rfl (gx_iconst (gx_istore_4 rfl ((gx_nil ?_)))))
  exact loop (c + 1) 0 (Nat.zero_le _) (by omega)
theorem of_weightByLetters {o c t la ta ca da ba pa ep : Nat} {fl fq ls ps : List Nat} {N : Nat → Int32} (H : gOx Γ de h o N c t la ta ca da ba pa ep fl fq ls ps) (hc : c ≤ 20) (rt : Int32) : pC Γ M_X4_weightByLetters [.ref o, .int rt] h 3 (some (.int (rWt N rt (-1) c))) := by
  have H0 := H
  obtain ⟨ho, HL, hlc, hls, hta, HP, hpc, hps, hep, ⟨fc, hca, hfc⟩, ⟨fd, hda, hfd⟩, ⟨fb, hba, hfb⟩⟩ := H0
  have loop : ∀ n i, i ≤ c → c < i + n → pG Γ M_X4_weightByLetters 3 (some (.int (rWt N rt (-1) c))) h 4 [some (.ref o), some (.int rt), some (.int (rWt N rt (-1) i)), some (.int (nI i)), none] [] := by
    intro n
    induction n with
    | zero => intro i h1 h2; omega
    | succ n ih =>
      intro i hi hn
      refine g_blk [(.iload_n 3, .null), (.aload_n 0, .null)] (Nat.le_of_ble_eq_true rfl) (by decide +kernel) ?_
      refine gx_iload_n_3 (gx_aload_n_0 ((gx_nil ?_)))
      refine g_getf fX4_12 (by decide +kernel) ho rfl ?_
      refine g_pV kX4_55 (al_size HL) (by decide +kernel) rfl rfl (al_cell HL) rfl (Nat.le_of_ble_eq_true rfl) (Nat.le_of_ble_eq_true rfl) (Nat.le_of_ble_eq_true rfl) rfl ?_
      simp only [Option.toList_some, List.cons_append, List.nil_append]
      rw [hlc]
      refine g_icmp_ge (off := 39) (tgt := 51) (by decide +kernel) (by decide) (fun c12 => ?_) (fun c12 => ?_)
      · try simp only [bI_0, Decidable.not_not] at c12
        have hic : c = i := by
          have := (nI_leI (by omega) (by omega)).mp c12
          omega
        subst hic
        refine g_blk [(.iload_n 2, .null)] (Nat.le_of_ble_eq_true rfl) (by decide +kernel) ?_
        refine gx_iload_n_2 ((gx_nil ?_))
        refine g_end (some (.int _)) rfl ⟨by decide +kernel, _, rfl, rfl⟩ ⟨?_, rfl⟩
        rfl
      · try simp only [bI_0, Decidable.not_not] at c12
        have hic : i < c := by
          rcases Nat.lt_or_ge i c with q | q
          · exact q
          · exact absurd (nI_le q (by omega)) c12
        obtain ⟨a9, hx9⟩ : ∃ z, ls[i]? = some z := ⟨_, List.getElem?_eq_getElem (by omega)⟩
        have hl9 := hls i a9 hx9
        refine g_blk [(.aload_n 0, .null)] (Nat.le_of_ble_eq_true rfl) (by decide +kernel) ?_
        refine gx_aload_n_0 ((gx_nil ?_))
        refine g_getf fX4_12 (by decide +kernel) ho rfl ?_
        refine g_blk [(.iload_n 3, .null)] (Nat.le_of_ble_eq_true rfl) (by decide +kernel) ?_
        refine gx_iload_n_3 ((gx_nil ?_))
        refine g_pV kX4_59 (al_get HL hx9) (by decide +kernel) rfl rfl (al_cell HL) rfl (Nat.le_of_ble_eq_true rfl) (Nat.le_of_ble_eq_true rfl) (Nat.le_of_ble_eq_true rfl) rfl ?_
        try simp only [Option.toList_some, Option.toList_none, List.cons_append, List.nil_append, bI_0, n1_0, n0_0, Decidable.not_not, not_true_eq_false, not_false_eq_true, nI_add, Nat.add_zero, Nat.zero_add, Nat.reduceAdd]
        refine g_castO hl9 rfl rfl (clX4_63) (by decide +kernel) ?_
        refine g_blk [(.astore 4, .null), (.aload 4, .null)] (Nat.le_of_ble_eq_true rfl) (by decide +kernel) ?_
        refine gx_astore_4 rfl (gx_aload_4 ((gx_nil ?_)))
        refine g_getf fX4_106 (by decide +kernel) hl9 rfl ?_
        refine g_blk [(.iload_n 1, .null)] (Nat.le_of_ble_eq_true rfl) (by decide +kernel) ?_
        refine gx_iload_n_1 ((gx_nil ?_))
        refine g_icmp_ne (off := 11) (tgt := 45) (by decide +kernel) (by decide) (fun c34 => ?_) (fun c34 => ?_)
        · try simp only [bI_0, Decidable.not_not] at c34
          refine g_blk [(.iinc 3 1, .int (nI 1)), (.goto (-44), .retAddr 4)] (Nat.le_of_ble_eq_true rfl) (by decide +kernel) ?_
          refine gx_iinc_3 rfl (gx_goto ((gx_nil ?_)))
          try simp only [nI_add, Nat.add_zero, Nat.zero_add, Nat.reduceAdd]
          have e9 := ih (i + 1) (by omega) (by omega)
          rw [rWt_s, if_neg (fun z => c34 z.1), a_n0] at e9
          exact g_wk (by simp [gLe, nI_add]) e9
        · try simp only [bI_0, Decidable.not_not] at c34
          refine g_blk [(.iload_n 2, .null), (.aload 4, .null)] (Nat.le_of_ble_eq_true rfl) (by decide +kernel) ?_
          refine gx_iload_n_2 (gx_aload_4 ((gx_nil ?_)))
          refine g_getf fX4_134 (by decide +kernel) hl9 rfl ?_
          refine g_blk [(.iadd, .null), (.istore_n 2, .null), (.iinc 3 1, .int (nI 1)), (.goto (-44), .retAddr 4)] (Nat.le_of_ble_eq_true rfl) (by decide +kernel) ?_
          refine gx_iadd (gx_istore_n_2 rfl (gx_iinc_3 rfl (gx_goto ((gx_nil ?_)))))
          try simp only [nI_add, Nat.add_zero, Nat.zero_add, Nat.reduceAdd]
          have e9 := ih (i + 1) (by omega) (by omega)
          rw [rWt_s, if_pos (⟨c34, Or.inl rfl⟩)] at e9
          exact g_wk (by simp [gLe, nI_add]) e9
  refine pC_of (by decide) rfl (Nat.le_of_ble_eq_true rfl) [some (.ref o), some (.int rt), none, none, none] rfl ?_
  refine g_blk [(.iconst 0, .int (nI 0)), (.istore_n 2, .null), (.iconst 0, .int (nI 0)), (.istore_n 3, .null)] (Nat.le_of_ble_eq_true rfl) (by decide +kernel) ?_
  refine gx_iconst (gx_istore_n_2 rfl (gx_iconst (gx_istore_n_3 rfl ((gx_nil ?_)))))
  exact loop (c + 1) 0 (Nat.zero_le _) (by omega)
theorem of_totalWeight {o c t la ta ca da ba pa ep : Nat} {fl fq ls ps : List Nat} {N : Nat → Int32} (H : gOx Γ de h o N c t la ta ca da ba pa ep fl fq ls ps) (hc : c ≤ 20) : pC Γ M_X4_totalWeight [.ref o] h 3 (some (.int (rSm N c))) := by
  have H0 := H
  obtain ⟨ho, HL, hlc, hls, hta, HP, hpc, hps, hep, ⟨fc, hca, hfc⟩, ⟨fd, hda, hfd⟩, ⟨fb, hba, hfb⟩⟩ := H0
  have loop : ∀ n i, i ≤ c → c < i + n → pG Γ M_X4_totalWeight 3 (some (.int (rSm N c))) h 4 [some (.ref o), some (.int (rSm N i)), some (.int (nI i))] [] := by
    intro n
    induction n with
    | zero => intro i h1 h2; omega
    | succ n ih =>
      intro i hi hn
      refine g_blk [(.iload_n 2, .null), (.aload_n 0, .null)] (Nat.le_of_ble_eq_true rfl) (by decide +kernel) ?_
      refine gx_iload_n_2 (gx_aload_n_0 ((gx_nil ?_)))
      refine g_getf fX4_12 (by decide +kernel) ho rfl ?_
      refine g_pV kX4_55 (al_size HL) (by decide +kernel) rfl rfl (al_cell HL) rfl (Nat.le_of_ble_eq_true rfl) (Nat.le_of_ble_eq_true rfl) (Nat.le_of_ble_eq_true rfl) rfl ?_
      simp only [Option.toList_some, List.cons_append, List.nil_append]
      rw [hlc]
      refine g_icmp_ge (off := 26) (tgt := 38) (by decide +kernel) (by decide) (fun c12 => ?_) (fun c12 => ?_)
      · try simp only [bI_0, Decidable.not_not] at c12
        have hic : c = i := by
          have := (nI_leI (by omega) (by omega)).mp c12
          omega
        subst hic
        refine g_blk [(.iload_n 1, .null)] (Nat.le_of_ble_eq_true rfl) (by decide +kernel) ?_
        refine gx_iload_n_1 ((gx_nil ?_))
        refine g_end (some (.int _)) rfl ⟨by decide +kernel, _, rfl, rfl⟩ ⟨?_, rfl⟩
        rfl
      · try simp only [bI_0, Decidable.not_not] at c12
        have hic : i < c := by
          rcases Nat.lt_or_ge i c with q | q
          · exact q
          · exact absurd (nI_le q (by omega)) c12
        obtain ⟨a9, hx9⟩ : ∃ z, ls[i]? = some z := ⟨_, List.getElem?_eq_getElem (by omega)⟩
        have hl9 := hls i a9 hx9
        refine g_blk [(.iload_n 1, .null), (.aload_n 0, .null)] (Nat.le_of_ble_eq_true rfl) (by decide +kernel) ?_
        refine gx_iload_n_1 (gx_aload_n_0 ((gx_nil ?_)))
        refine g_getf fX4_12 (by decide +kernel) ho rfl ?_
        refine g_blk [(.iload_n 2, .null)] (Nat.le_of_ble_eq_true rfl) (by decide +kernel) ?_
        refine gx_iload_n_2 ((gx_nil ?_))
        refine g_pV kX4_59 (al_get HL hx9) (by decide +kernel) rfl rfl (al_cell HL) rfl (Nat.le_of_ble_eq_true rfl) (Nat.le_of_ble_eq_true rfl) (Nat.le_of_ble_eq_true rfl) rfl ?_
        try simp only [Option.toList_some, Option.toList_none, List.cons_append, List.nil_append, bI_0, n1_0, n0_0, Decidable.not_not, not_true_eq_false, not_false_eq_true, nI_add, Nat.add_zero, Nat.zero_add, Nat.reduceAdd]
        refine g_castO hl9 rfl rfl (clX4_63) (by decide +kernel) ?_
        refine g_getf fX4_134 (by decide +kernel) hl9 rfl ?_
        refine g_blk [(.iadd, .null), (.istore_n 1, .null), (.iinc 2 1, .int (nI 1)), (.goto (-31), .retAddr 4)] (Nat.le_of_ble_eq_true rfl) (by decide +kernel) ?_
        refine gx_iadd (gx_istore_n_1 rfl (gx_iinc_2 rfl (gx_goto ((gx_nil ?_)))))
        try simp only [nI_add, Nat.add_zero, Nat.zero_add, Nat.reduceAdd]
        have e9 := ih (i + 1) (by omega) (by omega)
        rw [show rSm N (i + 1) = rSm N i + N (62 + 7 * i + 2) from rfl] at e9
        exact g_wk (by simp [gLe, nI_add]) e9
  refine pC_of (by decide) rfl (Nat.le_of_ble_eq_true rfl) [some (.ref o), none, none] rfl ?_
  refine g_blk [(.iconst 0, .int (nI 0)), (.istore_n 1, .null), (.iconst 0, .int (nI 0)), (.istore_n 2, .null)] (Nat.le_of_ble_eq_true rfl) (by decide +kernel) ?_
  refine gx_iconst (gx_istore_n_1 rfl (gx_iconst (gx_istore_n_2 rfl ((gx_nil ?_)))))
  exact loop (c + 1) 0 (Nat.zero_le _) (by omega)
theorem r5_lt {x : Int32} (hx : nI 0 ≤ x ∧ x ≤ nI 5) : x = nI (rIx x) ∧ rIx x < 6 := ⟨rIx_eq hx, by have := rIx_le x; omega⟩
def gCb (N : Nat → Int32) (rt : Int32) : Int32 := if nI 0 ≤ rt ∧ rt ≤ nI 5 then N (8 + 3 * rIx rt + 2) else nI 0
theorem of_countBags {o c t la ta ca da ba pa ep : Nat} {fl fq ls ps : List Nat} {N : Nat → Int32} (H : gOx Γ de h o N c t la ta ca da ba pa ep fl fq ls ps) (rt : Int32) : pC Γ M_X4_countBags [.ref o, .int rt] h 1 (some (.int (gCb N rt))) := by
  have H0 := H
  obtain ⟨ho, HL, hlc, hls, hta, HP, hpc, hps, hep, ⟨fc, hca, hfc⟩, ⟨fd, hda, hfd⟩, ⟨fb, hba, hfb⟩⟩ := H0
  refine pC_of (by decide) rfl (Nat.le_of_ble_eq_true rfl) [some (.ref o), some (.int rt)] rfl ?_
  refine g_blk [(.iload_n 1, .null)] (Nat.le_of_ble_eq_true rfl) (by decide +kernel) ?_
  refine gx_iload_n_1 ((gx_nil ?_))
  refine g_pSN kX4_95 (pc_isRoute _) (by decide +kernel) rfl rfl (Nat.le_of_ble_eq_true rfl) (Nat.le_of_ble_eq_true rfl) (Nat.le_of_ble_eq_true rfl) rfl ?_
  try simp only [Option.toList_some, Option.toList_none, List.cons_append, List.nil_append, bI_0, n1_0, n0_0, Decidable.not_not, not_true_eq_false, not_false_eq_true, nI_add, Nat.add_zero, Nat.zero_add, Nat.reduceAdd]
  refine g_if_eq (off := 12) (tgt := 16) (by decide +kernel) (by decide) (fun c4 => ?_) (fun c4 => ?_)
  · try simp only [bI_0, Decidable.not_not] at c4
    refine g_blk [(.iconst 0, .int (nI 0))] (Nat.le_of_ble_eq_true rfl) (by decide +kernel) ?_
    refine gx_iconst ((gx_nil ?_))
    refine g_end (some (.int _)) rfl ⟨by decide +kernel, _, rfl, rfl⟩ ⟨?_, rfl⟩
    (unfold gCb; first | rw [if_neg c4] | rw [if_pos c4, rIx_nI (by omega)])
  · try simp only [bI_0, Decidable.not_not] at c4
    obtain ⟨r, hr6, rfl⟩ : ∃ r, r < 6 ∧ rt = nI r := ⟨rIx rt, (r5_lt c4).2, (r5_lt c4).1⟩
    refine g_blk [(.aload_n 0, .null)] (Nat.le_of_ble_eq_true rfl) (by decide +kernel) ?_
    refine gx_aload_n_0 ((gx_nil ?_))
    refine g_getf fX4_32 (by decide +kernel) ho rfl ?_
    refine g_blk [(.iload_n 1, .null)] (Nat.le_of_ble_eq_true rfl) (by decide +kernel) ?_
    refine gx_iload_n_1 ((gx_nil ?_))
    refine g_iaload (by decide +kernel) hba (vp_in_nI hr6 (by omega)) ?_
    rw [nI_clamp (by omega), hfb r hr6]
    refine g_blk [(.goto 4, .retAddr 17)] (Nat.le_of_ble_eq_true rfl) (by decide +kernel) ?_
    refine gx_goto ((gx_nil ?_))
    refine g_end (some (.int _)) rfl ⟨by decide +kernel, _, rfl, rfl⟩ ⟨?_, rfl⟩
    (unfold gCb; first | rw [if_neg c4] | rw [if_pos c4, rIx_nI (by omega)])
def gWb (N : Nat → Int32) (rt : Int32) (c : Nat) : Nat → Int32
  | 0 => nI 0
  | b + 1 => gWb N rt c b + rWt N rt (nI b) c
def gHv (N : Nat → Int32) (rt : Int32) (c : Nat) : Nat → Int32 × Int32
  | 0 => (-1, -1)
  | b + 1 => if (gHv N rt c b).2 < rWt N rt (nI b) c then (nI b, rWt N rt (nI b) c) else gHv N rt c b
theorem gHv_s {N : Nat → Int32} {rt : Int32} {c b : Nat} : gHv N rt c (b + 1) = if (gHv N rt c b).2 < rWt N rt (nI b) c then (nI b, rWt N rt (nI b) c) else gHv N rt c b := rfl
def gHt (N : Nat → Int32) (rt : Int32) (c B : Nat) : Bool := decide (∃ b, b < B ∧ nI 150 < rWt N rt (nI b) c)
theorem of_weightByBags {o c t la ta ca da ba pa ep : Nat} {fl fq ls ps : List Nat} {N : Nat → Int32} (H : gOx Γ de h o N c t la ta ca da ba pa ep fl fq ls ps) (hc : c ≤ 20) {B : Nat} (hB : B ≤ 3) {rt : Int32} (hr : ¬ rt = -1) (hC : gCb N rt = nI B) : pC Γ M_X4_weightByBags [.ref o, .int rt] h 4 (some (.int (gWb N rt c B))) := by
  have H0 := H
  obtain ⟨ho, HL, hlc, hls, hta, HP, hpc, hps, hep, ⟨fc, hca, hfc⟩, ⟨fd, hda, hfd⟩, ⟨fb, hba, hfb⟩⟩ := H0
  have loop : ∀ n i, i ≤ B → B < i + n → pG Γ M_X4_weightByBags 4 (some (.int (gWb N rt c B))) h 4 [some (.ref o), some (.int rt), some (.int (gWb N rt c i)), some (.int (nI i))] [] := by
    intro n
    induction n with
    | zero => intro i h1 h2; omega
    | succ n ih =>
      intro i hi hn
      refine g_blk [(.iload_n 3, .null), (.aload_n 0, .null), (.iload_n 1, .null)] (Nat.le_of_ble_eq_true rfl) (by decide +kernel) ?_
      refine gx_iload_n_3 (gx_aload_n_0 (gx_iload_n_1 ((gx_nil ?_))))
      refine g_pV kX4_179 (of_countBags H _) (by decide +kernel) rfl rfl ho rfl (Nat.le_of_ble_eq_true rfl) (Nat.le_of_ble_eq_true rfl) (Nat.le_of_ble_eq_true rfl) rfl ?_
      simp only [Option.toList_some, List.cons_append, List.nil_append]
      rw [hC]
      refine g_icmp_ge (off := 18) (tgt := 28) (by decide +kernel) (by decide) (fun c10 => ?_) (fun c10 => ?_)
      · try simp only [bI_0, Decidable.not_not] at c10
        have hic : B = i := by
          have := (nI_leI (by omega) (by omega)).mp c10
          omega
        subst hic
        refine g_blk [(.iload_n 2, .null)] (Nat.le_of_ble_eq_true rfl) (by decide +kernel) ?_
        refine gx_iload_n_2 ((gx_nil ?_))
        refine g_end (some (.int _)) rfl ⟨by decide +kernel, _, rfl, rfl⟩ ⟨?_, rfl⟩
        rfl
      · try simp only [bI_0, Decidable.not_not] at c10
        have hic : i < B := by
          rcases Nat.lt_or_ge i B with q | q
          · exact q
          · exact absurd (nI_le q (by omega)) c10
        refine g_blk [(.iload_n 2, .null), (.aload_n 0, .null), (.iload_n 1, .null), (.iload_n 3, .null)] (Nat.le_of_ble_eq_true rfl) (by decide +kernel) ?_
        refine gx_iload_n_2 (gx_aload_n_0 (gx_iload_n_1 (gx_iload_n_3 ((gx_nil ?_)))))
        refine g_pV kX4_130 (of_weightInBag H hc hr (nI_nm1 (by omega))) (by decide +kernel) rfl rfl ho rfl (Nat.le_of_ble_eq_true rfl) (Nat.le_of_ble_eq_true rfl) (Nat.le_of_ble_eq_true rfl) rfl ?_
        try simp only [Option.toList_some, Option.toList_none, List.cons_append, List.nil_append, bI_0, n1_0, n0_0, Decidable.not_not, not_true_eq_false, not_false_eq_true, nI_add, Nat.add_zero, Nat.zero_add, Nat.reduceAdd]
        refine g_blk [(.iadd, .null), (.istore_n 2, .null), (.iinc 3 1, .int (nI 1)), (.goto (-21), .retAddr 4)] (Nat.le_of_ble_eq_true rfl) (by decide +kernel) ?_
        refine gx_iadd (gx_istore_n_2 rfl (gx_iinc_3 rfl (gx_goto ((gx_nil ?_)))))
        try simp only [nI_add, Nat.add_zero, Nat.zero_add, Nat.reduceAdd]
        have e9 := ih (i + 1) (by omega) (by omega)
        rw [show gWb N rt c (i + 1) = gWb N rt c i + rWt N rt (nI i) c from rfl] at e9
        exact g_wk (by simp [gLe, nI_add]) e9
  refine pC_of (by decide) rfl (Nat.le_of_ble_eq_true rfl) [some (.ref o), some (.int rt), none, none] rfl ?_
  refine g_blk [(.iconst 0, .int (nI 0)), (.istore_n 2, .null), (.iconst 0, .int (nI 0)), (.istore_n 3, .null)] (Nat.le_of_ble_eq_true rfl) (by decide +kernel) ?_
  refine gx_iconst (gx_istore_n_2 rfl (gx_iconst (gx_istore_n_3 rfl ((gx_nil ?_)))))
  exact loop (B + 1) 0 (Nat.zero_le _) (by omega)
theorem of_heaviestBag {o c t la ta ca da ba pa ep : Nat} {fl fq ls ps : List Nat} {N : Nat → Int32} (H : gOx Γ de h o N c t la ta ca da ba pa ep fl fq ls ps) (hc : c ≤ 20) {B : Nat} (hB : B ≤ 3) {rt : Int32} (hr : ¬ rt = -1) (hC : gCb N rt = nI B) : pC Γ M_X4_heaviestBag [.ref o, .int rt] h 4 (some (.int (gHv N rt c B).1)) := by
  have H0 := H
  obtain ⟨ho, HL, hlc, hls, hta, HP, hpc, hps, hep, ⟨fc, hca, hfc⟩, ⟨fd, hda, hfd⟩, ⟨fb, hba, hfb⟩⟩ := H0
  have loop : ∀ n i, i ≤ B → B < i + n → pG Γ M_X4_heaviestBag 4 (some (.int (gHv N rt c B).1)) h 7 [some (.ref o), some (.int rt), some (.int (gHv N rt c i).1), some (.int (gHv N rt c i).2), some (.int (nI i)), none] [] := by
    intro n
    induction n with
    | zero => intro i h1 h2; omega
    | succ n ih =>
      intro i hi hn
      refine g_blk [(.iload 4, .null), (.aload_n 0, .null), (.iload_n 1, .null)] (Nat.le_of_ble_eq_true rfl) (by decide +kernel) ?_
      refine gx_iload_4 (gx_aload_n_0 (gx_iload_n_1 ((gx_nil ?_))))
      refine g_pV kX4_179 (of_countBags H _) (by decide +kernel) rfl rfl ho rfl (Nat.le_of_ble_eq_true rfl) (Nat.le_of_ble_eq_true rfl) (Nat.le_of_ble_eq_true rfl) rfl ?_
      simp only [Option.toList_some, List.cons_append, List.nil_append]
      rw [hC]
      refine g_icmp_ge (off := 30) (tgt := 44) (by decide +kernel) (by decide) (fun c14 => ?_) (fun c14 => ?_)
      · try simp only [bI_0, Decidable.not_not] at c14
        have hic : B = i := by
          have := (nI_leI (by omega) (by omega)).mp c14
          omega
        subst hic
        refine g_blk [(.iload_n 2, .null)] (Nat.le_of_ble_eq_true rfl) (by decide +kernel) ?_
        refine gx_iload_n_2 ((gx_nil ?_))
        refine g_end (some (.int _)) rfl ⟨by decide +kernel, _, rfl, rfl⟩ ⟨?_, rfl⟩
        rfl
      · try simp only [bI_0, Decidable.not_not] at c14
        have hic : i < B := by
          rcases Nat.lt_or_ge i B with q | q
          · exact q
          · exact absurd (nI_le q (by omega)) c14
        refine g_blk [(.aload_n 0, .null), (.iload_n 1, .null), (.iload 4, .null)] (Nat.le_of_ble_eq_true rfl) (by decide +kernel) ?_
        refine gx_aload_n_0 (gx_iload_n_1 (gx_iload_4 ((gx_nil ?_))))
        refine g_pV kX4_130 (of_weightInBag H hc hr (nI_nm1 (by omega))) (by decide +kernel) rfl rfl ho rfl (Nat.le_of_ble_eq_true rfl) (Nat.le_of_ble_eq_true rfl) (Nat.le_of_ble_eq_true rfl) rfl ?_
        try simp only [Option.toList_some, Option.toList_none, List.cons_append, List.nil_append, bI_0, n1_0, n0_0, Decidable.not_not, not_true_eq_false, not_false_eq_true, nI_add, Nat.add_zero, Nat.zero_add, Nat.reduceAdd]
        refine g_blk [(.istore 5, .null), (.iload 5, .null), (.iload_n 3, .null)] (Nat.le_of_ble_eq_true rfl) (by decide +kernel) ?_
        refine gx_istore_5 rfl (gx_iload_5 (gx_iload_n_3 ((gx_nil ?_))))
        refine g_icmp_le (off := 9) (tgt := 38) (by decide +kernel) (by decide) (fun c29 => ?_) (fun c29 => ?_)
        · try simp only [bI_0, Decidable.not_not] at c29
          refine g_blk [(.iinc 4 1, .int (nI 1)), (.goto (-34), .retAddr 7)] (Nat.le_of_ble_eq_true rfl) (by decide +kernel) ?_
          refine gx_iinc_4 rfl (gx_goto ((gx_nil ?_)))
          try simp only [nI_add, Nat.add_zero, Nat.zero_add, Nat.reduceAdd]
          have e9 := ih (i + 1) (by omega) (by omega)
          rw [gHv_s, if_neg (Int32.not_lt.mpr c29)] at e9
          exact g_wk (by simp [gLe, nI_add]) e9
        · try simp only [bI_0, Decidable.not_not] at c29
          refine g_blk [(.iload 4, .null), (.istore_n 2, .null), (.iload 5, .null), (.istore_n 3, .null), (.iinc 4 1, .int (nI 1)), (.goto (-34), .retAddr 7)] (Nat.le_of_ble_eq_true rfl) (by decide +kernel) ?_
          refine gx_iload_4 (gx_istore_n_2 rfl (gx_iload_5 (gx_istore_n_3 rfl (gx_iinc_4 rfl (gx_goto ((gx_nil ?_)))))))
          try simp only [nI_add, Nat.add_zero, Nat.zero_add, Nat.reduceAdd]
          have e9 := ih (i + 1) (by omega) (by omega)
          rw [gHv_s, if_pos (Int32.not_le.mp c29)] at e9
          exact g_wk (by simp [gLe, nI_add]) e9
  refine pC_of (by decide) rfl (Nat.le_of_ble_eq_true rfl) [some (.ref o), some (.int rt), none, none, none, none] rfl ?_
  refine g_blk [(.iconst (-1), .int (-1)), (.istore_n 2, .null), (.iconst (-1), .int (-1)), (.istore_n 3, .null), (.iconst 0, .int (nI 0)), (.istore 4, .null)] (Nat.le_of_ble_eq_true rfl) (by decide +kernel) ?_
  refine gx_iconst (gx_istore_n_2 rfl (gx_iconst (gx_istore_n_3 rfl (gx_iconst (gx_istore_4 rfl ((gx_nil ?_)))))))
  exact loop (B + 1) 0 (Nat.zero_le _) (by omega)
theorem of_hasTooHeavy {o c t la ta ca da ba pa ep : Nat} {fl fq ls ps : List Nat} {N : Nat → Int32} (H : gOx Γ de h o N c t la ta ca da ba pa ep fl fq ls ps) (hc : c ≤ 20) {B : Nat} (hB : B ≤ 3) {rt : Int32} (hr : ¬ rt = -1) (hC : gCb N rt = nI B) : pC Γ M_X4_hasTooHeavyBag [.ref o, .int rt] h 4 (some (.int (bI (gHt N rt c B = true)))) := by
  have H0 := H
  obtain ⟨ho, HL, hlc, hls, hta, HP, hpc, hps, hep, ⟨fc, hca, hfc⟩, ⟨fd, hda, hfd⟩, ⟨fb, hba, hfb⟩⟩ := H0
  have loop : ∀ n i, i ≤ B → B < i + n → (∀ b, b < i → ¬ nI 150 < rWt N rt (nI b) c) → pG Γ M_X4_hasTooHeavyBag 4 (some (.int (bI (gHt N rt c B = true)))) h 2 [some (.ref o), some (.int rt), some (.int (nI i))] [] := by
    intro n
    induction n with
    | zero => intro i h1 h2; omega
    | succ n ih =>
      intro i hi hn hno
      refine g_blk [(.iload_n 2, .null), (.aload_n 0, .null), (.iload_n 1, .null)] (Nat.le_of_ble_eq_true rfl) (by decide +kernel) ?_
      refine gx_iload_n_2 (gx_aload_n_0 (gx_iload_n_1 ((gx_nil ?_))))
      refine g_pV kX4_179 (of_countBags H _) (by decide +kernel) rfl rfl ho rfl (Nat.le_of_ble_eq_true rfl) (Nat.le_of_ble_eq_true rfl) (Nat.le_of_ble_eq_true rfl) rfl ?_
      simp only [Option.toList_some, List.cons_append, List.nil_append]
      rw [hC]
      refine g_icmp_ge (off := 23) (tgt := 31) (by decide +kernel) (by decide) (fun c8 => ?_) (fun c8 => ?_)
      · try simp only [bI_0, Decidable.not_not] at c8
        have hic : B = i := by
          have := (nI_leI (by omega) (by omega)).mp c8
          omega
        subst hic
        refine g_blk [(.iconst 0, .int (nI 0))] (Nat.le_of_ble_eq_true rfl) (by decide +kernel) ?_
        refine gx_iconst ((gx_nil ?_))
        refine g_end (some (.int _)) rfl ⟨by decide +kernel, _, rfl, by first | rfl | exact bI_nar _⟩ ⟨?_, rfl⟩
        first | rw [bI_t (p := gHt N rt c B = true) (decide_eq_true ⟨i, hic, Int32.not_le.mp c20⟩)] | rw [bI_f (p := gHt N rt c B = true) (fun z => by obtain ⟨b, hb, hz⟩ := of_decide_eq_true z; exact hno b hb hz)]
      · try simp only [bI_0, Decidable.not_not] at c8
        have hic : i < B := by
          rcases Nat.lt_or_ge i B with q | q
          · exact q
          · exact absurd (nI_le q (by omega)) c8
        refine g_blk [(.aload_n 0, .null), (.iload_n 1, .null), (.iload_n 2, .null)] (Nat.le_of_ble_eq_true rfl) (by decide +kernel) ?_
        refine gx_aload_n_0 (gx_iload_n_1 (gx_iload_n_2 ((gx_nil ?_))))
        refine g_pV kX4_130 (of_weightInBag H hc hr (nI_nm1 (by omega))) (by decide +kernel) rfl rfl ho rfl (Nat.le_of_ble_eq_true rfl) (Nat.le_of_ble_eq_true rfl) (Nat.le_of_ble_eq_true rfl) rfl ?_
        try simp only [Option.toList_some, Option.toList_none, List.cons_append, List.nil_append, bI_0, n1_0, n0_0, Decidable.not_not, not_true_eq_false, not_false_eq_true, nI_add, Nat.add_zero, Nat.zero_add, Nat.reduceAdd]
        refine g_blk [(.sipush 150, .int (nI 150))] (Nat.le_of_ble_eq_true rfl) (by decide +kernel) ?_
        refine gx_sipush ((gx_nil ?_))
        refine g_icmp_le (off := 5) (tgt := 25) (by decide +kernel) (by decide) (fun c20 => ?_) (fun c20 => ?_)
        · try simp only [bI_0, Decidable.not_not] at c20
          refine g_blk [(.iinc 2 1, .int (nI 1)), (.goto (-26), .retAddr 2)] (Nat.le_of_ble_eq_true rfl) (by decide +kernel) ?_
          refine gx_iinc_2 rfl (gx_goto ((gx_nil ?_)))
          try simp only [nI_add, Nat.add_zero, Nat.zero_add, Nat.reduceAdd]
          exact ih (i + 1) (by omega) (by omega) (fun b hb => by
            rcases Nat.lt_or_ge b i with q | q
            · exact hno b q
            · obtain rfl : b = i := by omega
              exact Int32.not_lt.mpr c20)
        · try simp only [bI_0, Decidable.not_not] at c20
          refine g_blk [(.iconst 1, .int (nI 1))] (Nat.le_of_ble_eq_true rfl) (by decide +kernel) ?_
          refine gx_iconst ((gx_nil ?_))
          refine g_end (some (.int _)) rfl ⟨by decide +kernel, _, rfl, by first | rfl | exact bI_nar _⟩ ⟨?_, rfl⟩
          first | rw [bI_t (p := gHt N rt c B = true) (decide_eq_true ⟨i, hic, Int32.not_le.mp c20⟩)] | rw [bI_f (p := gHt N rt c B = true) (fun z => by obtain ⟨b, hb, hz⟩ := of_decide_eq_true z; exact hno b hb hz)]
  refine pC_of (by decide) rfl (Nat.le_of_ble_eq_true rfl) [some (.ref o), some (.int rt), none] rfl ?_
  refine g_blk [(.iconst 0, .int (nI 0)), (.istore_n 2, .null)] (Nat.le_of_ble_eq_true rfl) (by decide +kernel) ?_
  refine gx_iconst (gx_istore_n_2 rfl ((gx_nil ?_)))
  exact loop (B + 1) 0 (Nat.zero_le _) (by omega) (fun b hb => absurd hb (Nat.not_lt_zero _))
end GOf2
