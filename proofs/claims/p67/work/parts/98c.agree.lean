/-! BOTH WAYS TO A ROUTE AGREE -/
section GAg
variable {Γ : gE} {de : Nat} {h : gHp}
theorem of_routesAgree {o c t la ta ca da ba pa ep : Nat} {fl fq ls ps : List Nat} {N : Nat → Int32} (H : gOx Γ de h o N c t la ta ca da ba pa ep fl fq ls ps) (hc : c ≤ 20) (ht : t ≤ 12) (hv : rPv N t) (hw : rLv1 N c) (hu : rUp N t) {tt ch ro k : Nat} {C : Nat → Nat} {R : Nat → Int32} (HT : gTR Γ h tt ch ro C R k) (hI : tI C R k (lkN N t)) : pC Γ M_X4_routesAgreeWith [.ref o, .ref tt] h 7 (some (.int (nI 1))) := by
  have H0 := H
  obtain ⟨ho, HL, hlc, hls, hta, HP, hpc, hps, hep, ⟨fc, hca, hfc⟩, ⟨fd, hda, hfd⟩, ⟨fb, hba, hfb⟩⟩ := H0
  have loop : ∀ n i, i ≤ c → c < i + n → pG Γ M_X4_routesAgreeWith 7 (some (.int (nI 1))) h 2 [some (.ref o), some (.ref tt), some (.int (nI i)), none] [] := by
    intro n
    induction n with
    | zero => intro i h1 h2; omega
    | succ n ih =>
      intro i hi hn
      refine g_blk [(.iload_n 2, .null), (.aload_n 0, .null)] (Nat.le_of_ble_eq_true rfl) (by decide +kernel) ?_
      refine gx_iload_n_2 (gx_aload_n_0 ((gx_nil ?_)))
      refine g_getf fX4_12 (by decide +kernel) ho rfl ?_
      refine g_pV kX4_55 (al_size HL) (by decide +kernel) rfl rfl (al_cell HL) rfl (Nat.le_of_ble_eq_true rfl) (Nat.le_of_ble_eq_true rfl) (Nat.le_of_ble_eq_true rfl) rfl ?_
      simp only [Option.toList_some, List.cons_append, List.nil_append]
      rw [hlc]
      refine g_icmp_ge (off := 39) (tgt := 49) (by decide +kernel) (by decide) (fun c10 => ?_) (fun c10 => ?_)
      · try simp only [bI_0, Decidable.not_not] at c10
        have hic : c = i := by
          have := (nI_leI (by omega) (by omega)).mp c10
          omega
        subst hic
        refine g_blk [(.iconst 1, .int (nI 1))] (Nat.le_of_ble_eq_true rfl) (by decide +kernel) ?_
        refine gx_iconst ((gx_nil ?_))
        refine g_end (some (.int _)) rfl ⟨by decide +kernel, _, rfl, by first | rfl | exact bI_nar _⟩ ⟨?_, rfl⟩
        rfl
      · try simp only [bI_0, Decidable.not_not] at c10
        have hic : i < c := by
          rcases Nat.lt_or_ge i c with q | q
          · exact q
          · exact absurd (nI_le q (by omega)) c10
        obtain ⟨a9, hx9⟩ : ∃ z, ls[i]? = some z := ⟨_, List.getElem?_eq_getElem (by omega)⟩
        have hl9 := hls i a9 hx9
        obtain ⟨m9, cd9, w9, pr9, q9, em9, hm9, ec9, hcd9, -⟩ := hw i hic
        refine g_blk [(.aload_n 0, .null)] (Nat.le_of_ble_eq_true rfl) (by decide +kernel) ?_
        refine gx_aload_n_0 ((gx_nil ?_))
        refine g_getf fX4_12 (by decide +kernel) ho rfl ?_
        refine g_blk [(.iload_n 2, .null)] (Nat.le_of_ble_eq_true rfl) (by decide +kernel) ?_
        refine gx_iload_n_2 ((gx_nil ?_))
        refine g_pV kX4_59 (al_get HL hx9) (by decide +kernel) rfl rfl (al_cell HL) rfl (Nat.le_of_ble_eq_true rfl) (Nat.le_of_ble_eq_true rfl) (Nat.le_of_ble_eq_true rfl) rfl ?_
        try simp only [Option.toList_some, Option.toList_none, List.cons_append, List.nil_append, bI_0, n1_0, n0_0, Decidable.not_not, not_true_eq_false, not_false_eq_true, nI_add, Nat.add_zero, Nat.zero_add, Nat.reduceAdd]
        refine g_castO hl9 rfl rfl (clX4_63) (by decide +kernel) ?_
        refine g_blk [(.astore_n 3, .null), (.aload_n 0, .null), (.aload_n 3, .null)] (Nat.le_of_ble_eq_true rfl) (by decide +kernel) ?_
        refine gx_astore_n_3 rfl (gx_aload_n_0 (gx_aload_n_3 ((gx_nil ?_))))
        refine g_pV kX4_116 (of_routeByCode H hc ht hv hw hx9) (by decide +kernel) rfl rfl ho rfl (Nat.le_of_ble_eq_true rfl) (Nat.le_of_ble_eq_true rfl) (Nat.le_of_ble_eq_true rfl) rfl ?_
        simp only [Option.toList_some, List.cons_append, List.nil_append]
        refine g_blk [(.aload_n 1, .null), (.aload_n 3, .null)] (Nat.le_of_ble_eq_true rfl) (by decide +kernel) ?_
        refine gx_aload_n_1 (gx_aload_n_3 ((gx_nil ?_)))
        refine g_getf fX4_161 (by decide +kernel) hl9 rfl ?_
        rw [ec9]
        refine g_pV kX4_189 (tr_route HT hI hcd9) (by decide +kernel) rfl rfl HT.1 rfl (Nat.le_of_ble_eq_true rfl) (Nat.le_of_ble_eq_true rfl) (Nat.le_of_ble_eq_true rfl) rfl ?_
        simp only [Option.toList_some, List.cons_append, List.nil_append]
        have e9 : rLR N i t = bst (lkN N t) cd9 4 := by unfold rLR; rw [ec9]; exact rRoute_bst ht hv hu hcd9
        rw [e9]
        refine g_icmp_eq (off := 5) (tgt := 43) (by decide +kernel) (by decide) (fun c38 => ?_) (fun c38 => ?_)
        · try simp only [bI_0, Decidable.not_not] at c38
          refine g_blk [(.iinc 2 1, .int (nI 1)), (.goto (-44), .retAddr 2)] (Nat.le_of_ble_eq_true rfl) (by decide +kernel) ?_
          refine gx_iinc_2 rfl (gx_goto ((gx_nil ?_)))
          try simp only [nI_add, Nat.add_zero, Nat.zero_add, Nat.reduceAdd]
          exact g_weak (by simp [gLe]) (Nat.le_refl _) (Nat.le_refl _) (ih (i + 1) (by omega) (by omega))
        · try simp only [bI_0, Decidable.not_not] at c38
          exact absurd trivial c38
  refine pC_of (by decide) rfl (Nat.le_of_ble_eq_true rfl) [some (.ref o), some (.ref tt), none, none] rfl ?_
  refine g_blk [(.iconst 0, .int (nI 0)), (.istore_n 2, .null)] (Nat.le_of_ble_eq_true rfl) (by decide +kernel) ?_
  refine gx_iconst (gx_istore_n_2 rfl ((gx_nil ?_)))
  exact loop (c + 1) 0 (Nat.zero_le _) (by omega)
end GAg
