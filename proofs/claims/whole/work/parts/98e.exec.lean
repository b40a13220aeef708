/-! A COMMAND ACTS ON AN OFFICE -/
section GEx
variable {Γ : gE} {de : Nat} {h : gHp}
theorem ccd3 {a b c α β γ : Int32} (h : ¬ rT a b c = 0) (h1 : α < 0) (h2 : β < 0) (h3 : γ < 0) : ccd α β γ (rT a b c) < 0 := by
  unfold ccd
  split
  · exact h1
  · split
    · exact h2
    · exact h3
theorem ccd2 {a b α β γ : Int32} (h : ¬ rT a b (nI 1) = 0) (h1 : α < 0) (h2 : β < 0) : ccd α β γ (rT a b (nI 1)) < 0 := by
  by_cases ha : a = 0
  · rw [show rT a b (nI 1) = nI 1 from if_pos ha]
    exact h1
  · by_cases hb : b = 0
    · rw [show rT a b (nI 1) = nI 2 from by unfold rT; rw [if_neg ha, if_pos hb]]
      exact h2
    · exact absurd ((rT_iff a b (nI 1)).mpr ⟨ha, hb, by decide⟩) h
theorem ccd1 {a α β γ : Int32} (h : ¬ rT a (nI 1) (nI 1) = 0) (h1 : α < 0) : ccd α β γ (rT a (nI 1) (nI 1)) < 0 := by
  by_cases ha : a = 0
  · rw [show rT a (nI 1) (nI 1) = nI 1 from if_pos ha]
    exact h1
  · exact absurd ((rT_iff a (nI 1) (nI 1)).mpr ⟨ha, by decide, by decide⟩) h
/-- what a command leaves -/
def ceZ (Γ : gE) (de : Nat) (h : gHp) (o la ta ca da ba pa ep : Nat) (fp : List Nat) (nx : Nat) (X : trT) (v : Option Value) (h' : gHp) : Prop := (X.1 = 0 ∧ v = some (.int X.2.1) ∧ ∃ c' t', trG nx c' t' X ∧ gPost Γ de h o la ta ca da ba pa ep fp X.2.2 c' t' h') ∨ (¬ X.1 = 0 ∧ (∃ z, v = some (.int z) ∧ z < 0) ∧ h' = h)
theorem ce_fin {o la ta ca da ba pa ep nx c' t' : Nat} {fp : List Nat} {X : trT} {code : Int32 → Int32} {v : Option Value} {h' : gHp} (hz : cmdZ Γ de h o la ta ca da ba pa ep fp X.1 X.2.1 code X.2.2 c' t' v h') (hg : X.1 = 0 → trG nx c' t' X) (hc : ¬ X.1 = 0 → code X.1 < 0) : ceZ Γ de h o la ta ca da ba pa ep fp nx X v h' := by
  rcases hz with ⟨z1, z2, z3⟩ | ⟨z1, z2, z3⟩
  · exact Or.inl ⟨z1, z2, c', t', hg z1, z3⟩
  · exact Or.inr ⟨z1, ⟨_, z2, hc z1⟩, z3⟩
theorem ce_exec {o c t la ta ca da ba pa ep : Nat} {fl fq ls ps : List Nat} {N : Nat → Int32} {a9 nx sm mi : Nat} {ks : Nat → Nat} {x : pcT} (hpl : gPall Γ de mi) (hsw : gPsw Γ sm ks) (hx : pcK x) (hcd : gCd ks h x a9) (H : gOx Γ de h o N c t la ta ca da ba pa ep fl fq ls ps) (nd : (gFp o ta ca da ba fl fq ls).Nodup) (I : rIV N c t nx) (hnx : nx < 100000) : gC Γ M_X1_executeOn [.ref a9, .ref o] h 11 41 2563 (ceZ Γ de h o la ta ca da ba pa ep (gFp o ta ca da ba fl fq ls) nx (dT N c t x)) (fun _ _ => False) := by
  have H0 := H
  obtain ⟨ho, HL, hlc, hls, hta, HP, hpc, hps, hep, ⟨fc, hca, hfc⟩, ⟨fd, hda, hfd⟩, ⟨fb, hba, hfb⟩⟩ := H0
  have hc := I.hc
  have ht := I.ht
  have h3 := I.h3
  have h4 := I.h4
  have hv := I.pv
  have hw := I.lv (Nat.le_of_lt hnx)
  have hOK := I.OK
  have hu := I.uq
  have hup := I.up
  obtain ⟨w, a, b, l⟩ := x
  obtain ⟨hw10, hl4, -, -⟩ := hx
  have hca : h a9 = some (gJ 5 [.ref (ks w), .int (nI a), .int (nI l), .int (nI b)]) := hcd
  have hkw := hsw.2.2 w hw10
  refine gC_of (by decide) rfl (Nat.le_of_ble_eq_true rfl) [some (.ref a9), some (.ref o)] rfl ?_
  have : w = 0 ∨ w = 1 ∨ w = 2 ∨ w = 3 ∨ w = 4 ∨ w = 5 ∨ w = 6 ∨ w = 7 ∨ w = 8 ∨ w = 9 := by
    have : w < 10 := hw10
    omega
  rcases this with rfl | rfl | rfl | rfl | rfl | rfl | rfl | rfl | rfl | rfl
  · refine g_gets hsw.1 wSW (Or.inl rfl) (by decide +kernel) ?_
    refine g_blk [(.aload_n 0, .null)] (Nat.le_of_ble_eq_true rfl) (by decide +kernel) ?_
    refine gx_aload_n_0 ((gx_nil ?_))
    refine g_getf fX1_9 (by decide +kernel) hca rfl ?_
    refine g_callUP (rc' := 41) (rs' := 2563) kX1_31 (gC_pure (en_ordinal hkw.2)) (by decide +kernel) rfl rfl hkw.1 rfl (Nat.le_of_ble_eq_true rfl) (Nat.le_of_ble_eq_true rfl) (Nat.le_of_ble_eq_true rfl) (Nat.le_refl _) (Nat.le_refl _) rfl (fun _ _ z => z.elim) (fun v9 h9 hz => ?_)
    obtain ⟨rfl, e9⟩ := hz
    rw [e9]
    clear e9 h9
    simp only [Option.toList_some, List.cons_append, List.nil_append]
    refine g_ialoadP hsw.2.1 (vp_in_nI (by omega) (by omega)) (by decide +kernel) ?_
    rw [nI_clamp (by omega)]
    refine g_tableIn (dflt := 197) (lo := 1) (hi := 10) (offs := #[53, 67, 81, 101, 117, 140, 153, 162, 175, 188]) (len := 53) (off := 53) (tgt := 64) (by decide +kernel) (by decide) (by decide) (by decide) (by decide) ?_
    refine g_blk [(.aload_n 1, .null), (.aload_n 0, .null)] (Nat.le_of_ble_eq_true rfl) (by decide +kernel) ?_
    refine gx_aload_n_1 (gx_aload_n_0 ((gx_nil ?_)))
    refine g_getf fX1_15 (by decide +kernel) hca rfl ?_
    refine g_blk [(.aload_n 0, .null)] (Nat.le_of_ble_eq_true rfl) (by decide +kernel) ?_
    refine gx_aload_n_0 ((gx_nil ?_))
    refine g_getf fX1_22 (by decide +kernel) hca rfl ?_
    refine g_blk [(.iconst 1, .int (nI 1))] (Nat.le_of_ble_eq_true rfl) (by decide +kernel) ?_
    refine gx_iconst ((gx_nil ?_))
    refine g_callV (rc' := 0) (rs' := 0) kX1_37 (of_takeIn hpl H nd hc ht h3 (nI a) (nI b) (p := 1) (by decide)) (by decide +kernel) rfl rfl ho rfl (Nat.le_of_ble_eq_true rfl) (Nat.le_of_ble_eq_true rfl) (Nat.le_of_ble_eq_true rfl) (by omega) (by omega) rfl (fun _ _ z => z.elim) (fun v9 h5 hz => ?_)
    obtain ⟨z9, hv9⟩ : ∃ z, v9 = some (.int z) := by rcases hz with ⟨-, y, -⟩ | ⟨-, y, -⟩ <;> exact ⟨_, y⟩
    subst hv9
    simp only [Option.toList_some, Option.toList_none, List.cons_append, List.nil_append]
    refine g_end (some (.int _)) rfl ⟨by decide +kernel, _, rfl, rfl⟩ ?_
    exact ce_fin (X := tAcc N (nI a) (nI b) (nI 1) c) hz (fun z => tAcc_G I hnx (pr := 1) (by decide) z) (fun z => ccd2 z (by decide) (by decide))
  · refine g_gets hsw.1 wSW (Or.inl rfl) (by decide +kernel) ?_
    refine g_blk [(.aload_n 0, .null)] (Nat.le_of_ble_eq_true rfl) (by decide +kernel) ?_
    refine gx_aload_n_0 ((gx_nil ?_))
    refine g_getf fX1_9 (by decide +kernel) hca rfl ?_
    refine g_callUP (rc' := 41) (rs' := 2563) kX1_31 (gC_pure (en_ordinal hkw.2)) (by decide +kernel) rfl rfl hkw.1 rfl (Nat.le_of_ble_eq_true rfl) (Nat.le_of_ble_eq_true rfl) (Nat.le_of_ble_eq_true rfl) (Nat.le_refl _) (Nat.le_refl _) rfl (fun _ _ z => z.elim) (fun v9 h9 hz => ?_)
    obtain ⟨rfl, e9⟩ := hz
    rw [e9]
    clear e9 h9
    simp only [Option.toList_some, List.cons_append, List.nil_append]
    refine g_ialoadP hsw.2.1 (vp_in_nI (by omega) (by omega)) (by decide +kernel) ?_
    rw [nI_clamp (by omega)]
    refine g_tableIn (dflt := 197) (lo := 1) (hi := 10) (offs := #[53, 67, 81, 101, 117, 140, 153, 162, 175, 188]) (len := 53) (off := 67) (tgt := 78) (by decide +kernel) (by decide) (by decide) (by decide) (by decide) ?_
    refine g_blk [(.aload_n 1, .null), (.aload_n 0, .null)] (Nat.le_of_ble_eq_true rfl) (by decide +kernel) ?_
    refine gx_aload_n_1 (gx_aload_n_0 ((gx_nil ?_)))
    refine g_getf fX1_15 (by decide +kernel) hca rfl ?_
    refine g_blk [(.aload_n 0, .null)] (Nat.le_of_ble_eq_true rfl) (by decide +kernel) ?_
    refine gx_aload_n_0 ((gx_nil ?_))
    refine g_getf fX1_22 (by decide +kernel) hca rfl ?_
    refine g_blk [(.iconst 0, .int (nI 0))] (Nat.le_of_ble_eq_true rfl) (by decide +kernel) ?_
    refine gx_iconst ((gx_nil ?_))
    refine g_callV (rc' := 0) (rs' := 0) kX1_37 (of_takeIn hpl H nd hc ht h3 (nI a) (nI b) (p := 0) (by decide)) (by decide +kernel) rfl rfl ho rfl (Nat.le_of_ble_eq_true rfl) (Nat.le_of_ble_eq_true rfl) (Nat.le_of_ble_eq_true rfl) (by omega) (by omega) rfl (fun _ _ z => z.elim) (fun v9 h5 hz => ?_)
    obtain ⟨z9, hv9⟩ : ∃ z, v9 = some (.int z) := by rcases hz with ⟨-, y, -⟩ | ⟨-, y, -⟩ <;> exact ⟨_, y⟩
    subst hv9
    simp only [Option.toList_some, Option.toList_none, List.cons_append, List.nil_append]
    refine g_end (some (.int _)) rfl ⟨by decide +kernel, _, rfl, rfl⟩ ?_
    exact ce_fin (X := tAcc N (nI a) (nI b) (nI 0) c) hz (fun z => tAcc_G I hnx (pr := 0) (by decide) z) (fun z => ccd2 z (by decide) (by decide))
  · refine g_gets hsw.1 wSW (Or.inl rfl) (by decide +kernel) ?_
    refine g_blk [(.aload_n 0, .null)] (Nat.le_of_ble_eq_true rfl) (by decide +kernel) ?_
    refine gx_aload_n_0 ((gx_nil ?_))
    refine g_getf fX1_9 (by decide +kernel) hca rfl ?_
    refine g_callUP (rc' := 41) (rs' := 2563) kX1_31 (gC_pure (en_ordinal hkw.2)) (by decide +kernel) rfl rfl hkw.1 rfl (Nat.le_of_ble_eq_true rfl) (Nat.le_of_ble_eq_true rfl) (Nat.le_of_ble_eq_true rfl) (Nat.le_refl _) (Nat.le_refl _) rfl (fun _ _ z => z.elim) (fun v9 h9 hz => ?_)
    obtain ⟨rfl, e9⟩ := hz
    rw [e9]
    clear e9 h9
    simp only [Option.toList_some, List.cons_append, List.nil_append]
    refine g_ialoadP hsw.2.1 (vp_in_nI (by omega) (by omega)) (by decide +kernel) ?_
    rw [nI_clamp (by omega)]
    refine g_tableIn (dflt := 197) (lo := 1) (hi := 10) (offs := #[53, 67, 81, 101, 117, 140, 153, 162, 175, 188]) (len := 53) (off := 81) (tgt := 92) (by decide +kernel) (by decide) (by decide) (by decide) (by decide) ?_
    refine g_blk [(.aload_n 1, .null)] (Nat.le_of_ble_eq_true rfl) (by decide +kernel) ?_
    refine gx_aload_n_1 ((gx_nil ?_))
    refine g_getf fX1_43 (by decide +kernel) ho rfl ?_
    refine g_blk [(.aload_n 0, .null)] (Nat.le_of_ble_eq_true rfl) (by decide +kernel) ?_
    refine gx_aload_n_0 ((gx_nil ?_))
    refine g_getf fX1_15 (by decide +kernel) hca rfl ?_
    refine g_blk [(.aload_n 0, .null)] (Nat.le_of_ble_eq_true rfl) (by decide +kernel) ?_
    refine gx_aload_n_0 ((gx_nil ?_))
    refine g_getf fX1_19 (by decide +kernel) hca rfl ?_
    refine g_blk [(.aload_n 0, .null)] (Nat.le_of_ble_eq_true rfl) (by decide +kernel) ?_
    refine gx_aload_n_0 ((gx_nil ?_))
    refine g_getf fX1_22 (by decide +kernel) hca rfl ?_
    refine g_callV (rc' := 0) (rs' := 0) kX1_47 (of_enter hpl H nd ht h4 hup (nI a) (nI l) (nI b)) (by decide +kernel) rfl rfl hta rfl (Nat.le_of_ble_eq_true rfl) (Nat.le_of_ble_eq_true rfl) (Nat.le_of_ble_eq_true rfl) (by omega) (by omega) rfl (fun _ _ z => z.elim) (fun v9 h5 hz => ?_)
    obtain ⟨z9, hv9⟩ : ∃ z, v9 = some (.int z) := by rcases hz with ⟨-, y, -⟩ | ⟨-, y, -⟩ <;> exact ⟨_, y⟩
    subst hv9
    simp only [Option.toList_some, Option.toList_none, List.cons_append, List.nil_append]
    refine g_end (some (.int _)) rfl ⟨by decide +kernel, _, rfl, rfl⟩ ?_
    exact ce_fin (X := tAdd N (nI a) (nI l) (nI b) t) hz (fun z => tAdd_G I z) (fun z => ccd3 z (by decide) (by decide) (by decide))
  · refine g_gets hsw.1 wSW (Or.inl rfl) (by decide +kernel) ?_
    refine g_blk [(.aload_n 0, .null)] (Nat.le_of_ble_eq_true rfl) (by decide +kernel) ?_
    refine gx_aload_n_0 ((gx_nil ?_))
    refine g_getf fX1_9 (by decide +kernel) hca rfl ?_
    refine g_callUP (rc' := 41) (rs' := 2563) kX1_31 (gC_pure (en_ordinal hkw.2)) (by decide +kernel) rfl rfl hkw.1 rfl (Nat.le_of_ble_eq_true rfl) (Nat.le_of_ble_eq_true rfl) (Nat.le_of_ble_eq_true rfl) (Nat.le_refl _) (Nat.le_refl _) rfl (fun _ _ z => z.elim) (fun v9 h9 hz => ?_)
    obtain ⟨rfl, e9⟩ := hz
    rw [e9]
    clear e9 h9
    simp only [Option.toList_some, List.cons_append, List.nil_append]
    refine g_ialoadP hsw.2.1 (vp_in_nI (by omega) (by omega)) (by decide +kernel) ?_
    rw [nI_clamp (by omega)]
    refine g_tableIn (dflt := 197) (lo := 1) (hi := 10) (offs := #[53, 67, 81, 101, 117, 140, 153, 162, 175, 188]) (len := 53) (off := 101) (tgt := 112) (by decide +kernel) (by decide) (by decide) (by decide) (by decide) ?_
    refine g_blk [(.aload_n 1, .null)] (Nat.le_of_ble_eq_true rfl) (by decide +kernel) ?_
    refine gx_aload_n_1 ((gx_nil ?_))
    refine g_getf fX1_43 (by decide +kernel) ho rfl ?_
    refine g_blk [(.aload_n 0, .null)] (Nat.le_of_ble_eq_true rfl) (by decide +kernel) ?_
    refine gx_aload_n_0 ((gx_nil ?_))
    refine g_getf fX1_15 (by decide +kernel) hca rfl ?_
    refine g_blk [(.aload_n 0, .null)] (Nat.le_of_ble_eq_true rfl) (by decide +kernel) ?_
    refine gx_aload_n_0 ((gx_nil ?_))
    refine g_getf fX1_19 (by decide +kernel) hca rfl ?_
    refine g_callV (rc' := 0) (rs' := 0) kX1_53 (of_strike H nd ht hup (nI a) (nI l)) (by decide +kernel) rfl rfl hta rfl (Nat.le_of_ble_eq_true rfl) (Nat.le_of_ble_eq_true rfl) (Nat.le_of_ble_eq_true rfl) (by omega) (by omega) rfl (fun _ _ z => z.elim) (fun v9 h5 hz => ?_)
    obtain ⟨z9, hv9⟩ : ∃ z, v9 = some (.int z) := by rcases hz with ⟨-, y, -⟩ | ⟨-, y, -⟩ <;> exact ⟨_, y⟩
    subst hv9
    simp only [Option.toList_some, Option.toList_none, List.cons_append, List.nil_append]
    refine g_end (some (.int _)) rfl ⟨by decide +kernel, _, rfl, rfl⟩ ?_
    exact ce_fin (X := tRm N (nI a) (nI l) t) hz (fun z => tRm_G I z) (fun z => ccd2 z (by decide) (by decide))
  · by_cases hl : l = 0
    · refine g_gets hsw.1 wSW (Or.inl rfl) (by decide +kernel) ?_
      refine g_blk [(.aload_n 0, .null)] (Nat.le_of_ble_eq_true rfl) (by decide +kernel) ?_
      refine gx_aload_n_0 ((gx_nil ?_))
      refine g_getf fX1_9 (by decide +kernel) hca rfl ?_
      refine g_callUP (rc' := 41) (rs' := 2563) kX1_31 (gC_pure (en_ordinal hkw.2)) (by decide +kernel) rfl rfl hkw.1 rfl (Nat.le_of_ble_eq_true rfl) (Nat.le_of_ble_eq_true rfl) (Nat.le_of_ble_eq_true rfl) (Nat.le_refl _) (Nat.le_refl _) rfl (fun _ _ z => z.elim) (fun v9 h9 hz => ?_)
      obtain ⟨rfl, e9⟩ := hz
      rw [e9]
      clear e9 h9
      simp only [Option.toList_some, List.cons_append, List.nil_append]
      refine g_ialoadP hsw.2.1 (vp_in_nI (by omega) (by omega)) (by decide +kernel) ?_
      rw [nI_clamp (by omega)]
      refine g_tableIn (dflt := 197) (lo := 1) (hi := 10) (offs := #[53, 67, 81, 101, 117, 140, 153, 162, 175, 188]) (len := 53) (off := 117) (tgt := 128) (by decide +kernel) (by decide) (by decide) (by decide) (by decide) ?_
      refine g_blk [(.aload_n 0, .null)] (Nat.le_of_ble_eq_true rfl) (by decide +kernel) ?_
      refine gx_aload_n_0 ((gx_nil ?_))
      refine g_getf fX1_19 (by decide +kernel) hca rfl ?_
      refine g_if_ne (off := 10) (tgt := 142) (by decide +kernel) (by decide) (fun c132 => ?_) (fun c132 => ?_)
      · try simp only [bI_0, Decidable.not_not] at c132
        exact absurd (show nI l = 0 from by rw [hl]; decide) c132
      · try simp only [bI_0, Decidable.not_not] at c132
        refine g_blk [(.aload_n 1, .null)] (Nat.le_of_ble_eq_true rfl) (by decide +kernel) ?_
        refine gx_aload_n_1 ((gx_nil ?_))
        refine g_callV (rc' := 0) (rs' := 0) kX1_57 (of_sortTray hpl H nd hc ht ⟨hv, hw, hOK⟩) (by decide +kernel) rfl rfl ho rfl (Nat.le_of_ble_eq_true rfl) (Nat.le_of_ble_eq_true rfl) (Nat.le_of_ble_eq_true rfl) (by omega) (by omega) rfl (fun _ _ z => z.elim) (fun v9 h5 hz => ?_)
        obtain ⟨rfl, hz⟩ := hz
        simp only [Option.toList_some, Option.toList_none, List.cons_append, List.nil_append]
        refine g_blk [(.goto 11, .retAddr 150)] (Nat.le_of_ble_eq_true rfl) (by decide +kernel) ?_
        refine gx_goto ((gx_nil ?_))
        refine g_end (some (.int _)) rfl ⟨by decide +kernel, _, rfl, rfl⟩ ?_
        have eX : dT N c t (4, a, b, l) = tAll N c t := if_pos hl
        rw [eX]
        exact Or.inl ⟨show nI 0 = 0 from by decide, rfl, c, t, tAll_G I (Nat.le_of_lt hnx), hz⟩
    · refine g_gets hsw.1 wSW (Or.inl rfl) (by decide +kernel) ?_
      refine g_blk [(.aload_n 0, .null)] (Nat.le_of_ble_eq_true rfl) (by decide +kernel) ?_
      refine gx_aload_n_0 ((gx_nil ?_))
      refine g_getf fX1_9 (by decide +kernel) hca rfl ?_
      refine g_callUP (rc' := 41) (rs' := 2563) kX1_31 (gC_pure (en_ordinal hkw.2)) (by decide +kernel) rfl rfl hkw.1 rfl (Nat.le_of_ble_eq_true rfl) (Nat.le_of_ble_eq_true rfl) (Nat.le_of_ble_eq_true rfl) (Nat.le_refl _) (Nat.le_refl _) rfl (fun _ _ z => z.elim) (fun v9 h9 hz => ?_)
      obtain ⟨rfl, e9⟩ := hz
      rw [e9]
      clear e9 h9
      simp only [Option.toList_some, List.cons_append, List.nil_append]
      refine g_ialoadP hsw.2.1 (vp_in_nI (by omega) (by omega)) (by decide +kernel) ?_
      rw [nI_clamp (by omega)]
      refine g_tableIn (dflt := 197) (lo := 1) (hi := 10) (offs := #[53, 67, 81, 101, 117, 140, 153, 162, 175, 188]) (len := 53) (off := 117) (tgt := 128) (by decide +kernel) (by decide) (by decide) (by decide) (by decide) ?_
      refine g_blk [(.aload_n 0, .null)] (Nat.le_of_ble_eq_true rfl) (by decide +kernel) ?_
      refine gx_aload_n_0 ((gx_nil ?_))
      refine g_getf fX1_19 (by decide +kernel) hca rfl ?_
      refine g_if_ne (off := 10) (tgt := 142) (by decide +kernel) (by decide) (fun c132 => ?_) (fun c132 => ?_)
      · try simp only [bI_0, Decidable.not_not] at c132
        refine g_blk [(.aload_n 1, .null), (.aload_n 0, .null)] (Nat.le_of_ble_eq_true rfl) (by decide +kernel) ?_
        refine gx_aload_n_1 (gx_aload_n_0 ((gx_nil ?_)))
        refine g_getf fX1_15 (by decide +kernel) hca rfl ?_
        refine g_callV (rc' := 0) (rs' := 0) kX1_60 (of_sortById H nd hc ht hv hw hOK hu (nI a)) (by decide +kernel) rfl rfl ho rfl (Nat.le_of_ble_eq_true rfl) (Nat.le_of_ble_eq_true rfl) (Nat.le_of_ble_eq_true rfl) (by omega) (by omega) rfl (fun _ _ z => z.elim) (fun v9 h5 hz => ?_)
        obtain ⟨z9, hv9⟩ : ∃ z, v9 = some (.int z) := by rcases hz with ⟨-, y, -⟩ | ⟨-, y, -⟩ <;> exact ⟨_, y⟩
        subst hv9
        simp only [Option.toList_some, Option.toList_none, List.cons_append, List.nil_append]
        refine g_end (some (.int _)) rfl ⟨by decide +kernel, _, rfl, rfl⟩ ?_
        have eX : dT N c t (4, a, b, l) = tSrt N (nI a) c t := if_neg hl
        rw [eX]
        exact ce_fin (X := tSrt N (nI a) c t) hz (fun z => tSrt_G I (Nat.le_of_lt hnx) z) (fun z => ccd2 z (by decide) (by decide))
      · try simp only [bI_0, Decidable.not_not] at c132
        exact absurd ((nI_eq (by have : l ≤ 4 := hl4; omega) (by decide)).mp (show nI l = nI 0 from by rw [c132]; decide)) hl
  · refine g_gets hsw.1 wSW (Or.inl rfl) (by decide +kernel) ?_
    refine g_blk [(.aload_n 0, .null)] (Nat.le_of_ble_eq_true rfl) (by decide +kernel) ?_
    refine gx_aload_n_0 ((gx_nil ?_))
    refine g_getf fX1_9 (by decide +kernel) hca rfl ?_
    refine g_callUP (rc' := 41) (rs' := 2563) kX1_31 (gC_pure (en_ordinal hkw.2)) (by decide +kernel) rfl rfl hkw.1 rfl (Nat.le_of_ble_eq_true rfl) (Nat.le_of_ble_eq_true rfl) (Nat.le_of_ble_eq_true rfl) (Nat.le_refl _) (Nat.le_refl _) rfl (fun _ _ z => z.elim) (fun v9 h9 hz => ?_)
    obtain ⟨rfl, e9⟩ := hz
    rw [e9]
    clear e9 h9
    simp only [Option.toList_some, List.cons_append, List.nil_append]
    refine g_ialoadP hsw.2.1 (vp_in_nI (by omega) (by omega)) (by decide +kernel) ?_
    rw [nI_clamp (by omega)]
    refine g_tableIn (dflt := 197) (lo := 1) (hi := 10) (offs := #[53, 67, 81, 101, 117, 140, 153, 162, 175, 188]) (len := 53) (off := 140) (tgt := 151) (by decide +kernel) (by decide) (by decide) (by decide) (by decide) ?_
    refine g_blk [(.aload_n 1, .null), (.aload_n 0, .null)] (Nat.le_of_ble_eq_true rfl) (by decide +kernel) ?_
    refine gx_aload_n_1 (gx_aload_n_0 ((gx_nil ?_)))
    refine g_getf fX1_15 (by decide +kernel) hca rfl ?_
    refine g_blk [(.aload_n 0, .null)] (Nat.le_of_ble_eq_true rfl) (by decide +kernel) ?_
    refine gx_aload_n_0 ((gx_nil ?_))
    refine g_getf fX1_22 (by decide +kernel) hca rfl ?_
    refine g_callV (rc' := 0) (rs' := 0) kX1_64 (of_placeById H nd hc ht hv hw hOK hu (nI a) (nI b)) (by decide +kernel) rfl rfl ho rfl (Nat.le_of_ble_eq_true rfl) (Nat.le_of_ble_eq_true rfl) (Nat.le_of_ble_eq_true rfl) (by omega) (by omega) rfl (fun _ _ z => z.elim) (fun v9 h5 hz => ?_)
    obtain ⟨z9, hv9⟩ : ∃ z, v9 = some (.int z) := by rcases hz with ⟨-, y, -⟩ | ⟨-, y, -⟩ <;> exact ⟨_, y⟩
    subst hv9
    simp only [Option.toList_some, Option.toList_none, List.cons_append, List.nil_append]
    refine g_end (some (.int _)) rfl ⟨by decide +kernel, _, rfl, rfl⟩ ?_
    exact ce_fin (X := tPlc N (nI a) (nI b) c) hz (fun z => tPlc_G I (Nat.le_of_lt hnx) z) (fun z => ccd3 z (by decide) (by decide) (by decide))
  · refine g_gets hsw.1 wSW (Or.inl rfl) (by decide +kernel) ?_
    refine g_blk [(.aload_n 0, .null)] (Nat.le_of_ble_eq_true rfl) (by decide +kernel) ?_
    refine gx_aload_n_0 ((gx_nil ?_))
    refine g_getf fX1_9 (by decide +kernel) hca rfl ?_
    refine g_callUP (rc' := 41) (rs' := 2563) kX1_31 (gC_pure (en_ordinal hkw.2)) (by decide +kernel) rfl rfl hkw.1 rfl (Nat.le_of_ble_eq_true rfl) (Nat.le_of_ble_eq_true rfl) (Nat.le_of_ble_eq_true rfl) (Nat.le_refl _) (Nat.le_refl _) rfl (fun _ _ z => z.elim) (fun v9 h9 hz => ?_)
    obtain ⟨rfl, e9⟩ := hz
    rw [e9]
    clear e9 h9
    simp only [Option.toList_some, List.cons_append, List.nil_append]
    refine g_ialoadP hsw.2.1 (vp_in_nI (by omega) (by omega)) (by decide +kernel) ?_
    rw [nI_clamp (by omega)]
    refine g_tableIn (dflt := 197) (lo := 1) (hi := 10) (offs := #[53, 67, 81, 101, 117, 140, 153, 162, 175, 188]) (len := 53) (off := 153) (tgt := 164) (by decide +kernel) (by decide) (by decide) (by decide) (by decide) ?_
    refine g_blk [(.aload_n 1, .null), (.aload_n 0, .null)] (Nat.le_of_ble_eq_true rfl) (by decide +kernel) ?_
    refine gx_aload_n_1 (gx_aload_n_0 ((gx_nil ?_)))
    refine g_getf fX1_15 (by decide +kernel) hca rfl ?_
    refine g_callV (rc' := 0) (rs' := 0) kX1_67 (of_takeOut H nd hc ht hv hw hu (nI a)) (by decide +kernel) rfl rfl ho rfl (Nat.le_of_ble_eq_true rfl) (Nat.le_of_ble_eq_true rfl) (Nat.le_of_ble_eq_true rfl) (by omega) (by omega) rfl (fun _ _ z => z.elim) (fun v9 h5 hz => ?_)
    obtain ⟨z9, hv9⟩ : ∃ z, v9 = some (.int z) := by rcases hz with ⟨-, y, -⟩ | ⟨-, y, -⟩ <;> exact ⟨_, y⟩
    subst hv9
    simp only [Option.toList_some, Option.toList_none, List.cons_append, List.nil_append]
    refine g_end (some (.int _)) rfl ⟨by decide +kernel, _, rfl, rfl⟩ ?_
    exact ce_fin (X := tPul N (nI a) c) hz (fun z => tPul_G I (Nat.le_of_lt hnx) z) (fun z => ccd2 z (by decide) (by decide))
  · refine g_gets hsw.1 wSW (Or.inl rfl) (by decide +kernel) ?_
    refine g_blk [(.aload_n 0, .null)] (Nat.le_of_ble_eq_true rfl) (by decide +kernel) ?_
    refine gx_aload_n_0 ((gx_nil ?_))
    refine g_getf fX1_9 (by decide +kernel) hca rfl ?_
    refine g_callUP (rc' := 41) (rs' := 2563) kX1_31 (gC_pure (en_ordinal hkw.2)) (by decide +kernel) rfl rfl hkw.1 rfl (Nat.le_of_ble_eq_true rfl) (Nat.le_of_ble_eq_true rfl) (Nat.le_of_ble_eq_true rfl) (Nat.le_refl _) (Nat.le_refl _) rfl (fun _ _ z => z.elim) (fun v9 h9 hz => ?_)
    obtain ⟨rfl, e9⟩ := hz
    rw [e9]
    clear e9 h9
    simp only [Option.toList_some, List.cons_append, List.nil_append]
    refine g_ialoadP hsw.2.1 (vp_in_nI (by omega) (by omega)) (by decide +kernel) ?_
    rw [nI_clamp (by omega)]
    refine g_tableIn (dflt := 197) (lo := 1) (hi := 10) (offs := #[53, 67, 81, 101, 117, 140, 153, 162, 175, 188]) (len := 53) (off := 162) (tgt := 173) (by decide +kernel) (by decide) (by decide) (by decide) (by decide) ?_
    refine g_blk [(.aload_n 1, .null), (.aload_n 0, .null)] (Nat.le_of_ble_eq_true rfl) (by decide +kernel) ?_
    refine gx_aload_n_1 (gx_aload_n_0 ((gx_nil ?_)))
    refine g_getf fX1_15 (by decide +kernel) hca rfl ?_
    refine g_blk [(.aload_n 0, .null)] (Nat.le_of_ble_eq_true rfl) (by decide +kernel) ?_
    refine gx_aload_n_0 ((gx_nil ?_))
    refine g_getf fX1_22 (by decide +kernel) hca rfl ?_
    refine g_callV (rc' := 0) (rs' := 0) kX1_70 (of_changeCutoff H nd (nI a) (nI b)) (by decide +kernel) rfl rfl ho rfl (Nat.le_of_ble_eq_true rfl) (Nat.le_of_ble_eq_true rfl) (Nat.le_of_ble_eq_true rfl) (by omega) (by omega) rfl (fun _ _ z => z.elim) (fun v9 h5 hz => ?_)
    obtain ⟨z9, hv9⟩ : ∃ z, v9 = some (.int z) := by rcases hz with ⟨-, y, -⟩ | ⟨-, y, -⟩ <;> exact ⟨_, y⟩
    subst hv9
    simp only [Option.toList_some, Option.toList_none, List.cons_append, List.nil_append]
    refine g_end (some (.int _)) rfl ⟨by decide +kernel, _, rfl, rfl⟩ ?_
    exact ce_fin (X := tSet N (nI a) 0 (nI b) (nI 24)) hz (fun z => tSet_G I (k := 0) (by decide) z) (fun z => ccd2 z (by decide) (by decide))
  · refine g_gets hsw.1 wSW (Or.inl rfl) (by decide +kernel) ?_
    refine g_blk [(.aload_n 0, .null)] (Nat.le_of_ble_eq_true rfl) (by decide +kernel) ?_
    refine gx_aload_n_0 ((gx_nil ?_))
    refine g_getf fX1_9 (by decide +kernel) hca rfl ?_
    refine g_callUP (rc' := 41) (rs' := 2563) kX1_31 (gC_pure (en_ordinal hkw.2)) (by decide +kernel) rfl rfl hkw.1 rfl (Nat.le_of_ble_eq_true rfl) (Nat.le_of_ble_eq_true rfl) (Nat.le_of_ble_eq_true rfl) (Nat.le_refl _) (Nat.le_refl _) rfl (fun _ _ z => z.elim) (fun v9 h9 hz => ?_)
    obtain ⟨rfl, e9⟩ := hz
    rw [e9]
    clear e9 h9
    simp only [Option.toList_some, List.cons_append, List.nil_append]
    refine g_ialoadP hsw.2.1 (vp_in_nI (by omega) (by omega)) (by decide +kernel) ?_
    rw [nI_clamp (by omega)]
    refine g_tableIn (dflt := 197) (lo := 1) (hi := 10) (offs := #[53, 67, 81, 101, 117, 140, 153, 162, 175, 188]) (len := 53) (off := 175) (tgt := 186) (by decide +kernel) (by decide) (by decide) (by decide) (by decide) ?_
    refine g_blk [(.aload_n 1, .null), (.aload_n 0, .null)] (Nat.le_of_ble_eq_true rfl) (by decide +kernel) ?_
    refine gx_aload_n_1 (gx_aload_n_0 ((gx_nil ?_)))
    refine g_getf fX1_15 (by decide +kernel) hca rfl ?_
    refine g_blk [(.aload_n 0, .null)] (Nat.le_of_ble_eq_true rfl) (by decide +kernel) ?_
    refine gx_aload_n_0 ((gx_nil ?_))
    refine g_getf fX1_22 (by decide +kernel) hca rfl ?_
    refine g_callV (rc' := 0) (rs' := 0) kX1_73 (of_changeDeparture H nd (nI a) (nI b)) (by decide +kernel) rfl rfl ho rfl (Nat.le_of_ble_eq_true rfl) (Nat.le_of_ble_eq_true rfl) (Nat.le_of_ble_eq_true rfl) (by omega) (by omega) rfl (fun _ _ z => z.elim) (fun v9 h5 hz => ?_)
    obtain ⟨z9, hv9⟩ : ∃ z, v9 = some (.int z) := by rcases hz with ⟨-, y, -⟩ | ⟨-, y, -⟩ <;> exact ⟨_, y⟩
    subst hv9
    simp only [Option.toList_some, Option.toList_none, List.cons_append, List.nil_append]
    refine g_end (some (.int _)) rfl ⟨by decide +kernel, _, rfl, rfl⟩ ?_
    exact ce_fin (X := tSet N (nI a) 1 (nI b) (nI 23)) hz (fun z => tSet_G I (k := 1) (by decide) z) (fun z => ccd2 z (by decide) (by decide))
  · refine g_gets hsw.1 wSW (Or.inl rfl) (by decide +kernel) ?_
    refine g_blk [(.aload_n 0, .null)] (Nat.le_of_ble_eq_true rfl) (by decide +kernel) ?_
    refine gx_aload_n_0 ((gx_nil ?_))
    refine g_getf fX1_9 (by decide +kernel) hca rfl ?_
    refine g_callUP (rc' := 41) (rs' := 2563) kX1_31 (gC_pure (en_ordinal hkw.2)) (by decide +kernel) rfl rfl hkw.1 rfl (Nat.le_of_ble_eq_true rfl) (Nat.le_of_ble_eq_true rfl) (Nat.le_of_ble_eq_true rfl) (Nat.le_refl _) (Nat.le_refl _) rfl (fun _ _ z => z.elim) (fun v9 h9 hz => ?_)
    obtain ⟨rfl, e9⟩ := hz
    rw [e9]
    clear e9 h9
    simp only [Option.toList_some, List.cons_append, List.nil_append]
    refine g_ialoadP hsw.2.1 (vp_in_nI (by omega) (by omega)) (by decide +kernel) ?_
    rw [nI_clamp (by omega)]
    refine g_tableIn (dflt := 197) (lo := 1) (hi := 10) (offs := #[53, 67, 81, 101, 117, 140, 153, 162, 175, 188]) (len := 53) (off := 188) (tgt := 199) (by decide +kernel) (by decide) (by decide) (by decide) (by decide) ?_
    refine g_blk [(.aload_n 1, .null), (.aload_n 0, .null)] (Nat.le_of_ble_eq_true rfl) (by decide +kernel) ?_
    refine gx_aload_n_1 (gx_aload_n_0 ((gx_nil ?_)))
    refine g_getf fX1_15 (by decide +kernel) hca rfl ?_
    refine g_callV (rc' := 0) (rs' := 0) kX1_76 (of_passHours H nd hc ht h3 h4 hv hw I.hh (nI a)) (by decide +kernel) rfl rfl ho rfl (Nat.le_of_ble_eq_true rfl) (Nat.le_of_ble_eq_true rfl) (Nat.le_of_ble_eq_true rfl) (by omega) (by omega) rfl (fun _ _ z => z.elim) (fun v9 h5 hz => ?_)
    obtain ⟨z9, hv9⟩ : ∃ z, v9 = some (.int z) := by rcases hz with ⟨-, y, -⟩ | ⟨-, y, -⟩ <;> exact ⟨_, y⟩
    subst hv9
    simp only [Option.toList_some, Option.toList_none, List.cons_append, List.nil_append]
    refine g_end (some (.int _)) rfl ⟨by decide +kernel, _, rfl, rfl⟩ ?_
    exact ce_fin (X := tWait N (nI a)) hz (fun z => tWait_G I) (fun z => ccd1 z (by decide))
end GEx
