/-! THE PARSER READS A KEYWORD -/
section GPk
variable {Γ : gE} {h : gHp}
set_option maxRecDepth 100000 in
theorem wKW : Cond.fieldLinkNest RX5 66 "MailOffice" "KEYWORDS" "[LMailOffice$Keyword;" "MailOffice" ∈ lw_far := (gInF (List.mem_of_getElem? (i := 1636) (by decide +kernel)) (by decide +kernel))
set_option maxRecDepth 100000 in
theorem wSO : Cond.fieldLink RX5 41 RX2 "SORT" "LMailOffice$Keyword;" ∈ lw_good := (gIn (List.mem_of_getElem? (i := 1667) (by decide +kernel)) (by decide +kernel))
set_option maxRecDepth 100000 in
theorem wKT : Cond.fieldLink RX5 70 RX2 "text" "Ljava/lang/String;" ∈ lw_good := (gIn (List.mem_of_getElem? (i := 2355) (by decide +kernel)) (by decide +kernel))
set_option maxRecDepth 100000 in
theorem wKF : Cond.fieldLink RX5 47 RX2 "firstDigits" "I" ∈ lw_good := (gIn (List.mem_of_getElem? (i := 2356) (by decide +kernel)) (by decide +kernel))
set_option maxRecDepth 100000 in
theorem wKS : Cond.fieldLink RX5 54 RX2 "secondDigits" "I" ∈ lw_good := (gIn (List.mem_of_getElem? (i := 2357) (by decide +kernel)) (by decide +kernel))
/-- the keywords: their row ka, each one ks w, its text ss w -/
def gPkw (Γ : gE) (ka : Nat) (ks ss : Nat → Nat) : Prop := gPz Γ "MailOffice" "KEYWORDS" "[LMailOffice$Keyword;" (.ref ka) ∧ gPa Γ (.object RX2) ka 10 (fun i => .ref (ks i)) ∧ gPz Γ RX2 "SORT" "LMailOffice$Keyword;" (.ref (ks 4)) ∧ (∀ w, w < 10 → gPf Γ RX2 "text" "Ljava/lang/String;" (ks w) (.ref (ss w)) ∧ gCs Γ (ss w) (kw w) ∧ gPf Γ RX2 "firstDigits" "I" (ks w) (.int (nI (kd1 w))) ∧ gPf Γ RX2 "secondDigits" "I" (ks w) (.int (nI (kd2 w)))) ∧ ∀ w u, w < 10 → u < 10 → ks w = ks u → w = u
variable {o tb n p cl : Nat} {tx : Nat → Nat} {d1 d10 : Nat} {vf : Value}
theorem ps_common (hp : gPsb Γ d1 d10 vf) (H : gPr Γ h o tb n p cl tx) (hpn : p ≤ n) {s : Nat} {W : List Nat} (hs : gCs Γ s W) (hW : W.length ≤ 100) : pC Γ M_X5_commonLength [.ref o, .ref s] h 4 (some (.int (nI (cm tx n W p)))) := by
  have H0 := H
  obtain ⟨ho, ⟨f, htb, hf⟩, hn⟩ := H0
  obtain ⟨nmw, s1, s2⟩ := id hs
  have h128 := s2.2.2.2
  have hcl := (cm_le (tx := tx) (n := n) (W := W) (p := p)).1
  have loop : ∀ m k, k + m = W.length → k ≤ cm tx n W p → pG Γ M_X5_commonLength 4 (some (.int (nI (cm tx n W p)))) h 2 [some (.ref o), some (.ref s), some (.int (nI k))] [] := by
    intro m
    induction m with
    | zero =>
      intro k hk hkc
      have e9 : cm tx n W p = k := by omega
      rw [e9]
      refine g_blk [(.iload_n 2, .null), (.aload_n 1, .null)] (Nat.le_of_ble_eq_true rfl) (by decide +kernel) ?_
      refine gx_iload_n_2 (gx_aload_n_1 ((gx_nil ?_)))
      refine g_callP (rc' := 0) (rs' := 0) (gLkP_of kX5_77) (gC_pure (st_len hp hs)) (by decide +kernel) rfl rfl s1 rfl (Nat.le_of_ble_eq_true rfl) (Nat.le_of_ble_eq_true rfl) (Nat.le_of_ble_eq_true rfl) (Nat.le_refl _) (Nat.le_refl _) rfl (fun _ _ z => z.elim) (fun v9 h9 hz => ?_)
      obtain ⟨rfl, e9⟩ := hz
      rw [e9]
      clear e9 h9
      simp only [Option.toList_some, List.cons_append, List.nil_append]
      refine g_icmp_ge (off := 27) (tgt := 34) (by decide +kernel) (by decide) (fun c7 => ?_) (fun c7 => ?_)
      · try simp only [bI_0, Decidable.not_not] at c7
        refine g_blk [(.iload_n 2, .null)] (Nat.le_of_ble_eq_true rfl) (by decide +kernel) ?_
        refine gx_iload_n_2 ((gx_nil ?_))
        refine g_end (some (.int _)) rfl ⟨by decide +kernel, _, rfl, rfl⟩ ⟨?_, rfl⟩
        first | rfl | simp_all
      · try simp only [bI_0, Decidable.not_not] at c7
        exact absurd (nI_le (by omega) (by omega)) c7
    | succ m ih =>
      intro k hk hkc
      obtain ⟨x, hx⟩ : ∃ x, W[k]? = some x := ⟨_, List.getElem?_eq_getElem (by omega)⟩
      have hx8 := h128 x (List.mem_of_getElem? hx)
      have hst := cm_st hkc hx
      have hpc : p + k < 1000 := by omega
      by_cases hA : p + k < n ∧ tx (p + k) = x
      · refine g_blk [(.iload_n 2, .null), (.aload_n 1, .null)] (Nat.le_of_ble_eq_true rfl) (by decide +kernel) ?_
        refine gx_iload_n_2 (gx_aload_n_1 ((gx_nil ?_)))
        refine g_callP (rc' := 0) (rs' := 0) (gLkP_of kX5_77) (gC_pure (st_len hp hs)) (by decide +kernel) rfl rfl s1 rfl (Nat.le_of_ble_eq_true rfl) (Nat.le_of_ble_eq_true rfl) (Nat.le_of_ble_eq_true rfl) (Nat.le_refl _) (Nat.le_refl _) rfl (fun _ _ z => z.elim) (fun v9 h9 hz => ?_)
        obtain ⟨rfl, e9⟩ := hz
        rw [e9]
        clear e9 h9
        simp only [Option.toList_some, List.cons_append, List.nil_append]
        refine g_icmp_ge (off := 27) (tgt := 34) (by decide +kernel) (by decide) (fun c7 => ?_) (fun c7 => ?_)
        · try simp only [bI_0, Decidable.not_not] at c7
          exact absurd c7 (nI_ge (by omega) (by omega))
        · try simp only [bI_0, Decidable.not_not] at c7
          refine g_blk [(.aload_n 0, .null), (.aload_n 0, .null)] (Nat.le_of_ble_eq_true rfl) (by decide +kernel) ?_
          refine gx_aload_n_0 (gx_aload_n_0 ((gx_nil ?_)))
          refine g_getf fX5_9 (by decide +kernel) ho rfl ?_
          refine g_blk [(.iload_n 2, .null), (.iadd, .null), (.aload_n 1, .null), (.iload_n 2, .null)] (Nat.le_of_ble_eq_true rfl) (by decide +kernel) ?_
          refine gx_iload_n_2 (gx_iadd (gx_aload_n_1 (gx_iload_n_2 ((gx_nil ?_)))))
          try simp only [nI_add, ]
          refine g_callP (rc' := 0) (rs' := 0) (gLkP_of kX5_88) (gC_pure (st_charAt hp hs hx (by omega))) (by decide +kernel) rfl rfl s1 rfl (Nat.le_of_ble_eq_true rfl) (Nat.le_of_ble_eq_true rfl) (Nat.le_of_ble_eq_true rfl) (Nat.le_refl _) (Nat.le_refl _) rfl (fun _ _ z => z.elim) (fun v9 h9 hz => ?_)
          obtain ⟨rfl, e9⟩ := hz
          rw [e9]
          clear e9 h9
          simp only [Option.toList_some, List.cons_append, List.nil_append]
          refine g_pV kX5_92 (ps_hasAt H hpc hx8) (by decide +kernel) rfl rfl ho rfl (Nat.le_of_ble_eq_true rfl) (Nat.le_of_ble_eq_true rfl) (Nat.le_of_ble_eq_true rfl) rfl ?_
          simp only [Option.toList_some, List.cons_append, List.nil_append]
          rw [bI_t hA]
          refine g_if_eq (off := 9) (tgt := 34) (by decide +kernel) (by decide) (fun c25 => ?_) (fun c25 => ?_)
          · try simp only [bI_0, Decidable.not_not] at c25
            exact absurd c25 (by decide)
          · try simp only [bI_0, Decidable.not_not] at c25
            refine g_blk [(.iinc 2 1, .int (nI 1)), (.goto (-29), .retAddr 2)] (Nat.le_of_ble_eq_true rfl) (by decide +kernel) ?_
            refine gx_iinc_2 rfl (gx_goto ((gx_nil ?_)))
            try simp only [nI_add, ]
            exact ih (k + 1) (by omega) (hst.mpr hA)
      · have e9 : cm tx n W p = k := by
          have : ¬ k < cm tx n W p := fun z => hA (hst.mp z)
          omega
        rw [e9]
        refine g_blk [(.iload_n 2, .null), (.aload_n 1, .null)] (Nat.le_of_ble_eq_true rfl) (by decide +kernel) ?_
        refine gx_iload_n_2 (gx_aload_n_1 ((gx_nil ?_)))
        refine g_callP (rc' := 0) (rs' := 0) (gLkP_of kX5_77) (gC_pure (st_len hp hs)) (by decide +kernel) rfl rfl s1 rfl (Nat.le_of_ble_eq_true rfl) (Nat.le_of_ble_eq_true rfl) (Nat.le_of_ble_eq_true rfl) (Nat.le_refl _) (Nat.le_refl _) rfl (fun _ _ z => z.elim) (fun v9 h9 hz => ?_)
        obtain ⟨rfl, e9⟩ := hz
        rw [e9]
        clear e9 h9
        simp only [Option.toList_some, List.cons_append, List.nil_append]
        refine g_icmp_ge (off := 27) (tgt := 34) (by decide +kernel) (by decide) (fun c7 => ?_) (fun c7 => ?_)
        · try simp only [bI_0, Decidable.not_not] at c7
          exact absurd c7 (nI_ge (by omega) (by omega))
        · try simp only [bI_0, Decidable.not_not] at c7
          refine g_blk [(.aload_n 0, .null), (.aload_n 0, .null)] (Nat.le_of_ble_eq_true rfl) (by decide +kernel) ?_
          refine gx_aload_n_0 (gx_aload_n_0 ((gx_nil ?_)))
          refine g_getf fX5_9 (by decide +kernel) ho rfl ?_
          refine g_blk [(.iload_n 2, .null), (.iadd, .null), (.aload_n 1, .null), (.iload_n 2, .null)] (Nat.le_of_ble_eq_true rfl) (by decide +kernel) ?_
          refine gx_iload_n_2 (gx_iadd (gx_aload_n_1 (gx_iload_n_2 ((gx_nil ?_)))))
          try simp only [nI_add, ]
          refine g_callP (rc' := 0) (rs' := 0) (gLkP_of kX5_88) (gC_pure (st_charAt hp hs hx (by omega))) (by decide +kernel) rfl rfl s1 rfl (Nat.le_of_ble_eq_true rfl) (Nat.le_of_ble_eq_true rfl) (Nat.le_of_ble_eq_true rfl) (Nat.le_refl _) (Nat.le_refl _) rfl (fun _ _ z => z.elim) (fun v9 h9 hz => ?_)
          obtain ⟨rfl, e9⟩ := hz
          rw [e9]
          clear e9 h9
          simp only [Option.toList_some, List.cons_append, List.nil_append]
          refine g_pV kX5_92 (ps_hasAt H hpc hx8) (by decide +kernel) rfl rfl ho rfl (Nat.le_of_ble_eq_true rfl) (Nat.le_of_ble_eq_true rfl) (Nat.le_of_ble_eq_true rfl) rfl ?_
          simp only [Option.toList_some, List.cons_append, List.nil_append]
          rw [bI_f hA]
          refine g_if_eq (off := 9) (tgt := 34) (by decide +kernel) (by decide) (fun c25 => ?_) (fun c25 => ?_)
          · try simp only [bI_0, Decidable.not_not] at c25
            refine g_blk [(.iload_n 2, .null)] (Nat.le_of_ble_eq_true rfl) (by decide +kernel) ?_
            refine gx_iload_n_2 ((gx_nil ?_))
            refine g_end (some (.int _)) rfl ⟨by decide +kernel, _, rfl, rfl⟩ ⟨?_, rfl⟩
            first | rfl | simp_all
          · try simp only [bI_0, Decidable.not_not] at c25
            exact absurd (by decide) c25
  refine pC_of (by decide) rfl (Nat.le_of_ble_eq_true rfl) [some (.ref o), some (.ref s), none] rfl ?_
  refine g_blk [(.iconst 0, .int (nI 0)), (.istore_n 2, .null)] (Nat.le_of_ble_eq_true rfl) (by decide +kernel) ?_
  refine gx_iconst (gx_istore_n_2 rfl ((gx_nil ?_)))
  exact loop W.length 0 (by omega) (Nat.zero_le _)
def fnd (ks : Nat → Nat) : Option Nat → Value
  | none => .null
  | some w => .ref (ks w)
theorem ps_readKeyword (hp : gPsb Γ d1 d10 vf) {ka : Nat} {ks ss : Nat → Nat} (hk : gPkw Γ ka ks ss) (H : gPr Γ h o tb n p cl tx) (hpn : p ≤ n) : gC Γ M_X5_readKeyword [.ref o] h 5 0 0 (fun v h' => v = some (fnd ks (kd tx n p 10)) ∧ gPr Γ h' o tb n (p + kdL tx n p 10) cl tx ∧ gKeep (fun z => z = o) h h') (fun _ _ => False) := by
  have H0 := H
  obtain ⟨ho, ⟨f, htb, hf⟩, hn⟩ := H0
  obtain ⟨kk1, kk2, kk3, kk4, kk5⟩ := hk
  have loop : ∀ m i, i + m = 10 → G Γ M_X5_readKeyword 5 0 0 (fun v h' => v = some (fnd ks (kd tx n p 10)) ∧ gPr Γ h' o tb n (p + kdL tx n p 10) cl tx ∧ gKeep (fun z => z = o) h h') (fun _ _ => False) 0 0 6 [some (.ref o), some (fnd ks (kd tx n p i)), some (.int (nI (kdL tx n p i))), some (.int (nI i)), none] [] h := by
    intro m
    induction m with
    | zero =>
      intro i hi
      obtain rfl : i = 10 := by omega
      cases hq : kd tx n p 10 with
      | none =>
        rw [show fnd ks none = Value.null from rfl]
        refine g_blk [(.iload_n 3, .null)] (Nat.le_of_ble_eq_true rfl) (by decide +kernel) ?_
        refine gx_iload_n_3 ((gx_nil ?_))
        refine g_getsN kk1 wKW (Or.inl rfl) (by decide +kernel) ?_
        refine g_alenP kk2 (by decide +kernel) ?_
        refine g_icmp_ge (off := 52) (tgt := 63) (by decide +kernel) (by decide) (fun c11 => ?_) (fun c11 => ?_)
        · try simp only [bI_0, Decidable.not_not] at c11
          refine g_blk [(.aload_n 0, .null), (.dup, .null)] (Nat.le_of_ble_eq_true rfl) (by decide +kernel) ?_
          refine gx_aload_n_0 (gx_dupr ((gx_nil ?_)))
          refine g_getf fX5_9 (by decide +kernel) ho rfl ?_
          refine g_blk [(.iload_n 2, .null), (.iadd, .null)] (Nat.le_of_ble_eq_true rfl) (by decide +kernel) ?_
          refine gx_iload_n_2 (gx_iadd ((gx_nil ?_)))
          try simp only [nI_add, ]
          refine g_putf fX5_9 (by decide +kernel) ho (by simp) rfl rfl ?_
          refine g_blk [(.aload_n 1, .null)] (Nat.le_of_ble_eq_true rfl) (by decide +kernel) ?_
          refine gx_aloadN_n_1 ((gx_nil ?_))
          refine g_end (some .null) rfl ⟨by decide +kernel, _, rfl, Or.inl ⟨_, rfl⟩⟩ ?_
          exact ⟨rfl, H.pos, gKeep.up rfl⟩
        · try simp only [bI_0, Decidable.not_not] at c11
          exact absurd (Int32.le_refl _) c11
      | some w =>
        rw [show fnd ks (some w) = Value.ref (ks w) from rfl]
        refine g_blk [(.iload_n 3, .null)] (Nat.le_of_ble_eq_true rfl) (by decide +kernel) ?_
        refine gx_iload_n_3 ((gx_nil ?_))
        refine g_getsN kk1 wKW (Or.inl rfl) (by decide +kernel) ?_
        refine g_alenP kk2 (by decide +kernel) ?_
        refine g_icmp_ge (off := 52) (tgt := 63) (by decide +kernel) (by decide) (fun c11 => ?_) (fun c11 => ?_)
        · try simp only [bI_0, Decidable.not_not] at c11
          refine g_blk [(.aload_n 0, .null), (.dup, .null)] (Nat.le_of_ble_eq_true rfl) (by decide +kernel) ?_
          refine gx_aload_n_0 (gx_dupr ((gx_nil ?_)))
          refine g_getf fX5_9 (by decide +kernel) ho rfl ?_
          refine g_blk [(.iload_n 2, .null), (.iadd, .null)] (Nat.le_of_ble_eq_true rfl) (by decide +kernel) ?_
          refine gx_iload_n_2 (gx_iadd ((gx_nil ?_)))
          try simp only [nI_add, ]
          refine g_putf fX5_9 (by decide +kernel) ho (by simp) rfl rfl ?_
          refine g_blk [(.aload_n 1, .null)] (Nat.le_of_ble_eq_true rfl) (by decide +kernel) ?_
          refine gx_aload_n_1 ((gx_nil ?_))
          refine g_end (some (.ref _)) rfl ⟨by decide +kernel, _, rfl, Or.inl ⟨_, rfl⟩⟩ ?_
          exact ⟨rfl, H.pos, gKeep.up rfl⟩
        · try simp only [bI_0, Decidable.not_not] at c11
          exact absurd (Int32.le_refl _) c11
    | succ m ih =>
      intro i hi
      have kx := kk4 i (by omega)
      obtain ⟨nmw, s1, s2⟩ := id kx.2.1
      have hl := (kw_len i (by omega)).2
      have hcl := (cm_le (tx := tx) (n := n) (W := kw i) (p := p)).1
      have hkl := kdL_le (tx := tx) hpn i (by omega)
      obtain ⟨fv, hfv⟩ : ∃ z, fnd ks (kd tx n p i) = z := ⟨_, rfl⟩
      have hpk : gPk (some fv) = true := by
        rw [← hfv]
        cases kd tx n p i <;> rfl
      rw [hfv]
      refine g_blk [(.iload_n 3, .null)] (Nat.le_of_ble_eq_true rfl) (by decide +kernel) ?_
      refine gx_iload_n_3 ((gx_nil ?_))
      refine g_getsN kk1 wKW (Or.inl rfl) (by decide +kernel) ?_
      refine g_alenP kk2 (by decide +kernel) ?_
      refine g_icmp_ge (off := 52) (tgt := 63) (by decide +kernel) (by decide) (fun c11 => ?_) (fun c11 => ?_)
      · try simp only [bI_0, Decidable.not_not] at c11
        exact absurd c11 (nI_ge (by omega) (by omega))
      · try simp only [bI_0, Decidable.not_not] at c11
        refine g_blk [(.aload_n 0, .null)] (Nat.le_of_ble_eq_true rfl) (by decide +kernel) ?_
        refine gx_aload_n_0 ((gx_nil ?_))
        refine g_getsN kk1 wKW (Or.inl rfl) (by decide +kernel) ?_
        refine g_blk [(.iload_n 3, .null)] (Nat.le_of_ble_eq_true rfl) (by decide +kernel) ?_
        refine gx_iload_n_3 ((gx_nil ?_))
        refine g_aaloadP kk2 (vp_in_nI (by omega) (by omega)) (by decide +kernel) ?_
        rw [nI_clamp (by omega)]
        refine g_getP kx.1 wKT (Or.inl rfl) (by decide +kernel) ?_
        refine g_pV kX5_73 (ps_common hp H hpn kx.2.1 (by omega)) (by decide +kernel) rfl rfl ho rfl (Nat.le_of_ble_eq_true rfl) (Nat.le_of_ble_eq_true rfl) (Nat.le_of_ble_eq_true rfl) rfl ?_
        try simp only [Option.toList_some, Option.toList_none, List.cons_append, List.nil_append, bI_0, n1_0, n0_0, Decidable.not_not, not_true_eq_false, not_false_eq_true, nI_add, ]
        refine g_blk [(.istore 4, .null), (.iload 4, .null)] (Nat.le_of_ble_eq_true rfl) (by decide +kernel) ?_
        refine gx_istore_4 rfl (gx_iload_4 ((gx_nil ?_)))
        refine g_getsN kk1 wKW (Or.inl rfl) (by decide +kernel) ?_
        refine g_blk [(.iload_n 3, .null)] (Nat.le_of_ble_eq_true rfl) (by decide +kernel) ?_
        refine gx_iload_n_3 ((gx_nil ?_))
        refine g_aaloadP kk2 (vp_in_nI (by omega) (by omega)) (by decide +kernel) ?_
        rw [nI_clamp (by omega)]
        refine g_getP kx.1 wKT (Or.inl rfl) (by decide +kernel) ?_
        refine g_callP (rc' := 0) (rs' := 0) (gLkP_of kX5_77) (gC_pure (st_len hp kx.2.1)) (by decide +kernel) rfl rfl s1 rfl (Nat.le_of_ble_eq_true rfl) (Nat.le_of_ble_eq_true rfl) (Nat.le_of_ble_eq_true rfl) (Nat.le_refl _) (Nat.le_refl _) rfl (fun _ _ z => z.elim) (fun v9 h9 hz => ?_)
        obtain ⟨rfl, e9⟩ := hz
        rw [e9]
        clear e9 h9
        simp only [Option.toList_some, List.cons_append, List.nil_append]
        refine g_icmp_ne (off := 9) (tgt := 50) (by decide +kernel) (by decide) (fun c41 => ?_) (fun c41 => ?_)
        · try simp only [bI_0, Decidable.not_not] at c41
          refine g_blk [(.iload_n 2, .null), (.iload 4, .null)] (Nat.le_of_ble_eq_true rfl) (by decide +kernel) ?_
          refine gx_iload_n_2 (gx_iload_4 ((gx_nil ?_)))
          refine g_mmax kMX5_82 (by decide +kernel) (by decide) (Nat.le_of_ble_eq_true rfl) ?_
          refine g_blk [(.istore_n 2, .null), (.iinc 3 1, .int (nI 1)), (.goto (-54), .retAddr 6)] (Nat.le_of_ble_eq_true rfl) (by decide +kernel) ?_
          refine gx_istore_n_2 (by first | rfl | exact hpk) (gx_iinc_3 rfl (gx_goto ((gx_nil ?_))))
          try simp only [nI_add, ]
          have e9 : fnd ks (kd tx n p (i + 1)) = fv := by rw [kd_s, if_neg (fun z => c41 (by rw [z])), hfv]
          have e8 : rMax (nI (kdL tx n p i)) (nI (cm tx n (kw i) p)) = nI (kdL tx n p (i + 1)) := by rw [kdL_s, rMax_nI (by omega) (by omega)]
          rw [e8]
          have e7 := ih (i + 1) (by omega)
          rw [e9] at e7
          exact g_weak (by simp [gLe]) (Nat.le_refl _) (Nat.le_refl _) e7
        · try simp only [bI_0, Decidable.not_not] at c41
          refine g_getsN kk1 wKW (Or.inl rfl) (by decide +kernel) ?_
          refine g_blk [(.iload_n 3, .null)] (Nat.le_of_ble_eq_true rfl) (by decide +kernel) ?_
          refine gx_iload_n_3 ((gx_nil ?_))
          refine g_aaloadP kk2 (vp_in_nI (by omega) (by omega)) (by decide +kernel) ?_
          rw [nI_clamp (by omega)]
          refine g_blk [(.astore_n 1, .null), (.iload_n 2, .null), (.iload 4, .null)] (Nat.le_of_ble_eq_true rfl) (by decide +kernel) ?_
          refine gx_astore_n_1 rfl (gx_iload_n_2 (gx_iload_4 ((gx_nil ?_))))
          refine g_mmax kMX5_82 (by decide +kernel) (by decide) (Nat.le_of_ble_eq_true rfl) ?_
          refine g_blk [(.istore_n 2, .null), (.iinc 3 1, .int (nI 1)), (.goto (-54), .retAddr 6)] (Nat.le_of_ble_eq_true rfl) (by decide +kernel) ?_
          refine gx_istore_n_2 (by first | rfl | exact hpk) (gx_iinc_3 rfl (gx_goto ((gx_nil ?_))))
          try simp only [nI_add, ]
          have e9 : fnd ks (kd tx n p (i + 1)) = .ref (ks i) := by rw [kd_s, if_pos ((nI_eq (by omega) (by omega)).mp c41)]; rfl
          have e8 : rMax (nI (kdL tx n p i)) (nI (cm tx n (kw i) p)) = nI (kdL tx n p (i + 1)) := by rw [kdL_s, rMax_nI (by omega) (by omega)]
          rw [e8]
          have e7 := ih (i + 1) (by omega)
          rw [e9] at e7
          exact g_weak (by simp [gLe]) (Nat.le_refl _) (Nat.le_refl _) e7
  refine gC_of (by decide) rfl (Nat.le_of_ble_eq_true rfl) [some (.ref o), none, none, none, none] rfl ?_
  refine g_blk [(.aconst_null, .null), (.astore_n 1, .null), (.iconst 0, .int (nI 0)), (.istore_n 2, .null), (.iconst 0, .int (nI 0)), (.istore_n 3, .null)] (Nat.le_of_ble_eq_true rfl) (by decide +kernel) ?_
  refine gx_aconst_null (gx_astoreN_n_1 rfl (gx_iconst (gx_istore_n_2 rfl (gx_iconst (gx_istore_n_3 rfl ((gx_nil ?_)))))))
  exact loop 10 0 (by omega)
end GPk
