/-! THE REFERENCE MADE -/
section SRi
variable {Γ : gE} {h : gHp}
def gNi (i q : Nat) : Int32 := if 8 ≤ q ∧ q < 8 + 3 * i then (if q % 3 = 2 then nI 24 else if q % 3 = 0 then nI 6 else 0) else 0
theorem gNi_0 : (fun _ => (0 : Int32)) = gNi 0 := by
  funext q
  unfold gNi
  rw [if_neg (by omega)]
theorem gNi_s {i : Nat} : upd (upd (gNi i) (8 + 3 * i) (nI 24)) (8 + 3 * i + 1) (nI 6) = gNi (i + 1) := by
  funext q
  unfold upd gNi
  by_cases h1 : q = 8 + 3 * i + 1
  · rw [if_pos h1, if_pos (by omega), if_neg (by omega), if_pos (by omega)]
  · rw [if_neg h1]
    by_cases h2 : q = 8 + 3 * i
    · rw [if_pos h2, if_pos (by omega), if_pos (by omega)]
    · rw [if_neg h2]
      by_cases h3 : 8 ≤ q ∧ q < 8 + 3 * i
      · rw [if_pos h3, if_pos (show 8 ≤ q ∧ q < 8 + 3 * (i + 1) by omega)]
      · rw [if_neg h3]
        by_cases h4 : 8 ≤ q ∧ q < 8 + 3 * (i + 1)
        · rw [if_pos h4, if_neg (by omega), if_neg (by omega)]
        · rw [if_neg h4]
def rV0 (k : Nat) : Int32 := if k = 7 ∨ k = 8 then -1 else 0
def rF0 (j : Nat) : Nat → Int32 := if j = 0 then gN0 else fun _ => 0
def mD0 : List Value := [.null, .null, .null, .null, .null, .int 0, .int 0, .int 0, .int 0, .null, .int 0, .null, .int 0, .int 0, .int 0, .int 0, .int 0, .int 0, .int 0, .null]
theorem r_init {o : Nat} (ho : h o = some (gJ 13 mD0)) : gC Γ M_X10_init [.ref o] h 3 8 2664 (fun v h' => v = none ∧ ∃ ad, MR Γ o ad rV0 rF0 h' ∧ (∀ j, mIs j = true → h (ad j) = none) ∧ gKeep (fun z => z = o) h h') (fun _ _ => False) := by
  have loop : ∀ (Z : Option Value → gHp → Prop) (g : gHp) (a0 : Nat) (FS : List Value), g o = some (gJ 13 (.ref a0 :: FS)) → a0 ≠ o → (∀ hk, gKeep (fun z => z = a0) g hk → hk a0 = some (gI Γ 202 gN0) → Z none hk) → ∀ n i hk, i + n = 6 → gKeep (fun z => z = a0) g hk → hk a0 = some (gI Γ 202 (gNi i)) → G Γ M_X10_init 3 8 2664 Z (fun _ _ => False) 0 0 85 [some (.ref o), some (.int (nI i))] [] hk := by
    intro Z g a0 FS hg hne fin n
    induction n with
    | zero =>
      intro i hk hi kk k6
      obtain rfl : i = 6 := by omega
      have k1 := kk o _ (fun z => hne z.symm) hg
      refine g_blk [(.iload_n 1, .null), (.bipush 6, .int (nI 6))] (Nat.le_of_ble_eq_true rfl) (by decide +kernel) ?_
      refine gx_iload_n_1 (gx_bipush ((gx_nil ?_)))
      refine g_icmp_ge (off := 35) (tgt := 123) (by decide +kernel) (by decide) (fun c88 => ?_) (fun c88 => ?_)
      · try simp only [bI_0, Decidable.not_not] at c88
        refine g_end none rfl ⟨by decide +kernel, rfl⟩ ?_
        exact fin hk kk k6
      · try simp only [bI_0, Decidable.not_not] at c88
        exact absurd (nI_le (by omega) (by omega)) c88
    | succ n ih =>
      intro i hk hi kk k6
      have k1 := kk o _ (fun z => hne z.symm) hg
      have hri : rIx (nI i) = i := rIx_nI (by omega)
      refine g_blk [(.iload_n 1, .null), (.bipush 6, .int (nI 6))] (Nat.le_of_ble_eq_true rfl) (by decide +kernel) ?_
      refine gx_iload_n_1 (gx_bipush ((gx_nil ?_)))
      refine g_icmp_ge (off := 35) (tgt := 123) (by decide +kernel) (by decide) (fun c88 => ?_) (fun c88 => ?_)
      · try simp only [bI_0, Decidable.not_not] at c88
        exact absurd c88 (nI_ge (by omega) (by omega))
      · try simp only [bI_0, Decidable.not_not] at c88
        refine g_blk [(.aload_n 0, .null)] (Nat.le_of_ble_eq_true rfl) (by decide +kernel) ?_
        refine gx_aload_n_0 ((gx_nil ?_))
        refine g_getf fX10_9 (by decide +kernel) k1 rfl ?_
        refine g_blk [(.iload_n 1, .null)] (Nat.le_of_ble_eq_true rfl) (by decide +kernel) ?_
        refine gx_iload_n_1 ((gx_nil ?_))
        refine g_pS kX10_41 (r_routeAt _ _) (by decide +kernel) rfl rfl (Nat.le_of_ble_eq_true rfl) (Nat.le_of_ble_eq_true rfl) (Nat.le_of_ble_eq_true rfl) rfl ?_
        simp only [Option.toList_some, List.cons_append, List.nil_append]
        rw [hri]
        refine g_blk [(.iconst 0, .int (nI 0)), (.iadd, .null), (.bipush 24, .int (nI 24))] (Nat.le_of_ble_eq_true rfl) (by decide +kernel) ?_
        refine gx_iconst (gx_iadd (gx_bipush ((gx_nil ?_))))
        try simp only [nI_add, Nat.add_zero, ]
        refine g_iastore (by decide +kernel) k6 (vp_in_nI (by omega) (by omega)) ?_
        rw [nI_clamp (by omega)]
        have m1 : gUp hk a0 (gI Γ 202 (upd (gNi i) (8 + 3 * i) (nI 24))) o = _ := (gUp_n _ _ (fun z => hne z.symm)).trans k1
        have m6 : gUp hk a0 (gI Γ 202 (upd (gNi i) (8 + 3 * i) (nI 24))) a0 = _ := gUp_s _ _ _
        refine g_blk [(.aload_n 0, .null)] (Nat.le_of_ble_eq_true rfl) (by decide +kernel) ?_
        refine gx_aload_n_0 ((gx_nil ?_))
        refine g_getf fX10_9 (by decide +kernel) m1 rfl ?_
        refine g_blk [(.iload_n 1, .null)] (Nat.le_of_ble_eq_true rfl) (by decide +kernel) ?_
        refine gx_iload_n_1 ((gx_nil ?_))
        refine g_pS kX10_41 (r_routeAt _ _) (by decide +kernel) rfl rfl (Nat.le_of_ble_eq_true rfl) (Nat.le_of_ble_eq_true rfl) (Nat.le_of_ble_eq_true rfl) rfl ?_
        simp only [Option.toList_some, List.cons_append, List.nil_append]
        rw [hri]
        refine g_blk [(.iconst 1, .int (nI 1)), (.iadd, .null), (.bipush 6, .int (nI 6))] (Nat.le_of_ble_eq_true rfl) (by decide +kernel) ?_
        refine gx_iconst (gx_iadd (gx_bipush ((gx_nil ?_))))
        try simp only [nI_add, Nat.add_zero, ]
        refine g_iastore (by decide +kernel) m6 (vp_in_nI (by omega) (by omega)) ?_
        rw [nI_clamp (by omega), gNi_s]
        refine g_blk [(.iinc 1 1, .int (nI 1)), (.goto (-35), .retAddr 85)] (Nat.le_of_ble_eq_true rfl) (by decide +kernel) ?_
        refine gx_iinc_1 rfl (gx_goto ((gx_nil ?_)))
        try simp only [nI_add, Nat.add_zero, ]
        refine ih (i + 1) _ (by omega) (gKeep.tr kk ?_) (gUp_s _ _ _)
        exact gKeep.tr (gKeep.up rfl) (gKeep.up rfl)
  refine gC_of (by decide) rfl (Nat.le_of_ble_eq_true rfl) [some (.ref o), none] rfl ?_
  refine g_blk [(.aload_n 0, .null)] (Nat.le_of_ble_eq_true rfl) (by decide +kernel) ?_
  refine gx_aload_n_0 ((gx_nil ?_))
  refine g_objInit wOIRX10 wOI1 wOI2 (by decide +kernel) (by omega) (Nat.le_of_ble_eq_true rfl) ?_
  refine g_blk [(.aload_n 0, .null), (.sipush 202, .int (nI 202))] (Nat.le_of_ble_eq_true rfl) (by decide +kernel) ?_
  refine gx_aload_n_0 (gx_sipush ((gx_nil ?_)))
  refine g_newarr_i (rc' := 7) (rs' := 2462) (by decide +kernel) wAI (by decide) (show (nI 202).toNatClampNeg = 202 by decide) (by decide) (by omega) (by omega) (fun a0 h_a0 => ?_)
  have n_a0 : h a0 = none := gK_no (S := fun z => z = o) gKeep.rf (fun z y => by rw [y]; exact ⟨_, ho⟩) h_a0
  have d_o_a0 : o ≠ a0 := fun z => by rw [← z, ho] at h_a0; cases h_a0
  obtain ⟨g1, eh⟩ : ∃ z, z = gUp h a0 (gI Γ 202 (fun _ => 0)) := ⟨_, rfl⟩
  refine g_hp eh ?_
  have fo_g1 : g1 o = some (gJ 13 [.null, .null, .null, .null, .null, .int 0, .int 0, .int 0, .int 0, .null, .int 0, .null, .int 0, .int 0, .int 0, .int 0, .int 0, .int 0, .int 0, .null]) := by rw [eh, gUp_n _ _ d_o_a0]; exact ho
  have fa0_g1 : g1 a0 = some (gI Γ 202 (fun _ => 0)) := by rw [eh]; exact gUp_s _ _ _
  have k_g1 : gKeep (fun z => z = o) h g1 := by rw [eh]; exact gK_up gKeep.rf (Or.inr n_a0)
  clear eh
  refine g_putfF fX10_9 fin13_0 rfl (by decide +kernel) fo_g1 (by simp) rfl rfl ?_
  obtain ⟨g2, eh⟩ : ∃ z, z = gUp g1 o (gJ 13 [.ref a0, .null, .null, .null, .null, .int 0, .int 0, .int 0, .int 0, .null, .int 0, .null, .int 0, .int 0, .int 0, .int 0, .int 0, .int 0, .int 0, .null]) := ⟨_, rfl⟩
  refine g_hp eh ?_
  have fa0_g2 : g2 a0 = some (gI Γ 202 (fun _ => 0)) := by rw [eh, gUp_n _ _ d_o_a0.symm]; exact fa0_g1
  have fo_g2 : g2 o = some (gJ 13 [.ref a0, .null, .null, .null, .null, .int 0, .int 0, .int 0, .int 0, .null, .int 0, .null, .int 0, .int 0, .int 0, .int 0, .int 0, .int 0, .int 0, .null]) := by rw [eh]; exact gUp_s _ _ _
  have k_g2 : gKeep (fun z => z = o) h g2 := by rw [eh]; exact gK_up k_g1 (Or.inl rfl)
  clear eh
  refine g_blk [(.aload_n 0, .null), (.sipush 202, .int (nI 202))] (Nat.le_of_ble_eq_true rfl) (by decide +kernel) ?_
  refine gx_aload_n_0 (gx_sipush ((gx_nil ?_)))
  refine g_newarr_i (rc' := 6) (rs' := 2260) (by decide +kernel) wAI (by decide) (show (nI 202).toNatClampNeg = 202 by decide) (by decide) (by omega) (by omega) (fun a1 h_a1 => ?_)
  have n_a1 : h a1 = none := gK_no (S := fun z => z = o) k_g2 (fun z y => by rw [y]; exact ⟨_, fo_g2⟩) h_a1
  have d_o_a1 : o ≠ a1 := fun z => by rw [← z, fo_g2] at h_a1; cases h_a1
  have d_a0_a1 : a0 ≠ a1 := fun z => by rw [← z, fa0_g2] at h_a1; cases h_a1
  obtain ⟨g3, eh⟩ : ∃ z, z = gUp g2 a1 (gI Γ 202 (fun _ => 0)) := ⟨_, rfl⟩
  refine g_hp eh ?_
  have fo_g3 : g3 o = some (gJ 13 [.ref a0, .null, .null, .null, .null, .int 0, .int 0, .int 0, .int 0, .null, .int 0, .null, .int 0, .int 0, .int 0, .int 0, .int 0, .int 0, .int 0, .null]) := by rw [eh, gUp_n _ _ d_o_a1]; exact fo_g2
  have fa0_g3 : g3 a0 = some (gI Γ 202 (fun _ => 0)) := by rw [eh, gUp_n _ _ d_a0_a1]; exact fa0_g2
  have fa1_g3 : g3 a1 = some (gI Γ 202 (fun _ => 0)) := by rw [eh]; exact gUp_s _ _ _
  have k_g3 : gKeep (fun z => z = o) h g3 := by rw [eh]; exact gK_up k_g2 (Or.inr n_a1)
  clear eh
  refine g_putfF fX10_13 fin13_1 rfl (by decide +kernel) fo_g3 (by simp) rfl rfl ?_
  obtain ⟨g4, eh⟩ : ∃ z, z = gUp g3 o (gJ 13 [.ref a0, .ref a1, .null, .null, .null, .int 0, .int 0, .int 0, .int 0, .null, .int 0, .null, .int 0, .int 0, .int 0, .int 0, .int 0, .int 0, .int 0, .null]) := ⟨_, rfl⟩
  refine g_hp eh ?_
  have fa0_g4 : g4 a0 = some (gI Γ 202 (fun _ => 0)) := by rw [eh, gUp_n _ _ d_o_a0.symm]; exact fa0_g3
  have fa1_g4 : g4 a1 = some (gI Γ 202 (fun _ => 0)) := by rw [eh, gUp_n _ _ d_o_a1.symm]; exact fa1_g3
  have fo_g4 : g4 o = some (gJ 13 [.ref a0, .ref a1, .null, .null, .null, .int 0, .int 0, .int 0, .int 0, .null, .int 0, .null, .int 0, .int 0, .int 0, .int 0, .int 0, .int 0, .int 0, .null]) := by rw [eh]; exact gUp_s _ _ _
  have k_g4 : gKeep (fun z => z = o) h g4 := by rw [eh]; exact gK_up k_g3 (Or.inl rfl)
  clear eh
  refine g_blk [(.aload_n 0, .null), (.sipush 202, .int (nI 202))] (Nat.le_of_ble_eq_true rfl) (by decide +kernel) ?_
  refine gx_aload_n_0 (gx_sipush ((gx_nil ?_)))
  refine g_newarr_i (rc' := 5) (rs' := 2058) (by decide +kernel) wAI (by decide) (show (nI 202).toNatClampNeg = 202 by decide) (by decide) (by omega) (by omega) (fun a2 h_a2 => ?_)
  have n_a2 : h a2 = none := gK_no (S := fun z => z = o) k_g4 (fun z y => by rw [y]; exact ⟨_, fo_g4⟩) h_a2
  have d_o_a2 : o ≠ a2 := fun z => by rw [← z, fo_g4] at h_a2; cases h_a2
  have d_a0_a2 : a0 ≠ a2 := fun z => by rw [← z, fa0_g4] at h_a2; cases h_a2
  have d_a1_a2 : a1 ≠ a2 := fun z => by rw [← z, fa1_g4] at h_a2; cases h_a2
  obtain ⟨g5, eh⟩ : ∃ z, z = gUp g4 a2 (gI Γ 202 (fun _ => 0)) := ⟨_, rfl⟩
  refine g_hp eh ?_
  have fo_g5 : g5 o = some (gJ 13 [.ref a0, .ref a1, .null, .null, .null, .int 0, .int 0, .int 0, .int 0, .null, .int 0, .null, .int 0, .int 0, .int 0, .int 0, .int 0, .int 0, .int 0, .null]) := by rw [eh, gUp_n _ _ d_o_a2]; exact fo_g4
  have fa0_g5 : g5 a0 = some (gI Γ 202 (fun _ => 0)) := by rw [eh, gUp_n _ _ d_a0_a2]; exact fa0_g4
  have fa1_g5 : g5 a1 = some (gI Γ 202 (fun _ => 0)) := by rw [eh, gUp_n _ _ d_a1_a2]; exact fa1_g4
  have fa2_g5 : g5 a2 = some (gI Γ 202 (fun _ => 0)) := by rw [eh]; exact gUp_s _ _ _
  have k_g5 : gKeep (fun z => z = o) h g5 := by rw [eh]; exact gK_up k_g4 (Or.inr n_a2)
  clear eh
  refine g_putfF fX10_16 fin13_2 rfl (by decide +kernel) fo_g5 (by simp) rfl rfl ?_
  obtain ⟨g6, eh⟩ : ∃ z, z = gUp g5 o (gJ 13 [.ref a0, .ref a1, .ref a2, .null, .null, .int 0, .int 0, .int 0, .int 0, .null, .int 0, .null, .int 0, .int 0, .int 0, .int 0, .int 0, .int 0, .int 0, .null]) := ⟨_, rfl⟩
  refine g_hp eh ?_
  have fa0_g6 : g6 a0 = some (gI Γ 202 (fun _ => 0)) := by rw [eh, gUp_n _ _ d_o_a0.symm]; exact fa0_g5
  have fa1_g6 : g6 a1 = some (gI Γ 202 (fun _ => 0)) := by rw [eh, gUp_n _ _ d_o_a1.symm]; exact fa1_g5
  have fa2_g6 : g6 a2 = some (gI Γ 202 (fun _ => 0)) := by rw [eh, gUp_n _ _ d_o_a2.symm]; exact fa2_g5
  have fo_g6 : g6 o = some (gJ 13 [.ref a0, .ref a1, .ref a2, .null, .null, .int 0, .int 0, .int 0, .int 0, .null, .int 0, .null, .int 0, .int 0, .int 0, .int 0, .int 0, .int 0, .int 0, .null]) := by rw [eh]; exact gUp_s _ _ _
  have k_g6 : gKeep (fun z => z = o) h g6 := by rw [eh]; exact gK_up k_g5 (Or.inl rfl)
  clear eh
  refine g_blk [(.aload_n 0, .null), (.sipush 202, .int (nI 202))] (Nat.le_of_ble_eq_true rfl) (by decide +kernel) ?_
  refine gx_aload_n_0 (gx_sipush ((gx_nil ?_)))
  refine g_newarr_i (rc' := 4) (rs' := 1856) (by decide +kernel) wAI (by decide) (show (nI 202).toNatClampNeg = 202 by decide) (by decide) (by omega) (by omega) (fun a3 h_a3 => ?_)
  have n_a3 : h a3 = none := gK_no (S := fun z => z = o) k_g6 (fun z y => by rw [y]; exact ⟨_, fo_g6⟩) h_a3
  have d_o_a3 : o ≠ a3 := fun z => by rw [← z, fo_g6] at h_a3; cases h_a3
  have d_a0_a3 : a0 ≠ a3 := fun z => by rw [← z, fa0_g6] at h_a3; cases h_a3
  have d_a1_a3 : a1 ≠ a3 := fun z => by rw [← z, fa1_g6] at h_a3; cases h_a3
  have d_a2_a3 : a2 ≠ a3 := fun z => by rw [← z, fa2_g6] at h_a3; cases h_a3
  obtain ⟨g7, eh⟩ : ∃ z, z = gUp g6 a3 (gI Γ 202 (fun _ => 0)) := ⟨_, rfl⟩
  refine g_hp eh ?_
  have fo_g7 : g7 o = some (gJ 13 [.ref a0, .ref a1, .ref a2, .null, .null, .int 0, .int 0, .int 0, .int 0, .null, .int 0, .null, .int 0, .int 0, .int 0, .int 0, .int 0, .int 0, .int 0, .null]) := by rw [eh, gUp_n _ _ d_o_a3]; exact fo_g6
  have fa0_g7 : g7 a0 = some (gI Γ 202 (fun _ => 0)) := by rw [eh, gUp_n _ _ d_a0_a3]; exact fa0_g6
  have fa1_g7 : g7 a1 = some (gI Γ 202 (fun _ => 0)) := by rw [eh, gUp_n _ _ d_a1_a3]; exact fa1_g6
  have fa2_g7 : g7 a2 = some (gI Γ 202 (fun _ => 0)) := by rw [eh, gUp_n _ _ d_a2_a3]; exact fa2_g6
  have fa3_g7 : g7 a3 = some (gI Γ 202 (fun _ => 0)) := by rw [eh]; exact gUp_s _ _ _
  have k_g7 : gKeep (fun z => z = o) h g7 := by rw [eh]; exact gK_up k_g6 (Or.inr n_a3)
  clear eh
  refine g_putfF fX10_19 fin13_3 rfl (by decide +kernel) fo_g7 (by simp) rfl rfl ?_
  obtain ⟨g8, eh⟩ : ∃ z, z = gUp g7 o (gJ 13 [.ref a0, .ref a1, .ref a2, .ref a3, .null, .int 0, .int 0, .int 0, .int 0, .null, .int 0, .null, .int 0, .int 0, .int 0, .int 0, .int 0, .int 0, .int 0, .null]) := ⟨_, rfl⟩
  refine g_hp eh ?_
  have fa0_g8 : g8 a0 = some (gI Γ 202 (fun _ => 0)) := by rw [eh, gUp_n _ _ d_o_a0.symm]; exact fa0_g7
  have fa1_g8 : g8 a1 = some (gI Γ 202 (fun _ => 0)) := by rw [eh, gUp_n _ _ d_o_a1.symm]; exact fa1_g7
  have fa2_g8 : g8 a2 = some (gI Γ 202 (fun _ => 0)) := by rw [eh, gUp_n _ _ d_o_a2.symm]; exact fa2_g7
  have fa3_g8 : g8 a3 = some (gI Γ 202 (fun _ => 0)) := by rw [eh, gUp_n _ _ d_o_a3.symm]; exact fa3_g7
  have fo_g8 : g8 o = some (gJ 13 [.ref a0, .ref a1, .ref a2, .ref a3, .null, .int 0, .int 0, .int 0, .int 0, .null, .int 0, .null, .int 0, .int 0, .int 0, .int 0, .int 0, .int 0, .int 0, .null]) := by rw [eh]; exact gUp_s _ _ _
  have k_g8 : gKeep (fun z => z = o) h g8 := by rw [eh]; exact gK_up k_g7 (Or.inl rfl)
  clear eh
  refine g_blk [(.aload_n 0, .null), (.sipush 1616, .int (nI 1616))] (Nat.le_of_ble_eq_true rfl) (by decide +kernel) ?_
  refine gx_aload_n_0 (gx_sipush ((gx_nil ?_)))
  refine g_newarr_i (rc' := 3) (rs' := 240) (by decide +kernel) wAI (by decide) (show (nI 1616).toNatClampNeg = 1616 by decide) (by decide) (by omega) (by omega) (fun a4 h_a4 => ?_)
  have n_a4 : h a4 = none := gK_no (S := fun z => z = o) k_g8 (fun z y => by rw [y]; exact ⟨_, fo_g8⟩) h_a4
  have d_o_a4 : o ≠ a4 := fun z => by rw [← z, fo_g8] at h_a4; cases h_a4
  have d_a0_a4 : a0 ≠ a4 := fun z => by rw [← z, fa0_g8] at h_a4; cases h_a4
  have d_a1_a4 : a1 ≠ a4 := fun z => by rw [← z, fa1_g8] at h_a4; cases h_a4
  have d_a2_a4 : a2 ≠ a4 := fun z => by rw [← z, fa2_g8] at h_a4; cases h_a4
  have d_a3_a4 : a3 ≠ a4 := fun z => by rw [← z, fa3_g8] at h_a4; cases h_a4
  obtain ⟨g9, eh⟩ : ∃ z, z = gUp g8 a4 (gI Γ 1616 (fun _ => 0)) := ⟨_, rfl⟩
  refine g_hp eh ?_
  have fo_g9 : g9 o = some (gJ 13 [.ref a0, .ref a1, .ref a2, .ref a3, .null, .int 0, .int 0, .int 0, .int 0, .null, .int 0, .null, .int 0, .int 0, .int 0, .int 0, .int 0, .int 0, .int 0, .null]) := by rw [eh, gUp_n _ _ d_o_a4]; exact fo_g8
  have fa0_g9 : g9 a0 = some (gI Γ 202 (fun _ => 0)) := by rw [eh, gUp_n _ _ d_a0_a4]; exact fa0_g8
  have fa1_g9 : g9 a1 = some (gI Γ 202 (fun _ => 0)) := by rw [eh, gUp_n _ _ d_a1_a4]; exact fa1_g8
  have fa2_g9 : g9 a2 = some (gI Γ 202 (fun _ => 0)) := by rw [eh, gUp_n _ _ d_a2_a4]; exact fa2_g8
  have fa3_g9 : g9 a3 = some (gI Γ 202 (fun _ => 0)) := by rw [eh, gUp_n _ _ d_a3_a4]; exact fa3_g8
  have fa4_g9 : g9 a4 = some (gI Γ 1616 (fun _ => 0)) := by rw [eh]; exact gUp_s _ _ _
  have k_g9 : gKeep (fun z => z = o) h g9 := by rw [eh]; exact gK_up k_g8 (Or.inr n_a4)
  clear eh
  refine g_putfF fX10_22 fin13_4 rfl (by decide +kernel) fo_g9 (by simp) rfl rfl ?_
  obtain ⟨g10, eh⟩ : ∃ z, z = gUp g9 o (gJ 13 [.ref a0, .ref a1, .ref a2, .ref a3, .ref a4, .int 0, .int 0, .int 0, .int 0, .null, .int 0, .null, .int 0, .int 0, .int 0, .int 0, .int 0, .int 0, .int 0, .null]) := ⟨_, rfl⟩
  refine g_hp eh ?_
  have fa0_g10 : g10 a0 = some (gI Γ 202 (fun _ => 0)) := by rw [eh, gUp_n _ _ d_o_a0.symm]; exact fa0_g9
  have fa1_g10 : g10 a1 = some (gI Γ 202 (fun _ => 0)) := by rw [eh, gUp_n _ _ d_o_a1.symm]; exact fa1_g9
  have fa2_g10 : g10 a2 = some (gI Γ 202 (fun _ => 0)) := by rw [eh, gUp_n _ _ d_o_a2.symm]; exact fa2_g9
  have fa3_g10 : g10 a3 = some (gI Γ 202 (fun _ => 0)) := by rw [eh, gUp_n _ _ d_o_a3.symm]; exact fa3_g9
  have fa4_g10 : g10 a4 = some (gI Γ 1616 (fun _ => 0)) := by rw [eh, gUp_n _ _ d_o_a4.symm]; exact fa4_g9
  have fo_g10 : g10 o = some (gJ 13 [.ref a0, .ref a1, .ref a2, .ref a3, .ref a4, .int 0, .int 0, .int 0, .int 0, .null, .int 0, .null, .int 0, .int 0, .int 0, .int 0, .int 0, .int 0, .int 0, .null]) := by rw [eh]; exact gUp_s _ _ _
  have k_g10 : gKeep (fun z => z = o) h g10 := by rw [eh]; exact gK_up k_g9 (Or.inl rfl)
  clear eh
  refine g_blk [(.aload_n 0, .null), (.iconst (-1), .int (-1))] (Nat.le_of_ble_eq_true rfl) (by decide +kernel) ?_
  refine gx_aload_n_0 (gx_iconst ((gx_nil ?_)))
  refine g_putf fX10_25 (by decide +kernel) fo_g10 (by simp) rfl rfl ?_
  obtain ⟨g11, eh⟩ : ∃ z, z = gUp g10 o (gJ 13 [.ref a0, .ref a1, .ref a2, .ref a3, .ref a4, .int 0, .int 0, .int (-1), .int 0, .null, .int 0, .null, .int 0, .int 0, .int 0, .int 0, .int 0, .int 0, .int 0, .null]) := ⟨_, rfl⟩
  refine g_hp eh ?_
  have fa0_g11 : g11 a0 = some (gI Γ 202 (fun _ => 0)) := by rw [eh, gUp_n _ _ d_o_a0.symm]; exact fa0_g10
  have fa1_g11 : g11 a1 = some (gI Γ 202 (fun _ => 0)) := by rw [eh, gUp_n _ _ d_o_a1.symm]; exact fa1_g10
  have fa2_g11 : g11 a2 = some (gI Γ 202 (fun _ => 0)) := by rw [eh, gUp_n _ _ d_o_a2.symm]; exact fa2_g10
  have fa3_g11 : g11 a3 = some (gI Γ 202 (fun _ => 0)) := by rw [eh, gUp_n _ _ d_o_a3.symm]; exact fa3_g10
  have fa4_g11 : g11 a4 = some (gI Γ 1616 (fun _ => 0)) := by rw [eh, gUp_n _ _ d_o_a4.symm]; exact fa4_g10
  have fo_g11 : g11 o = some (gJ 13 [.ref a0, .ref a1, .ref a2, .ref a3, .ref a4, .int 0, .int 0, .int (-1), .int 0, .null, .int 0, .null, .int 0, .int 0, .int 0, .int 0, .int 0, .int 0, .int 0, .null]) := by rw [eh]; exact gUp_s _ _ _
  have k_g11 : gKeep (fun z => z = o) h g11 := by rw [eh]; exact gK_up k_g10 (Or.inl rfl)
  clear eh
  refine g_blk [(.aload_n 0, .null), (.iconst (-1), .int (-1))] (Nat.le_of_ble_eq_true rfl) (by decide +kernel) ?_
  refine gx_aload_n_0 (gx_iconst ((gx_nil ?_)))
  refine g_putf fX10_29 (by decide +kernel) fo_g11 (by simp) rfl rfl ?_
  obtain ⟨g12, eh⟩ : ∃ z, z = gUp g11 o (gJ 13 [.ref a0, .ref a1, .ref a2, .ref a3, .ref a4, .int 0, .int 0, .int (-1), .int (-1), .null, .int 0, .null, .int 0, .int 0, .int 0, .int 0, .int 0, .int 0, .int 0, .null]) := ⟨_, rfl⟩
  refine g_hp eh ?_
  have fa0_g12 : g12 a0 = some (gI Γ 202 (fun _ => 0)) := by rw [eh, gUp_n _ _ d_o_a0.symm]; exact fa0_g11
  have fa1_g12 : g12 a1 = some (gI Γ 202 (fun _ => 0)) := by rw [eh, gUp_n _ _ d_o_a1.symm]; exact fa1_g11
  have fa2_g12 : g12 a2 = some (gI Γ 202 (fun _ => 0)) := by rw [eh, gUp_n _ _ d_o_a2.symm]; exact fa2_g11
  have fa3_g12 : g12 a3 = some (gI Γ 202 (fun _ => 0)) := by rw [eh, gUp_n _ _ d_o_a3.symm]; exact fa3_g11
  have fa4_g12 : g12 a4 = some (gI Γ 1616 (fun _ => 0)) := by rw [eh, gUp_n _ _ d_o_a4.symm]; exact fa4_g11
  have fo_g12 : g12 o = some (gJ 13 [.ref a0, .ref a1, .ref a2, .ref a3, .ref a4, .int 0, .int 0, .int (-1), .int (-1), .null, .int 0, .null, .int 0, .int 0, .int 0, .int 0, .int 0, .int 0, .int 0, .null]) := by rw [eh]; exact gUp_s _ _ _
  have k_g12 : gKeep (fun z => z = o) h g12 := by rw [eh]; exact gK_up k_g11 (Or.inl rfl)
  clear eh
  refine g_blk [(.aload_n 0, .null), (.bipush 60, .int (nI 60))] (Nat.le_of_ble_eq_true rfl) (by decide +kernel) ?_
  refine gx_aload_n_0 (gx_bipush ((gx_nil ?_)))
  refine g_newarr_i (rc' := 2) (rs' := 180) (by decide +kernel) wAI (by decide) (show (nI 60).toNatClampNeg = 60 by decide) (by decide) (by omega) (by omega) (fun a9 h_a9 => ?_)
  have n_a9 : h a9 = none := gK_no (S := fun z => z = o) k_g12 (fun z y => by rw [y]; exact ⟨_, fo_g12⟩) h_a9
  have d_o_a9 : o ≠ a9 := fun z => by rw [← z, fo_g12] at h_a9; cases h_a9
  have d_a0_a9 : a0 ≠ a9 := fun z => by rw [← z, fa0_g12] at h_a9; cases h_a9
  have d_a1_a9 : a1 ≠ a9 := fun z => by rw [← z, fa1_g12] at h_a9; cases h_a9
  have d_a2_a9 : a2 ≠ a9 := fun z => by rw [← z, fa2_g12] at h_a9; cases h_a9
  have d_a3_a9 : a3 ≠ a9 := fun z => by rw [← z, fa3_g12] at h_a9; cases h_a9
  have d_a4_a9 : a4 ≠ a9 := fun z => by rw [← z, fa4_g12] at h_a9; cases h_a9
  obtain ⟨g13, eh⟩ : ∃ z, z = gUp g12 a9 (gI Γ 60 (fun _ => 0)) := ⟨_, rfl⟩
  refine g_hp eh ?_
  have fo_g13 : g13 o = some (gJ 13 [.ref a0, .ref a1, .ref a2, .ref a3, .ref a4, .int 0, .int 0, .int (-1), .int (-1), .null, .int 0, .null, .int 0, .int 0, .int 0, .int 0, .int 0, .int 0, .int 0, .null]) := by rw [eh, gUp_n _ _ d_o_a9]; exact fo_g12
  have fa0_g13 : g13 a0 = some (gI Γ 202 (fun _ => 0)) := by rw [eh, gUp_n _ _ d_a0_a9]; exact fa0_g12
  have fa1_g13 : g13 a1 = some (gI Γ 202 (fun _ => 0)) := by rw [eh, gUp_n _ _ d_a1_a9]; exact fa1_g12
  have fa2_g13 : g13 a2 = some (gI Γ 202 (fun _ => 0)) := by rw [eh, gUp_n _ _ d_a2_a9]; exact fa2_g12
  have fa3_g13 : g13 a3 = some (gI Γ 202 (fun _ => 0)) := by rw [eh, gUp_n _ _ d_a3_a9]; exact fa3_g12
  have fa4_g13 : g13 a4 = some (gI Γ 1616 (fun _ => 0)) := by rw [eh, gUp_n _ _ d_a4_a9]; exact fa4_g12
  have fa9_g13 : g13 a9 = some (gI Γ 60 (fun _ => 0)) := by rw [eh]; exact gUp_s _ _ _
  have k_g13 : gKeep (fun z => z = o) h g13 := by rw [eh]; exact gK_up k_g12 (Or.inr n_a9)
  clear eh
  refine g_putfF fX10_32 fin13_9 rfl (by decide +kernel) fo_g13 (by simp) rfl rfl ?_
  obtain ⟨g14, eh⟩ : ∃ z, z = gUp g13 o (gJ 13 [.ref a0, .ref a1, .ref a2, .ref a3, .ref a4, .int 0, .int 0, .int (-1), .int (-1), .ref a9, .int 0, .null, .int 0, .int 0, .int 0, .int 0, .int 0, .int 0, .int 0, .null]) := ⟨_, rfl⟩
  refine g_hp eh ?_
  have fa0_g14 : g14 a0 = some (gI Γ 202 (fun _ => 0)) := by rw [eh, gUp_n _ _ d_o_a0.symm]; exact fa0_g13
  have fa1_g14 : g14 a1 = some (gI Γ 202 (fun _ => 0)) := by rw [eh, gUp_n _ _ d_o_a1.symm]; exact fa1_g13
  have fa2_g14 : g14 a2 = some (gI Γ 202 (fun _ => 0)) := by rw [eh, gUp_n _ _ d_o_a2.symm]; exact fa2_g13
  have fa3_g14 : g14 a3 = some (gI Γ 202 (fun _ => 0)) := by rw [eh, gUp_n _ _ d_o_a3.symm]; exact fa3_g13
  have fa4_g14 : g14 a4 = some (gI Γ 1616 (fun _ => 0)) := by rw [eh, gUp_n _ _ d_o_a4.symm]; exact fa4_g13
  have fa9_g14 : g14 a9 = some (gI Γ 60 (fun _ => 0)) := by rw [eh, gUp_n _ _ d_o_a9.symm]; exact fa9_g13
  have fo_g14 : g14 o = some (gJ 13 [.ref a0, .ref a1, .ref a2, .ref a3, .ref a4, .int 0, .int 0, .int (-1), .int (-1), .ref a9, .int 0, .null, .int 0, .int 0, .int 0, .int 0, .int 0, .int 0, .int 0, .null]) := by rw [eh]; exact gUp_s _ _ _
  have k_g14 : gKeep (fun z => z = o) h g14 := by rw [eh]; exact gK_up k_g13 (Or.inl rfl)
  clear eh
  refine g_blk [(.aload_n 0, .null), (.bipush 60, .int (nI 60))] (Nat.le_of_ble_eq_true rfl) (by decide +kernel) ?_
  refine gx_aload_n_0 (gx_bipush ((gx_nil ?_)))
  refine g_newarr_i (rc' := 1) (rs' := 120) (by decide +kernel) wAI (by decide) (show (nI 60).toNatClampNeg = 60 by decide) (by decide) (by omega) (by omega) (fun a11 h_a11 => ?_)
  have n_a11 : h a11 = none := gK_no (S := fun z => z = o) k_g14 (fun z y => by rw [y]; exact ⟨_, fo_g14⟩) h_a11
  have d_o_a11 : o ≠ a11 := fun z => by rw [← z, fo_g14] at h_a11; cases h_a11
  have d_a0_a11 : a0 ≠ a11 := fun z => by rw [← z, fa0_g14] at h_a11; cases h_a11
  have d_a1_a11 : a1 ≠ a11 := fun z => by rw [← z, fa1_g14] at h_a11; cases h_a11
  have d_a2_a11 : a2 ≠ a11 := fun z => by rw [← z, fa2_g14] at h_a11; cases h_a11
  have d_a3_a11 : a3 ≠ a11 := fun z => by rw [← z, fa3_g14] at h_a11; cases h_a11
  have d_a4_a11 : a4 ≠ a11 := fun z => by rw [← z, fa4_g14] at h_a11; cases h_a11
  have d_a9_a11 : a9 ≠ a11 := fun z => by rw [← z, fa9_g14] at h_a11; cases h_a11
  obtain ⟨g15, eh⟩ : ∃ z, z = gUp g14 a11 (gI Γ 60 (fun _ => 0)) := ⟨_, rfl⟩
  refine g_hp eh ?_
  have fo_g15 : g15 o = some (gJ 13 [.ref a0, .ref a1, .ref a2, .ref a3, .ref a4, .int 0, .int 0, .int (-1), .int (-1), .ref a9, .int 0, .null, .int 0, .int 0, .int 0, .int 0, .int 0, .int 0, .int 0, .null]) := by rw [eh, gUp_n _ _ d_o_a11]; exact fo_g14
  have fa0_g15 : g15 a0 = some (gI Γ 202 (fun _ => 0)) := by rw [eh, gUp_n _ _ d_a0_a11]; exact fa0_g14
  have fa1_g15 : g15 a1 = some (gI Γ 202 (fun _ => 0)) := by rw [eh, gUp_n _ _ d_a1_a11]; exact fa1_g14
  have fa2_g15 : g15 a2 = some (gI Γ 202 (fun _ => 0)) := by rw [eh, gUp_n _ _ d_a2_a11]; exact fa2_g14
  have fa3_g15 : g15 a3 = some (gI Γ 202 (fun _ => 0)) := by rw [eh, gUp_n _ _ d_a3_a11]; exact fa3_g14
  have fa4_g15 : g15 a4 = some (gI Γ 1616 (fun _ => 0)) := by rw [eh, gUp_n _ _ d_a4_a11]; exact fa4_g14
  have fa9_g15 : g15 a9 = some (gI Γ 60 (fun _ => 0)) := by rw [eh, gUp_n _ _ d_a9_a11]; exact fa9_g14
  have fa11_g15 : g15 a11 = some (gI Γ 60 (fun _ => 0)) := by rw [eh]; exact gUp_s _ _ _
  have k_g15 : gKeep (fun z => z = o) h g15 := by rw [eh]; exact gK_up k_g14 (Or.inr n_a11)
  clear eh
  refine g_putfF fX10_35 fin13_11 rfl (by decide +kernel) fo_g15 (by simp) rfl rfl ?_
  obtain ⟨g16, eh⟩ : ∃ z, z = gUp g15 o (gJ 13 [.ref a0, .ref a1, .ref a2, .ref a3, .ref a4, .int 0, .int 0, .int (-1), .int (-1), .ref a9, .int 0, .ref a11, .int 0, .int 0, .int 0, .int 0, .int 0, .int 0, .int 0, .null]) := ⟨_, rfl⟩
  refine g_hp eh ?_
  have fa0_g16 : g16 a0 = some (gI Γ 202 (fun _ => 0)) := by rw [eh, gUp_n _ _ d_o_a0.symm]; exact fa0_g15
  have fa1_g16 : g16 a1 = some (gI Γ 202 (fun _ => 0)) := by rw [eh, gUp_n _ _ d_o_a1.symm]; exact fa1_g15
  have fa2_g16 : g16 a2 = some (gI Γ 202 (fun _ => 0)) := by rw [eh, gUp_n _ _ d_o_a2.symm]; exact fa2_g15
  have fa3_g16 : g16 a3 = some (gI Γ 202 (fun _ => 0)) := by rw [eh, gUp_n _ _ d_o_a3.symm]; exact fa3_g15
  have fa4_g16 : g16 a4 = some (gI Γ 1616 (fun _ => 0)) := by rw [eh, gUp_n _ _ d_o_a4.symm]; exact fa4_g15
  have fa9_g16 : g16 a9 = some (gI Γ 60 (fun _ => 0)) := by rw [eh, gUp_n _ _ d_o_a9.symm]; exact fa9_g15
  have fa11_g16 : g16 a11 = some (gI Γ 60 (fun _ => 0)) := by rw [eh, gUp_n _ _ d_o_a11.symm]; exact fa11_g15
  have fo_g16 : g16 o = some (gJ 13 [.ref a0, .ref a1, .ref a2, .ref a3, .ref a4, .int 0, .int 0, .int (-1), .int (-1), .ref a9, .int 0, .ref a11, .int 0, .int 0, .int 0, .int 0, .int 0, .int 0, .int 0, .null]) := by rw [eh]; exact gUp_s _ _ _
  have k_g16 : gKeep (fun z => z = o) h g16 := by rw [eh]; exact gK_up k_g15 (Or.inl rfl)
  clear eh
  refine g_blk [(.aload_n 0, .null), (.bipush 120, .int (nI 120))] (Nat.le_of_ble_eq_true rfl) (by decide +kernel) ?_
  refine gx_aload_n_0 (gx_bipush ((gx_nil ?_)))
  refine g_newarr_i (rc' := 0) (rs' := 0) (by decide +kernel) wAI (by decide) (show (nI 120).toNatClampNeg = 120 by decide) (by decide) (by omega) (by omega) (fun a19 h_a19 => ?_)
  have n_a19 : h a19 = none := gK_no (S := fun z => z = o) k_g16 (fun z y => by rw [y]; exact ⟨_, fo_g16⟩) h_a19
  have d_o_a19 : o ≠ a19 := fun z => by rw [← z, fo_g16] at h_a19; cases h_a19
  have d_a0_a19 : a0 ≠ a19 := fun z => by rw [← z, fa0_g16] at h_a19; cases h_a19
  have d_a1_a19 : a1 ≠ a19 := fun z => by rw [← z, fa1_g16] at h_a19; cases h_a19
  have d_a2_a19 : a2 ≠ a19 := fun z => by rw [← z, fa2_g16] at h_a19; cases h_a19
  have d_a3_a19 : a3 ≠ a19 := fun z => by rw [← z, fa3_g16] at h_a19; cases h_a19
  have d_a4_a19 : a4 ≠ a19 := fun z => by rw [← z, fa4_g16] at h_a19; cases h_a19
  have d_a9_a19 : a9 ≠ a19 := fun z => by rw [← z, fa9_g16] at h_a19; cases h_a19
  have d_a11_a19 : a11 ≠ a19 := fun z => by rw [← z, fa11_g16] at h_a19; cases h_a19
  obtain ⟨g17, eh⟩ : ∃ z, z = gUp g16 a19 (gI Γ 120 (fun _ => 0)) := ⟨_, rfl⟩
  refine g_hp eh ?_
  have fo_g17 : g17 o = some (gJ 13 [.ref a0, .ref a1, .ref a2, .ref a3, .ref a4, .int 0, .int 0, .int (-1), .int (-1), .ref a9, .int 0, .ref a11, .int 0, .int 0, .int 0, .int 0, .int 0, .int 0, .int 0, .null]) := by rw [eh, gUp_n _ _ d_o_a19]; exact fo_g16
  have fa0_g17 : g17 a0 = some (gI Γ 202 (fun _ => 0)) := by rw [eh, gUp_n _ _ d_a0_a19]; exact fa0_g16
  have fa1_g17 : g17 a1 = some (gI Γ 202 (fun _ => 0)) := by rw [eh, gUp_n _ _ d_a1_a19]; exact fa1_g16
  have fa2_g17 : g17 a2 = some (gI Γ 202 (fun _ => 0)) := by rw [eh, gUp_n _ _ d_a2_a19]; exact fa2_g16
  have fa3_g17 : g17 a3 = some (gI Γ 202 (fun _ => 0)) := by rw [eh, gUp_n _ _ d_a3_a19]; exact fa3_g16
  have fa4_g17 : g17 a4 = some (gI Γ 1616 (fun _ => 0)) := by rw [eh, gUp_n _ _ d_a4_a19]; exact fa4_g16
  have fa9_g17 : g17 a9 = some (gI Γ 60 (fun _ => 0)) := by rw [eh, gUp_n _ _ d_a9_a19]; exact fa9_g16
  have fa11_g17 : g17 a11 = some (gI Γ 60 (fun _ => 0)) := by rw [eh, gUp_n _ _ d_a11_a19]; exact fa11_g16
  have fa19_g17 : g17 a19 = some (gI Γ 120 (fun _ => 0)) := by rw [eh]; exact gUp_s _ _ _
  have k_g17 : gKeep (fun z => z = o) h g17 := by rw [eh]; exact gK_up k_g16 (Or.inr n_a19)
  clear eh
  refine g_putfF fX10_38 fin13_19 rfl (by decide +kernel) fo_g17 (by simp) rfl rfl ?_
  obtain ⟨g18, eh⟩ : ∃ z, z = gUp g17 o (gJ 13 [.ref a0, .ref a1, .ref a2, .ref a3, .ref a4, .int 0, .int 0, .int (-1), .int (-1), .ref a9, .int 0, .ref a11, .int 0, .int 0, .int 0, .int 0, .int 0, .int 0, .int 0, .ref a19]) := ⟨_, rfl⟩
  refine g_hp eh ?_
  have fa0_g18 : g18 a0 = some (gI Γ 202 (fun _ => 0)) := by rw [eh, gUp_n _ _ d_o_a0.symm]; exact fa0_g17
  have fa1_g18 : g18 a1 = some (gI Γ 202 (fun _ => 0)) := by rw [eh, gUp_n _ _ d_o_a1.symm]; exact fa1_g17
  have fa2_g18 : g18 a2 = some (gI Γ 202 (fun _ => 0)) := by rw [eh, gUp_n _ _ d_o_a2.symm]; exact fa2_g17
  have fa3_g18 : g18 a3 = some (gI Γ 202 (fun _ => 0)) := by rw [eh, gUp_n _ _ d_o_a3.symm]; exact fa3_g17
  have fa4_g18 : g18 a4 = some (gI Γ 1616 (fun _ => 0)) := by rw [eh, gUp_n _ _ d_o_a4.symm]; exact fa4_g17
  have fa9_g18 : g18 a9 = some (gI Γ 60 (fun _ => 0)) := by rw [eh, gUp_n _ _ d_o_a9.symm]; exact fa9_g17
  have fa11_g18 : g18 a11 = some (gI Γ 60 (fun _ => 0)) := by rw [eh, gUp_n _ _ d_o_a11.symm]; exact fa11_g17
  have fa19_g18 : g18 a19 = some (gI Γ 120 (fun _ => 0)) := by rw [eh, gUp_n _ _ d_o_a19.symm]; exact fa19_g17
  have fo_g18 : g18 o = some (gJ 13 [.ref a0, .ref a1, .ref a2, .ref a3, .ref a4, .int 0, .int 0, .int (-1), .int (-1), .ref a9, .int 0, .ref a11, .int 0, .int 0, .int 0, .int 0, .int 0, .int 0, .int 0, .ref a19]) := by rw [eh]; exact gUp_s _ _ _
  have k_g18 : gKeep (fun z => z = o) h g18 := by rw [eh]; exact gK_up k_g17 (Or.inl rfl)
  clear eh
  refine g_blk [(.iconst 0, .int (nI 0)), (.istore_n 1, .null)] (Nat.le_of_ble_eq_true rfl) (by decide +kernel) ?_
  refine gx_iconst (gx_istore_n_1 rfl ((gx_nil ?_)))
  obtain ⟨ad, e0, e1, e2, e3, e4, e9, e11, e19⟩ : ∃ ad : Nat → Nat, ad 0 = a0 ∧ ad 1 = a1 ∧ ad 2 = a2 ∧ ad 3 = a3 ∧ ad 4 = a4 ∧ ad 9 = a9 ∧ ad 11 = a11 ∧ ad 19 = a19 := ⟨fun j => if j = 0 then a0 else if j = 1 then a1 else if j = 2 then a2 else if j = 3 then a3 else if j = 4 then a4 else if j = 9 then a9 else if j = 11 then a11 else a19, rfl, rfl, rfl, rfl, rfl, rfl, rfl, rfl⟩
  have hj : ∀ j, mIs j = true → j = 0 ∨ j = 1 ∨ j = 2 ∨ j = 3 ∨ j = 4 ∨ j = 9 ∨ j = 11 ∨ j = 19 := by
    intro j hj
    unfold mIs at hj
    simp only [Bool.or_eq_true, beq_iff_eq] at hj
    omega
  refine loop _ g18 a0 _ fo_g18 (fun z => d_o_a0 z.symm) (fun hk kk k6 => ⟨rfl, ad, ⟨?_, fun j jj => ?_, fun j jj => ?_, fun i j ji jj e => ?_⟩, fun j jj => ?_, gK_tr k_g18 kk (fun z y => Or.inr (by rw [y]; exact n_a0))⟩) 6 0 g18 rfl gKeep.rf (by rw [← gNi_0]; exact fa0_g18)
  · rw [kk o _ d_o_a0 fo_g18]
    unfold mFs
    rw [e0, e1, e2, e3, e4, e9, e11, e19]
    rfl
  · rcases hj j jj with rfl | rfl | rfl | rfl | rfl | rfl | rfl | rfl
    · rw [e0]; exact ⟨_, k6, fun q _ => rfl⟩
    · rw [e1]; exact ⟨_, kk a1 _ (fun z => d_a0_a1 z.symm) fa1_g18, fun q _ => rfl⟩
    · rw [e2]; exact ⟨_, kk a2 _ (fun z => d_a0_a2 z.symm) fa2_g18, fun q _ => rfl⟩
    · rw [e3]; exact ⟨_, kk a3 _ (fun z => d_a0_a3 z.symm) fa3_g18, fun q _ => rfl⟩
    · rw [e4]; exact ⟨_, kk a4 _ (fun z => d_a0_a4 z.symm) fa4_g18, fun q _ => rfl⟩
    · rw [e9]; exact ⟨_, kk a9 _ (fun z => d_a0_a9 z.symm) fa9_g18, fun q _ => rfl⟩
    · rw [e11]; exact ⟨_, kk a11 _ (fun z => d_a0_a11 z.symm) fa11_g18, fun q _ => rfl⟩
    · rw [e19]; exact ⟨_, kk a19 _ (fun z => d_a0_a19 z.symm) fa19_g18, fun q _ => rfl⟩
  · rcases hj j jj with rfl | rfl | rfl | rfl | rfl | rfl | rfl | rfl
    · rw [e0]; exact fun z => d_o_a0 z.symm
    · rw [e1]; exact fun z => d_o_a1 z.symm
    · rw [e2]; exact fun z => d_o_a2 z.symm
    · rw [e3]; exact fun z => d_o_a3 z.symm
    · rw [e4]; exact fun z => d_o_a4 z.symm
    · rw [e9]; exact fun z => d_o_a9 z.symm
    · rw [e11]; exact fun z => d_o_a11 z.symm
    · rw [e19]; exact fun z => d_o_a19 z.symm
  · rcases hj i ji with rfl | rfl | rfl | rfl | rfl | rfl | rfl | rfl <;> rcases hj j jj with rfl | rfl | rfl | rfl | rfl | rfl | rfl | rfl <;> simp only [e0, e1, e2, e3, e4, e9, e11, e19] at e <;> first | rfl | exact absurd e (by assumption) | exact absurd e.symm (by assumption)
  · rcases hj j jj with rfl | rfl | rfl | rfl | rfl | rfl | rfl | rfl
    · rw [e0]; exact n_a0
    · rw [e1]; exact n_a1
    · rw [e2]; exact n_a2
    · rw [e3]; exact n_a3
    · rw [e4]; exact n_a4
    · rw [e9]; exact n_a9
    · rw [e11]; exact n_a11
    · rw [e19]; exact n_a19
end SRi
