section GTh
variable {Γ : gE} {h : gHp}
theorem sb_appI0 {d1 d10 : Nat} {vf : Value} (hp : gPsb Γ d1 d10 vf) {a v m : Nat} {xs : List Nat} (H : gSB Γ h a v m xs) {n : Nat} (hn : n < 100000) (hl : xs.length + (tpd n + 1) ≤ 34) : gC Γ M_J5_append_c97b9 [.ref a, .int (nI n)] h 4 1 34 (sbZ Γ h a v (some (.ref a)) (xs ++ dgt n)) (fun _ _ => False) := by
  obtain ⟨ml, f, ha, hv, hf, hlen, hm, hav, hfit⟩ := id H
  refine gC_of (by decide) rfl (Nat.le_of_ble_eq_true rfl) [some (.ref a), some (.int (nI n)), none, none] rfl ?_
  refine g_blk [(.aload_n 0, .null)] (Nat.le_of_ble_eq_true rfl) (by decide +kernel) ?_
  refine gx_aload_n_0 ((gx_nil ?_))
  refine g_getf fJ5_79 (by decide +kernel) ha rfl ?_
  refine g_blk [(.istore_n 2, .null), (.iload_n 2, .null), (.iload_n 1, .null)] (Nat.le_of_ble_eq_true rfl) (by decide +kernel) ?_
  refine gx_istore_n_2 rfl (gx_iload_n_2 (gx_iload_n_1 ((gx_nil ?_))))
  refine g_pS kJ5_245 (sb_size hn) (by decide +kernel) rfl rfl (Nat.le_of_ble_eq_true rfl) (Nat.le_of_ble_eq_true rfl) (Nat.le_of_ble_eq_true rfl) rfl ?_
  try simp only [Option.toList_some, Option.toList_none, List.cons_append, List.nil_append, bI_0, n1_0, n0_0, Decidable.not_not, not_true_eq_false, not_false_eq_true, nI_add, Nat.add_zero, Nat.zero_add, Nat.reduceAdd]
  refine g_blk [(.iadd, .null), (.istore_n 3, .null), (.aload_n 0, .null), (.iload_n 3, .null)] (Nat.le_of_ble_eq_true rfl) (by decide +kernel) ?_
  refine gx_iadd (gx_istore_n_3 rfl (gx_aload_n_0 (gx_iload_n_3 ((gx_nil ?_)))))
  try simp only [nI_add, Nat.add_zero, Nat.zero_add, Nat.reduceAdd]
  refine g_callUp (rc' := 0) (rs' := 0) kJ5_100 (hp.2.2.2.2.2.2.2 _ (by simp [pvy])) (sb_ens hp H (q := xs.length + (tpd n + 1)) (by omega)) (by decide +kernel) rfl rfl ha rfl (Nat.le_of_ble_eq_true rfl) (Nat.le_of_ble_eq_true rfl) (Nat.le_of_ble_eq_true rfl) (by omega) (by omega) rfl (fun _ _ z => z.elim) (fun v9 h5 hz => ?_)
  obtain ⟨rfl, v5, m5, H5, hq5, hv5, k5, ex5⟩ := hz
  obtain ⟨ml5, f5, ha5, hb5, hf5, hlen5, hm5, hav5, hfit5⟩ := id H5
  simp only [Option.toList_some, Option.toList_none, List.cons_append, List.nil_append]
  refine g_blk [(.aload_n 0, .null)] (Nat.le_of_ble_eq_true rfl) (by decide +kernel) ?_
  refine gx_aload_n_0 ((gx_nil ?_))
  refine g_callU (rc' := 0) (rs' := 0) kJ5_83 (gC_pure (sb_isLat hp ha5)) (by decide +kernel) rfl rfl ha5 rfl (Nat.le_of_ble_eq_true rfl) (Nat.le_of_ble_eq_true rfl) (Nat.le_of_ble_eq_true rfl) (by omega) (by omega) rfl (fun _ _ z => z.elim) (fun v9 h5 hz => ?_)
  obtain ⟨rfl, e9⟩ := hz
  rw [e9]
  clear e9 h5
  simp only [Option.toList_some, Option.toList_none, List.cons_append, List.nil_append]
  refine g_if_eq (off := 16) (tgt := 37) (by decide +kernel) (by decide) (fun c21 => ?_) (fun c21 => ?_)
  · exact absurd c21 (by decide)
  · try simp only [bI_0, Decidable.not_not] at c21
    refine g_blk [(.iload_n 1, .null), (.iload_n 3, .null), (.aload_n 0, .null)] (Nat.le_of_ble_eq_true rfl) (by decide +kernel) ?_
    refine gx_iload_n_1 (gx_iload_n_3 (gx_aload_n_0 ((gx_nil ?_))))
    refine g_getf fJ5_15 (by decide +kernel) ha5 rfl ?_
    refine g_callS (rc' := 0) (rs' := 0) kJ5_248 (sb_getChars hp (L := xs.length) hb5 hn hq5 (by omega)) (by decide +kernel) rfl rfl (Nat.le_of_ble_eq_true rfl) (Nat.le_of_ble_eq_true rfl) (Nat.le_of_ble_eq_true rfl) (by omega) (by omega) rfl (fun _ _ z => z.elim) (fun v9 h6 hz => ?_)
    obtain ⟨rfl, w6, k6⟩ := hz
    have ha6 := k6 a _ (fun z => hav5 z) ha5
    simp only [Option.toList_some, Option.toList_none, List.cons_append, List.nil_append]
    refine g_blk [(.pop, .null), (.goto 14, .retAddr 48), (.aload_n 0, .null), (.iload_n 3, .null)] (Nat.le_of_ble_eq_true rfl) (by decide +kernel) ?_
    refine gx_popi (gx_goto (gx_aload_n_0 (gx_iload_n_3 ((gx_nil ?_)))))
    refine g_putf fJ5_79 (by decide +kernel) ha6 (by simp) rfl rfl ?_
    refine g_blk [(.aload_n 0, .null)] (Nat.le_of_ble_eq_true rfl) (by decide +kernel) ?_
    refine gx_aload_n_0 ((gx_nil ?_))
    refine g_end (some (.ref _)) rfl ⟨by decide +kernel, _, rfl, Or.inl ⟨_, rfl⟩⟩ ?_
    have el : (xs ++ dgt n).length = xs.length + (tpd n + 1) := by rw [List.length_append, dgt_len]
    refine ⟨rfl, v5, m5, gSB_put (ml := ml5) (f := dG xs.length n f5) (by rw [el]; exact gUp_s _ _ _) ((gUp_n _ _ hav5.symm).trans w6) (fun i x hx => ?_) (fun i x hx => dG_at hx) (by rw [el]; exact hq5) hm5 hav5 (dG_fit hfit5), hv5, gK_up (gK_tr k5 k6 (fun z y => ?_)) (Or.inl (Or.inl rfl)), gUp_ex ?_⟩
    · have hi := (List.getElem?_eq_some_iff.mp hx).1
      rw [dG_o hi]; exact hf5 i x hx
    · rw [y]
      rcases hv5 with z | z
      · exact Or.inl (Or.inr z)
      · exact Or.inr z
    · obtain ⟨e5, he5⟩ := ex5
      by_cases z : v = v5
      · rw [z]; exact ⟨_, w6⟩
      · exact ⟨_, k6 v e5 z he5⟩
theorem sb_appI {d1 d10 : Nat} {vf : Value} (hp : gPsb Γ d1 d10 vf) {a v m : Nat} {xs : List Nat} (H : gSB Γ h a v m xs) {n : Nat} (hn : n < 100000) (hl : xs.length + (tpd n + 1) ≤ 34) : gC Γ M_J4_append_bf812 [.ref a, .int (nI n)] h 5 1 34 (sbZ Γ h a v (some (.ref a)) (xs ++ dgt n)) (fun _ _ => False) := by
  obtain ⟨ml, f, ha, hv, hf, hlen, hm, hav, hfit⟩ := id H
  refine gC_of (by decide) rfl (Nat.le_of_ble_eq_true rfl) [some (.ref a), some (.int (nI n))] rfl ?_
  refine g_blk [(.aload_n 0, .null), (.iload_n 1, .null)] (Nat.le_of_ble_eq_true rfl) (by decide +kernel) ?_
  refine gx_aload_n_0 (gx_iload_n_1 ((gx_nil ?_)))
  refine g_callSU (rc' := 0) (rs' := 0) kJ4_53 (sb_appI0 hp H hn hl) (by decide +kernel) rfl rfl ha rfl (Nat.le_of_ble_eq_true rfl) (Nat.le_of_ble_eq_true rfl) (Nat.le_of_ble_eq_true rfl) (by omega) (by omega) rfl (fun _ _ z => z.elim) (fun v9 h5 hz => ?_)
  obtain ⟨rfl, hz⟩ := hz
  simp only [Option.toList_some, Option.toList_none, List.cons_append, List.nil_append]
  refine g_blk [(.pop, .null), (.aload_n 0, .null)] (Nat.le_of_ble_eq_true rfl) (by decide +kernel) ?_
  refine gx_popr (gx_aload_n_0 ((gx_nil ?_)))
  refine g_end (some (.ref _)) rfl ⟨by decide +kernel, _, rfl, Or.inl ⟨_, rfl⟩⟩ ?_
  exact ⟨rfl, hz⟩
theorem gLkP_of {own : String} {idx ci n : Nat} {M' : gM} (h : gLkV own idx ci M' n) : gLkP own idx M' n := by
  obtain ⟨T, N, -, l1, l2, l3, l4, l5, l6, l7⟩ := h
  exact ⟨l1, l2, l3, l4, l5, l6, l7⟩
theorem nar_c {c : Nat} (h : c < 128) : narrow FieldType.char (.int (nI c)) = .int (nI c) := by
  have key : ∀ c : Fin 128, narrow FieldType.char (.int (nI c.val)) = .int (nI c.val) := by decide +kernel
  exact key ⟨c, h⟩
/-- a text that is a constant -/
def cf (ws : List Nat) (j : Nat) : Int32 := nI ((ws[j]?).getD 0)
def gCs (Γ : gE) (s : Nat) (ws : List Nat) : Prop := ∃ w, gPo Γ RJ0 s ∧ gPf Γ RJ0 "value" "[B" s (.ref w) ∧ gPf Γ RJ0 "coder" "B" s (.int (nI 0)) ∧ gPa Γ .byte w ws.length (fun j => .int (cf ws j)) ∧ ∀ x ∈ ws, x < 128
theorem cf_at {ws : List Nat} {j x : Nat} (h : ws[j]? = some x) : cf ws j = nI x := by
  unfold cf
  rw [h]
  rfl
theorem cf_lt {ws : List Nat} (h : ∀ x ∈ ws, x < 128) (j : Nat) : (ws[j]?).getD 0 < 128 := by
  cases e : ws[j]? with
  | none => decide
  | some x => exact h x (List.mem_of_getElem? e)
theorem nI_c2 {c : Nat} (h : c < 128) : (((nI c &&& nI 255) : Int32).toUInt32 % 65536).toInt32 = nI c := by
  have key : ∀ c : Fin 128, (((nI c.val &&& nI 255) : Int32).toUInt32 % 65536).toInt32 = nI c.val := by decide +kernel
  exact key ⟨c, h⟩
theorem st_coder {d1 d10 : Nat} {vf : Value} (hp : gPsb Γ d1 d10 vf) {s : Nat} {ws : List Nat} (hs : gCs Γ s ws) : pC Γ M_J0_coder_7d493 [.ref s] h 0 (some (.int (nI 0))) := by
  obtain ⟨w, s1, s2, s3, s4, s5⟩ := hs
  refine pC_of (by decide) rfl (Nat.le_of_ble_eq_true rfl) [some (.ref s)] rfl ?_
  refine g_gets (o := _) hp.1 fzJ0_38 (Or.inl rfl) (by decide +kernel) ?_
  refine g_if_eq (off := 10) (tgt := 13) (by decide +kernel) (by decide) (fun c3 => ?_) (fun c3 => ?_)
  · exact absurd c3 (by decide)
  · try simp only [bI_0, Decidable.not_not] at c3
    refine g_blk [(.aload_n 0, .null)] (Nat.le_of_ble_eq_true rfl) (by decide +kernel) ?_
    refine gx_aload_n_0 ((gx_nil ?_))
    refine g_getP s3 fpJ0_15 (Or.inl rfl) (by decide +kernel) ?_
    refine g_blk [(.goto 4, .retAddr 14)] (Nat.le_of_ble_eq_true rfl) (by decide +kernel) ?_
    refine gx_goto ((gx_nil ?_))
    refine g_end (some (.int _)) rfl ⟨by decide +kernel, _, rfl, rfl⟩ ⟨?_, rfl⟩
    rfl
theorem st_len {d1 d10 : Nat} {vf : Value} (hp : gPsb Γ d1 d10 vf) {s : Nat} {ws : List Nat} (hs : gCs Γ s ws) : pC Γ M_J0_length_8abf5 [.ref s] h 1 (some (.int (nI ws.length))) := by
  obtain ⟨w, s1, s2, s3, s4, s5⟩ := id hs
  refine pC_of (by decide) rfl (Nat.le_of_ble_eq_true rfl) [some (.ref s)] rfl ?_
  refine g_blk [(.aload_n 0, .null)] (Nat.le_of_ble_eq_true rfl) (by decide +kernel) ?_
  refine gx_aload_n_0 ((gx_nil ?_))
  refine g_getP s2 fpJ0_9 (Or.inl rfl) (by decide +kernel) ?_
  refine g_alenP s4 (by decide +kernel) ?_
  refine g_blk [(.aload_n 0, .null)] (Nat.le_of_ble_eq_true rfl) (by decide +kernel) ?_
  refine gx_aload_n_0 ((gx_nil ?_))
  refine g_callP (rc' := 0) (rs' := 0) (gLkP_of kJ0_335) (gC_pure (st_coder hp hs)) (by decide +kernel) rfl rfl s1 rfl (Nat.le_of_ble_eq_true rfl) (Nat.le_of_ble_eq_true rfl) (Nat.le_of_ble_eq_true rfl) (by omega) (by omega) rfl (fun _ _ z => z.elim) (fun v9 h5 hz => ?_)
  obtain ⟨rfl, e9⟩ := hz
  rw [e9]
  clear e9 h5
  simp only [Option.toList_some, Option.toList_none, List.cons_append, List.nil_append]
  rw [show nI 0 = (0 : Int32) by decide]
  refine g_blk [(.ishr, .null)] (Nat.le_of_ble_eq_true rfl) (by decide +kernel) ?_
  refine gx_ishr ((gx_nil ?_))
  try simp only [sb_shr0, sb_shl0]
  refine g_end (some (.int _)) rfl ⟨by decide +kernel, _, rfl, rfl⟩ ⟨?_, rfl⟩
  rfl
theorem st_isLat {d1 d10 : Nat} {vf : Value} (hp : gPsb Γ d1 d10 vf) {s : Nat} {ws : List Nat} (hs : gCs Γ s ws) : pC Γ M_J0_isLatin1_aae02 [.ref s] h 0 (some (.int (nI 1))) := by
  obtain ⟨w, s1, s2, s3, s4, s5⟩ := hs
  refine pC_of (by decide) rfl (Nat.le_of_ble_eq_true rfl) [some (.ref s)] rfl ?_
  refine g_gets (o := _) hp.1 fzJ0_38 (Or.inl rfl) (by decide +kernel) ?_
  refine g_if_eq (off := 14) (tgt := 17) (by decide +kernel) (by decide) (fun c3 => ?_) (fun c3 => ?_)
  · exact absurd c3 (by decide)
  · try simp only [bI_0, Decidable.not_not] at c3
    refine g_blk [(.aload_n 0, .null)] (Nat.le_of_ble_eq_true rfl) (by decide +kernel) ?_
    refine gx_aload_n_0 ((gx_nil ?_))
    refine g_getP s3 fpJ0_15 (Or.inl rfl) (by decide +kernel) ?_
    refine g_if_ne (off := 7) (tgt := 17) (by decide +kernel) (by decide) (fun c10 => ?_) (fun c10 => ?_)
    · exact absurd (by decide) c10
    · try simp only [bI_0, Decidable.not_not] at c10
      refine g_blk [(.iconst 1, .int (nI 1)), (.goto 4, .retAddr 18)] (Nat.le_of_ble_eq_true rfl) (by decide +kernel) ?_
      refine gx_iconst (gx_goto ((gx_nil ?_)))
      refine g_end (some (.int _)) rfl ⟨by decide +kernel, _, rfl, by first | rfl | exact bI_nar _⟩ ⟨?_, rfl⟩
      rfl
theorem jk_checkR {i n a : Nat} (hi : i < n) (hn : n < 2 ^ 31) : pC Γ M_J3_checkIndex_8e157 [.int (nI i), .int (nI n), .ref a] h 0 (some (.int (nI i))) := by
  refine pC_of (by decide) rfl (Nat.le_of_ble_eq_true rfl) [some (.int (nI i)), some (.int (nI n)), some (.ref a)] rfl ?_
  refine g_blk [(.iload_n 0, .null)] (Nat.le_of_ble_eq_true rfl) (by decide +kernel) ?_
  refine gx_iload_n_0 ((gx_nil ?_))
  refine g_if_lt (off := 8) (tgt := 9) (by decide +kernel) (by decide) (fun c1 => ?_) (fun c1 => ?_)
  · try simp only [bI_0, Decidable.not_not] at c1
    exact absurd c1 (nI_pos (by omega))
  · try simp only [bI_0, Decidable.not_not] at c1
    refine g_blk [(.iload_n 0, .null), (.iload_n 1, .null)] (Nat.le_of_ble_eq_true rfl) (by decide +kernel) ?_
    refine gx_iload_n_0 (gx_iload_n_1 ((gx_nil ?_)))
    refine g_icmp_lt (off := 10) (tgt := 16) (by decide +kernel) (by decide) (fun c6 => ?_) (fun c6 => ?_)
    · try simp only [bI_0, Decidable.not_not] at c6
      refine g_blk [(.iload_n 0, .null)] (Nat.le_of_ble_eq_true rfl) (by decide +kernel) ?_
      refine gx_iload_n_0 ((gx_nil ?_))
      refine g_end (some (.int _)) rfl ⟨by decide +kernel, _, rfl, rfl⟩ ⟨?_, rfl⟩
      rfl
    · try simp only [bI_0, Decidable.not_not] at c6
      exact absurd (nI_lt hi (by omega)) c6
theorem st_check {d1 d10 : Nat} {vf : Value} (hp : gPsb Γ d1 d10 vf) {i n : Nat} (hi : i < n) (hn : n < 2 ^ 31) : pC Γ M_J0_checkIndex_df160 [.int (nI i), .int (nI n)] h 1 (none) := by
  rcases hp.2.2.2.2.2.2.1 with hvf | ⟨q, hvf⟩
  · subst hvf
    refine pC_of (by decide) rfl (Nat.le_of_ble_eq_true rfl) [some (.int (nI i)), some (.int (nI n))] rfl ?_
    refine g_blk [(.iload_n 0, .null), (.iload_n 1, .null)] (Nat.le_of_ble_eq_true rfl) (by decide +kernel) ?_
    refine gx_iload_n_0 (gx_iload_n_1 ((gx_nil ?_)))
    refine g_gets (o := _) hp.2.2.2.2.2.1 fzJ0_1053 (Or.inl rfl) (by decide +kernel) ?_
    refine g_pS kJ0_1059 (jk_check hi hn) (by decide +kernel) rfl rfl (Nat.le_of_ble_eq_true rfl) (Nat.le_of_ble_eq_true rfl) (Nat.le_of_ble_eq_true rfl) rfl ?_
    simp only [Option.toList_some, Option.toList_none, List.cons_append, List.nil_append]
    refine g_blk [(.pop, .null)] (Nat.le_of_ble_eq_true rfl) (by decide +kernel) ?_
    refine gx_popi ((gx_nil ?_))
    refine g_end none rfl ⟨by decide +kernel, rfl⟩ ⟨?_, rfl⟩
    rfl
  · subst hvf
    refine pC_of (by decide) rfl (Nat.le_of_ble_eq_true rfl) [some (.int (nI i)), some (.int (nI n))] rfl ?_
    refine g_blk [(.iload_n 0, .null), (.iload_n 1, .null)] (Nat.le_of_ble_eq_true rfl) (by decide +kernel) ?_
    refine gx_iload_n_0 (gx_iload_n_1 ((gx_nil ?_)))
    refine g_gets (o := _) hp.2.2.2.2.2.1 fzJ0_1053 (Or.inl rfl) (by decide +kernel) ?_
    refine g_pS kJ0_1059 (jk_checkR hi hn) (by decide +kernel) rfl rfl (Nat.le_of_ble_eq_true rfl) (Nat.le_of_ble_eq_true rfl) (Nat.le_of_ble_eq_true rfl) rfl ?_
    simp only [Option.toList_some, Option.toList_none, List.cons_append, List.nil_append]
    refine g_blk [(.pop, .null)] (Nat.le_of_ble_eq_true rfl) (by decide +kernel) ?_
    refine gx_popi ((gx_nil ?_))
    refine g_end none rfl ⟨by decide +kernel, rfl⟩ ⟨?_, rfl⟩
    rfl
theorem sl_charAt {d1 d10 : Nat} {vf : Value} (hp : gPsb Γ d1 d10 vf) {w n i x : Nat} {f : Nat → Int32} (hw : gPa Γ .byte w n (fun j => .int (f j))) (hi : i < n) (hn : n ≤ 1000) (hx : f i = nI x) (hx8 : x < 128) : pC Γ M_J1_charAt_3b067 [.ref w, .int (nI i)] h 2 (some (.int (nI x))) := by
  refine pC_of (by decide) rfl (Nat.le_of_ble_eq_true rfl) [some (.ref w), some (.int (nI i))] rfl ?_
  refine g_blk [(.iload_n 1, .null), (.aload_n 0, .null)] (Nat.le_of_ble_eq_true rfl) (by decide +kernel) ?_
  refine gx_iload_n_1 (gx_aload_n_0 ((gx_nil ?_)))
  refine g_alenP hw (by decide +kernel) ?_
  refine g_pS kJ1_9 (st_check hp hi (by omega)) (by decide +kernel) rfl rfl (Nat.le_of_ble_eq_true rfl) (Nat.le_of_ble_eq_true rfl) (Nat.le_of_ble_eq_true rfl) rfl ?_
  simp only [Option.toList_some, Option.toList_none, List.cons_append, List.nil_append]
  refine g_blk [(.aload_n 0, .null), (.iload_n 1, .null)] (Nat.le_of_ble_eq_true rfl) (by decide +kernel) ?_
  refine gx_aload_n_0 (gx_iload_n_1 ((gx_nil ?_)))
  refine g_baloadP hw (vp_in_nI hi (by omega)) (by decide +kernel) ?_
  simp only [nI_clamp (show i < 2 ^ 31 by omega), hx]
  refine g_blk [(.sipush 255, .int (nI 255)), (.iand, .null), (.i2c, .null)] (Nat.le_of_ble_eq_true rfl) (by decide +kernel) ?_
  refine gx_sipush (gx_iand (gx_i2c ((gx_nil ?_))))
  refine g_end (some (.int _)) rfl ⟨by decide +kernel, _, rfl, (by rw [nI_c2 hx8]; exact nar_c hx8)⟩ ⟨?_, rfl⟩
  rw [nI_c2 hx8]
theorem st_charAt {d1 d10 : Nat} {vf : Value} (hp : gPsb Γ d1 d10 vf) {s : Nat} {ws : List Nat} (hs : gCs Γ s ws) {i x : Nat} (hx : ws[i]? = some x) (hl : ws.length ≤ 1000) : pC Γ M_J0_charAt_5068e [.ref s, .int (nI i)] h 3 (some (.int (nI x))) := by
  obtain ⟨w, s1, s2, s3, s4, s5⟩ := id hs
  have hi := (List.getElem?_eq_some_iff.mp hx).1
  have hx8 := s5 x (List.mem_of_getElem? hx)
  refine pC_of (by decide) rfl (Nat.le_of_ble_eq_true rfl) [some (.ref s), some (.int (nI i))] rfl ?_
  refine g_blk [(.aload_n 0, .null)] (Nat.le_of_ble_eq_true rfl) (by decide +kernel) ?_
  refine gx_aload_n_0 ((gx_nil ?_))
  refine g_callP (rc' := 0) (rs' := 0) (gLkP_of kJ0_492) (gC_pure (st_isLat hp hs)) (by decide +kernel) rfl rfl s1 rfl (Nat.le_of_ble_eq_true rfl) (Nat.le_of_ble_eq_true rfl) (Nat.le_of_ble_eq_true rfl) (by omega) (by omega) rfl (fun _ _ z => z.elim) (fun v9 h5 hz => ?_)
  obtain ⟨rfl, e9⟩ := hz
  rw [e9]
  clear e9 h5
  simp only [Option.toList_some, Option.toList_none, List.cons_append, List.nil_append]
  refine g_if_eq (off := 12) (tgt := 16) (by decide +kernel) (by decide) (fun c4 => ?_) (fun c4 => ?_)
  · exact absurd c4 (by decide)
  · try simp only [bI_0, Decidable.not_not] at c4
    refine g_blk [(.aload_n 0, .null)] (Nat.le_of_ble_eq_true rfl) (by decide +kernel) ?_
    refine gx_aload_n_0 ((gx_nil ?_))
    refine g_getP s2 fpJ0_9 (Or.inl rfl) (by decide +kernel) ?_
    refine g_blk [(.iload_n 1, .null)] (Nat.le_of_ble_eq_true rfl) (by decide +kernel) ?_
    refine gx_iload_n_1 ((gx_nil ?_))
    refine g_pS kJ0_495 (sl_charAt hp s4 hi hl (cf_at hx) hx8) (by decide +kernel) rfl rfl (Nat.le_of_ble_eq_true rfl) (Nat.le_of_ble_eq_true rfl) (Nat.le_of_ble_eq_true rfl) rfl ?_
    try simp only [Option.toList_some, Option.toList_none, List.cons_append, List.nil_append, bI_0, n1_0, n0_0, Decidable.not_not, not_true_eq_false, not_false_eq_true, nI_add, Nat.add_zero, Nat.zero_add, Nat.reduceAdd]
    refine g_end (some (.int _)) rfl ⟨by decide +kernel, _, rfl, nar_c hx8⟩ ⟨?_, rfl⟩
    rfl
theorem st_getBytes {d1 d10 : Nat} {vf : Value} (hp : gPsb Γ d1 d10 vf) {s : Nat} {ws : List Nat} (hs : gCs Γ s ws) {v m L : Nat} {f : Nat → Int32} (hv : h v = some (gB Γ m f)) (hL : L + ws.length ≤ m) (hm : m ≤ 64) : gC Γ M_J0_getBytes_840e7 [.ref s, .ref v, .int (nI L), .int 0] h 1 0 0 (fun r h' => r = none ∧ h' = gUp h v (gB Γ m (va_cpy (cf ws) f 0 L ws.length))) (fun _ _ => False) := by
  obtain ⟨w, s1, s2, s3, s4, s5⟩ := id hs
  refine gC_of (by decide) rfl (Nat.le_of_ble_eq_true rfl) [some (.ref s), some (.ref v), some (.int (nI L)), some (.int 0)] rfl ?_
  refine g_blk [(.aload_n 0, .null)] (Nat.le_of_ble_eq_true rfl) (by decide +kernel) ?_
  refine gx_aload_n_0 ((gx_nil ?_))
  refine g_callP (rc' := 0) (rs' := 0) (gLkP_of kJ0_335) (gC_pure (st_coder hp hs)) (by decide +kernel) rfl rfl s1 rfl (Nat.le_of_ble_eq_true rfl) (Nat.le_of_ble_eq_true rfl) (Nat.le_of_ble_eq_true rfl) (by omega) (by omega) rfl (fun _ _ z => z.elim) (fun v9 h5 hz => ?_)
  obtain ⟨rfl, e9⟩ := hz
  rw [e9]
  clear e9 h5
  simp only [Option.toList_some, Option.toList_none, List.cons_append, List.nil_append]
  refine g_blk [(.iload_n 3, .null)] (Nat.le_of_ble_eq_true rfl) (by decide +kernel) ?_
  refine gx_iload_n_3 ((gx_nil ?_))
  refine g_icmp_ne (off := 23) (tgt := 28) (by decide +kernel) (by decide) (fun c5 => ?_) (fun c5 => ?_)
  · try simp only [bI_0, Decidable.not_not] at c5
    exact absurd rfl c5
  · try simp only [bI_0, Decidable.not_not] at c5
    refine g_blk [(.aload_n 0, .null)] (Nat.le_of_ble_eq_true rfl) (by decide +kernel) ?_
    refine gx_aload_n_0 ((gx_nil ?_))
    refine g_getP s2 fpJ0_9 (Or.inl rfl) (by decide +kernel) ?_
    refine g_blk [(.iconst 0, .int (nI 0)), (.aload_n 1, .null), (.iload_n 2, .null), (.iload_n 3, .null), (.ishl, .null), (.aload_n 0, .null)] (Nat.le_of_ble_eq_true rfl) (by decide +kernel) ?_
    refine gx_iconst (gx_aload_n_1 (gx_iload_n_2 (gx_iload_n_3 (gx_ishl (gx_aload_n_0 ((gx_nil ?_)))))))
    try simp only [sb_shr0, sb_shl0]
    refine g_getP s2 fpJ0_9 (Or.inl rfl) (by decide +kernel) ?_
    refine g_alenP s4 (by decide +kernel) ?_
    refine g_copyt (by decide +kernel) wCPst s4 hv (by decide) (nI_pos (by omega)) (nI_pos (by omega)) (by rw [nI_clamp (n := ws.length) (by omega), nI_clamp (n := 0) (by decide)]; omega) (by rw [nI_clamp (n := ws.length) (by omega), nI_clamp (n := L) (by omega)]; exact hL) (fun i _ => (nI_bt (cf_lt s5 _)).2.2) (by omega) (by decide) ?_
    rw [nI_clamp (n := 0) (by decide), nI_clamp (n := L) (by omega), nI_clamp (n := ws.length) (by omega)]
    refine g_blk [(.goto 18, .retAddr 43)] (Nat.le_of_ble_eq_true rfl) (by decide +kernel) ?_
    refine gx_goto ((gx_nil ?_))
    refine g_end none rfl ⟨by decide +kernel, rfl⟩ ?_
    exact ⟨rfl, rfl⟩
theorem sb_infl {d1 d10 : Nat} {vf : Value} (hp : gPsb Γ d1 d10 vf) {s : Nat} {ws : List Nat} (hs : gCs Γ s ws) {a v : Nat} {ml n : Int32} (ha : h a = some (gJ 1 [.ref v, .int 0, .int ml, .int n])) : pC Γ M_J5_inflateIfNeededFor_a7421 [.ref a, .ref s] h 1 (none) := by
  obtain ⟨w, s1, s2, s3, s4, s5⟩ := id hs
  refine pC_of (by decide) rfl (Nat.le_of_ble_eq_true rfl) [some (.ref a), some (.ref s)] rfl ?_
  refine g_gets (o := _) hp.1 fzJ5_18 (Or.inl rfl) (by decide +kernel) ?_
  refine g_if_eq (off := 18) (tgt := 21) (by decide +kernel) (by decide) (fun c3 => ?_) (fun c3 => ?_)
  · exact absurd c3 (by decide)
  · try simp only [bI_0, Decidable.not_not] at c3
    refine g_blk [(.aload_n 0, .null)] (Nat.le_of_ble_eq_true rfl) (by decide +kernel) ?_
    refine gx_aload_n_0 ((gx_nil ?_))
    refine g_getf fJ5_22 (by decide +kernel) ha rfl ?_
    refine g_blk [(.aload_n 1, .null)] (Nat.le_of_ble_eq_true rfl) (by decide +kernel) ?_
    refine gx_aload_n_1 ((gx_nil ?_))
    refine g_callP (rc' := 0) (rs' := 0) (gLkP_of kJ5_40) (gC_pure (st_coder hp hs)) (by decide +kernel) rfl rfl s1 rfl (Nat.le_of_ble_eq_true rfl) (Nat.le_of_ble_eq_true rfl) (Nat.le_of_ble_eq_true rfl) (by omega) (by omega) rfl (fun _ _ z => z.elim) (fun v9 h5 hz => ?_)
    obtain ⟨rfl, e9⟩ := hz
    rw [e9]
    clear e9 h5
    simp only [Option.toList_some, Option.toList_none, List.cons_append, List.nil_append]
    refine g_icmp_eq (off := 7) (tgt := 21) (by decide +kernel) (by decide) (fun c14 => ?_) (fun c14 => ?_)
    · try simp only [bI_0, Decidable.not_not] at c14
      refine g_end none rfl ⟨by decide +kernel, rfl⟩ ⟨?_, rfl⟩
      rfl
    · try simp only [bI_0, Decidable.not_not] at c14
      exact absurd rfl c14
theorem sb_putAt {d1 d10 : Nat} {vf : Value} (hp : gPsb Γ d1 d10 vf) {s : Nat} {ws : List Nat} (hs : gCs Γ s ws) {a v m L : Nat} {ml n : Int32} {f : Nat → Int32} (ha : h a = some (gJ 1 [.ref v, .int 0, .int ml, .int n])) (hv : h v = some (gB Γ m f)) (hL : L + ws.length ≤ m) (hm : m ≤ 64) : gC Γ M_J5_putStringAt_47b60 [.ref a, .int (nI L), .ref s] h 2 0 0 (fun r h' => r = none ∧ h' = gUp h v (gB Γ m (va_cpy (cf ws) f 0 L ws.length))) (fun _ _ => False) := by
  obtain ⟨w, s1, s2, s3, s4, s5⟩ := id hs
  refine gC_of (by decide) rfl (Nat.le_of_ble_eq_true rfl) [some (.ref a), some (.int (nI L)), some (.ref s)] rfl ?_
  refine g_blk [(.aload_n 0, .null), (.aload_n 2, .null)] (Nat.le_of_ble_eq_true rfl) (by decide +kernel) ?_
  refine gx_aload_n_0 (gx_aload_n_2 ((gx_nil ?_)))
  refine g_callUp (rc' := 0) (rs' := 0) kJ5_397 (hp.2.2.2.2.2.2.2 _ (by simp [pvy])) (gC_pure (sb_infl hp hs ha)) (by decide +kernel) rfl rfl ha rfl (Nat.le_of_ble_eq_true rfl) (Nat.le_of_ble_eq_true rfl) (Nat.le_of_ble_eq_true rfl) (by omega) (by omega) rfl (fun _ _ z => z.elim) (fun v9 h5 hz => ?_)
  obtain ⟨rfl, e9⟩ := hz
  rw [e9]
  clear e9 h5
  simp only [Option.toList_some, Option.toList_none, List.cons_append, List.nil_append]
  refine g_blk [(.aload_n 2, .null), (.aload_n 0, .null)] (Nat.le_of_ble_eq_true rfl) (by decide +kernel) ?_
  refine gx_aload_n_2 (gx_aload_n_0 ((gx_nil ?_)))
  refine g_getf fJ5_15 (by decide +kernel) ha rfl ?_
  refine g_blk [(.iload_n 1, .null), (.aload_n 0, .null)] (Nat.le_of_ble_eq_true rfl) (by decide +kernel) ?_
  refine gx_iload_n_1 (gx_aload_n_0 ((gx_nil ?_)))
  refine g_getf fJ5_22 (by decide +kernel) ha rfl ?_
  refine g_callP (rc' := 0) (rs' := 0) (gLkP_of kJ5_399) (st_getBytes hp hs hv hL hm) (by decide +kernel) rfl rfl s1 rfl (Nat.le_of_ble_eq_true rfl) (Nat.le_of_ble_eq_true rfl) (Nat.le_of_ble_eq_true rfl) (by omega) (by omega) rfl (fun _ _ z => z.elim) (fun v9 h5 hz => ?_)
  obtain ⟨rfl, rfl⟩ := hz
  simp only [Option.toList_some, Option.toList_none, List.cons_append, List.nil_append]
  refine g_end none rfl ⟨by decide +kernel, rfl⟩ ?_
  exact ⟨rfl, rfl⟩
theorem sb_appS0 {d1 d10 : Nat} {vf : Value} (hp : gPsb Γ d1 d10 vf) {s : Nat} {ws : List Nat} (hs : gCs Γ s ws) {a v m : Nat} {xs : List Nat} (H : gSB Γ h a v m xs) (hl : xs.length + ws.length ≤ 34) : gC Γ M_J5_append_cf1ce [.ref a, .ref s] h 4 1 34 (sbZ Γ h a v (some (.ref a)) (xs ++ ws)) (fun _ _ => False) := by
  obtain ⟨ml, f, ha, hv, hf, hlen, hm, hav, hfit⟩ := id H
  obtain ⟨w, s1, s2, s3, s4, s5⟩ := id hs
  refine gC_of (by decide) rfl (Nat.le_of_ble_eq_true rfl) [some (.ref a), some (.ref s), none] rfl ?_
  refine g_blk [(.aload_n 1, .null)] (Nat.le_of_ble_eq_true rfl) (by decide +kernel) ?_
  refine gx_aload_n_1 ((gx_nil ?_))
  refine g_ifnonnull (off := 8) (tgt := 9) (by decide +kernel) (by decide) ?_
  refine g_blk [(.aload_n 1, .null)] (Nat.le_of_ble_eq_true rfl) (by decide +kernel) ?_
  refine gx_aload_n_1 ((gx_nil ?_))
  refine g_callP (rc' := 1) (rs' := 34) (gLkP_of kJ5_32) (gC_pure (st_len hp hs)) (by decide +kernel) rfl rfl s1 rfl (Nat.le_of_ble_eq_true rfl) (Nat.le_of_ble_eq_true rfl) (Nat.le_of_ble_eq_true rfl) (by omega) (by omega) rfl (fun _ _ z => z.elim) (fun v9 h5 hz => ?_)
  obtain ⟨rfl, e9⟩ := hz
  rw [e9]
  clear e9 h5
  simp only [Option.toList_some, Option.toList_none, List.cons_append, List.nil_append]
  refine g_blk [(.istore_n 2, .null), (.aload_n 0, .null), (.aload_n 0, .null)] (Nat.le_of_ble_eq_true rfl) (by decide +kernel) ?_
  refine gx_istore_n_2 rfl (gx_aload_n_0 (gx_aload_n_0 ((gx_nil ?_))))
  refine g_getf fJ5_79 (by decide +kernel) ha rfl ?_
  refine g_blk [(.iload_n 2, .null), (.iadd, .null)] (Nat.le_of_ble_eq_true rfl) (by decide +kernel) ?_
  refine gx_iload_n_2 (gx_iadd ((gx_nil ?_)))
  try simp only [nI_add, Nat.add_zero, Nat.zero_add, Nat.reduceAdd]
  refine g_callUp (rc' := 0) (rs' := 0) kJ5_100 (hp.2.2.2.2.2.2.2 _ (by simp [pvy])) (sb_ens hp H (q := xs.length + ws.length) (by omega)) (by decide +kernel) rfl rfl ha rfl (Nat.le_of_ble_eq_true rfl) (Nat.le_of_ble_eq_true rfl) (Nat.le_of_ble_eq_true rfl) (by omega) (by omega) rfl (fun _ _ z => z.elim) (fun v9 h5 hz => ?_)
  obtain ⟨rfl, v5, m5, H5, hq5, hv5, k5, ex5⟩ := hz
  obtain ⟨ml5, f5, ha5, hb5, hf5, hlen5, hm5, hav5, hfit5⟩ := id H5
  simp only [Option.toList_some, Option.toList_none, List.cons_append, List.nil_append]
  refine g_blk [(.aload_n 0, .null), (.aload_n 0, .null)] (Nat.le_of_ble_eq_true rfl) (by decide +kernel) ?_
  refine gx_aload_n_0 (gx_aload_n_0 ((gx_nil ?_)))
  refine g_getf fJ5_79 (by decide +kernel) ha5 rfl ?_
  refine g_blk [(.aload_n 1, .null)] (Nat.le_of_ble_eq_true rfl) (by decide +kernel) ?_
  refine gx_aload_n_1 ((gx_nil ?_))
  refine g_callUp (rc' := 0) (rs' := 0) kJ5_208 (hp.2.2.2.2.2.2.2 _ (by simp [pvy])) (sb_putAt hp hs ha5 hb5 (L := xs.length) hq5 (by omega)) (by decide +kernel) rfl rfl ha5 rfl (Nat.le_of_ble_eq_true rfl) (Nat.le_of_ble_eq_true rfl) (Nat.le_of_ble_eq_true rfl) (by omega) (by omega) rfl (fun _ _ z => z.elim) (fun v9 h6 hz => ?_)
  obtain ⟨rfl, rfl⟩ := hz
  have ha6 := (gUp_n (h := h5) (a := v5) (gB Γ m5 (va_cpy (cf ws) f5 0 xs.length ws.length)) hav5).trans ha5
  simp only [Option.toList_some, Option.toList_none, List.cons_append, List.nil_append]
  refine g_blk [(.aload_n 0, .null), (.dup, .null)] (Nat.le_of_ble_eq_true rfl) (by decide +kernel) ?_
  refine gx_aload_n_0 (gx_dupr ((gx_nil ?_)))
  refine g_getf fJ5_79 (by decide +kernel) ha6 rfl ?_
  refine g_blk [(.iload_n 2, .null), (.iadd, .null)] (Nat.le_of_ble_eq_true rfl) (by decide +kernel) ?_
  refine gx_iload_n_2 (gx_iadd ((gx_nil ?_)))
  try simp only [nI_add, Nat.add_zero, Nat.zero_add, Nat.reduceAdd]
  refine g_putf fJ5_79 (by decide +kernel) ha6 (by simp) rfl rfl ?_
  refine g_blk [(.aload_n 0, .null)] (Nat.le_of_ble_eq_true rfl) (by decide +kernel) ?_
  refine gx_aload_n_0 ((gx_nil ?_))
  refine g_end (some (.ref _)) rfl ⟨by decide +kernel, _, rfl, Or.inl ⟨_, rfl⟩⟩ ?_
  refine ⟨rfl, v5, m5, gSB_put (ml := ml5) (f := va_cpy (cf ws) f5 0 xs.length ws.length) (by rw [List.length_append]; exact gUp_s _ _ _) ((gUp_n _ _ hav5.symm).trans (gUp_s _ _ _)) (fun i x hx => ?_) (fun i x hx => ?_) (by rw [List.length_append]; exact hq5) hm5 hav5 (sb_fitC (fun j => (nI_bt (cf_lt s5 _)).2.2) hfit5), hv5, gK_up (gK_up k5 ?_) (Or.inl (Or.inl rfl)), gUp_ex (gUp_ex ex5)⟩
  · have hi := (List.getElem?_eq_some_iff.mp hx).1
    rw [pk_cpy_out (by omega)]; exact hf5 i x hx
  · have hi := (List.getElem?_eq_some_iff.mp hx).1
    rw [pk_cpy_in (by omega) (by omega), show 0 + (xs.length + i - xs.length) = i by omega]
    exact cf_at hx
  · rcases hv5 with z | z
    · exact Or.inl (Or.inr z)
    · exact Or.inr z
theorem sb_appS {d1 d10 : Nat} {vf : Value} (hp : gPsb Γ d1 d10 vf) {s : Nat} {ws : List Nat} (hs : gCs Γ s ws) {a v m : Nat} {xs : List Nat} (H : gSB Γ h a v m xs) (hl : xs.length + ws.length ≤ 34) : gC Γ M_J4_append_15ec4 [.ref a, .ref s] h 5 1 34 (sbZ Γ h a v (some (.ref a)) (xs ++ ws)) (fun _ _ => False) := by
  obtain ⟨ml, f, ha, hv, hf, hlen, hm, hav, hfit⟩ := id H
  refine gC_of (by decide) rfl (Nat.le_of_ble_eq_true rfl) [some (.ref a), some (.ref s)] rfl ?_
  refine g_blk [(.aload_n 0, .null), (.aload_n 1, .null)] (Nat.le_of_ble_eq_true rfl) (by decide +kernel) ?_
  refine gx_aload_n_0 (gx_aload_n_1 ((gx_nil ?_)))
  refine g_callSU (rc' := 0) (rs' := 0) kJ4_29 (sb_appS0 hp hs H hl) (by decide +kernel) rfl rfl ha rfl (Nat.le_of_ble_eq_true rfl) (Nat.le_of_ble_eq_true rfl) (Nat.le_of_ble_eq_true rfl) (by omega) (by omega) rfl (fun _ _ z => z.elim) (fun v9 h5 hz => ?_)
  obtain ⟨rfl, hz⟩ := hz
  simp only [Option.toList_some, Option.toList_none, List.cons_append, List.nil_append]
  refine g_blk [(.pop, .null), (.aload_n 0, .null)] (Nat.le_of_ble_eq_true rfl) (by decide +kernel) ?_
  refine gx_popr (gx_aload_n_0 ((gx_nil ?_)))
  refine g_end (some (.ref _)) rfl ⟨by decide +kernel, _, rfl, Or.inl ⟨_, rfl⟩⟩ ?_
  exact ⟨rfl, hz⟩
theorem sb_setLen0 {d1 d10 : Nat} {vf : Value} (hp : gPsb Γ d1 d10 vf) {a v m : Nat} {xs : List Nat} (H : gSB Γ h a v m xs) : gC Γ M_J5_setLength_d00df [.ref a, .int (nI 0)] h 4 1 34 (fun r h' => r = none ∧ ∃ v' m', gSB Γ h' a v' m' [] ∧ (v' = v ∨ h v' = none) ∧ gKeep (fun z => z = a ∨ z = v) h h' ∧ ∃ e, h' v = some e) (fun _ _ => False) := by
  obtain ⟨ml, f, ha, hv, hf, hlen, hm, hav, hfit⟩ := id H
  refine gC_of (by decide) rfl (Nat.le_of_ble_eq_true rfl) [some (.ref a), some (.int (nI 0))] rfl ?_
  refine g_blk [(.iload_n 1, .null)] (Nat.le_of_ble_eq_true rfl) (by decide +kernel) ?_
  refine gx_iload_n_1 ((gx_nil ?_))
  refine g_if_ge (off := 12) (tgt := 13) (by decide +kernel) (by decide) (fun c1 => ?_) (fun c1 => ?_)
  · try simp only [bI_0, Decidable.not_not] at c1
    refine g_blk [(.aload_n 0, .null), (.iload_n 1, .null)] (Nat.le_of_ble_eq_true rfl) (by decide +kernel) ?_
    refine gx_aload_n_0 (gx_iload_n_1 ((gx_nil ?_)))
    refine g_callUp (rc' := 0) (rs' := 0) kJ5_100 (hp.2.2.2.2.2.2.2 _ (by simp [pvy])) (sb_ens hp H (q := 0) (by omega)) (by decide +kernel) rfl rfl ha rfl (Nat.le_of_ble_eq_true rfl) (Nat.le_of_ble_eq_true rfl) (Nat.le_of_ble_eq_true rfl) (by omega) (by omega) rfl (fun _ _ z => z.elim) (fun v9 h5 hz => ?_)
    obtain ⟨rfl, v5, m5, H5, hq5, hv5, k5, ex5⟩ := hz
    obtain ⟨ml5, f5, ha5, hb5, hf5, hlen5, hm5, hav5, hfit5⟩ := id H5
    simp only [Option.toList_some, Option.toList_none, List.cons_append, List.nil_append]
    refine g_blk [(.aload_n 0, .null)] (Nat.le_of_ble_eq_true rfl) (by decide +kernel) ?_
    refine gx_aload_n_0 ((gx_nil ?_))
    refine g_getf fJ5_79 (by decide +kernel) ha5 rfl ?_
    refine g_blk [(.iload_n 1, .null)] (Nat.le_of_ble_eq_true rfl) (by decide +kernel) ?_
    refine gx_iload_n_1 ((gx_nil ?_))
    refine g_icmp_ge (off := 40) (tgt := 63) (by decide +kernel) (by decide) (fun c23 => ?_) (fun c23 => ?_)
    · try simp only [bI_0, Decidable.not_not] at c23
      refine g_blk [(.aload_n 0, .null)] (Nat.le_of_ble_eq_true rfl) (by decide +kernel) ?_
      refine gx_aload_n_0 ((gx_nil ?_))
      refine g_getf fJ5_79 (by decide +kernel) ha5 rfl ?_
      refine g_blk [(.iload_n 1, .null)] (Nat.le_of_ble_eq_true rfl) (by decide +kernel) ?_
      refine gx_iload_n_1 ((gx_nil ?_))
      refine g_icmp_le (off := 8) (tgt := 76) (by decide +kernel) (by decide) (fun c68 => ?_) (fun c68 => ?_)
      · try simp only [bI_0, Decidable.not_not] at c68
        refine g_blk [(.aload_n 0, .null), (.iload_n 1, .null)] (Nat.le_of_ble_eq_true rfl) (by decide +kernel) ?_
        refine gx_aload_n_0 (gx_iload_n_1 ((gx_nil ?_)))
        refine g_putf fJ5_79 (by decide +kernel) ha5 (by simp) rfl rfl ?_
        refine g_end none rfl ⟨by decide +kernel, rfl⟩ ?_
        refine ⟨rfl, v5, m5, ⟨_, f5, gUp_s _ _ _, (gUp_n _ _ hav5.symm).trans hb5, fun i x hx => absurd hx (by simp), Nat.zero_le _, hm5, hav5, hfit5⟩, hv5, gK_up k5 (Or.inl (Or.inl rfl)), gUp_ex ex5⟩
      · try simp only [bI_0, Decidable.not_not] at c68
        refine g_blk [(.aload_n 0, .null), (.iconst 1, .int (nI 1))] (Nat.le_of_ble_eq_true rfl) (by decide +kernel) ?_
        refine gx_aload_n_0 (gx_iconst ((gx_nil ?_)))
        refine g_putf fJ5_73 (by decide +kernel) ha5 (by simp) rfl rfl ?_
        have w1 : gUp h5 a (gJ 1 [.ref v5, .int 0, .int (nI 1), .int (nI xs.length)]) a = _ := gUp_s _ _ _
        refine g_hp (h1 := gUp h5 a (gJ 1 [.ref v5, .int 0, .int (nI 1), .int (nI xs.length)])) rfl ?_
        refine g_blk [(.aload_n 0, .null), (.iload_n 1, .null)] (Nat.le_of_ble_eq_true rfl) (by decide +kernel) ?_
        refine gx_aload_n_0 (gx_iload_n_1 ((gx_nil ?_)))
        refine g_putf fJ5_79 (by decide +kernel) w1 (by simp) rfl rfl ?_
        refine g_end none rfl ⟨by decide +kernel, rfl⟩ ?_
        refine ⟨rfl, v5, m5, ⟨_, f5, gUp_s _ _ _, (gUp_n _ _ hav5.symm).trans ((gUp_n _ _ hav5.symm).trans hb5), fun i x hx => absurd hx (by simp), Nat.zero_le _, hm5, hav5, hfit5⟩, hv5, gK_up (gK_up k5 (Or.inl (Or.inl rfl))) (Or.inl (Or.inl rfl)), gUp_ex (gUp_ex ex5)⟩
    · try simp only [bI_0, Decidable.not_not] at c23
      exact absurd (show nI 0 ≤ nI xs.length from nI_le (by omega) (by omega)) c23
  · try simp only [bI_0, Decidable.not_not] at c1
    exact absurd (by decide) c1
theorem sb_setLen {d1 d10 : Nat} {vf : Value} (hp : gPsb Γ d1 d10 vf) {a v m : Nat} {xs : List Nat} (H : gSB Γ h a v m xs) : gC Γ M_J4_setLength_d00df [.ref a, .int (nI 0)] h 5 1 34 (fun r h' => r = none ∧ ∃ v' m', gSB Γ h' a v' m' [] ∧ (v' = v ∨ h v' = none) ∧ gKeep (fun z => z = a ∨ z = v) h h' ∧ ∃ e, h' v = some e) (fun _ _ => False) := by
  obtain ⟨ml, f, ha, hv, hf, hlen, hm, hav, hfit⟩ := id H
  refine gC_of (by decide) rfl (Nat.le_of_ble_eq_true rfl) [some (.ref a), some (.int (nI 0))] rfl ?_
  refine g_blk [(.aload_n 0, .null), (.iload_n 1, .null)] (Nat.le_of_ble_eq_true rfl) (by decide +kernel) ?_
  refine gx_aload_n_0 (gx_iload_n_1 ((gx_nil ?_)))
  refine g_callSU (rc' := 0) (rs' := 0) kJ4_333 (sb_setLen0 hp H) (by decide +kernel) rfl rfl ha rfl (Nat.le_of_ble_eq_true rfl) (Nat.le_of_ble_eq_true rfl) (Nat.le_of_ble_eq_true rfl) (by omega) (by omega) rfl (fun _ _ z => z.elim) (fun v9 h5 hz => ?_)
  obtain ⟨rfl, hz⟩ := hz
  simp only [Option.toList_some, Option.toList_none, List.cons_append, List.nil_append]
  refine g_end none rfl ⟨by decide +kernel, rfl⟩ ?_
  exact ⟨rfl, hz⟩
theorem sb_len0 {a v m : Nat} {xs : List Nat} (H : gSB Γ h a v m xs) : pC Γ M_J5_length_8abf5 [.ref a] h 0 (some (.int (nI xs.length))) := by
  obtain ⟨ml, f, ha, hv, hf, hlen, hm, hav, hfit⟩ := id H
  refine pC_of (by decide) rfl (Nat.le_of_ble_eq_true rfl) [some (.ref a)] rfl ?_
  refine g_blk [(.aload_n 0, .null)] (Nat.le_of_ble_eq_true rfl) (by decide +kernel) ?_
  refine gx_aload_n_0 ((gx_nil ?_))
  refine g_getf fJ5_79 (by decide +kernel) ha rfl ?_
  refine g_end (some (.int _)) rfl ⟨by decide +kernel, _, rfl, rfl⟩ ⟨?_, rfl⟩
  rfl
theorem sb_len {a v m : Nat} {xs : List Nat} (H : gSB Γ h a v m xs) : pC Γ M_J4_length_8abf5 [.ref a] h 1 (some (.int (nI xs.length))) := by
  obtain ⟨ml, f, ha, hv, hf, hlen, hm, hav, hfit⟩ := id H
  refine pC_of (by decide) rfl (Nat.le_of_ble_eq_true rfl) [some (.ref a)] rfl ?_
  refine g_blk [(.aload_n 0, .null)] (Nat.le_of_ble_eq_true rfl) (by decide +kernel) ?_
  refine gx_aload_n_0 ((gx_nil ?_))
  refine g_callSU (rc' := 0) (rs' := 0) kJ4_343 (gC_pure (sb_len0 H)) (by decide +kernel) rfl rfl ha rfl (Nat.le_of_ble_eq_true rfl) (Nat.le_of_ble_eq_true rfl) (Nat.le_of_ble_eq_true rfl) (by omega) (by omega) rfl (fun _ _ z => z.elim) (fun v9 h5 hz => ?_)
  obtain ⟨rfl, e9⟩ := hz
  rw [e9]
  clear e9 h5
  simp only [Option.toList_some, Option.toList_none, List.cons_append, List.nil_append]
  refine g_end (some (.int _)) rfl ⟨by decide +kernel, _, rfl, rfl⟩ ⟨?_, rfl⟩
  rfl
theorem sb_charAt0 {d1 d10 : Nat} {vf : Value} (hp : gPsb Γ d1 d10 vf) {a v m : Nat} {xs : List Nat} (H : gSB Γ h a v m xs) {i x : Nat} (hx : xs[i]? = some x) (hx8 : x < 128) : pC Γ M_J5_charAt_5068e [.ref a, .int (nI i)] h 2 (some (.int (nI x))) := by
  obtain ⟨ml, f, ha, hv, hf, hlen, hm, hav, hfit⟩ := id H
  have hi := (List.getElem?_eq_some_iff.mp hx).1
  have emin : rMin (nI xs.length) (Int32.ofNat m) = nI xs.length := by
    unfold rMin
    rw [if_neg]
    exact nI_nlt hlen (by omega)
  refine pC_of (by decide) rfl (Nat.le_of_ble_eq_true rfl) [some (.ref a), some (.int (nI i)), none, none, none] rfl ?_
  refine g_blk [(.aload_n 0, .null)] (Nat.le_of_ble_eq_true rfl) (by decide +kernel) ?_
  refine gx_aload_n_0 ((gx_nil ?_))
  refine g_getf fJ5_22 (by decide +kernel) ha rfl ?_
  refine g_blk [(.istore_n 2, .null), (.aload_n 0, .null)] (Nat.le_of_ble_eq_true rfl) (by decide +kernel) ?_
  refine gx_istore_n_2 rfl (gx_aload_n_0 ((gx_nil ?_)))
  refine g_getf fJ5_15 (by decide +kernel) ha rfl ?_
  refine g_blk [(.astore_n 3, .null), (.aload_n 0, .null)] (Nat.le_of_ble_eq_true rfl) (by decide +kernel) ?_
  refine gx_astore_n_3 rfl (gx_aload_n_0 ((gx_nil ?_)))
  refine g_getf fJ5_79 (by decide +kernel) ha rfl ?_
  refine g_blk [(.aload_n 3, .null)] (Nat.le_of_ble_eq_true rfl) (by decide +kernel) ?_
  refine gx_aload_n_3 ((gx_nil ?_))
  refine g_alen_b (by decide +kernel) hv ?_
  refine g_blk [(.iload_n 2, .null), (.ishr, .null)] (Nat.le_of_ble_eq_true rfl) (by decide +kernel) ?_
  refine gx_iload_n_2 (gx_ishr ((gx_nil ?_)))
  try simp only [sb_shr0, sb_shl0]
  refine g_mmin kMJ5_138 (by decide +kernel) (by decide) (Nat.le_of_ble_eq_true rfl) ?_
  rw [emin]
  refine g_blk [(.istore 4, .null), (.iload_n 1, .null), (.iload 4, .null)] (Nat.le_of_ble_eq_true rfl) (by decide +kernel) ?_
  refine gx_istore_4 rfl (gx_iload_n_1 (gx_iload_4 ((gx_nil ?_))))
  refine g_pS kJ5_144 (st_check hp hi (by omega)) (by decide +kernel) rfl rfl (Nat.le_of_ble_eq_true rfl) (Nat.le_of_ble_eq_true rfl) (Nat.le_of_ble_eq_true rfl) rfl ?_
  simp only [Option.toList_some, Option.toList_none, List.cons_append, List.nil_append]
  refine g_blk [(.iload_n 2, .null)] (Nat.le_of_ble_eq_true rfl) (by decide +kernel) ?_
  refine gx_iload_n_2 ((gx_nil ?_))
  refine g_if_ne (off := 12) (tgt := 42) (by decide +kernel) (by decide) (fun c30 => ?_) (fun c30 => ?_)
  · try simp only [bI_0, Decidable.not_not] at c30
    exact (c30 trivial).elim
  · try simp only [bI_0, Decidable.not_not] at c30
    refine g_blk [(.aload_n 3, .null), (.iload_n 1, .null)] (Nat.le_of_ble_eq_true rfl) (by decide +kernel) ?_
    refine gx_aload_n_3 (gx_iload_n_1 ((gx_nil ?_)))
    refine g_baload (by decide +kernel) hv (vp_in_nI (by omega) (by omega)) ?_
    rw [nI_clamp (by omega), hf i x hx]
    refine g_blk [(.sipush 255, .int (nI 255)), (.iand, .null), (.i2c, .null)] (Nat.le_of_ble_eq_true rfl) (by decide +kernel) ?_
    refine gx_sipush (gx_iand (gx_i2c ((gx_nil ?_))))
    refine g_end (some (.int _)) rfl ⟨by decide +kernel, _, rfl, (by rw [nI_c2 hx8]; exact nar_c hx8)⟩ ⟨?_, rfl⟩
    rw [nI_c2 hx8]
theorem sb_charAt {d1 d10 : Nat} {vf : Value} (hp : gPsb Γ d1 d10 vf) {a v m : Nat} {xs : List Nat} (H : gSB Γ h a v m xs) {i x : Nat} (hx : xs[i]? = some x) (hx8 : x < 128) : pC Γ M_J4_charAt_5068e [.ref a, .int (nI i)] h 3 (some (.int (nI x))) := by
  obtain ⟨ml, f, ha, hv, hf, hlen, hm, hav, hfit⟩ := id H
  refine pC_of (by decide) rfl (Nat.le_of_ble_eq_true rfl) [some (.ref a), some (.int (nI i))] rfl ?_
  refine g_blk [(.aload_n 0, .null), (.iload_n 1, .null)] (Nat.le_of_ble_eq_true rfl) (by decide +kernel) ?_
  refine gx_aload_n_0 (gx_iload_n_1 ((gx_nil ?_)))
  refine g_callSU (rc' := 0) (rs' := 0) kJ4_329 (gC_pure (sb_charAt0 hp H hx hx8)) (by decide +kernel) rfl rfl ha rfl (Nat.le_of_ble_eq_true rfl) (Nat.le_of_ble_eq_true rfl) (Nat.le_of_ble_eq_true rfl) (by omega) (by omega) rfl (fun _ _ z => z.elim) (fun v9 h5 hz => ?_)
  obtain ⟨rfl, e9⟩ := hz
  rw [e9]
  clear e9 h5
  simp only [Option.toList_some, Option.toList_none, List.cons_append, List.nil_append]
  refine g_end (some (.int _)) rfl ⟨by decide +kernel, _, rfl, nar_c hx8⟩ ⟨?_, rfl⟩
  rfl
set_option maxRecDepth 100000 in
theorem wOIRJ5 : Cond.methodLink RJ5 3 Lib.objectInit ∈ lw_good := (gIn (List.mem_of_getElem? (i := 233) (by decide +kernel)) (by decide +kernel))
theorem sb_init0 {d1 d10 : Nat} {vf : Value} (hp : gPsb Γ d1 d10 vf) {a : Nat} {y0 : Value} {ml : Int32} (ha : h a = some (gJ 1 [y0, .int 0, .int ml, .int 0])) : gC Γ M_J5_init_d00df [.ref a, .int (nI 16)] h 1 1 16 (fun r h' => r = none ∧ ∃ v, h v = none ∧ gSB Γ h' a v 16 [] ∧ gKeep (fun z => z = a) h h') (fun _ _ => False) := by
  refine gC_of (by decide) rfl (Nat.le_of_ble_eq_true rfl) [some (.ref a), some (.int (nI 16))] rfl ?_
  refine g_blk [(.aload_n 0, .null)] (Nat.le_of_ble_eq_true rfl) (by decide +kernel) ?_
  refine gx_aload_n_0 ((gx_nil ?_))
  refine g_objInit wOIRJ5 wOI1 wOI2 (by decide +kernel) (by omega) (by decide) ?_
  refine g_gets (o := _) hp.1 fzJ5_18 (Or.inl rfl) (by decide +kernel) ?_
  refine g_if_eq (off := 18) (tgt := 25) (by decide +kernel) (by decide) (fun c7 => ?_) (fun c7 => ?_)
  · exact absurd c7 (by decide)
  · try simp only [bI_0, Decidable.not_not] at c7
    refine g_blk [(.aload_n 0, .null), (.iload_n 1, .null)] (Nat.le_of_ble_eq_true rfl) (by decide +kernel) ?_
    refine gx_aload_n_0 (gx_iload_n_1 ((gx_nil ?_)))
    refine g_newarr_b (N := 16) (rc' := 0) (rs' := 0) (by decide +kernel) wAB (by decide) (nI_clamp (by decide)) (by decide) (by omega) (by omega) (fun v hv => ?_)
    have av : a ≠ v := fun z => by rw [← z, ha] at hv; cases hv
    refine g_putf fJ5_15 (by decide +kernel) ((gUp_n _ _ av).trans ha) (by simp) rfl rfl ?_
    refine g_blk [(.aload_n 0, .null), (.iconst 0, .int (nI 0))] (Nat.le_of_ble_eq_true rfl) (by decide +kernel) ?_
    refine gx_aload_n_0 (gx_iconst ((gx_nil ?_)))
    refine g_putf fJ5_22 (by decide +kernel) (gUp_s _ _ _) (by simp) rfl rfl ?_
    rw [gUp_gUp]
    refine g_blk [(.goto 16, .retAddr 38)] (Nat.le_of_ble_eq_true rfl) (by decide +kernel) ?_
    refine gx_goto ((gx_nil ?_))
    refine g_end none rfl ⟨by decide +kernel, rfl⟩ ?_
    refine ⟨rfl, v, hv, ⟨ml, _, gUp_s _ _ _, (gUp_n _ _ av.symm).trans (gUp_s _ _ _), fun i x hx => absurd hx (by simp), Nat.zero_le _, Or.inl rfl, av, sb_fit0⟩, gK_up (gK_up gKeep.rf (Or.inr hv)) (Or.inl rfl)⟩
theorem sb_init {d1 d10 : Nat} {vf : Value} (hp : gPsb Γ d1 d10 vf) {a : Nat} {y0 : Value} {ml : Int32} (ha : h a = some (gJ 1 [y0, .int 0, .int ml, .int 0])) : gC Γ M_J4_init_da8c8 [.ref a] h 2 1 16 (fun r h' => r = none ∧ ∃ v, h v = none ∧ gSB Γ h' a v 16 [] ∧ gKeep (fun z => z = a) h h') (fun _ _ => False) := by
  refine gC_of (by decide) rfl (Nat.le_of_ble_eq_true rfl) [some (.ref a)] rfl ?_
  refine g_blk [(.aload_n 0, .null), (.bipush 16, .int (nI 16))] (Nat.le_of_ble_eq_true rfl) (by decide +kernel) ?_
  refine gx_aload_n_0 (gx_bipush ((gx_nil ?_)))
  refine g_callI (rc' := 0) (rs' := 0) kJ4_1 (sb_init0 hp ha) (by decide +kernel) rfl rfl rfl (Nat.le_of_ble_eq_true rfl) (Nat.le_of_ble_eq_true rfl) (Nat.le_of_ble_eq_true rfl) (by omega) (by omega) rfl (fun _ _ z => z.elim) (fun v9 h5 hz => ?_)
  obtain ⟨rfl, hz⟩ := hz
  simp only [Option.toList_some, Option.toList_none, List.cons_append, List.nil_append]
  refine g_end none rfl ⟨by decide +kernel, rfl⟩ ?_
  exact ⟨rfl, hz⟩
end GTh
