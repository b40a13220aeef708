section SRc
variable {Γ : gE} {o : Nat} {ad : Nat → Nat} {V : Nat → Int32} {F : Nat → Nat → Int32}
theorem lh_eq {sp n x : Nat} {tx : Nat → Nat} (ht : sp < n → tx sp < 128) (hx : x < 128) : ((if sp < n then nI (tx sp) else -1) = nI x) ↔ (sp < n ∧ tx sp = x) := by
  by_cases h : sp < n
  · rw [if_pos h, nI_eq (by have := ht h; omega) (by omega)]
    exact ⟨fun z => ⟨h, z⟩, fun z => z.2⟩
  · rw [if_neg h]
    exact ⟨fun z => absurd z.symm (nI_nm1 (by omega)), fun z => absurd z.1 h⟩
theorem pnR_w {tx : Nat → Nat} {n w p p' : Nat} {c : pcT} (h : pnR tx n w p = .inr (c, p')) : c.1 = w ∧ (kd2 w = 0 → c.2.2.1 = 0) := by
  unfold pnR at h
  by_cases c1 : (nmv tx n (kd1 w) p 0).2 = 0
  · rw [if_pos c1] at h; cases h
  · rw [if_neg c1] at h
    by_cases c2 : kd2 w = 0
    · rw [if_pos c2] at h
      cases h
      exact ⟨rfl, fun _ => rfl⟩
    · rw [if_neg c2] at h
      by_cases c3 : ¬ (p + (nmv tx n (kd1 w) p 0).2 < n ∧ tx (p + (nmv tx n (kd1 w) p 0).2) = 32)
      · rw [if_pos c3] at h; cases h
      · rw [if_neg c3] at h
        by_cases c4 : (nmv tx n (kd2 w) (p + (nmv tx n (kd1 w) p 0).2 + 1) 0).2 = 0
        · rw [if_pos c4] at h; cases h
        · rw [if_neg c4] at h
          cases h
          exact ⟨rfl, fun z => absurd z c2⟩
def rowOK (f : Nat → Int32) (k : Nat) (c : pcT) : Prop := f (4 * k) = nI c.1 ∧ f (4 * k + 3) = nI c.2.2.2 ∧ (¬ (c.1 = 4 ∧ c.2.2.2 = 0) → f (4 * k + 1) = nI c.2.1) ∧ (¬ kd2 c.1 = 0 → f (4 * k + 2) = nI c.2.2.1)
def rcZ (V : Nat → Int32) (F : Nat → Nat → Int32) (tx : Nat → Nat) (n sp k : Nat) (V1 : Nat → Int32) (F1 : Nat → Nat → Int32) : Prop := (∀ j, j ≠ 19 → F1 j = F j) ∧ (∀ j, j < 15 ∨ 18 < j → V1 j = V j) ∧ V1 17 = nI (k + 1) ∧ (∀ q, q < 4 * k → F1 19 q = F 19 q) ∧ (∀ e, pcR tx n sp = .inl e → V1 16 = nI e) ∧ ∀ c p', pcR tx n sp = .inr (c, p') → V1 16 = -1 ∧ V1 15 = nI p' ∧ rowOK (F1 19) k c
theorem rc_of_rn {V' V1 : Nat → Int32} {F1 : Nat → Nat → Int32} {tx : Nat → Nat} {n w sp sp' k : Nat} (h : rnZ V' (fU (fU F 19 (4 * k) (nI w)) 19 (4 * k + 3) (nI 0)) tx n w sp' k V1 F1) (hR : pcR tx n sp = pnR tx n w sp') (hV : ∀ j, j < 15 ∨ 18 < j → V' j = V j) (h17 : V' 17 = nI (k + 1)) : rcZ V F tx n sp k V1 F1 := by
  obtain ⟨h1, h2, h3, h4, h5⟩ := h
  refine ⟨fun j hj => by rw [h1 j hj, fU_o hj, fU_o hj], fun j hj => by rw [h2 j (by omega) (by omega) (by omega), hV j hj], by rw [h2 17 (by decide) (by decide) (by decide), h17], fun q hq => by rw [h3 q (by omega), fU_s, fU_s, pk_un (by omega), pk_un (by omega)], fun e he => h4 e (by rw [← hR, he]), fun c p' hc => ?_⟩
  rw [hR] at hc
  obtain ⟨a1, a2, a3, a4, a5⟩ := h5 c p' hc
  obtain ⟨b1, b2⟩ := pnR_w hc
  refine ⟨a1, a2, ?_, a4, fun _ => a3, fun z => a5 (by rw [← b1]; exact z)⟩
  rw [h3 (4 * k) (by omega), fU_s, fU_s, pk_un (by omega), pk_us, b1]
theorem rc_no {tx : Nat → Nat} {n sp k e0 : Nat} {a b x : Int32} (h : pcR tx n sp = .inl e0) : rcZ V F tx n sp k (vU (vU (vU V 16 (nI e0)) 15 x) 17 (nI (k + 1))) (fU (fU F 19 (4 * k) a) 19 (4 * k + 3) b) := by
  refine ⟨fun j hj => by rw [fU_o hj, fU_o hj], fun j hj => by unfold vU; rw [if_neg (by omega), if_neg (by omega), if_neg (by omega)], vU_s, fun q hq => by rw [fU_s, fU_s, pk_un (by omega), pk_un (by omega)], fun e he => ?_, fun c p' he => ?_⟩
  · rw [h] at he
    cases he
    rw [vU_n (by decide), vU_n (by decide), vU_s]
  · rw [h] at he
    cases he
theorem rc_44 {tx : Nat → Nat} {n sp k : Nat} (h : pcR tx n sp = .inr ((4, 0, 0, 0), sp + 4)) : rcZ V F tx n sp k (vU (vU (vU V 16 (-1)) 15 (nI (sp + 4))) 17 (nI (k + 1))) (fU (fU F 19 (4 * k) (nI 4)) 19 (4 * k + 3) (nI 0)) := by
  refine ⟨fun j hj => by rw [fU_o hj, fU_o hj], fun j hj => by unfold vU; rw [if_neg (by omega), if_neg (by omega), if_neg (by omega)], vU_s, fun q hq => by rw [fU_s, fU_s, pk_un (by omega), pk_un (by omega)], fun e he => ?_, fun c p' he => ?_⟩
  · rw [h] at he
    cases he
  · rw [h] at he
    cases he
    exact ⟨by rw [vU_n (by decide), vU_n (by decide), vU_s], by rw [vU_n (by decide), vU_s], by rw [fU_s, fU_s, pk_un (by omega), pk_us], by rw [fU_s, pk_us], fun z => absurd ⟨rfl, rfl⟩ z, fun z => absurd rfl z⟩
theorem r_readsCommand {d1 d10 : Nat} {vf : Value} (hp : gPsb Γ d1 d10 vf) {nm : Nat} (hnm : gPnm Γ nm) {sp n : Nat} {tx : Nat → Nat} (e15 : V 15 = nI sp) (e14 : V 14 = nI n) (hsp : sp ≤ n) (hn : n ≤ 60) (hT : ∀ i, i < n → F 9 i = nI (tx i) ∧ tx i < 128) (e16 : V 16 = -1) {k : Nat} (e17 : V 17 = nI k) (hk : k ≤ 28) : mE Γ o ad M_X10_readsCommand [] V F 5 (fun v V1 F1 => v = none ∧ rcZ V F tx n sp k V1 F1) := by
  refine mE_of (by decide) rfl (Nat.le_of_ble_eq_true rfl) [some (.ref o), none, none] rfl ?_
  refine n_blk [(.iconst 4, .int (nI 4)), (.aload_n 0, .null)] (Nat.le_of_ble_eq_true rfl) (by decide +kernel) ?_
  refine gx_iconst (gx_aload_n_0 ((gx_nil ?_)))
  refine n_getI fX10_247 (by decide +kernel) rfl ?_
  try simp only [vU_s, vU_n, ne_eq, Nat.reduceEqDiff, not_false_eq_true, e15, e14, e17, nI_add, pk_mul, Nat.add_zero, Nat.zero_add, Nat.reduceAdd, Nat.reduceMul]
  refine n_blk [(.imul, .null), (.istore_n 1, .null), (.aload_n 0, .null)] (Nat.le_of_ble_eq_true rfl) (by decide +kernel) ?_
  refine gx_imul (gx_istore_n_1 rfl (gx_aload_n_0 ((gx_nil ?_))))
  try simp only [e15, e14, e17, nI_add, pk_mul, Nat.add_zero, Nat.zero_add, Nat.reduceAdd, Nat.reduceMul]
  refine n_callE kX10_250 (r_kindHere hp hnm e15 e14 hsp hn hT e16) (by decide +kernel) rfl rfl (Nat.le_of_ble_eq_true rfl) (Nat.le_of_ble_eq_true rfl) (Nat.le_of_ble_eq_true rfl) rfl (fun wv V1 F1 hQ => ?_)
  obtain ⟨hF1, hQ⟩ := hQ
  rw [hF1]
  rcases hQ with ⟨hk0, hv, hV1⟩ | ⟨w, hk0, hv, hV1⟩
  · rw [hv, hV1]
    simp only [Option.toList_some, List.cons_append, List.nil_append]
    have hkl := kdL_le (tx := tx) hsp 10 (Nat.le_refl _)
    refine n_blk [(.istore_n 2, .null), (.aload_n 0, .null)] (Nat.le_of_ble_eq_true rfl) (by decide +kernel) ?_
    refine gx_istore_n_2 rfl (gx_aload_n_0 ((gx_nil ?_)))
    refine n_getR fX10_38 (by decide +kernel) rfl ?_
    refine n_blk [(.iload_n 1, .null), (.iload_n 2, .null)] (Nat.le_of_ble_eq_true rfl) (by decide +kernel) ?_
    refine gx_iload_n_1 (gx_iload_n_2 ((gx_nil ?_)))
    refine n_as (j := 19) rfl (by decide +kernel) (show _ < 120 from by omega) ?_
    refine n_blk [(.aload_n 0, .null)] (Nat.le_of_ble_eq_true rfl) (by decide +kernel) ?_
    refine gx_aload_n_0 ((gx_nil ?_))
    refine n_getR fX10_38 (by decide +kernel) rfl ?_
    refine n_blk [(.iload_n 1, .null), (.iconst 3, .int (nI 3)), (.iadd, .null), (.iconst 0, .int (nI 0))] (Nat.le_of_ble_eq_true rfl) (by decide +kernel) ?_
    refine gx_iload_n_1 (gx_iconst (gx_iadd (gx_iconst ((gx_nil ?_)))))
    try simp only [e15, e14, e17, nI_add, pk_mul, Nat.add_zero, Nat.zero_add, Nat.reduceAdd, Nat.reduceMul]
    refine n_as (j := 19) rfl (by decide +kernel) (show _ < 120 from by omega) ?_
    refine n_blk [(.aload_n 0, .null), (.dup, .null)] (Nat.le_of_ble_eq_true rfl) (by decide +kernel) ?_
    refine gx_aload_n_0 (gx_dupr ((gx_nil ?_)))
    refine n_getI fX10_247 (by decide +kernel) rfl ?_
    try simp only [vU_s, vU_n, ne_eq, Nat.reduceEqDiff, not_false_eq_true, e15, e14, e17, nI_add, pk_mul, Nat.add_zero, Nat.zero_add, Nat.reduceAdd, Nat.reduceMul]
    refine n_blk [(.iconst 1, .int (nI 1)), (.iadd, .null)] (Nat.le_of_ble_eq_true rfl) (by decide +kernel) ?_
    refine gx_iconst (gx_iadd ((gx_nil ?_)))
    try simp only [e15, e14, e17, nI_add, pk_mul, Nat.add_zero, Nat.zero_add, Nat.reduceAdd, Nat.reduceMul]
    refine n_putI fX10_247 (by decide +kernel) rfl (by decide) rfl rfl ?_
    refine n_blk [(.aload_n 0, .null)] (Nat.le_of_ble_eq_true rfl) (by decide +kernel) ?_
    refine gx_aload_n_0 ((gx_nil ?_))
    refine n_getI fX10_221 (by decide +kernel) rfl ?_
    try simp only [vU_s, vU_n, ne_eq, Nat.reduceEqDiff, not_false_eq_true, e15, e14, e17, nI_add, pk_mul, Nat.add_zero, Nat.zero_add, Nat.reduceAdd, Nat.reduceMul]
    refine n_blk [(.iconst (-1), .int (-1))] (Nat.le_of_ble_eq_true rfl) (by decide +kernel) ?_
    refine gx_iconst ((gx_nil ?_))
    refine n_icmp_eq (off := 4) (tgt := 47) (by decide +kernel) (by decide) (fun c43 => ?_) (fun c43 => ?_)
    · try simp only [bI_0, Decidable.not_not] at c43
      exact absurd c43 (nI_nm1 (by omega))
    · try simp only [bI_0, Decidable.not_not] at c43
      refine n_end none rfl ⟨by decide +kernel, rfl⟩ ?_
      exact ⟨rfl, rc_no (pcR_no hk0)⟩
  · obtain ⟨hw, hc⟩ := kd_in hk0
    have hl := kw_len w hw
    have hle := (cm_le (tx := tx) (n := n) (W := kw w) (p := sp)).2
    rw [hc] at hle
    rw [hv, hV1]
    simp only [Option.toList_some, List.cons_append, List.nil_append]
    by_cases h4 : w = 4
    · subst h4
      have l4 : (kw 4).length = 4 := rfl
      rw [l4] at hle ⊢
      by_cases hS : sp + 4 < n ∧ tx (sp + 4) = 32
      · refine n_blk [(.istore_n 2, .null), (.aload_n 0, .null)] (Nat.le_of_ble_eq_true rfl) (by decide +kernel) ?_
        refine gx_istore_n_2 rfl (gx_aload_n_0 ((gx_nil ?_)))
        refine n_getR fX10_38 (by decide +kernel) rfl ?_
        refine n_blk [(.iload_n 1, .null), (.iload_n 2, .null)] (Nat.le_of_ble_eq_true rfl) (by decide +kernel) ?_
        refine gx_iload_n_1 (gx_iload_n_2 ((gx_nil ?_)))
        refine n_as (j := 19) rfl (by decide +kernel) (show _ < 120 from by omega) ?_
        refine n_blk [(.aload_n 0, .null)] (Nat.le_of_ble_eq_true rfl) (by decide +kernel) ?_
        refine gx_aload_n_0 ((gx_nil ?_))
        refine n_getR fX10_38 (by decide +kernel) rfl ?_
        refine n_blk [(.iload_n 1, .null), (.iconst 3, .int (nI 3)), (.iadd, .null), (.iconst 0, .int (nI 0))] (Nat.le_of_ble_eq_true rfl) (by decide +kernel) ?_
        refine gx_iload_n_1 (gx_iconst (gx_iadd (gx_iconst ((gx_nil ?_)))))
        try simp only [e15, e14, e17, nI_add, pk_mul, Nat.add_zero, Nat.zero_add, Nat.reduceAdd, Nat.reduceMul]
        refine n_as (j := 19) rfl (by decide +kernel) (show _ < 120 from by omega) ?_
        refine n_blk [(.aload_n 0, .null), (.dup, .null)] (Nat.le_of_ble_eq_true rfl) (by decide +kernel) ?_
        refine gx_aload_n_0 (gx_dupr ((gx_nil ?_)))
        refine n_getI fX10_247 (by decide +kernel) rfl ?_
        try simp only [vU_s, vU_n, ne_eq, Nat.reduceEqDiff, not_false_eq_true, e15, e14, e17, nI_add, pk_mul, Nat.add_zero, Nat.zero_add, Nat.reduceAdd, Nat.reduceMul]
        refine n_blk [(.iconst 1, .int (nI 1)), (.iadd, .null)] (Nat.le_of_ble_eq_true rfl) (by decide +kernel) ?_
        refine gx_iconst (gx_iadd ((gx_nil ?_)))
        try simp only [e15, e14, e17, nI_add, pk_mul, Nat.add_zero, Nat.zero_add, Nat.reduceAdd, Nat.reduceMul]
        refine n_putI fX10_247 (by decide +kernel) rfl (by decide) rfl rfl ?_
        refine n_blk [(.aload_n 0, .null)] (Nat.le_of_ble_eq_true rfl) (by decide +kernel) ?_
        refine gx_aload_n_0 ((gx_nil ?_))
        refine n_getI fX10_221 (by decide +kernel) rfl ?_
        try simp only [vU_s, vU_n, ne_eq, Nat.reduceEqDiff, not_false_eq_true, e15, e14, e17, nI_add, pk_mul, Nat.add_zero, Nat.zero_add, Nat.reduceAdd, Nat.reduceMul]
        refine n_blk [(.iconst (-1), .int (-1))] (Nat.le_of_ble_eq_true rfl) (by decide +kernel) ?_
        refine gx_iconst ((gx_nil ?_))
        refine n_icmp_eq (off := 4) (tgt := 47) (by decide +kernel) (by decide) (fun c43 => ?_) (fun c43 => ?_)
        · try simp only [bI_0, Decidable.not_not] at c43
          refine n_blk [(.iload_n 2, .null), (.iconst 4, .int (nI 4))] (Nat.le_of_ble_eq_true rfl) (by decide +kernel) ?_
          refine gx_iload_n_2 (gx_iconst ((gx_nil ?_)))
          refine n_icmp_ne (off := 23) (tgt := 72) (by decide +kernel) (by decide) (fun c49 => ?_) (fun c49 => ?_)
          · exact absurd (by decide) c49
          · try simp only [bI_0, Decidable.not_not] at c49
            refine n_blk [(.aload_n 0, .null)] (Nat.le_of_ble_eq_true rfl) (by decide +kernel) ?_
            refine gx_aload_n_0 ((gx_nil ?_))
            refine n_call kX10_224 (r_letterHere (V := vU (vU (vU V 16 (-1)) 15 (nI (sp + 4))) 17 (nI (k + 1))) (F := fU (fU F 19 (4 * k) (nI 4)) 19 (4 * k + 3) (nI 0)) (sp := sp + 4) rfl e14 (by omega) hn hT) (by decide +kernel) rfl rfl (Nat.le_of_ble_eq_true rfl) (Nat.le_of_ble_eq_true rfl) (Nat.le_of_ble_eq_true rfl) rfl ?_
            try simp only [Option.toList_some, Option.toList_none, List.cons_append, List.nil_append, bI_0, n1_0, n0_0, Decidable.not_not, not_true_eq_false, not_false_eq_true, e15, e14, e17, nI_add, pk_mul, Nat.add_zero, Nat.zero_add, Nat.reduceAdd, Nat.reduceMul]
            refine n_blk [(.bipush 32, .int (nI 32))] (Nat.le_of_ble_eq_true rfl) (by decide +kernel) ?_
            refine gx_bipush ((gx_nil ?_))
            refine n_icmp_eq (off := 4) (tgt := 62) (by decide +kernel) (by decide) (fun c58 => ?_) (fun c58 => ?_)
            · try simp only [bI_0, Decidable.not_not] at c58
              refine n_blk [(.aload_n 0, .null), (.dup, .null)] (Nat.le_of_ble_eq_true rfl) (by decide +kernel) ?_
              refine gx_aload_n_0 (gx_dupr ((gx_nil ?_)))
              refine n_getI fX10_215 (by decide +kernel) rfl ?_
              try simp only [vU_s, vU_n, ne_eq, Nat.reduceEqDiff, not_false_eq_true, e15, e14, e17, nI_add, pk_mul, Nat.add_zero, Nat.zero_add, Nat.reduceAdd, Nat.reduceMul]
              refine n_blk [(.iconst 1, .int (nI 1)), (.iadd, .null)] (Nat.le_of_ble_eq_true rfl) (by decide +kernel) ?_
              refine gx_iconst (gx_iadd ((gx_nil ?_)))
              try simp only [e15, e14, e17, nI_add, pk_mul, Nat.add_zero, Nat.zero_add, Nat.reduceAdd, Nat.reduceMul]
              refine n_putI fX10_215 (by decide +kernel) rfl (by decide) rfl rfl ?_
              refine n_blk [(.aload_n 0, .null), (.iload_n 1, .null), (.iload_n 2, .null)] (Nat.le_of_ble_eq_true rfl) (by decide +kernel) ?_
              refine gx_aload_n_0 (gx_iload_n_1 (gx_iload_n_2 ((gx_nil ?_))))
              refine n_callE kX10_253 (r_readsNumbers (V := vU (vU (vU (vU V 16 (-1)) 15 (nI (sp + 4))) 17 (nI (k + 1))) 15 (nI (sp + 5))) (F := fU (fU F 19 (4 * k) (nI 4)) 19 (4 * k + 3) (nI 0)) (sp := sp + 5) rfl e14 (by omega) hn hT rfl (by decide) (by omega)) (by decide +kernel) rfl rfl (Nat.le_of_ble_eq_true rfl) (Nat.le_of_ble_eq_true rfl) (Nat.le_of_ble_eq_true rfl) rfl (fun wv V1 F1 hQ => ?_)
              obtain ⟨rfl, hQ⟩ := hQ
              simp only [Option.toList_none, List.nil_append]
              refine n_end none rfl ⟨by decide +kernel, rfl⟩ ?_
              exact ⟨rfl, rc_of_rn hQ (by rw [pcR_4 hk0, if_pos hS]) (fun j hj => by unfold vU; simp only [show ¬ j = 15 by omega, show ¬ j = 16 by omega, show ¬ j = 17 by omega, if_false]) rfl⟩
            · try simp only [bI_0, Decidable.not_not] at c58
              exact absurd ((lh_eq (fun z => (hT _ z).2) (by decide)).mpr hS) c58
        · try simp only [bI_0, Decidable.not_not] at c43
          exact absurd trivial c43
      · refine n_blk [(.istore_n 2, .null), (.aload_n 0, .null)] (Nat.le_of_ble_eq_true rfl) (by decide +kernel) ?_
        refine gx_istore_n_2 rfl (gx_aload_n_0 ((gx_nil ?_)))
        refine n_getR fX10_38 (by decide +kernel) rfl ?_
        refine n_blk [(.iload_n 1, .null), (.iload_n 2, .null)] (Nat.le_of_ble_eq_true rfl) (by decide +kernel) ?_
        refine gx_iload_n_1 (gx_iload_n_2 ((gx_nil ?_)))
        refine n_as (j := 19) rfl (by decide +kernel) (show _ < 120 from by omega) ?_
        refine n_blk [(.aload_n 0, .null)] (Nat.le_of_ble_eq_true rfl) (by decide +kernel) ?_
        refine gx_aload_n_0 ((gx_nil ?_))
        refine n_getR fX10_38 (by decide +kernel) rfl ?_
        refine n_blk [(.iload_n 1, .null), (.iconst 3, .int (nI 3)), (.iadd, .null), (.iconst 0, .int (nI 0))] (Nat.le_of_ble_eq_true rfl) (by decide +kernel) ?_
        refine gx_iload_n_1 (gx_iconst (gx_iadd (gx_iconst ((gx_nil ?_)))))
        try simp only [e15, e14, e17, nI_add, pk_mul, Nat.add_zero, Nat.zero_add, Nat.reduceAdd, Nat.reduceMul]
        refine n_as (j := 19) rfl (by decide +kernel) (show _ < 120 from by omega) ?_
        refine n_blk [(.aload_n 0, .null), (.dup, .null)] (Nat.le_of_ble_eq_true rfl) (by decide +kernel) ?_
        refine gx_aload_n_0 (gx_dupr ((gx_nil ?_)))
        refine n_getI fX10_247 (by decide +kernel) rfl ?_
        try simp only [vU_s, vU_n, ne_eq, Nat.reduceEqDiff, not_false_eq_true, e15, e14, e17, nI_add, pk_mul, Nat.add_zero, Nat.zero_add, Nat.reduceAdd, Nat.reduceMul]
        refine n_blk [(.iconst 1, .int (nI 1)), (.iadd, .null)] (Nat.le_of_ble_eq_true rfl) (by decide +kernel) ?_
        refine gx_iconst (gx_iadd ((gx_nil ?_)))
        try simp only [e15, e14, e17, nI_add, pk_mul, Nat.add_zero, Nat.zero_add, Nat.reduceAdd, Nat.reduceMul]
        refine n_putI fX10_247 (by decide +kernel) rfl (by decide) rfl rfl ?_
        refine n_blk [(.aload_n 0, .null)] (Nat.le_of_ble_eq_true rfl) (by decide +kernel) ?_
        refine gx_aload_n_0 ((gx_nil ?_))
        refine n_getI fX10_221 (by decide +kernel) rfl ?_
        try simp only [vU_s, vU_n, ne_eq, Nat.reduceEqDiff, not_false_eq_true, e15, e14, e17, nI_add, pk_mul, Nat.add_zero, Nat.zero_add, Nat.reduceAdd, Nat.reduceMul]
        refine n_blk [(.iconst (-1), .int (-1))] (Nat.le_of_ble_eq_true rfl) (by decide +kernel) ?_
        refine gx_iconst ((gx_nil ?_))
        refine n_icmp_eq (off := 4) (tgt := 47) (by decide +kernel) (by decide) (fun c43 => ?_) (fun c43 => ?_)
        · try simp only [bI_0, Decidable.not_not] at c43
          refine n_blk [(.iload_n 2, .null), (.iconst 4, .int (nI 4))] (Nat.le_of_ble_eq_true rfl) (by decide +kernel) ?_
          refine gx_iload_n_2 (gx_iconst ((gx_nil ?_)))
          refine n_icmp_ne (off := 23) (tgt := 72) (by decide +kernel) (by decide) (fun c49 => ?_) (fun c49 => ?_)
          · exact absurd (by decide) c49
          · try simp only [bI_0, Decidable.not_not] at c49
            refine n_blk [(.aload_n 0, .null)] (Nat.le_of_ble_eq_true rfl) (by decide +kernel) ?_
            refine gx_aload_n_0 ((gx_nil ?_))
            refine n_call kX10_224 (r_letterHere (V := vU (vU (vU V 16 (-1)) 15 (nI (sp + 4))) 17 (nI (k + 1))) (F := fU (fU F 19 (4 * k) (nI 4)) 19 (4 * k + 3) (nI 0)) (sp := sp + 4) rfl e14 (by omega) hn hT) (by decide +kernel) rfl rfl (Nat.le_of_ble_eq_true rfl) (Nat.le_of_ble_eq_true rfl) (Nat.le_of_ble_eq_true rfl) rfl ?_
            try simp only [Option.toList_some, Option.toList_none, List.cons_append, List.nil_append, bI_0, n1_0, n0_0, Decidable.not_not, not_true_eq_false, not_false_eq_true, e15, e14, e17, nI_add, pk_mul, Nat.add_zero, Nat.zero_add, Nat.reduceAdd, Nat.reduceMul]
            refine n_blk [(.bipush 32, .int (nI 32))] (Nat.le_of_ble_eq_true rfl) (by decide +kernel) ?_
            refine gx_bipush ((gx_nil ?_))
            refine n_icmp_eq (off := 4) (tgt := 62) (by decide +kernel) (by decide) (fun c58 => ?_) (fun c58 => ?_)
            · try simp only [bI_0, Decidable.not_not] at c58
              exact absurd ((lh_eq (fun z => (hT _ z).2) (by decide)).mp c58) hS
            · try simp only [bI_0, Decidable.not_not] at c58
              refine n_end none rfl ⟨by decide +kernel, rfl⟩ ?_
              exact ⟨rfl, rc_44 (by rw [pcR_4 hk0, if_neg hS])⟩
        · try simp only [bI_0, Decidable.not_not] at c43
          exact absurd trivial c43
    · refine n_blk [(.istore_n 2, .null), (.aload_n 0, .null)] (Nat.le_of_ble_eq_true rfl) (by decide +kernel) ?_
      refine gx_istore_n_2 rfl (gx_aload_n_0 ((gx_nil ?_)))
      refine n_getR fX10_38 (by decide +kernel) rfl ?_
      refine n_blk [(.iload_n 1, .null), (.iload_n 2, .null)] (Nat.le_of_ble_eq_true rfl) (by decide +kernel) ?_
      refine gx_iload_n_1 (gx_iload_n_2 ((gx_nil ?_)))
      refine n_as (j := 19) rfl (by decide +kernel) (show _ < 120 from by omega) ?_
      refine n_blk [(.aload_n 0, .null)] (Nat.le_of_ble_eq_true rfl) (by decide +kernel) ?_
      refine gx_aload_n_0 ((gx_nil ?_))
      refine n_getR fX10_38 (by decide +kernel) rfl ?_
      refine n_blk [(.iload_n 1, .null), (.iconst 3, .int (nI 3)), (.iadd, .null), (.iconst 0, .int (nI 0))] (Nat.le_of_ble_eq_true rfl) (by decide +kernel) ?_
      refine gx_iload_n_1 (gx_iconst (gx_iadd (gx_iconst ((gx_nil ?_)))))
      try simp only [e15, e14, e17, nI_add, pk_mul, Nat.add_zero, Nat.zero_add, Nat.reduceAdd, Nat.reduceMul]
      refine n_as (j := 19) rfl (by decide +kernel) (show _ < 120 from by omega) ?_
      refine n_blk [(.aload_n 0, .null), (.dup, .null)] (Nat.le_of_ble_eq_true rfl) (by decide +kernel) ?_
      refine gx_aload_n_0 (gx_dupr ((gx_nil ?_)))
      refine n_getI fX10_247 (by decide +kernel) rfl ?_
      try simp only [vU_s, vU_n, ne_eq, Nat.reduceEqDiff, not_false_eq_true, e15, e14, e17, nI_add, pk_mul, Nat.add_zero, Nat.zero_add, Nat.reduceAdd, Nat.reduceMul]
      refine n_blk [(.iconst 1, .int (nI 1)), (.iadd, .null)] (Nat.le_of_ble_eq_true rfl) (by decide +kernel) ?_
      refine gx_iconst (gx_iadd ((gx_nil ?_)))
      try simp only [e15, e14, e17, nI_add, pk_mul, Nat.add_zero, Nat.zero_add, Nat.reduceAdd, Nat.reduceMul]
      refine n_putI fX10_247 (by decide +kernel) rfl (by decide) rfl rfl ?_
      refine n_blk [(.aload_n 0, .null)] (Nat.le_of_ble_eq_true rfl) (by decide +kernel) ?_
      refine gx_aload_n_0 ((gx_nil ?_))
      refine n_getI fX10_221 (by decide +kernel) rfl ?_
      try simp only [vU_s, vU_n, ne_eq, Nat.reduceEqDiff, not_false_eq_true, e15, e14, e17, nI_add, pk_mul, Nat.add_zero, Nat.zero_add, Nat.reduceAdd, Nat.reduceMul]
      refine n_blk [(.iconst (-1), .int (-1))] (Nat.le_of_ble_eq_true rfl) (by decide +kernel) ?_
      refine gx_iconst ((gx_nil ?_))
      refine n_icmp_eq (off := 4) (tgt := 47) (by decide +kernel) (by decide) (fun c43 => ?_) (fun c43 => ?_)
      · try simp only [bI_0, Decidable.not_not] at c43
        refine n_blk [(.iload_n 2, .null), (.iconst 4, .int (nI 4))] (Nat.le_of_ble_eq_true rfl) (by decide +kernel) ?_
        refine gx_iload_n_2 (gx_iconst ((gx_nil ?_)))
        refine n_icmp_ne (off := 23) (tgt := 72) (by decide +kernel) (by decide) (fun c49 => ?_) (fun c49 => ?_)
        · try simp only [bI_0, Decidable.not_not] at c49
          refine n_blk [(.aload_n 0, .null), (.iload_n 1, .null), (.iload_n 2, .null)] (Nat.le_of_ble_eq_true rfl) (by decide +kernel) ?_
          refine gx_aload_n_0 (gx_iload_n_1 (gx_iload_n_2 ((gx_nil ?_))))
          refine n_callE kX10_253 (r_readsNumbers (V := vU (vU (vU V 16 (-1)) 15 (nI (sp + (kw w).length))) 17 (nI (k + 1))) (F := fU (fU F 19 (4 * k) (nI w)) 19 (4 * k + 3) (nI 0)) (sp := sp + (kw w).length) rfl e14 (by omega) hn hT rfl hw (by omega)) (by decide +kernel) rfl rfl (Nat.le_of_ble_eq_true rfl) (Nat.le_of_ble_eq_true rfl) (Nat.le_of_ble_eq_true rfl) rfl (fun wv V1 F1 hQ => ?_)
          obtain ⟨rfl, hQ⟩ := hQ
          simp only [Option.toList_none, List.nil_append]
          refine n_end none rfl ⟨by decide +kernel, rfl⟩ ?_
          exact ⟨rfl, rc_of_rn hQ (by rw [pcR_w hk0 h4]) (fun j hj => by unfold vU; simp only [show ¬ j = 15 by omega, show ¬ j = 16 by omega, show ¬ j = 17 by omega, if_false]) rfl⟩
        · try simp only [bI_0, Decidable.not_not] at c49
          exact absurd ((nI_eq (by omega) (by decide)).mp c49) h4
      · try simp only [bI_0, Decidable.not_not] at c43
        exact absurd trivial c43
end SRc
