section SRn
variable {Γ : gE} {o : Nat} {ad : Nat → Nat} {V : Nat → Int32} {F : Nat → Nat → Int32}
theorem fU_o {j q i : Nat} {x : Int32} (h : i ≠ j) : fU F j q x i = F i := if_neg h
theorem fU_s {j q : Nat} {x : Int32} : fU F j q x j = upd (F j) q x := by
  funext i
  unfold fU upd
  rw [if_pos rfl]
theorem nmv_0 {tx : Nat → Nat} {n k p v : Nat} : (nmv tx n (k + 1) p v).2 = 0 ↔ ¬ isD tx n p = true := by
  rw [nmv_s]
  by_cases h : isD tx n p = true
  · rw [if_pos h]
    exact ⟨fun z => absurd z (by simp), fun z => absurd h z⟩
  · rw [if_neg h]
    exact ⟨fun _ => h, fun _ => rfl⟩
theorem pnR_A {tx : Nat → Nat} {n w p : Nat} (h : (nmv tx n (kd1 w) p 0).2 = 0) : pnR tx n w p = .inl p := by unfold pnR; rw [if_pos h]
theorem pnR_B0 {tx : Nat → Nat} {n w p : Nat} (h : ¬ (nmv tx n (kd1 w) p 0).2 = 0) (h2 : kd2 w = 0) : pnR tx n w p = .inr ((w, (nmv tx n (kd1 w) p 0).1, 0, (nmv tx n (kd1 w) p 0).2), p + (nmv tx n (kd1 w) p 0).2) := by unfold pnR; rw [if_neg h, if_pos h2]
theorem pnR_B1 {tx : Nat → Nat} {n w p : Nat} (h : ¬ (nmv tx n (kd1 w) p 0).2 = 0) (h2 : ¬ kd2 w = 0) (h3 : ¬ (p + (nmv tx n (kd1 w) p 0).2 < n ∧ tx (p + (nmv tx n (kd1 w) p 0).2) = 32)) : pnR tx n w p = .inl (p + (nmv tx n (kd1 w) p 0).2) := by unfold pnR; rw [if_neg h, if_neg h2, if_pos h3]
theorem pnR_B2 {tx : Nat → Nat} {n w p : Nat} (h : ¬ (nmv tx n (kd1 w) p 0).2 = 0) (h2 : ¬ kd2 w = 0) (h3 : p + (nmv tx n (kd1 w) p 0).2 < n ∧ tx (p + (nmv tx n (kd1 w) p 0).2) = 32) (h4 : (nmv tx n (kd2 w) (p + (nmv tx n (kd1 w) p 0).2 + 1) 0).2 = 0) : pnR tx n w p = .inl (p + (nmv tx n (kd1 w) p 0).2 + 1) := by unfold pnR; rw [if_neg h, if_neg h2, if_neg (fun z => z h3), if_pos h4]
theorem pnR_B3 {tx : Nat → Nat} {n w p : Nat} (h : ¬ (nmv tx n (kd1 w) p 0).2 = 0) (h2 : ¬ kd2 w = 0) (h3 : p + (nmv tx n (kd1 w) p 0).2 < n ∧ tx (p + (nmv tx n (kd1 w) p 0).2) = 32) (h4 : ¬ (nmv tx n (kd2 w) (p + (nmv tx n (kd1 w) p 0).2 + 1) 0).2 = 0) : pnR tx n w p = .inr ((w, (nmv tx n (kd1 w) p 0).1, (nmv tx n (kd2 w) (p + (nmv tx n (kd1 w) p 0).2 + 1) 0).1, (nmv tx n (kd1 w) p 0).2), p + (nmv tx n (kd1 w) p 0).2 + 1 + (nmv tx n (kd2 w) (p + (nmv tx n (kd1 w) p 0).2 + 1) 0).2) := by unfold pnR; rw [if_neg h, if_neg h2, if_neg (fun z => z h3), if_neg h4]
theorem r_number_wr {sp n : Nat} {tx : Nat → Nat} (e15 : V 15 = nI sp) (e14 : V 14 = nI n) (hsp : sp ≤ n) (hn : n ≤ 60) (hT : ∀ i, i < n → F 9 i = nI (tx i) ∧ tx i < 128) (e16 : ¬ V 16 = -1) {mo : Nat} (hmo : 1 ≤ mo) (hm4 : mo ≤ 4) : mC Γ o ad M_X10_number [.int (nI mo)] V F 2 (some (.int (nI 0))) (vU (vU V 16 (V 16)) 18 (nI 1)) (F) := by
  refine mC_of (by decide) rfl (Nat.le_of_ble_eq_true rfl) [some (.ref o), some (.int (nI mo)), none] rfl ?_
  refine m_blk [(.aload_n 0, .null), (.bipush 48, .int (nI 48)), (.bipush 57, .int (nI 57))] (Nat.le_of_ble_eq_true rfl) (by decide +kernel) ?_
  refine gx_aload_n_0 (gx_bipush (gx_bipush ((gx_nil ?_))))
  refine m_call kX10_227 (r_reads_no e15 e14 hsp hn hT (lo := 48) (hi := 57) (by decide) (by decide) (fun z => e16 z.1)) (by decide +kernel) rfl rfl (Nat.le_of_ble_eq_true rfl) (Nat.le_of_ble_eq_true rfl) (Nat.le_of_ble_eq_true rfl) rfl ?_
  rw [if_neg e16]
  simp only [Option.toList_some, List.cons_append, List.nil_append]
  refine m_blk [(.istore_n 2, .null), (.aload_n 0, .null), (.iconst 1, .int (nI 1))] (Nat.le_of_ble_eq_true rfl) (by decide +kernel) ?_
  refine gx_istore_n_2 rfl (gx_aload_n_0 (gx_iconst ((gx_nil ?_))))
  refine m_putI fX10_230 (by decide +kernel) rfl (by decide) rfl rfl ?_
  refine m_blk [(.aload_n 0, .null)] (Nat.le_of_ble_eq_true rfl) (by decide +kernel) ?_
  refine gx_aload_n_0 ((gx_nil ?_))
  refine m_getI fX10_230 (by decide +kernel) rfl ?_
  try simp only [vU_s, vU_n, ne_eq, Nat.reduceEqDiff, not_false_eq_true, e15, e14, nI_add, pk_mul, Nat.add_zero, Nat.zero_add, Nat.reduceAdd, Nat.reduceMul]
  refine m_blk [(.iload_n 1, .null)] (Nat.le_of_ble_eq_true rfl) (by decide +kernel) ?_
  refine gx_iload_n_1 ((gx_nil ?_))
  refine m_icmp_ge (off := 52) (tgt := 71) (by decide +kernel) (by decide) (fun c19 => ?_) (fun c19 => ?_)
  · try simp only [bI_0, Decidable.not_not] at c19
    refine m_blk [(.iload_n 2, .null)] (Nat.le_of_ble_eq_true rfl) (by decide +kernel) ?_
    refine gx_iload_n_2 ((gx_nil ?_))
    refine m_end (some (.int _)) rfl ⟨by decide +kernel, _, rfl, rfl⟩ ?_ ?_ ?_
    all_goals rfl
  · try simp only [bI_0, Decidable.not_not] at c19
    refine m_blk [(.aload_n 0, .null)] (Nat.le_of_ble_eq_true rfl) (by decide +kernel) ?_
    refine gx_aload_n_0 ((gx_nil ?_))
    refine m_getI fX10_221 (by decide +kernel) rfl ?_
    try simp only [vU_s, vU_n, ne_eq, Nat.reduceEqDiff, not_false_eq_true, e15, e14, nI_add, pk_mul, Nat.add_zero, Nat.zero_add, Nat.reduceAdd, Nat.reduceMul]
    refine m_blk [(.iconst (-1), .int (-1))] (Nat.le_of_ble_eq_true rfl) (by decide +kernel) ?_
    refine gx_iconst ((gx_nil ?_))
    refine m_icmp_ne (off := 44) (tgt := 71) (by decide +kernel) (by decide) (fun c27 => ?_) (fun c27 => ?_)
    · try simp only [bI_0, Decidable.not_not] at c27
      refine m_blk [(.iload_n 2, .null)] (Nat.le_of_ble_eq_true rfl) (by decide +kernel) ?_
      refine gx_iload_n_2 ((gx_nil ?_))
      refine m_end (some (.int _)) rfl ⟨by decide +kernel, _, rfl, rfl⟩ ?_ ?_ ?_
      all_goals rfl
    · try simp only [bI_0, Decidable.not_not] at c27
      exact absurd c27 e16
def rnZ (V : Nat → Int32) (F : Nat → Nat → Int32) (tx : Nat → Nat) (n w sp k : Nat) (V1 : Nat → Int32) (F1 : Nat → Nat → Int32) : Prop := (∀ j, j ≠ 19 → F1 j = F j) ∧ (∀ j, j ≠ 15 → j ≠ 16 → j ≠ 18 → V1 j = V j) ∧ (∀ q, q < 4 * k + 1 ∨ 4 * k + 4 ≤ q → F1 19 q = F 19 q) ∧ (∀ e, pnR tx n w sp = .inl e → V1 16 = nI e) ∧ ∀ c p', pnR tx n w sp = .inr (c, p') → V1 16 = -1 ∧ V1 15 = nI p' ∧ F1 19 (4 * k + 1) = nI c.2.1 ∧ F1 19 (4 * k + 3) = nI c.2.2.2 ∧ (¬ kd2 w = 0 → F1 19 (4 * k + 2) = nI c.2.2.1)
theorem rnF {k : Nat} {a c : Int32} : (∀ j, j ≠ 19 → fU (fU F 19 (4 * k + 1) a) 19 (4 * k + 3) c j = F j) ∧ (∀ q, q < 4 * k + 1 ∨ 4 * k + 4 ≤ q → fU (fU F 19 (4 * k + 1) a) 19 (4 * k + 3) c 19 q = F 19 q) ∧ fU (fU F 19 (4 * k + 1) a) 19 (4 * k + 3) c 19 (4 * k + 1) = a ∧ fU (fU F 19 (4 * k + 1) a) 19 (4 * k + 3) c 19 (4 * k + 3) = c := by
  refine ⟨fun j hj => by rw [fU_o hj, fU_o hj], fun q hq => ?_, ?_, ?_⟩
  · rw [fU_s, fU_s, pk_un (by omega), pk_un (by omega)]
  · rw [fU_s, fU_s, pk_un (by omega), pk_us]
  · rw [fU_s, pk_us]
theorem rnF3 {k : Nat} {a c b : Int32} : (∀ j, j ≠ 19 → fU (fU (fU F 19 (4 * k + 1) a) 19 (4 * k + 3) c) 19 (4 * k + 2) b j = F j) ∧ (∀ q, q < 4 * k + 1 ∨ 4 * k + 4 ≤ q → fU (fU (fU F 19 (4 * k + 1) a) 19 (4 * k + 3) c) 19 (4 * k + 2) b 19 q = F 19 q) ∧ fU (fU (fU F 19 (4 * k + 1) a) 19 (4 * k + 3) c) 19 (4 * k + 2) b 19 (4 * k + 1) = a ∧ fU (fU (fU F 19 (4 * k + 1) a) 19 (4 * k + 3) c) 19 (4 * k + 2) b 19 (4 * k + 3) = c ∧ fU (fU (fU F 19 (4 * k + 1) a) 19 (4 * k + 3) c) 19 (4 * k + 2) b 19 (4 * k + 2) = b := by
  refine ⟨fun j hj => by rw [fU_o hj, fU_o hj, fU_o hj], fun q hq => ?_, ?_, ?_, ?_⟩
  · rw [fU_s, fU_s, fU_s, pk_un (by omega), pk_un (by omega), pk_un (by omega)]
  · rw [fU_s, fU_s, fU_s, pk_un (by omega), pk_un (by omega), pk_us]
  · rw [fU_s, fU_s, pk_un (by omega), pk_us]
  · rw [fU_s, pk_us]
theorem r_readsNumbers {sp n : Nat} {tx : Nat → Nat} (e15 : V 15 = nI sp) (e14 : V 14 = nI n) (hsp : sp ≤ n) (hn : n ≤ 60) (hT : ∀ i, i < n → F 9 i = nI (tx i) ∧ tx i < 128) (e16 : V 16 = -1) {w k : Nat} (hw : w < 10) (hk : k ≤ 28) : mE Γ o ad M_X10_readsNumbers [.int (nI (4 * k)), .int (nI w)] V F 3 (fun v V1 F1 => v = none ∧ rnZ V F tx n w sp k V1 F1) := by
  have : w = 0 ∨ w = 1 ∨ w = 2 ∨ w = 3 ∨ w = 4 ∨ w = 5 ∨ w = 6 ∨ w = 7 ∨ w = 8 ∨ w = 9 := by omega
  rcases this with rfl | rfl | rfl | rfl | rfl | rfl | rfl | rfl | rfl | rfl
  · by_cases hD : isD tx n sp = true
    · have h0 : ¬ (nmv tx n (kd1 0) sp 0).2 = 0 := fun z => (nmv_0 (k := 3)).mp z hD
      have hle := nmv_le (tx := tx) (n := n) (k := 4) (p := sp) (v := 0)
      have h0n : ¬ (nmv tx n 4 sp 0).2 = 0 := h0
      obtain ⟨p2, hp2⟩ : ∃ z, sp + (nmv tx n 4 sp 0).2 = z := ⟨_, rfl⟩
      have hp2n : p2 ≤ n := by omega
      have g15 : vU (vU V 15 (nI (sp + (nmv tx n 4 sp 0).2))) 18 (nI (nmv tx n 4 sp 0).2) 15 = nI p2 := by rw [hp2]; rfl
      have g14 : vU (vU V 15 (nI (sp + (nmv tx n 4 sp 0).2))) 18 (nI (nmv tx n 4 sp 0).2) 14 = nI n := e14
      have g16 : vU (vU V 15 (nI (sp + (nmv tx n 4 sp 0).2))) 18 (nI (nmv tx n 4 sp 0).2) 16 = -1 := e16
      have gT : ∀ i, i < n → fU (fU F 19 (4 * k + 1) (nI (nmv tx n 4 sp 0).1)) 19 (4 * k + 3) (nI (nmv tx n 4 sp 0).2) 9 i = nI (tx i) ∧ tx i < 128 := hT
      by_cases h3 : p2 < n ∧ tx p2 = 32
      · have h3r : p2 < n ∧ 32 ≤ tx p2 ∧ tx p2 ≤ 32 := by omega
        have h3k : sp + (nmv tx n (kd1 0) sp 0).2 < n ∧ tx (sp + (nmv tx n (kd1 0) sp 0).2) = 32 := by
          show sp + (nmv tx n 4 sp 0).2 < n ∧ tx (sp + (nmv tx n 4 sp 0).2) = 32
          rw [hp2]; exact h3
        by_cases hD2 : isD tx n (p2 + 1) = true
        · have hle2 := nmv_le (tx := tx) (n := n) (k := 2) (p := p2 + 1) (v := 0)
          have h4 : ¬ (nmv tx n (kd2 0) (sp + (nmv tx n (kd1 0) sp 0).2 + 1) 0).2 = 0 := fun z => (nmv_0 (k := 1)).mp z (by rw [show sp + (nmv tx n (kd1 0) sp 0).2 = p2 from hp2]; exact hD2)
          have hR := pnR_B3 h0 (by decide) h3k h4
          rw [show sp + (nmv tx n (kd1 0) sp 0).2 = p2 from hp2] at hR
          refine mE_of (by decide) rfl (Nat.le_of_ble_eq_true rfl) [some (.ref o), some (.int (nI (4 * k))), some (.int (nI 0)), none, none, none] rfl ?_
          refine n_blk [(.iload_n 2, .null), (.iconst 4, .int (nI 4))] (Nat.le_of_ble_eq_true rfl) (by decide +kernel) ?_
          refine gx_iload_n_2 (gx_iconst ((gx_nil ?_)))
          refine n_icmp_ge (off := 7) (tgt := 9) (by decide +kernel) (by decide) (fun c2 => ?_) (fun c2 => ?_)
          · exact absurd c2 (by decide)
          · try simp only [bI_0, Decidable.not_not] at c2
            refine n_blk [(.iconst 1, .int (nI 1)), (.goto 4, .retAddr 10), (.istore_n 3, .null), (.iload_n 2, .null), (.bipush 7, .int (nI 7))] (Nat.le_of_ble_eq_true rfl) (by decide +kernel) ?_
            refine gx_iconst (gx_goto (gx_istore_n_3 rfl (gx_iload_n_2 (gx_bipush ((gx_nil ?_))))))
            refine n_icmp_eq (off := 9) (tgt := 23) (by decide +kernel) (by decide) (fun c14 => ?_) (fun c14 => ?_)
            · exact absurd c14 (by decide)
            · try simp only [bI_0, Decidable.not_not] at c14
              refine n_blk [(.iload_n 2, .null), (.bipush 8, .int (nI 8))] (Nat.le_of_ble_eq_true rfl) (by decide +kernel) ?_
              refine gx_iload_n_2 (gx_bipush ((gx_nil ?_)))
              refine n_icmp_ne (off := 7) (tgt := 27) (by decide +kernel) (by decide) (fun c20 => ?_) (fun c20 => ?_)
              · try simp only [bI_0, Decidable.not_not] at c20
                refine n_blk [(.iconst 0, .int (nI 0)), (.istore 4, .null), (.aload_n 0, .null)] (Nat.le_of_ble_eq_true rfl) (by decide +kernel) ?_
                refine gx_iconst (gx_istore_4 rfl (gx_aload_n_0 ((gx_nil ?_))))
                refine n_getR fX10_38 (by decide +kernel) rfl ?_
                refine n_blk [(.iload_n 1, .null), (.iconst 1, .int (nI 1)), (.iadd, .null), (.aload_n 0, .null), (.iload_n 3, .null)] (Nat.le_of_ble_eq_true rfl) (by decide +kernel) ?_
                refine gx_iload_n_1 (gx_iconst (gx_iadd (gx_aload_n_0 (gx_iload_n_3 ((gx_nil ?_))))))
                try simp only [nI_add, pk_mul, Nat.add_zero, Nat.zero_add, Nat.reduceAdd, Nat.reduceMul]
                refine n_if_eq (off := 7) (tgt := 46) (by decide +kernel) (by decide) (fun c39 => ?_) (fun c39 => ?_)
                · exact absurd c39 (by decide)
                · try simp only [bI_0, Decidable.not_not] at c39
                  refine n_blk [(.iconst 4, .int (nI 4)), (.goto 13, .retAddr 56)] (Nat.le_of_ble_eq_true rfl) (by decide +kernel) ?_
                  refine gx_iconst (gx_goto ((gx_nil ?_)))
                  refine n_call kX10_244 (r_number_ok e15 e14 hsp hn hT e16 (mo := 4) (by decide) (by decide) hD) (by decide +kernel) rfl rfl (Nat.le_of_ble_eq_true rfl) (Nat.le_of_ble_eq_true rfl) (Nat.le_of_ble_eq_true rfl) rfl ?_
                  simp only [Option.toList_some, List.cons_append, List.nil_append]
                  refine n_as (j := 19) rfl (by decide +kernel) (show _ < 120 from by omega) ?_
                  refine n_blk [(.aload_n 0, .null)] (Nat.le_of_ble_eq_true rfl) (by decide +kernel) ?_
                  refine gx_aload_n_0 ((gx_nil ?_))
                  refine n_getR fX10_38 (by decide +kernel) rfl ?_
                  refine n_blk [(.iload_n 1, .null), (.iconst 3, .int (nI 3)), (.iadd, .null), (.aload_n 0, .null)] (Nat.le_of_ble_eq_true rfl) (by decide +kernel) ?_
                  refine gx_iload_n_1 (gx_iconst (gx_iadd (gx_aload_n_0 ((gx_nil ?_)))))
                  try simp only [nI_add, pk_mul, Nat.add_zero, Nat.zero_add, Nat.reduceAdd, Nat.reduceMul]
                  refine n_getI fX10_230 (by decide +kernel) rfl ?_
                  try simp only [vU_s, vU_n, ne_eq, Nat.reduceEqDiff, not_false_eq_true, nI_add, pk_mul, Nat.add_zero, Nat.zero_add, Nat.reduceAdd, Nat.reduceMul]
                  refine n_as (j := 19) rfl (by decide +kernel) (show _ < 120 from by omega) ?_
                  refine n_blk [(.iload_n 2, .null), (.iconst 3, .int (nI 3))] (Nat.le_of_ble_eq_true rfl) (by decide +kernel) ?_
                  refine gx_iload_n_2 (gx_iconst ((gx_nil ?_)))
                  refine n_icmp_lt (off := 13) (tgt := 87) (by decide +kernel) (by decide) (fun c74 => ?_) (fun c74 => ?_)
                  · try simp only [bI_0, Decidable.not_not] at c74
                    refine n_blk [(.aload_n 0, .null), (.bipush 32, .int (nI 32)), (.bipush 32, .int (nI 32))] (Nat.le_of_ble_eq_true rfl) (by decide +kernel) ?_
                    refine gx_aload_n_0 (gx_bipush (gx_bipush ((gx_nil ?_))))
                    refine n_call kX10_227 (r_reads_ok (V := vU (vU V 15 (nI (sp + (nmv tx n 4 sp 0).2))) 18 (nI (nmv tx n 4 sp 0).2)) g15 g14 hp2n hn gT (lo := 32) (hi := 32) (by decide) (by decide) g16 h3r) (by decide +kernel) rfl rfl (Nat.le_of_ble_eq_true rfl) (Nat.le_of_ble_eq_true rfl) (Nat.le_of_ble_eq_true rfl) rfl ?_
                    simp only [Option.toList_some, List.cons_append, List.nil_append]
                    refine n_blk [(.istore 5, .null), (.aload_n 0, .null)] (Nat.le_of_ble_eq_true rfl) (by decide +kernel) ?_
                    refine gx_istore_5 rfl (gx_aload_n_0 ((gx_nil ?_)))
                    refine n_getR fX10_38 (by decide +kernel) rfl ?_
                    refine n_blk [(.iload_n 1, .null), (.iconst 2, .int (nI 2)), (.iadd, .null), (.aload_n 0, .null), (.iload_n 2, .null), (.iconst 2, .int (nI 2))] (Nat.le_of_ble_eq_true rfl) (by decide +kernel) ?_
                    refine gx_iload_n_1 (gx_iconst (gx_iadd (gx_aload_n_0 (gx_iload_n_2 (gx_iconst ((gx_nil ?_)))))))
                    try simp only [nI_add, pk_mul, Nat.add_zero, Nat.zero_add, Nat.reduceAdd, Nat.reduceMul]
                    refine n_icmp_eq (off := 8) (tgt := 115) (by decide +kernel) (by decide) (fun c107 => ?_) (fun c107 => ?_)
                    · exact absurd c107 (by decide)
                    · try simp only [bI_0, Decidable.not_not] at c107
                      refine n_blk [(.iload_n 2, .null), (.iconst 5, .int (nI 5))] (Nat.le_of_ble_eq_true rfl) (by decide +kernel) ?_
                      refine gx_iload_n_2 (gx_iconst ((gx_nil ?_)))
                      refine n_icmp_ne (off := 7) (tgt := 119) (by decide +kernel) (by decide) (fun c112 => ?_) (fun c112 => ?_)
                      · try simp only [bI_0, Decidable.not_not] at c112
                        refine n_blk [(.iconst 2, .int (nI 2))] (Nat.le_of_ble_eq_true rfl) (by decide +kernel) ?_
                        refine gx_iconst ((gx_nil ?_))
                        refine n_call kX10_244 (r_number_ok (sp := p2 + 1) (V := vU (vU (vU V 15 (nI (sp + (nmv tx n 4 sp 0).2))) 18 (nI (nmv tx n 4 sp 0).2)) 15 (nI (p2 + 1))) rfl e14 (by omega) hn gT e16 (mo := 2) (by decide) (by decide) hD2) (by decide +kernel) rfl rfl (Nat.le_of_ble_eq_true rfl) (Nat.le_of_ble_eq_true rfl) (Nat.le_of_ble_eq_true rfl) rfl ?_
                        simp only [Option.toList_some, List.cons_append, List.nil_append]
                        refine n_as (j := 19) rfl (by decide +kernel) (show _ < 120 from by omega) ?_
                        refine n_end none rfl ⟨by decide +kernel, rfl⟩ ?_
                        exact ⟨rfl, rnF3.1, fun j h1 h2 h3 => by simp [vU, h1, h2, h3], rnF3.2.1, fun e he => (by rw [hR] at he; cases he), fun c p' he => by rw [hR] at he; cases he; exact ⟨e16, rfl, rnF3.2.2.1, rnF3.2.2.2.1, fun _ => rnF3.2.2.2.2⟩⟩
                      · exact absurd c112 (by decide)
                  · exact absurd (by decide) c74
              · exact absurd c20 (by decide)
        · have h4 : (nmv tx n (kd2 0) (sp + (nmv tx n (kd1 0) sp 0).2 + 1) 0).2 = 0 := (nmv_0 (k := 1)).mpr (by rw [show sp + (nmv tx n (kd1 0) sp 0).2 = p2 from hp2]; exact hD2)
          have hR := pnR_B2 h0 (by decide) h3k h4
          rw [show sp + (nmv tx n (kd1 0) sp 0).2 = p2 from hp2] at hR
          refine mE_of (by decide) rfl (Nat.le_of_ble_eq_true rfl) [some (.ref o), some (.int (nI (4 * k))), some (.int (nI 0)), none, none, none] rfl ?_
          refine n_blk [(.iload_n 2, .null), (.iconst 4, .int (nI 4))] (Nat.le_of_ble_eq_true rfl) (by decide +kernel) ?_
          refine gx_iload_n_2 (gx_iconst ((gx_nil ?_)))
          refine n_icmp_ge (off := 7) (tgt := 9) (by decide +kernel) (by decide) (fun c2 => ?_) (fun c2 => ?_)
          · exact absurd c2 (by decide)
          · try simp only [bI_0, Decidable.not_not] at c2
            refine n_blk [(.iconst 1, .int (nI 1)), (.goto 4, .retAddr 10), (.istore_n 3, .null), (.iload_n 2, .null), (.bipush 7, .int (nI 7))] (Nat.le_of_ble_eq_true rfl) (by decide +kernel) ?_
            refine gx_iconst (gx_goto (gx_istore_n_3 rfl (gx_iload_n_2 (gx_bipush ((gx_nil ?_))))))
            refine n_icmp_eq (off := 9) (tgt := 23) (by decide +kernel) (by decide) (fun c14 => ?_) (fun c14 => ?_)
            · exact absurd c14 (by decide)
            · try simp only [bI_0, Decidable.not_not] at c14
              refine n_blk [(.iload_n 2, .null), (.bipush 8, .int (nI 8))] (Nat.le_of_ble_eq_true rfl) (by decide +kernel) ?_
              refine gx_iload_n_2 (gx_bipush ((gx_nil ?_)))
              refine n_icmp_ne (off := 7) (tgt := 27) (by decide +kernel) (by decide) (fun c20 => ?_) (fun c20 => ?_)
              · try simp only [bI_0, Decidable.not_not] at c20
                refine n_blk [(.iconst 0, .int (nI 0)), (.istore 4, .null), (.aload_n 0, .null)] (Nat.le_of_ble_eq_true rfl) (by decide +kernel) ?_
                refine gx_iconst (gx_istore_4 rfl (gx_aload_n_0 ((gx_nil ?_))))
                refine n_getR fX10_38 (by decide +kernel) rfl ?_
                refine n_blk [(.iload_n 1, .null), (.iconst 1, .int (nI 1)), (.iadd, .null), (.aload_n 0, .null), (.iload_n 3, .null)] (Nat.le_of_ble_eq_true rfl) (by decide +kernel) ?_
                refine gx_iload_n_1 (gx_iconst (gx_iadd (gx_aload_n_0 (gx_iload_n_3 ((gx_nil ?_))))))
                try simp only [nI_add, pk_mul, Nat.add_zero, Nat.zero_add, Nat.reduceAdd, Nat.reduceMul]
                refine n_if_eq (off := 7) (tgt := 46) (by decide +kernel) (by decide) (fun c39 => ?_) (fun c39 => ?_)
                · exact absurd c39 (by decide)
                · try simp only [bI_0, Decidable.not_not] at c39
                  refine n_blk [(.iconst 4, .int (nI 4)), (.goto 13, .retAddr 56)] (Nat.le_of_ble_eq_true rfl) (by decide +kernel) ?_
                  refine gx_iconst (gx_goto ((gx_nil ?_)))
                  refine n_call kX10_244 (r_number_ok e15 e14 hsp hn hT e16 (mo := 4) (by decide) (by decide) hD) (by decide +kernel) rfl rfl (Nat.le_of_ble_eq_true rfl) (Nat.le_of_ble_eq_true rfl) (Nat.le_of_ble_eq_true rfl) rfl ?_
                  simp only [Option.toList_some, List.cons_append, List.nil_append]
                  refine n_as (j := 19) rfl (by decide +kernel) (show _ < 120 from by omega) ?_
                  refine n_blk [(.aload_n 0, .null)] (Nat.le_of_ble_eq_true rfl) (by decide +kernel) ?_
                  refine gx_aload_n_0 ((gx_nil ?_))
                  refine n_getR fX10_38 (by decide +kernel) rfl ?_
                  refine n_blk [(.iload_n 1, .null), (.iconst 3, .int (nI 3)), (.iadd, .null), (.aload_n 0, .null)] (Nat.le_of_ble_eq_true rfl) (by decide +kernel) ?_
                  refine gx_iload_n_1 (gx_iconst (gx_iadd (gx_aload_n_0 ((gx_nil ?_)))))
                  try simp only [nI_add, pk_mul, Nat.add_zero, Nat.zero_add, Nat.reduceAdd, Nat.reduceMul]
                  refine n_getI fX10_230 (by decide +kernel) rfl ?_
                  try simp only [vU_s, vU_n, ne_eq, Nat.reduceEqDiff, not_false_eq_true, nI_add, pk_mul, Nat.add_zero, Nat.zero_add, Nat.reduceAdd, Nat.reduceMul]
                  refine n_as (j := 19) rfl (by decide +kernel) (show _ < 120 from by omega) ?_
                  refine n_blk [(.iload_n 2, .null), (.iconst 3, .int (nI 3))] (Nat.le_of_ble_eq_true rfl) (by decide +kernel) ?_
                  refine gx_iload_n_2 (gx_iconst ((gx_nil ?_)))
                  refine n_icmp_lt (off := 13) (tgt := 87) (by decide +kernel) (by decide) (fun c74 => ?_) (fun c74 => ?_)
                  · try simp only [bI_0, Decidable.not_not] at c74
                    refine n_blk [(.aload_n 0, .null), (.bipush 32, .int (nI 32)), (.bipush 32, .int (nI 32))] (Nat.le_of_ble_eq_true rfl) (by decide +kernel) ?_
                    refine gx_aload_n_0 (gx_bipush (gx_bipush ((gx_nil ?_))))
                    refine n_call kX10_227 (r_reads_ok (V := vU (vU V 15 (nI (sp + (nmv tx n 4 sp 0).2))) 18 (nI (nmv tx n 4 sp 0).2)) g15 g14 hp2n hn gT (lo := 32) (hi := 32) (by decide) (by decide) g16 h3r) (by decide +kernel) rfl rfl (Nat.le_of_ble_eq_true rfl) (Nat.le_of_ble_eq_true rfl) (Nat.le_of_ble_eq_true rfl) rfl ?_
                    simp only [Option.toList_some, List.cons_append, List.nil_append]
                    refine n_blk [(.istore 5, .null), (.aload_n 0, .null)] (Nat.le_of_ble_eq_true rfl) (by decide +kernel) ?_
                    refine gx_istore_5 rfl (gx_aload_n_0 ((gx_nil ?_)))
                    refine n_getR fX10_38 (by decide +kernel) rfl ?_
                    refine n_blk [(.iload_n 1, .null), (.iconst 2, .int (nI 2)), (.iadd, .null), (.aload_n 0, .null), (.iload_n 2, .null), (.iconst 2, .int (nI 2))] (Nat.le_of_ble_eq_true rfl) (by decide +kernel) ?_
                    refine gx_iload_n_1 (gx_iconst (gx_iadd (gx_aload_n_0 (gx_iload_n_2 (gx_iconst ((gx_nil ?_)))))))
                    try simp only [nI_add, pk_mul, Nat.add_zero, Nat.zero_add, Nat.reduceAdd, Nat.reduceMul]
                    refine n_icmp_eq (off := 8) (tgt := 115) (by decide +kernel) (by decide) (fun c107 => ?_) (fun c107 => ?_)
                    · exact absurd c107 (by decide)
                    · try simp only [bI_0, Decidable.not_not] at c107
                      refine n_blk [(.iload_n 2, .null), (.iconst 5, .int (nI 5))] (Nat.le_of_ble_eq_true rfl) (by decide +kernel) ?_
                      refine gx_iload_n_2 (gx_iconst ((gx_nil ?_)))
                      refine n_icmp_ne (off := 7) (tgt := 119) (by decide +kernel) (by decide) (fun c112 => ?_) (fun c112 => ?_)
                      · try simp only [bI_0, Decidable.not_not] at c112
                        refine n_blk [(.iconst 2, .int (nI 2))] (Nat.le_of_ble_eq_true rfl) (by decide +kernel) ?_
                        refine gx_iconst ((gx_nil ?_))
                        refine n_call kX10_244 (r_number_no (sp := p2 + 1) (V := vU (vU (vU V 15 (nI (sp + (nmv tx n 4 sp 0).2))) 18 (nI (nmv tx n 4 sp 0).2)) 15 (nI (p2 + 1))) rfl e14 (by omega) hn gT e16 (mo := 2) (by decide) (by decide) hD2) (by decide +kernel) rfl rfl (Nat.le_of_ble_eq_true rfl) (Nat.le_of_ble_eq_true rfl) (Nat.le_of_ble_eq_true rfl) rfl ?_
                        simp only [Option.toList_some, List.cons_append, List.nil_append]
                        refine n_as (j := 19) rfl (by decide +kernel) (show _ < 120 from by omega) ?_
                        refine n_end none rfl ⟨by decide +kernel, rfl⟩ ?_
                        exact ⟨rfl, rnF3.1, fun j h1 h2 h3 => by simp [vU, h1, h2, h3], rnF3.2.1, fun e he => by rw [hR] at he; cases he; rfl, fun c p' he => by rw [hR] at he; cases he⟩
                      · exact absurd c112 (by decide)
                  · exact absurd (by decide) c74
              · exact absurd c20 (by decide)
      · have hR := pnR_B1 h0 (by decide) (fun z => h3 (by rw [show sp + (nmv tx n (kd1 0) sp 0).2 = p2 from hp2] at z; exact z))
        rw [show sp + (nmv tx n (kd1 0) sp 0).2 = p2 from hp2] at hR
        have hw16 : ¬ vU (vU (vU V 15 (nI (sp + (nmv tx n 4 sp 0).2))) 18 (nI (nmv tx n 4 sp 0).2)) 16 (nI p2) 16 = -1 := nI_nm1 (by omega)
        refine mE_of (by decide) rfl (Nat.le_of_ble_eq_true rfl) [some (.ref o), some (.int (nI (4 * k))), some (.int (nI 0)), none, none, none] rfl ?_
        refine n_blk [(.iload_n 2, .null), (.iconst 4, .int (nI 4))] (Nat.le_of_ble_eq_true rfl) (by decide +kernel) ?_
        refine gx_iload_n_2 (gx_iconst ((gx_nil ?_)))
        refine n_icmp_ge (off := 7) (tgt := 9) (by decide +kernel) (by decide) (fun c2 => ?_) (fun c2 => ?_)
        · exact absurd c2 (by decide)
        · try simp only [bI_0, Decidable.not_not] at c2
          refine n_blk [(.iconst 1, .int (nI 1)), (.goto 4, .retAddr 10), (.istore_n 3, .null), (.iload_n 2, .null), (.bipush 7, .int (nI 7))] (Nat.le_of_ble_eq_true rfl) (by decide +kernel) ?_
          refine gx_iconst (gx_goto (gx_istore_n_3 rfl (gx_iload_n_2 (gx_bipush ((gx_nil ?_))))))
          refine n_icmp_eq (off := 9) (tgt := 23) (by decide +kernel) (by decide) (fun c14 => ?_) (fun c14 => ?_)
          · exact absurd c14 (by decide)
          · try simp only [bI_0, Decidable.not_not] at c14
            refine n_blk [(.iload_n 2, .null), (.bipush 8, .int (nI 8))] (Nat.le_of_ble_eq_true rfl) (by decide +kernel) ?_
            refine gx_iload_n_2 (gx_bipush ((gx_nil ?_)))
            refine n_icmp_ne (off := 7) (tgt := 27) (by decide +kernel) (by decide) (fun c20 => ?_) (fun c20 => ?_)
            · try simp only [bI_0, Decidable.not_not] at c20
              refine n_blk [(.iconst 0, .int (nI 0)), (.istore 4, .null), (.aload_n 0, .null)] (Nat.le_of_ble_eq_true rfl) (by decide +kernel) ?_
              refine gx_iconst (gx_istore_4 rfl (gx_aload_n_0 ((gx_nil ?_))))
              refine n_getR fX10_38 (by decide +kernel) rfl ?_
              refine n_blk [(.iload_n 1, .null), (.iconst 1, .int (nI 1)), (.iadd, .null), (.aload_n 0, .null), (.iload_n 3, .null)] (Nat.le_of_ble_eq_true rfl) (by decide +kernel) ?_
              refine gx_iload_n_1 (gx_iconst (gx_iadd (gx_aload_n_0 (gx_iload_n_3 ((gx_nil ?_))))))
              try simp only [nI_add, pk_mul, Nat.add_zero, Nat.zero_add, Nat.reduceAdd, Nat.reduceMul]
              refine n_if_eq (off := 7) (tgt := 46) (by decide +kernel) (by decide) (fun c39 => ?_) (fun c39 => ?_)
              · exact absurd c39 (by decide)
              · try simp only [bI_0, Decidable.not_not] at c39
                refine n_blk [(.iconst 4, .int (nI 4)), (.goto 13, .retAddr 56)] (Nat.le_of_ble_eq_true rfl) (by decide +kernel) ?_
                refine gx_iconst (gx_goto ((gx_nil ?_)))
                refine n_call kX10_244 (r_number_ok e15 e14 hsp hn hT e16 (mo := 4) (by decide) (by decide) hD) (by decide +kernel) rfl rfl (Nat.le_of_ble_eq_true rfl) (Nat.le_of_ble_eq_true rfl) (Nat.le_of_ble_eq_true rfl) rfl ?_
                simp only [Option.toList_some, List.cons_append, List.nil_append]
                refine n_as (j := 19) rfl (by decide +kernel) (show _ < 120 from by omega) ?_
                refine n_blk [(.aload_n 0, .null)] (Nat.le_of_ble_eq_true rfl) (by decide +kernel) ?_
                refine gx_aload_n_0 ((gx_nil ?_))
                refine n_getR fX10_38 (by decide +kernel) rfl ?_
                refine n_blk [(.iload_n 1, .null), (.iconst 3, .int (nI 3)), (.iadd, .null), (.aload_n 0, .null)] (Nat.le_of_ble_eq_true rfl) (by decide +kernel) ?_
                refine gx_iload_n_1 (gx_iconst (gx_iadd (gx_aload_n_0 ((gx_nil ?_)))))
                try simp only [nI_add, pk_mul, Nat.add_zero, Nat.zero_add, Nat.reduceAdd, Nat.reduceMul]
                refine n_getI fX10_230 (by decide +kernel) rfl ?_
                try simp only [vU_s, vU_n, ne_eq, Nat.reduceEqDiff, not_false_eq_true, nI_add, pk_mul, Nat.add_zero, Nat.zero_add, Nat.reduceAdd, Nat.reduceMul]
                refine n_as (j := 19) rfl (by decide +kernel) (show _ < 120 from by omega) ?_
                refine n_blk [(.iload_n 2, .null), (.iconst 3, .int (nI 3))] (Nat.le_of_ble_eq_true rfl) (by decide +kernel) ?_
                refine gx_iload_n_2 (gx_iconst ((gx_nil ?_)))
                refine n_icmp_lt (off := 13) (tgt := 87) (by decide +kernel) (by decide) (fun c74 => ?_) (fun c74 => ?_)
                · try simp only [bI_0, Decidable.not_not] at c74
                  refine n_blk [(.aload_n 0, .null), (.bipush 32, .int (nI 32)), (.bipush 32, .int (nI 32))] (Nat.le_of_ble_eq_true rfl) (by decide +kernel) ?_
                  refine gx_aload_n_0 (gx_bipush (gx_bipush ((gx_nil ?_))))
                  refine n_call kX10_227 (r_reads_no (V := vU (vU V 15 (nI (sp + (nmv tx n 4 sp 0).2))) 18 (nI (nmv tx n 4 sp 0).2)) g15 g14 hp2n hn gT (lo := 32) (hi := 32) (by decide) (by decide) (fun z => h3 (by omega))) (by decide +kernel) rfl rfl (Nat.le_of_ble_eq_true rfl) (Nat.le_of_ble_eq_true rfl) (Nat.le_of_ble_eq_true rfl) rfl ?_
                  rw [if_pos g16]
                  simp only [Option.toList_some, List.cons_append, List.nil_append]
                  refine n_blk [(.istore 5, .null), (.aload_n 0, .null)] (Nat.le_of_ble_eq_true rfl) (by decide +kernel) ?_
                  refine gx_istore_5 rfl (gx_aload_n_0 ((gx_nil ?_)))
                  refine n_getR fX10_38 (by decide +kernel) rfl ?_
                  refine n_blk [(.iload_n 1, .null), (.iconst 2, .int (nI 2)), (.iadd, .null), (.aload_n 0, .null), (.iload_n 2, .null), (.iconst 2, .int (nI 2))] (Nat.le_of_ble_eq_true rfl) (by decide +kernel) ?_
                  refine gx_iload_n_1 (gx_iconst (gx_iadd (gx_aload_n_0 (gx_iload_n_2 (gx_iconst ((gx_nil ?_)))))))
                  try simp only [nI_add, pk_mul, Nat.add_zero, Nat.zero_add, Nat.reduceAdd, Nat.reduceMul]
                  refine n_icmp_eq (off := 8) (tgt := 115) (by decide +kernel) (by decide) (fun c107 => ?_) (fun c107 => ?_)
                  · exact absurd c107 (by decide)
                  · try simp only [bI_0, Decidable.not_not] at c107
                    refine n_blk [(.iload_n 2, .null), (.iconst 5, .int (nI 5))] (Nat.le_of_ble_eq_true rfl) (by decide +kernel) ?_
                    refine gx_iload_n_2 (gx_iconst ((gx_nil ?_)))
                    refine n_icmp_ne (off := 7) (tgt := 119) (by decide +kernel) (by decide) (fun c112 => ?_) (fun c112 => ?_)
                    · try simp only [bI_0, Decidable.not_not] at c112
                      refine n_blk [(.iconst 2, .int (nI 2))] (Nat.le_of_ble_eq_true rfl) (by decide +kernel) ?_
                      refine gx_iconst ((gx_nil ?_))
                      refine n_call kX10_244 (r_number_wr (sp := p2) (V := vU (vU (vU V 15 (nI (sp + (nmv tx n 4 sp 0).2))) 18 (nI (nmv tx n 4 sp 0).2)) 16 (nI p2)) g15 e14 hp2n hn gT hw16 (mo := 2) (by decide) (by decide)) (by decide +kernel) rfl rfl (Nat.le_of_ble_eq_true rfl) (Nat.le_of_ble_eq_true rfl) (Nat.le_of_ble_eq_true rfl) rfl ?_
                      simp only [Option.toList_some, List.cons_append, List.nil_append]
                      refine n_as (j := 19) rfl (by decide +kernel) (show _ < 120 from by omega) ?_
                      refine n_end none rfl ⟨by decide +kernel, rfl⟩ ?_
                      exact ⟨rfl, rnF3.1, fun j h1 h2 h3 => by simp [vU, h1, h2, h3], rnF3.2.1, fun e he => by rw [hR] at he; cases he; rfl, fun c p' he => by rw [hR] at he; cases he⟩
                    · exact absurd c112 (by decide)
                · exact absurd (by decide) c74
            · exact absurd c20 (by decide)
    · have hR := pnR_A (tx := tx) (n := n) (w := 0) (p := sp) ((nmv_0 (k := 3)).mpr hD)
      have gT : ∀ i, i < n → fU (fU F 19 (4 * k + 1) (nI 0)) 19 (4 * k + 3) (nI 1) 9 i = nI (tx i) ∧ tx i < 128 := hT
      have hw16 : ¬ vU (vU V 16 (nI sp)) 18 (nI 1) 16 = -1 := nI_nm1 (by omega)
      refine mE_of (by decide) rfl (Nat.le_of_ble_eq_true rfl) [some (.ref o), some (.int (nI (4 * k))), some (.int (nI 0)), none, none, none] rfl ?_
      refine n_blk [(.iload_n 2, .null), (.iconst 4, .int (nI 4))] (Nat.le_of_ble_eq_true rfl) (by decide +kernel) ?_
      refine gx_iload_n_2 (gx_iconst ((gx_nil ?_)))
      refine n_icmp_ge (off := 7) (tgt := 9) (by decide +kernel) (by decide) (fun c2 => ?_) (fun c2 => ?_)
      · exact absurd c2 (by decide)
      · try simp only [bI_0, Decidable.not_not] at c2
        refine n_blk [(.iconst 1, .int (nI 1)), (.goto 4, .retAddr 10), (.istore_n 3, .null), (.iload_n 2, .null), (.bipush 7, .int (nI 7))] (Nat.le_of_ble_eq_true rfl) (by decide +kernel) ?_
        refine gx_iconst (gx_goto (gx_istore_n_3 rfl (gx_iload_n_2 (gx_bipush ((gx_nil ?_))))))
        refine n_icmp_eq (off := 9) (tgt := 23) (by decide +kernel) (by decide) (fun c14 => ?_) (fun c14 => ?_)
        · exact absurd c14 (by decide)
        · try simp only [bI_0, Decidable.not_not] at c14
          refine n_blk [(.iload_n 2, .null), (.bipush 8, .int (nI 8))] (Nat.le_of_ble_eq_true rfl) (by decide +kernel) ?_
          refine gx_iload_n_2 (gx_bipush ((gx_nil ?_)))
          refine n_icmp_ne (off := 7) (tgt := 27) (by decide +kernel) (by decide) (fun c20 => ?_) (fun c20 => ?_)
          · try simp only [bI_0, Decidable.not_not] at c20
            refine n_blk [(.iconst 0, .int (nI 0)), (.istore 4, .null), (.aload_n 0, .null)] (Nat.le_of_ble_eq_true rfl) (by decide +kernel) ?_
            refine gx_iconst (gx_istore_4 rfl (gx_aload_n_0 ((gx_nil ?_))))
            refine n_getR fX10_38 (by decide +kernel) rfl ?_
            refine n_blk [(.iload_n 1, .null), (.iconst 1, .int (nI 1)), (.iadd, .null), (.aload_n 0, .null), (.iload_n 3, .null)] (Nat.le_of_ble_eq_true rfl) (by decide +kernel) ?_
            refine gx_iload_n_1 (gx_iconst (gx_iadd (gx_aload_n_0 (gx_iload_n_3 ((gx_nil ?_))))))
            try simp only [nI_add, pk_mul, Nat.add_zero, Nat.zero_add, Nat.reduceAdd, Nat.reduceMul]
            refine n_if_eq (off := 7) (tgt := 46) (by decide +kernel) (by decide) (fun c39 => ?_) (fun c39 => ?_)
            · exact absurd c39 (by decide)
            · try simp only [bI_0, Decidable.not_not] at c39
              refine n_blk [(.iconst 4, .int (nI 4)), (.goto 13, .retAddr 56)] (Nat.le_of_ble_eq_true rfl) (by decide +kernel) ?_
              refine gx_iconst (gx_goto ((gx_nil ?_)))
              refine n_call kX10_244 (r_number_no e15 e14 hsp hn hT e16 (mo := 4) (by decide) (by decide) hD) (by decide +kernel) rfl rfl (Nat.le_of_ble_eq_true rfl) (Nat.le_of_ble_eq_true rfl) (Nat.le_of_ble_eq_true rfl) rfl ?_
              simp only [Option.toList_some, List.cons_append, List.nil_append]
              refine n_as (j := 19) rfl (by decide +kernel) (show _ < 120 from by omega) ?_
              refine n_blk [(.aload_n 0, .null)] (Nat.le_of_ble_eq_true rfl) (by decide +kernel) ?_
              refine gx_aload_n_0 ((gx_nil ?_))
              refine n_getR fX10_38 (by decide +kernel) rfl ?_
              refine n_blk [(.iload_n 1, .null), (.iconst 3, .int (nI 3)), (.iadd, .null), (.aload_n 0, .null)] (Nat.le_of_ble_eq_true rfl) (by decide +kernel) ?_
              refine gx_iload_n_1 (gx_iconst (gx_iadd (gx_aload_n_0 ((gx_nil ?_)))))
              try simp only [nI_add, pk_mul, Nat.add_zero, Nat.zero_add, Nat.reduceAdd, Nat.reduceMul]
              refine n_getI fX10_230 (by decide +kernel) rfl ?_
              try simp only [vU_s, vU_n, ne_eq, Nat.reduceEqDiff, not_false_eq_true, nI_add, pk_mul, Nat.add_zero, Nat.zero_add, Nat.reduceAdd, Nat.reduceMul]
              refine n_as (j := 19) rfl (by decide +kernel) (show _ < 120 from by omega) ?_
              refine n_blk [(.iload_n 2, .null), (.iconst 3, .int (nI 3))] (Nat.le_of_ble_eq_true rfl) (by decide +kernel) ?_
              refine gx_iload_n_2 (gx_iconst ((gx_nil ?_)))
              refine n_icmp_lt (off := 13) (tgt := 87) (by decide +kernel) (by decide) (fun c74 => ?_) (fun c74 => ?_)
              · try simp only [bI_0, Decidable.not_not] at c74
                refine n_blk [(.aload_n 0, .null), (.bipush 32, .int (nI 32)), (.bipush 32, .int (nI 32))] (Nat.le_of_ble_eq_true rfl) (by decide +kernel) ?_
                refine gx_aload_n_0 (gx_bipush (gx_bipush ((gx_nil ?_))))
                refine n_call kX10_227 (r_reads_no (V := vU (vU V 16 (nI sp)) 18 (nI 1)) e15 e14 hsp hn gT (lo := 32) (hi := 32) (by decide) (by decide) (fun z => hw16 z.1)) (by decide +kernel) rfl rfl (Nat.le_of_ble_eq_true rfl) (Nat.le_of_ble_eq_true rfl) (Nat.le_of_ble_eq_true rfl) rfl ?_
                rw [if_neg hw16, show vU (vU V 16 (nI sp)) 18 (nI 1) 16 = nI sp from rfl]
                simp only [Option.toList_some, List.cons_append, List.nil_append]
                refine n_blk [(.istore 5, .null), (.aload_n 0, .null)] (Nat.le_of_ble_eq_true rfl) (by decide +kernel) ?_
                refine gx_istore_5 rfl (gx_aload_n_0 ((gx_nil ?_)))
                refine n_getR fX10_38 (by decide +kernel) rfl ?_
                refine n_blk [(.iload_n 1, .null), (.iconst 2, .int (nI 2)), (.iadd, .null), (.aload_n 0, .null), (.iload_n 2, .null), (.iconst 2, .int (nI 2))] (Nat.le_of_ble_eq_true rfl) (by decide +kernel) ?_
                refine gx_iload_n_1 (gx_iconst (gx_iadd (gx_aload_n_0 (gx_iload_n_2 (gx_iconst ((gx_nil ?_)))))))
                try simp only [nI_add, pk_mul, Nat.add_zero, Nat.zero_add, Nat.reduceAdd, Nat.reduceMul]
                refine n_icmp_eq (off := 8) (tgt := 115) (by decide +kernel) (by decide) (fun c107 => ?_) (fun c107 => ?_)
                · exact absurd c107 (by decide)
                · try simp only [bI_0, Decidable.not_not] at c107
                  refine n_blk [(.iload_n 2, .null), (.iconst 5, .int (nI 5))] (Nat.le_of_ble_eq_true rfl) (by decide +kernel) ?_
                  refine gx_iload_n_2 (gx_iconst ((gx_nil ?_)))
                  refine n_icmp_ne (off := 7) (tgt := 119) (by decide +kernel) (by decide) (fun c112 => ?_) (fun c112 => ?_)
                  · try simp only [bI_0, Decidable.not_not] at c112
                    refine n_blk [(.iconst 2, .int (nI 2))] (Nat.le_of_ble_eq_true rfl) (by decide +kernel) ?_
                    refine gx_iconst ((gx_nil ?_))
                    refine n_call kX10_244 (r_number_wr (sp := sp) (V := vU (vU (vU V 16 (nI sp)) 18 (nI 1)) 16 (nI sp)) e15 e14 hsp hn gT hw16 (mo := 2) (by decide) (by decide)) (by decide +kernel) rfl rfl (Nat.le_of_ble_eq_true rfl) (Nat.le_of_ble_eq_true rfl) (Nat.le_of_ble_eq_true rfl) rfl ?_
                    simp only [Option.toList_some, List.cons_append, List.nil_append]
                    refine n_as (j := 19) rfl (by decide +kernel) (show _ < 120 from by omega) ?_
                    refine n_end none rfl ⟨by decide +kernel, rfl⟩ ?_
                    exact ⟨rfl, rnF3.1, fun j h1 h2 h3 => by simp [vU, h1, h2, h3], rnF3.2.1, fun e he => by rw [hR] at he; cases he; rfl, fun c p' he => by rw [hR] at he; cases he⟩
                  · exact absurd c112 (by decide)
              · exact absurd (by decide) c74
          · exact absurd c20 (by decide)
  · by_cases hD : isD tx n sp = true
    · have h0 : ¬ (nmv tx n (kd1 1) sp 0).2 = 0 := fun z => (nmv_0 (k := 3)).mp z hD
      have hle := nmv_le (tx := tx) (n := n) (k := 4) (p := sp) (v := 0)
      have h0n : ¬ (nmv tx n 4 sp 0).2 = 0 := h0
      obtain ⟨p2, hp2⟩ : ∃ z, sp + (nmv tx n 4 sp 0).2 = z := ⟨_, rfl⟩
      have hp2n : p2 ≤ n := by omega
      have g15 : vU (vU V 15 (nI (sp + (nmv tx n 4 sp 0).2))) 18 (nI (nmv tx n 4 sp 0).2) 15 = nI p2 := by rw [hp2]; rfl
      have g14 : vU (vU V 15 (nI (sp + (nmv tx n 4 sp 0).2))) 18 (nI (nmv tx n 4 sp 0).2) 14 = nI n := e14
      have g16 : vU (vU V 15 (nI (sp + (nmv tx n 4 sp 0).2))) 18 (nI (nmv tx n 4 sp 0).2) 16 = -1 := e16
      have gT : ∀ i, i < n → fU (fU F 19 (4 * k + 1) (nI (nmv tx n 4 sp 0).1)) 19 (4 * k + 3) (nI (nmv tx n 4 sp 0).2) 9 i = nI (tx i) ∧ tx i < 128 := hT
      by_cases h3 : p2 < n ∧ tx p2 = 32
      · have h3r : p2 < n ∧ 32 ≤ tx p2 ∧ tx p2 ≤ 32 := by omega
        have h3k : sp + (nmv tx n (kd1 1) sp 0).2 < n ∧ tx (sp + (nmv tx n (kd1 1) sp 0).2) = 32 := by
          show sp + (nmv tx n 4 sp 0).2 < n ∧ tx (sp + (nmv tx n 4 sp 0).2) = 32
          rw [hp2]; exact h3
        by_cases hD2 : isD tx n (p2 + 1) = true
        · have hle2 := nmv_le (tx := tx) (n := n) (k := 2) (p := p2 + 1) (v := 0)
          have h4 : ¬ (nmv tx n (kd2 1) (sp + (nmv tx n (kd1 1) sp 0).2 + 1) 0).2 = 0 := fun z => (nmv_0 (k := 1)).mp z (by rw [show sp + (nmv tx n (kd1 1) sp 0).2 = p2 from hp2]; exact hD2)
          have hR := pnR_B3 h0 (by decide) h3k h4
          rw [show sp + (nmv tx n (kd1 1) sp 0).2 = p2 from hp2] at hR
          refine mE_of (by decide) rfl (Nat.le_of_ble_eq_true rfl) [some (.ref o), some (.int (nI (4 * k))), some (.int (nI 1)), none, none, none] rfl ?_
          refine n_blk [(.iload_n 2, .null), (.iconst 4, .int (nI 4))] (Nat.le_of_ble_eq_true rfl) (by decide +kernel) ?_
          refine gx_iload_n_2 (gx_iconst ((gx_nil ?_)))
          refine n_icmp_ge (off := 7) (tgt := 9) (by decide +kernel) (by decide) (fun c2 => ?_) (fun c2 => ?_)
          · exact absurd c2 (by decide)
          · try simp only [bI_0, Decidable.not_not] at c2
            refine n_blk [(.iconst 1, .int (nI 1)), (.goto 4, .retAddr 10), (.istore_n 3, .null), (.iload_n 2, .null), (.bipush 7, .int (nI 7))] (Nat.le_of_ble_eq_true rfl) (by decide +kernel) ?_
            refine gx_iconst (gx_goto (gx_istore_n_3 rfl (gx_iload_n_2 (gx_bipush ((gx_nil ?_))))))
            refine n_icmp_eq (off := 9) (tgt := 23) (by decide +kernel) (by decide) (fun c14 => ?_) (fun c14 => ?_)
            · exact absurd c14 (by decide)
            · try simp only [bI_0, Decidable.not_not] at c14
              refine n_blk [(.iload_n 2, .null), (.bipush 8, .int (nI 8))] (Nat.le_of_ble_eq_true rfl) (by decide +kernel) ?_
              refine gx_iload_n_2 (gx_bipush ((gx_nil ?_)))
              refine n_icmp_ne (off := 7) (tgt := 27) (by decide +kernel) (by decide) (fun c20 => ?_) (fun c20 => ?_)
              · try simp only [bI_0, Decidable.not_not] at c20
                refine n_blk [(.iconst 0, .int (nI 0)), (.istore 4, .null), (.aload_n 0, .null)] (Nat.le_of_ble_eq_true rfl) (by decide +kernel) ?_
                refine gx_iconst (gx_istore_4 rfl (gx_aload_n_0 ((gx_nil ?_))))
                refine n_getR fX10_38 (by decide +kernel) rfl ?_
                refine n_blk [(.iload_n 1, .null), (.iconst 1, .int (nI 1)), (.iadd, .null), (.aload_n 0, .null), (.iload_n 3, .null)] (Nat.le_of_ble_eq_true rfl) (by decide +kernel) ?_
                refine gx_iload_n_1 (gx_iconst (gx_iadd (gx_aload_n_0 (gx_iload_n_3 ((gx_nil ?_))))))
                try simp only [nI_add, pk_mul, Nat.add_zero, Nat.zero_add, Nat.reduceAdd, Nat.reduceMul]
                refine n_if_eq (off := 7) (tgt := 46) (by decide +kernel) (by decide) (fun c39 => ?_) (fun c39 => ?_)
                · exact absurd c39 (by decide)
                · try simp only [bI_0, Decidable.not_not] at c39
                  refine n_blk [(.iconst 4, .int (nI 4)), (.goto 13, .retAddr 56)] (Nat.le_of_ble_eq_true rfl) (by decide +kernel) ?_
                  refine gx_iconst (gx_goto ((gx_nil ?_)))
                  refine n_call kX10_244 (r_number_ok e15 e14 hsp hn hT e16 (mo := 4) (by decide) (by decide) hD) (by decide +kernel) rfl rfl (Nat.le_of_ble_eq_true rfl) (Nat.le_of_ble_eq_true rfl) (Nat.le_of_ble_eq_true rfl) rfl ?_
                  simp only [Option.toList_some, List.cons_append, List.nil_append]
                  refine n_as (j := 19) rfl (by decide +kernel) (show _ < 120 from by omega) ?_
                  refine n_blk [(.aload_n 0, .null)] (Nat.le_of_ble_eq_true rfl) (by decide +kernel) ?_
                  refine gx_aload_n_0 ((gx_nil ?_))
                  refine n_getR fX10_38 (by decide +kernel) rfl ?_
                  refine n_blk [(.iload_n 1, .null), (.iconst 3, .int (nI 3)), (.iadd, .null), (.aload_n 0, .null)] (Nat.le_of_ble_eq_true rfl) (by decide +kernel) ?_
                  refine gx_iload_n_1 (gx_iconst (gx_iadd (gx_aload_n_0 ((gx_nil ?_)))))
                  try simp only [nI_add, pk_mul, Nat.add_zero, Nat.zero_add, Nat.reduceAdd, Nat.reduceMul]
                  refine n_getI fX10_230 (by decide +kernel) rfl ?_
                  try simp only [vU_s, vU_n, ne_eq, Nat.reduceEqDiff, not_false_eq_true, nI_add, pk_mul, Nat.add_zero, Nat.zero_add, Nat.reduceAdd, Nat.reduceMul]
                  refine n_as (j := 19) rfl (by decide +kernel) (show _ < 120 from by omega) ?_
                  refine n_blk [(.iload_n 2, .null), (.iconst 3, .int (nI 3))] (Nat.le_of_ble_eq_true rfl) (by decide +kernel) ?_
                  refine gx_iload_n_2 (gx_iconst ((gx_nil ?_)))
                  refine n_icmp_lt (off := 13) (tgt := 87) (by decide +kernel) (by decide) (fun c74 => ?_) (fun c74 => ?_)
                  · try simp only [bI_0, Decidable.not_not] at c74
                    refine n_blk [(.aload_n 0, .null), (.bipush 32, .int (nI 32)), (.bipush 32, .int (nI 32))] (Nat.le_of_ble_eq_true rfl) (by decide +kernel) ?_
                    refine gx_aload_n_0 (gx_bipush (gx_bipush ((gx_nil ?_))))
                    refine n_call kX10_227 (r_reads_ok (V := vU (vU V 15 (nI (sp + (nmv tx n 4 sp 0).2))) 18 (nI (nmv tx n 4 sp 0).2)) g15 g14 hp2n hn gT (lo := 32) (hi := 32) (by decide) (by decide) g16 h3r) (by decide +kernel) rfl rfl (Nat.le_of_ble_eq_true rfl) (Nat.le_of_ble_eq_true rfl) (Nat.le_of_ble_eq_true rfl) rfl ?_
                    simp only [Option.toList_some, List.cons_append, List.nil_append]
                    refine n_blk [(.istore 5, .null), (.aload_n 0, .null)] (Nat.le_of_ble_eq_true rfl) (by decide +kernel) ?_
                    refine gx_istore_5 rfl (gx_aload_n_0 ((gx_nil ?_)))
                    refine n_getR fX10_38 (by decide +kernel) rfl ?_
                    refine n_blk [(.iload_n 1, .null), (.iconst 2, .int (nI 2)), (.iadd, .null), (.aload_n 0, .null), (.iload_n 2, .null), (.iconst 2, .int (nI 2))] (Nat.le_of_ble_eq_true rfl) (by decide +kernel) ?_
                    refine gx_iload_n_1 (gx_iconst (gx_iadd (gx_aload_n_0 (gx_iload_n_2 (gx_iconst ((gx_nil ?_)))))))
                    try simp only [nI_add, pk_mul, Nat.add_zero, Nat.zero_add, Nat.reduceAdd, Nat.reduceMul]
                    refine n_icmp_eq (off := 8) (tgt := 115) (by decide +kernel) (by decide) (fun c107 => ?_) (fun c107 => ?_)
                    · exact absurd c107 (by decide)
                    · try simp only [bI_0, Decidable.not_not] at c107
                      refine n_blk [(.iload_n 2, .null), (.iconst 5, .int (nI 5))] (Nat.le_of_ble_eq_true rfl) (by decide +kernel) ?_
                      refine gx_iload_n_2 (gx_iconst ((gx_nil ?_)))
                      refine n_icmp_ne (off := 7) (tgt := 119) (by decide +kernel) (by decide) (fun c112 => ?_) (fun c112 => ?_)
                      · try simp only [bI_0, Decidable.not_not] at c112
                        refine n_blk [(.iconst 2, .int (nI 2))] (Nat.le_of_ble_eq_true rfl) (by decide +kernel) ?_
                        refine gx_iconst ((gx_nil ?_))
                        refine n_call kX10_244 (r_number_ok (sp := p2 + 1) (V := vU (vU (vU V 15 (nI (sp + (nmv tx n 4 sp 0).2))) 18 (nI (nmv tx n 4 sp 0).2)) 15 (nI (p2 + 1))) rfl e14 (by omega) hn gT e16 (mo := 2) (by decide) (by decide) hD2) (by decide +kernel) rfl rfl (Nat.le_of_ble_eq_true rfl) (Nat.le_of_ble_eq_true rfl) (Nat.le_of_ble_eq_true rfl) rfl ?_
                        simp only [Option.toList_some, List.cons_append, List.nil_append]
                        refine n_as (j := 19) rfl (by decide +kernel) (show _ < 120 from by omega) ?_
                        refine n_end none rfl ⟨by decide +kernel, rfl⟩ ?_
                        exact ⟨rfl, rnF3.1, fun j h1 h2 h3 => by simp [vU, h1, h2, h3], rnF3.2.1, fun e he => (by rw [hR] at he; cases he), fun c p' he => by rw [hR] at he; cases he; exact ⟨e16, rfl, rnF3.2.2.1, rnF3.2.2.2.1, fun _ => rnF3.2.2.2.2⟩⟩
                      · exact absurd c112 (by decide)
                  · exact absurd (by decide) c74
              · exact absurd c20 (by decide)
        · have h4 : (nmv tx n (kd2 1) (sp + (nmv tx n (kd1 1) sp 0).2 + 1) 0).2 = 0 := (nmv_0 (k := 1)).mpr (by rw [show sp + (nmv tx n (kd1 1) sp 0).2 = p2 from hp2]; exact hD2)
          have hR := pnR_B2 h0 (by decide) h3k h4
          rw [show sp + (nmv tx n (kd1 1) sp 0).2 = p2 from hp2] at hR
          refine mE_of (by decide) rfl (Nat.le_of_ble_eq_true rfl) [some (.ref o), some (.int (nI (4 * k))), some (.int (nI 1)), none, none, none] rfl ?_
          refine n_blk [(.iload_n 2, .null), (.iconst 4, .int (nI 4))] (Nat.le_of_ble_eq_true rfl) (by decide +kernel) ?_
          refine gx_iload_n_2 (gx_iconst ((gx_nil ?_)))
          refine n_icmp_ge (off := 7) (tgt := 9) (by decide +kernel) (by decide) (fun c2 => ?_) (fun c2 => ?_)
          · exact absurd c2 (by decide)
          · try simp only [bI_0, Decidable.not_not] at c2
            refine n_blk [(.iconst 1, .int (nI 1)), (.goto 4, .retAddr 10), (.istore_n 3, .null), (.iload_n 2, .null), (.bipush 7, .int (nI 7))] (Nat.le_of_ble_eq_true rfl) (by decide +kernel) ?_
            refine gx_iconst (gx_goto (gx_istore_n_3 rfl (gx_iload_n_2 (gx_bipush ((gx_nil ?_))))))
            refine n_icmp_eq (off := 9) (tgt := 23) (by decide +kernel) (by decide) (fun c14 => ?_) (fun c14 => ?_)
            · exact absurd c14 (by decide)
            · try simp only [bI_0, Decidable.not_not] at c14
              refine n_blk [(.iload_n 2, .null), (.bipush 8, .int (nI 8))] (Nat.le_of_ble_eq_true rfl) (by decide +kernel) ?_
              refine gx_iload_n_2 (gx_bipush ((gx_nil ?_)))
              refine n_icmp_ne (off := 7) (tgt := 27) (by decide +kernel) (by decide) (fun c20 => ?_) (fun c20 => ?_)
              · try simp only [bI_0, Decidable.not_not] at c20
                refine n_blk [(.iconst 0, .int (nI 0)), (.istore 4, .null), (.aload_n 0, .null)] (Nat.le_of_ble_eq_true rfl) (by decide +kernel) ?_
                refine gx_iconst (gx_istore_4 rfl (gx_aload_n_0 ((gx_nil ?_))))
                refine n_getR fX10_38 (by decide +kernel) rfl ?_
                refine n_blk [(.iload_n 1, .null), (.iconst 1, .int (nI 1)), (.iadd, .null), (.aload_n 0, .null), (.iload_n 3, .null)] (Nat.le_of_ble_eq_true rfl) (by decide +kernel) ?_
                refine gx_iload_n_1 (gx_iconst (gx_iadd (gx_aload_n_0 (gx_iload_n_3 ((gx_nil ?_))))))
                try simp only [nI_add, pk_mul, Nat.add_zero, Nat.zero_add, Nat.reduceAdd, Nat.reduceMul]
                refine n_if_eq (off := 7) (tgt := 46) (by decide +kernel) (by decide) (fun c39 => ?_) (fun c39 => ?_)
                · exact absurd c39 (by decide)
                · try simp only [bI_0, Decidable.not_not] at c39
                  refine n_blk [(.iconst 4, .int (nI 4)), (.goto 13, .retAddr 56)] (Nat.le_of_ble_eq_true rfl) (by decide +kernel) ?_
                  refine gx_iconst (gx_goto ((gx_nil ?_)))
                  refine n_call kX10_244 (r_number_ok e15 e14 hsp hn hT e16 (mo := 4) (by decide) (by decide) hD) (by decide +kernel) rfl rfl (Nat.le_of_ble_eq_true rfl) (Nat.le_of_ble_eq_true rfl) (Nat.le_of_ble_eq_true rfl) rfl ?_
                  simp only [Option.toList_some, List.cons_append, List.nil_append]
                  refine n_as (j := 19) rfl (by decide +kernel) (show _ < 120 from by omega) ?_
                  refine n_blk [(.aload_n 0, .null)] (Nat.le_of_ble_eq_true rfl) (by decide +kernel) ?_
                  refine gx_aload_n_0 ((gx_nil ?_))
                  refine n_getR fX10_38 (by decide +kernel) rfl ?_
                  refine n_blk [(.iload_n 1, .null), (.iconst 3, .int (nI 3)), (.iadd, .null), (.aload_n 0, .null)] (Nat.le_of_ble_eq_true rfl) (by decide +kernel) ?_
                  refine gx_iload_n_1 (gx_iconst (gx_iadd (gx_aload_n_0 ((gx_nil ?_)))))
                  try simp only [nI_add, pk_mul, Nat.add_zero, Nat.zero_add, Nat.reduceAdd, Nat.reduceMul]
                  refine n_getI fX10_230 (by decide +kernel) rfl ?_
                  try simp only [vU_s, vU_n, ne_eq, Nat.reduceEqDiff, not_false_eq_true, nI_add, pk_mul, Nat.add_zero, Nat.zero_add, Nat.reduceAdd, Nat.reduceMul]
                  refine n_as (j := 19) rfl (by decide +kernel) (show _ < 120 from by omega) ?_
                  refine n_blk [(.iload_n 2, .null), (.iconst 3, .int (nI 3))] (Nat.le_of_ble_eq_true rfl) (by decide +kernel) ?_
                  refine gx_iload_n_2 (gx_iconst ((gx_nil ?_)))
                  refine n_icmp_lt (off := 13) (tgt := 87) (by decide +kernel) (by decide) (fun c74 => ?_) (fun c74 => ?_)
                  · try simp only [bI_0, Decidable.not_not] at c74
                    refine n_blk [(.aload_n 0, .null), (.bipush 32, .int (nI 32)), (.bipush 32, .int (nI 32))] (Nat.le_of_ble_eq_true rfl) (by decide +kernel) ?_
                    refine gx_aload_n_0 (gx_bipush (gx_bipush ((gx_nil ?_))))
                    refine n_call kX10_227 (r_reads_ok (V := vU (vU V 15 (nI (sp + (nmv tx n 4 sp 0).2))) 18 (nI (nmv tx n 4 sp 0).2)) g15 g14 hp2n hn gT (lo := 32) (hi := 32) (by decide) (by decide) g16 h3r) (by decide +kernel) rfl rfl (Nat.le_of_ble_eq_true rfl) (Nat.le_of_ble_eq_true rfl) (Nat.le_of_ble_eq_true rfl) rfl ?_
                    simp only [Option.toList_some, List.cons_append, List.nil_append]
                    refine n_blk [(.istore 5, .null), (.aload_n 0, .null)] (Nat.le_of_ble_eq_true rfl) (by decide +kernel) ?_
                    refine gx_istore_5 rfl (gx_aload_n_0 ((gx_nil ?_)))
                    refine n_getR fX10_38 (by decide +kernel) rfl ?_
                    refine n_blk [(.iload_n 1, .null), (.iconst 2, .int (nI 2)), (.iadd, .null), (.aload_n 0, .null), (.iload_n 2, .null), (.iconst 2, .int (nI 2))] (Nat.le_of_ble_eq_true rfl) (by decide +kernel) ?_
                    refine gx_iload_n_1 (gx_iconst (gx_iadd (gx_aload_n_0 (gx_iload_n_2 (gx_iconst ((gx_nil ?_)))))))
                    try simp only [nI_add, pk_mul, Nat.add_zero, Nat.zero_add, Nat.reduceAdd, Nat.reduceMul]
                    refine n_icmp_eq (off := 8) (tgt := 115) (by decide +kernel) (by decide) (fun c107 => ?_) (fun c107 => ?_)
                    · exact absurd c107 (by decide)
                    · try simp only [bI_0, Decidable.not_not] at c107
                      refine n_blk [(.iload_n 2, .null), (.iconst 5, .int (nI 5))] (Nat.le_of_ble_eq_true rfl) (by decide +kernel) ?_
                      refine gx_iload_n_2 (gx_iconst ((gx_nil ?_)))
                      refine n_icmp_ne (off := 7) (tgt := 119) (by decide +kernel) (by decide) (fun c112 => ?_) (fun c112 => ?_)
                      · try simp only [bI_0, Decidable.not_not] at c112
                        refine n_blk [(.iconst 2, .int (nI 2))] (Nat.le_of_ble_eq_true rfl) (by decide +kernel) ?_
                        refine gx_iconst ((gx_nil ?_))
                        refine n_call kX10_244 (r_number_no (sp := p2 + 1) (V := vU (vU (vU V 15 (nI (sp + (nmv tx n 4 sp 0).2))) 18 (nI (nmv tx n 4 sp 0).2)) 15 (nI (p2 + 1))) rfl e14 (by omega) hn gT e16 (mo := 2) (by decide) (by decide) hD2) (by decide +kernel) rfl rfl (Nat.le_of_ble_eq_true rfl) (Nat.le_of_ble_eq_true rfl) (Nat.le_of_ble_eq_true rfl) rfl ?_
                        simp only [Option.toList_some, List.cons_append, List.nil_append]
                        refine n_as (j := 19) rfl (by decide +kernel) (show _ < 120 from by omega) ?_
                        refine n_end none rfl ⟨by decide +kernel, rfl⟩ ?_
                        exact ⟨rfl, rnF3.1, fun j h1 h2 h3 => by simp [vU, h1, h2, h3], rnF3.2.1, fun e he => by rw [hR] at he; cases he; rfl, fun c p' he => by rw [hR] at he; cases he⟩
                      · exact absurd c112 (by decide)
                  · exact absurd (by decide) c74
              · exact absurd c20 (by decide)
      · have hR := pnR_B1 h0 (by decide) (fun z => h3 (by rw [show sp + (nmv tx n (kd1 1) sp 0).2 = p2 from hp2] at z; exact z))
        rw [show sp + (nmv tx n (kd1 1) sp 0).2 = p2 from hp2] at hR
        have hw16 : ¬ vU (vU (vU V 15 (nI (sp + (nmv tx n 4 sp 0).2))) 18 (nI (nmv tx n 4 sp 0).2)) 16 (nI p2) 16 = -1 := nI_nm1 (by omega)
        refine mE_of (by decide) rfl (Nat.le_of_ble_eq_true rfl) [some (.ref o), some (.int (nI (4 * k))), some (.int (nI 1)), none, none, none] rfl ?_
        refine n_blk [(.iload_n 2, .null), (.iconst 4, .int (nI 4))] (Nat.le_of_ble_eq_true rfl) (by decide +kernel) ?_
        refine gx_iload_n_2 (gx_iconst ((gx_nil ?_)))
        refine n_icmp_ge (off := 7) (tgt := 9) (by decide +kernel) (by decide) (fun c2 => ?_) (fun c2 => ?_)
        · exact absurd c2 (by decide)
        · try simp only [bI_0, Decidable.not_not] at c2
          refine n_blk [(.iconst 1, .int (nI 1)), (.goto 4, .retAddr 10), (.istore_n 3, .null), (.iload_n 2, .null), (.bipush 7, .int (nI 7))] (Nat.le_of_ble_eq_true rfl) (by decide +kernel) ?_
          refine gx_iconst (gx_goto (gx_istore_n_3 rfl (gx_iload_n_2 (gx_bipush ((gx_nil ?_))))))
          refine n_icmp_eq (off := 9) (tgt := 23) (by decide +kernel) (by decide) (fun c14 => ?_) (fun c14 => ?_)
          · exact absurd c14 (by decide)
          · try simp only [bI_0, Decidable.not_not] at c14
            refine n_blk [(.iload_n 2, .null), (.bipush 8, .int (nI 8))] (Nat.le_of_ble_eq_true rfl) (by decide +kernel) ?_
            refine gx_iload_n_2 (gx_bipush ((gx_nil ?_)))
            refine n_icmp_ne (off := 7) (tgt := 27) (by decide +kernel) (by decide) (fun c20 => ?_) (fun c20 => ?_)
            · try simp only [bI_0, Decidable.not_not] at c20
              refine n_blk [(.iconst 0, .int (nI 0)), (.istore 4, .null), (.aload_n 0, .null)] (Nat.le_of_ble_eq_true rfl) (by decide +kernel) ?_
              refine gx_iconst (gx_istore_4 rfl (gx_aload_n_0 ((gx_nil ?_))))
              refine n_getR fX10_38 (by decide +kernel) rfl ?_
              refine n_blk [(.iload_n 1, .null), (.iconst 1, .int (nI 1)), (.iadd, .null), (.aload_n 0, .null), (.iload_n 3, .null)] (Nat.le_of_ble_eq_true rfl) (by decide +kernel) ?_
              refine gx_iload_n_1 (gx_iconst (gx_iadd (gx_aload_n_0 (gx_iload_n_3 ((gx_nil ?_))))))
              try simp only [nI_add, pk_mul, Nat.add_zero, Nat.zero_add, Nat.reduceAdd, Nat.reduceMul]
              refine n_if_eq (off := 7) (tgt := 46) (by decide +kernel) (by decide) (fun c39 => ?_) (fun c39 => ?_)
              · exact absurd c39 (by decide)
              · try simp only [bI_0, Decidable.not_not] at c39
                refine n_blk [(.iconst 4, .int (nI 4)), (.goto 13, .retAddr 56)] (Nat.le_of_ble_eq_true rfl) (by decide +kernel) ?_
                refine gx_iconst (gx_goto ((gx_nil ?_)))
                refine n_call kX10_244 (r_number_ok e15 e14 hsp hn hT e16 (mo := 4) (by decide) (by decide) hD) (by decide +kernel) rfl rfl (Nat.le_of_ble_eq_true rfl) (Nat.le_of_ble_eq_true rfl) (Nat.le_of_ble_eq_true rfl) rfl ?_
                simp only [Option.toList_some, List.cons_append, List.nil_append]
                refine n_as (j := 19) rfl (by decide +kernel) (show _ < 120 from by omega) ?_
                refine n_blk [(.aload_n 0, .null)] (Nat.le_of_ble_eq_true rfl) (by decide +kernel) ?_
                refine gx_aload_n_0 ((gx_nil ?_))
                refine n_getR fX10_38 (by decide +kernel) rfl ?_
                refine n_blk [(.iload_n 1, .null), (.iconst 3, .int (nI 3)), (.iadd, .null), (.aload_n 0, .null)] (Nat.le_of_ble_eq_true rfl) (by decide +kernel) ?_
                refine gx_iload_n_1 (gx_iconst (gx_iadd (gx_aload_n_0 ((gx_nil ?_)))))
                try simp only [nI_add, pk_mul, Nat.add_zero, Nat.zero_add, Nat.reduceAdd, Nat.reduceMul]
                refine n_getI fX10_230 (by decide +kernel) rfl ?_
                try simp only [vU_s, vU_n, ne_eq, Nat.reduceEqDiff, not_false_eq_true, nI_add, pk_mul, Nat.add_zero, Nat.zero_add, Nat.reduceAdd, Nat.reduceMul]
                refine n_as (j := 19) rfl (by decide +kernel) (show _ < 120 from by omega) ?_
                refine n_blk [(.iload_n 2, .null), (.iconst 3, .int (nI 3))] (Nat.le_of_ble_eq_true rfl) (by decide +kernel) ?_
                refine gx_iload_n_2 (gx_iconst ((gx_nil ?_)))
                refine n_icmp_lt (off := 13) (tgt := 87) (by decide +kernel) (by decide) (fun c74 => ?_) (fun c74 => ?_)
                · try simp only [bI_0, Decidable.not_not] at c74
                  refine n_blk [(.aload_n 0, .null), (.bipush 32, .int (nI 32)), (.bipush 32, .int (nI 32))] (Nat.le_of_ble_eq_true rfl) (by decide +kernel) ?_
                  refine gx_aload_n_0 (gx_bipush (gx_bipush ((gx_nil ?_))))
                  refine n_call kX10_227 (r_reads_no (V := vU (vU V 15 (nI (sp + (nmv tx n 4 sp 0).2))) 18 (nI (nmv tx n 4 sp 0).2)) g15 g14 hp2n hn gT (lo := 32) (hi := 32) (by decide) (by decide) (fun z => h3 (by omega))) (by decide +kernel) rfl rfl (Nat.le_of_ble_eq_true rfl) (Nat.le_of_ble_eq_true rfl) (Nat.le_of_ble_eq_true rfl) rfl ?_
                  rw [if_pos g16]
                  simp only [Option.toList_some, List.cons_append, List.nil_append]
                  refine n_blk [(.istore 5, .null), (.aload_n 0, .null)] (Nat.le_of_ble_eq_true rfl) (by decide +kernel) ?_
                  refine gx_istore_5 rfl (gx_aload_n_0 ((gx_nil ?_)))
                  refine n_getR fX10_38 (by decide +kernel) rfl ?_
                  refine n_blk [(.iload_n 1, .null), (.iconst 2, .int (nI 2)), (.iadd, .null), (.aload_n 0, .null), (.iload_n 2, .null), (.iconst 2, .int (nI 2))] (Nat.le_of_ble_eq_true rfl) (by decide +kernel) ?_
                  refine gx_iload_n_1 (gx_iconst (gx_iadd (gx_aload_n_0 (gx_iload_n_2 (gx_iconst ((gx_nil ?_)))))))
                  try simp only [nI_add, pk_mul, Nat.add_zero, Nat.zero_add, Nat.reduceAdd, Nat.reduceMul]
                  refine n_icmp_eq (off := 8) (tgt := 115) (by decide +kernel) (by decide) (fun c107 => ?_) (fun c107 => ?_)
                  · exact absurd c107 (by decide)
                  · try simp only [bI_0, Decidable.not_not] at c107
                    refine n_blk [(.iload_n 2, .null), (.iconst 5, .int (nI 5))] (Nat.le_of_ble_eq_true rfl) (by decide +kernel) ?_
                    refine gx_iload_n_2 (gx_iconst ((gx_nil ?_)))
                    refine n_icmp_ne (off := 7) (tgt := 119) (by decide +kernel) (by decide) (fun c112 => ?_) (fun c112 => ?_)
                    · try simp only [bI_0, Decidable.not_not] at c112
                      refine n_blk [(.iconst 2, .int (nI 2))] (Nat.le_of_ble_eq_true rfl) (by decide +kernel) ?_
                      refine gx_iconst ((gx_nil ?_))
                      refine n_call kX10_244 (r_number_wr (sp := p2) (V := vU (vU (vU V 15 (nI (sp + (nmv tx n 4 sp 0).2))) 18 (nI (nmv tx n 4 sp 0).2)) 16 (nI p2)) g15 e14 hp2n hn gT hw16 (mo := 2) (by decide) (by decide)) (by decide +kernel) rfl rfl (Nat.le_of_ble_eq_true rfl) (Nat.le_of_ble_eq_true rfl) (Nat.le_of_ble_eq_true rfl) rfl ?_
                      simp only [Option.toList_some, List.cons_append, List.nil_append]
                      refine n_as (j := 19) rfl (by decide +kernel) (show _ < 120 from by omega) ?_
                      refine n_end none rfl ⟨by decide +kernel, rfl⟩ ?_
                      exact ⟨rfl, rnF3.1, fun j h1 h2 h3 => by simp [vU, h1, h2, h3], rnF3.2.1, fun e he => by rw [hR] at he; cases he; rfl, fun c p' he => by rw [hR] at he; cases he⟩
                    · exact absurd c112 (by decide)
                · exact absurd (by decide) c74
            · exact absurd c20 (by decide)
    · have hR := pnR_A (tx := tx) (n := n) (w := 1) (p := sp) ((nmv_0 (k := 3)).mpr hD)
      have gT : ∀ i, i < n → fU (fU F 19 (4 * k + 1) (nI 0)) 19 (4 * k + 3) (nI 1) 9 i = nI (tx i) ∧ tx i < 128 := hT
      have hw16 : ¬ vU (vU V 16 (nI sp)) 18 (nI 1) 16 = -1 := nI_nm1 (by omega)
      refine mE_of (by decide) rfl (Nat.le_of_ble_eq_true rfl) [some (.ref o), some (.int (nI (4 * k))), some (.int (nI 1)), none, none, none] rfl ?_
      refine n_blk [(.iload_n 2, .null), (.iconst 4, .int (nI 4))] (Nat.le_of_ble_eq_true rfl) (by decide +kernel) ?_
      refine gx_iload_n_2 (gx_iconst ((gx_nil ?_)))
      refine n_icmp_ge (off := 7) (tgt := 9) (by decide +kernel) (by decide) (fun c2 => ?_) (fun c2 => ?_)
      · exact absurd c2 (by decide)
      · try simp only [bI_0, Decidable.not_not] at c2
        refine n_blk [(.iconst 1, .int (nI 1)), (.goto 4, .retAddr 10), (.istore_n 3, .null), (.iload_n 2, .null), (.bipush 7, .int (nI 7))] (Nat.le_of_ble_eq_true rfl) (by decide +kernel) ?_
        refine gx_iconst (gx_goto (gx_istore_n_3 rfl (gx_iload_n_2 (gx_bipush ((gx_nil ?_))))))
        refine n_icmp_eq (off := 9) (tgt := 23) (by decide +kernel) (by decide) (fun c14 => ?_) (fun c14 => ?_)
        · exact absurd c14 (by decide)
        · try simp only [bI_0, Decidable.not_not] at c14
          refine n_blk [(.iload_n 2, .null), (.bipush 8, .int (nI 8))] (Nat.le_of_ble_eq_true rfl) (by decide +kernel) ?_
          refine gx_iload_n_2 (gx_bipush ((gx_nil ?_)))
          refine n_icmp_ne (off := 7) (tgt := 27) (by decide +kernel) (by decide) (fun c20 => ?_) (fun c20 => ?_)
          · try simp only [bI_0, Decidable.not_not] at c20
            refine n_blk [(.iconst 0, .int (nI 0)), (.istore 4, .null), (.aload_n 0, .null)] (Nat.le_of_ble_eq_true rfl) (by decide +kernel) ?_
            refine gx_iconst (gx_istore_4 rfl (gx_aload_n_0 ((gx_nil ?_))))
            refine n_getR fX10_38 (by decide +kernel) rfl ?_
            refine n_blk [(.iload_n 1, .null), (.iconst 1, .int (nI 1)), (.iadd, .null), (.aload_n 0, .null), (.iload_n 3, .null)] (Nat.le_of_ble_eq_true rfl) (by decide +kernel) ?_
            refine gx_iload_n_1 (gx_iconst (gx_iadd (gx_aload_n_0 (gx_iload_n_3 ((gx_nil ?_))))))
            try simp only [nI_add, pk_mul, Nat.add_zero, Nat.zero_add, Nat.reduceAdd, Nat.reduceMul]
            refine n_if_eq (off := 7) (tgt := 46) (by decide +kernel) (by decide) (fun c39 => ?_) (fun c39 => ?_)
            · exact absurd c39 (by decide)
            · try simp only [bI_0, Decidable.not_not] at c39
              refine n_blk [(.iconst 4, .int (nI 4)), (.goto 13, .retAddr 56)] (Nat.le_of_ble_eq_true rfl) (by decide +kernel) ?_
              refine gx_iconst (gx_goto ((gx_nil ?_)))
              refine n_call kX10_244 (r_number_no e15 e14 hsp hn hT e16 (mo := 4) (by decide) (by decide) hD) (by decide +kernel) rfl rfl (Nat.le_of_ble_eq_true rfl) (Nat.le_of_ble_eq_true rfl) (Nat.le_of_ble_eq_true rfl) rfl ?_
              simp only [Option.toList_some, List.cons_append, List.nil_append]
              refine n_as (j := 19) rfl (by decide +kernel) (show _ < 120 from by omega) ?_
              refine n_blk [(.aload_n 0, .null)] (Nat.le_of_ble_eq_true rfl) (by decide +kernel) ?_
              refine gx_aload_n_0 ((gx_nil ?_))
              refine n_getR fX10_38 (by decide +kernel) rfl ?_
              refine n_blk [(.iload_n 1, .null), (.iconst 3, .int (nI 3)), (.iadd, .null), (.aload_n 0, .null)] (Nat.le_of_ble_eq_true rfl) (by decide +kernel) ?_
              refine gx_iload_n_1 (gx_iconst (gx_iadd (gx_aload_n_0 ((gx_nil ?_)))))
              try simp only [nI_add, pk_mul, Nat.add_zero, Nat.zero_add, Nat.reduceAdd, Nat.reduceMul]
              refine n_getI fX10_230 (by decide +kernel) rfl ?_
              try simp only [vU_s, vU_n, ne_eq, Nat.reduceEqDiff, not_false_eq_true, nI_add, pk_mul, Nat.add_zero, Nat.zero_add, Nat.reduceAdd, Nat.reduceMul]
              refine n_as (j := 19) rfl (by decide +kernel) (show _ < 120 from by omega) ?_
              refine n_blk [(.iload_n 2, .null), (.iconst 3, .int (nI 3))] (Nat.le_of_ble_eq_true rfl) (by decide +kernel) ?_
              refine gx_iload_n_2 (gx_iconst ((gx_nil ?_)))
              refine n_icmp_lt (off := 13) (tgt := 87) (by decide +kernel) (by decide) (fun c74 => ?_) (fun c74 => ?_)
              · try simp only [bI_0, Decidable.not_not] at c74
                refine n_blk [(.aload_n 0, .null), (.bipush 32, .int (nI 32)), (.bipush 32, .int (nI 32))] (Nat.le_of_ble_eq_true rfl) (by decide +kernel) ?_
                refine gx_aload_n_0 (gx_bipush (gx_bipush ((gx_nil ?_))))
                refine n_call kX10_227 (r_reads_no (V := vU (vU V 16 (nI sp)) 18 (nI 1)) e15 e14 hsp hn gT (lo := 32) (hi := 32) (by decide) (by decide) (fun z => hw16 z.1)) (by decide +kernel) rfl rfl (Nat.le_of_ble_eq_true rfl) (Nat.le_of_ble_eq_true rfl) (Nat.le_of_ble_eq_true rfl) rfl ?_
                rw [if_neg hw16, show vU (vU V 16 (nI sp)) 18 (nI 1) 16 = nI sp from rfl]
                simp only [Option.toList_some, List.cons_append, List.nil_append]
                refine n_blk [(.istore 5, .null), (.aload_n 0, .null)] (Nat.le_of_ble_eq_true rfl) (by decide +kernel) ?_
                refine gx_istore_5 rfl (gx_aload_n_0 ((gx_nil ?_)))
                refine n_getR fX10_38 (by decide +kernel) rfl ?_
                refine n_blk [(.iload_n 1, .null), (.iconst 2, .int (nI 2)), (.iadd, .null), (.aload_n 0, .null), (.iload_n 2, .null), (.iconst 2, .int (nI 2))] (Nat.le_of_ble_eq_true rfl) (by decide +kernel) ?_
                refine gx_iload_n_1 (gx_iconst (gx_iadd (gx_aload_n_0 (gx_iload_n_2 (gx_iconst ((gx_nil ?_)))))))
                try simp only [nI_add, pk_mul, Nat.add_zero, Nat.zero_add, Nat.reduceAdd, Nat.reduceMul]
                refine n_icmp_eq (off := 8) (tgt := 115) (by decide +kernel) (by decide) (fun c107 => ?_) (fun c107 => ?_)
                · exact absurd c107 (by decide)
                · try simp only [bI_0, Decidable.not_not] at c107
                  refine n_blk [(.iload_n 2, .null), (.iconst 5, .int (nI 5))] (Nat.le_of_ble_eq_true rfl) (by decide +kernel) ?_
                  refine gx_iload_n_2 (gx_iconst ((gx_nil ?_)))
                  refine n_icmp_ne (off := 7) (tgt := 119) (by decide +kernel) (by decide) (fun c112 => ?_) (fun c112 => ?_)
                  · try simp only [bI_0, Decidable.not_not] at c112
                    refine n_blk [(.iconst 2, .int (nI 2))] (Nat.le_of_ble_eq_true rfl) (by decide +kernel) ?_
                    refine gx_iconst ((gx_nil ?_))
                    refine n_call kX10_244 (r_number_wr (sp := sp) (V := vU (vU (vU V 16 (nI sp)) 18 (nI 1)) 16 (nI sp)) e15 e14 hsp hn gT hw16 (mo := 2) (by decide) (by decide)) (by decide +kernel) rfl rfl (Nat.le_of_ble_eq_true rfl) (Nat.le_of_ble_eq_true rfl) (Nat.le_of_ble_eq_true rfl) rfl ?_
                    simp only [Option.toList_some, List.cons_append, List.nil_append]
                    refine n_as (j := 19) rfl (by decide +kernel) (show _ < 120 from by omega) ?_
                    refine n_end none rfl ⟨by decide +kernel, rfl⟩ ?_
                    exact ⟨rfl, rnF3.1, fun j h1 h2 h3 => by simp [vU, h1, h2, h3], rnF3.2.1, fun e he => by rw [hR] at he; cases he; rfl, fun c p' he => by rw [hR] at he; cases he⟩
                  · exact absurd c112 (by decide)
              · exact absurd (by decide) c74
          · exact absurd c20 (by decide)
  · by_cases hD : isD tx n sp = true
    · have h0 : ¬ (nmv tx n (kd1 2) sp 0).2 = 0 := fun z => (nmv_0 (k := 3)).mp z hD
      have hle := nmv_le (tx := tx) (n := n) (k := 4) (p := sp) (v := 0)
      have h0n : ¬ (nmv tx n 4 sp 0).2 = 0 := h0
      obtain ⟨p2, hp2⟩ : ∃ z, sp + (nmv tx n 4 sp 0).2 = z := ⟨_, rfl⟩
      have hp2n : p2 ≤ n := by omega
      have g15 : vU (vU V 15 (nI (sp + (nmv tx n 4 sp 0).2))) 18 (nI (nmv tx n 4 sp 0).2) 15 = nI p2 := by rw [hp2]; rfl
      have g14 : vU (vU V 15 (nI (sp + (nmv tx n 4 sp 0).2))) 18 (nI (nmv tx n 4 sp 0).2) 14 = nI n := e14
      have g16 : vU (vU V 15 (nI (sp + (nmv tx n 4 sp 0).2))) 18 (nI (nmv tx n 4 sp 0).2) 16 = -1 := e16
      have gT : ∀ i, i < n → fU (fU F 19 (4 * k + 1) (nI (nmv tx n 4 sp 0).1)) 19 (4 * k + 3) (nI (nmv tx n 4 sp 0).2) 9 i = nI (tx i) ∧ tx i < 128 := hT
      by_cases h3 : p2 < n ∧ tx p2 = 32
      · have h3r : p2 < n ∧ 32 ≤ tx p2 ∧ tx p2 ≤ 32 := by omega
        have h3k : sp + (nmv tx n (kd1 2) sp 0).2 < n ∧ tx (sp + (nmv tx n (kd1 2) sp 0).2) = 32 := by
          show sp + (nmv tx n 4 sp 0).2 < n ∧ tx (sp + (nmv tx n 4 sp 0).2) = 32
          rw [hp2]; exact h3
        by_cases hD2 : isD tx n (p2 + 1) = true
        · have hle2 := nmv_le (tx := tx) (n := n) (k := 1) (p := p2 + 1) (v := 0)
          have h4 : ¬ (nmv tx n (kd2 2) (sp + (nmv tx n (kd1 2) sp 0).2 + 1) 0).2 = 0 := fun z => (nmv_0 (k := 0)).mp z (by rw [show sp + (nmv tx n (kd1 2) sp 0).2 = p2 from hp2]; exact hD2)
          have hR := pnR_B3 h0 (by decide) h3k h4
          rw [show sp + (nmv tx n (kd1 2) sp 0).2 = p2 from hp2] at hR
          refine mE_of (by decide) rfl (Nat.le_of_ble_eq_true rfl) [some (.ref o), some (.int (nI (4 * k))), some (.int (nI 2)), none, none, none] rfl ?_
          refine n_blk [(.iload_n 2, .null), (.iconst 4, .int (nI 4))] (Nat.le_of_ble_eq_true rfl) (by decide +kernel) ?_
          refine gx_iload_n_2 (gx_iconst ((gx_nil ?_)))
          refine n_icmp_ge (off := 7) (tgt := 9) (by decide +kernel) (by decide) (fun c2 => ?_) (fun c2 => ?_)
          · exact absurd c2 (by decide)
          · try simp only [bI_0, Decidable.not_not] at c2
            refine n_blk [(.iconst 1, .int (nI 1)), (.goto 4, .retAddr 10), (.istore_n 3, .null), (.iload_n 2, .null), (.bipush 7, .int (nI 7))] (Nat.le_of_ble_eq_true rfl) (by decide +kernel) ?_
            refine gx_iconst (gx_goto (gx_istore_n_3 rfl (gx_iload_n_2 (gx_bipush ((gx_nil ?_))))))
            refine n_icmp_eq (off := 9) (tgt := 23) (by decide +kernel) (by decide) (fun c14 => ?_) (fun c14 => ?_)
            · exact absurd c14 (by decide)
            · try simp only [bI_0, Decidable.not_not] at c14
              refine n_blk [(.iload_n 2, .null), (.bipush 8, .int (nI 8))] (Nat.le_of_ble_eq_true rfl) (by decide +kernel) ?_
              refine gx_iload_n_2 (gx_bipush ((gx_nil ?_)))
              refine n_icmp_ne (off := 7) (tgt := 27) (by decide +kernel) (by decide) (fun c20 => ?_) (fun c20 => ?_)
              · try simp only [bI_0, Decidable.not_not] at c20
                refine n_blk [(.iconst 0, .int (nI 0)), (.istore 4, .null), (.aload_n 0, .null)] (Nat.le_of_ble_eq_true rfl) (by decide +kernel) ?_
                refine gx_iconst (gx_istore_4 rfl (gx_aload_n_0 ((gx_nil ?_))))
                refine n_getR fX10_38 (by decide +kernel) rfl ?_
                refine n_blk [(.iload_n 1, .null), (.iconst 1, .int (nI 1)), (.iadd, .null), (.aload_n 0, .null), (.iload_n 3, .null)] (Nat.le_of_ble_eq_true rfl) (by decide +kernel) ?_
                refine gx_iload_n_1 (gx_iconst (gx_iadd (gx_aload_n_0 (gx_iload_n_3 ((gx_nil ?_))))))
                try simp only [nI_add, pk_mul, Nat.add_zero, Nat.zero_add, Nat.reduceAdd, Nat.reduceMul]
                refine n_if_eq (off := 7) (tgt := 46) (by decide +kernel) (by decide) (fun c39 => ?_) (fun c39 => ?_)
                · exact absurd c39 (by decide)
                · try simp only [bI_0, Decidable.not_not] at c39
                  refine n_blk [(.iconst 4, .int (nI 4)), (.goto 13, .retAddr 56)] (Nat.le_of_ble_eq_true rfl) (by decide +kernel) ?_
                  refine gx_iconst (gx_goto ((gx_nil ?_)))
                  refine n_call kX10_244 (r_number_ok e15 e14 hsp hn hT e16 (mo := 4) (by decide) (by decide) hD) (by decide +kernel) rfl rfl (Nat.le_of_ble_eq_true rfl) (Nat.le_of_ble_eq_true rfl) (Nat.le_of_ble_eq_true rfl) rfl ?_
                  simp only [Option.toList_some, List.cons_append, List.nil_append]
                  refine n_as (j := 19) rfl (by decide +kernel) (show _ < 120 from by omega) ?_
                  refine n_blk [(.aload_n 0, .null)] (Nat.le_of_ble_eq_true rfl) (by decide +kernel) ?_
                  refine gx_aload_n_0 ((gx_nil ?_))
                  refine n_getR fX10_38 (by decide +kernel) rfl ?_
                  refine n_blk [(.iload_n 1, .null), (.iconst 3, .int (nI 3)), (.iadd, .null), (.aload_n 0, .null)] (Nat.le_of_ble_eq_true rfl) (by decide +kernel) ?_
                  refine gx_iload_n_1 (gx_iconst (gx_iadd (gx_aload_n_0 ((gx_nil ?_)))))
                  try simp only [nI_add, pk_mul, Nat.add_zero, Nat.zero_add, Nat.reduceAdd, Nat.reduceMul]
                  refine n_getI fX10_230 (by decide +kernel) rfl ?_
                  try simp only [vU_s, vU_n, ne_eq, Nat.reduceEqDiff, not_false_eq_true, nI_add, pk_mul, Nat.add_zero, Nat.zero_add, Nat.reduceAdd, Nat.reduceMul]
                  refine n_as (j := 19) rfl (by decide +kernel) (show _ < 120 from by omega) ?_
                  refine n_blk [(.iload_n 2, .null), (.iconst 3, .int (nI 3))] (Nat.le_of_ble_eq_true rfl) (by decide +kernel) ?_
                  refine gx_iload_n_2 (gx_iconst ((gx_nil ?_)))
                  refine n_icmp_lt (off := 13) (tgt := 87) (by decide +kernel) (by decide) (fun c74 => ?_) (fun c74 => ?_)
                  · try simp only [bI_0, Decidable.not_not] at c74
                    refine n_blk [(.aload_n 0, .null), (.bipush 32, .int (nI 32)), (.bipush 32, .int (nI 32))] (Nat.le_of_ble_eq_true rfl) (by decide +kernel) ?_
                    refine gx_aload_n_0 (gx_bipush (gx_bipush ((gx_nil ?_))))
                    refine n_call kX10_227 (r_reads_ok (V := vU (vU V 15 (nI (sp + (nmv tx n 4 sp 0).2))) 18 (nI (nmv tx n 4 sp 0).2)) g15 g14 hp2n hn gT (lo := 32) (hi := 32) (by decide) (by decide) g16 h3r) (by decide +kernel) rfl rfl (Nat.le_of_ble_eq_true rfl) (Nat.le_of_ble_eq_true rfl) (Nat.le_of_ble_eq_true rfl) rfl ?_
                    simp only [Option.toList_some, List.cons_append, List.nil_append]
                    refine n_blk [(.istore 5, .null), (.aload_n 0, .null)] (Nat.le_of_ble_eq_true rfl) (by decide +kernel) ?_
                    refine gx_istore_5 rfl (gx_aload_n_0 ((gx_nil ?_)))
                    refine n_getR fX10_38 (by decide +kernel) rfl ?_
                    refine n_blk [(.iload_n 1, .null), (.iconst 2, .int (nI 2)), (.iadd, .null), (.aload_n 0, .null), (.iload_n 2, .null), (.iconst 2, .int (nI 2))] (Nat.le_of_ble_eq_true rfl) (by decide +kernel) ?_
                    refine gx_iload_n_1 (gx_iconst (gx_iadd (gx_aload_n_0 (gx_iload_n_2 (gx_iconst ((gx_nil ?_)))))))
                    try simp only [nI_add, pk_mul, Nat.add_zero, Nat.zero_add, Nat.reduceAdd, Nat.reduceMul]
                    refine n_icmp_eq (off := 8) (tgt := 115) (by decide +kernel) (by decide) (fun c107 => ?_) (fun c107 => ?_)
                    · try simp only [bI_0, Decidable.not_not] at c107
                      refine n_blk [(.iconst 1, .int (nI 1)), (.goto 4, .retAddr 120)] (Nat.le_of_ble_eq_true rfl) (by decide +kernel) ?_
                      refine gx_iconst (gx_goto ((gx_nil ?_)))
                      refine n_call kX10_244 (r_number_ok (sp := p2 + 1) (V := vU (vU (vU V 15 (nI (sp + (nmv tx n 4 sp 0).2))) 18 (nI (nmv tx n 4 sp 0).2)) 15 (nI (p2 + 1))) rfl e14 (by omega) hn gT e16 (mo := 1) (by decide) (by decide) hD2) (by decide +kernel) rfl rfl (Nat.le_of_ble_eq_true rfl) (Nat.le_of_ble_eq_true rfl) (Nat.le_of_ble_eq_true rfl) rfl ?_
                      simp only [Option.toList_some, List.cons_append, List.nil_append]
                      refine n_as (j := 19) rfl (by decide +kernel) (show _ < 120 from by omega) ?_
                      refine n_end none rfl ⟨by decide +kernel, rfl⟩ ?_
                      exact ⟨rfl, rnF3.1, fun j h1 h2 h3 => by simp [vU, h1, h2, h3], rnF3.2.1, fun e he => (by rw [hR] at he; cases he), fun c p' he => by rw [hR] at he; cases he; exact ⟨e16, rfl, rnF3.2.2.1, rnF3.2.2.2.1, fun _ => rnF3.2.2.2.2⟩⟩
                    · exact absurd (by decide) c107
                  · exact absurd (by decide) c74
              · exact absurd c20 (by decide)
        · have h4 : (nmv tx n (kd2 2) (sp + (nmv tx n (kd1 2) sp 0).2 + 1) 0).2 = 0 := (nmv_0 (k := 0)).mpr (by rw [show sp + (nmv tx n (kd1 2) sp 0).2 = p2 from hp2]; exact hD2)
          have hR := pnR_B2 h0 (by decide) h3k h4
          rw [show sp + (nmv tx n (kd1 2) sp 0).2 = p2 from hp2] at hR
          refine mE_of (by decide) rfl (Nat.le_of_ble_eq_true rfl) [some (.ref o), some (.int (nI (4 * k))), some (.int (nI 2)), none, none, none] rfl ?_
          refine n_blk [(.iload_n 2, .null), (.iconst 4, .int (nI 4))] (Nat.le_of_ble_eq_true rfl) (by decide +kernel) ?_
          refine gx_iload_n_2 (gx_iconst ((gx_nil ?_)))
          refine n_icmp_ge (off := 7) (tgt := 9) (by decide +kernel) (by decide) (fun c2 => ?_) (fun c2 => ?_)
          · exact absurd c2 (by decide)
          · try simp only [bI_0, Decidable.not_not] at c2
            refine n_blk [(.iconst 1, .int (nI 1)), (.goto 4, .retAddr 10), (.istore_n 3, .null), (.iload_n 2, .null), (.bipush 7, .int (nI 7))] (Nat.le_of_ble_eq_true rfl) (by decide +kernel) ?_
            refine gx_iconst (gx_goto (gx_istore_n_3 rfl (gx_iload_n_2 (gx_bipush ((gx_nil ?_))))))
            refine n_icmp_eq (off := 9) (tgt := 23) (by decide +kernel) (by decide) (fun c14 => ?_) (fun c14 => ?_)
            · exact absurd c14 (by decide)
            · try simp only [bI_0, Decidable.not_not] at c14
              refine n_blk [(.iload_n 2, .null), (.bipush 8, .int (nI 8))] (Nat.le_of_ble_eq_true rfl) (by decide +kernel) ?_
              refine gx_iload_n_2 (gx_bipush ((gx_nil ?_)))
              refine n_icmp_ne (off := 7) (tgt := 27) (by decide +kernel) (by decide) (fun c20 => ?_) (fun c20 => ?_)
              · try simp only [bI_0, Decidable.not_not] at c20
                refine n_blk [(.iconst 0, .int (nI 0)), (.istore 4, .null), (.aload_n 0, .null)] (Nat.le_of_ble_eq_true rfl) (by decide +kernel) ?_
                refine gx_iconst (gx_istore_4 rfl (gx_aload_n_0 ((gx_nil ?_))))
                refine n_getR fX10_38 (by decide +kernel) rfl ?_
                refine n_blk [(.iload_n 1, .null), (.iconst 1, .int (nI 1)), (.iadd, .null), (.aload_n 0, .null), (.iload_n 3, .null)] (Nat.le_of_ble_eq_true rfl) (by decide +kernel) ?_
                refine gx_iload_n_1 (gx_iconst (gx_iadd (gx_aload_n_0 (gx_iload_n_3 ((gx_nil ?_))))))
                try simp only [nI_add, pk_mul, Nat.add_zero, Nat.zero_add, Nat.reduceAdd, Nat.reduceMul]
                refine n_if_eq (off := 7) (tgt := 46) (by decide +kernel) (by decide) (fun c39 => ?_) (fun c39 => ?_)
                · exact absurd c39 (by decide)
                · try simp only [bI_0, Decidable.not_not] at c39
                  refine n_blk [(.iconst 4, .int (nI 4)), (.goto 13, .retAddr 56)] (Nat.le_of_ble_eq_true rfl) (by decide +kernel) ?_
                  refine gx_iconst (gx_goto ((gx_nil ?_)))
                  refine n_call kX10_244 (r_number_ok e15 e14 hsp hn hT e16 (mo := 4) (by decide) (by decide) hD) (by decide +kernel) rfl rfl (Nat.le_of_ble_eq_true rfl) (Nat.le_of_ble_eq_true rfl) (Nat.le_of_ble_eq_true rfl) rfl ?_
                  simp only [Option.toList_some, List.cons_append, List.nil_append]
                  refine n_as (j := 19) rfl (by decide +kernel) (show _ < 120 from by omega) ?_
                  refine n_blk [(.aload_n 0, .null)] (Nat.le_of_ble_eq_true rfl) (by decide +kernel) ?_
                  refine gx_aload_n_0 ((gx_nil ?_))
                  refine n_getR fX10_38 (by decide +kernel) rfl ?_
                  refine n_blk [(.iload_n 1, .null), (.iconst 3, .int (nI 3)), (.iadd, .null), (.aload_n 0, .null)] (Nat.le_of_ble_eq_true rfl) (by decide +kernel) ?_
                  refine gx_iload_n_1 (gx_iconst (gx_iadd (gx_aload_n_0 ((gx_nil ?_)))))
                  try simp only [nI_add, pk_mul, Nat.add_zero, Nat.zero_add, Nat.reduceAdd, Nat.reduceMul]
                  refine n_getI fX10_230 (by decide +kernel) rfl ?_
                  try simp only [vU_s, vU_n, ne_eq, Nat.reduceEqDiff, not_false_eq_true, nI_add, pk_mul, Nat.add_zero, Nat.zero_add, Nat.reduceAdd, Nat.reduceMul]
                  refine n_as (j := 19) rfl (by decide +kernel) (show _ < 120 from by omega) ?_
                  refine n_blk [(.iload_n 2, .null), (.iconst 3, .int (nI 3))] (Nat.le_of_ble_eq_true rfl) (by decide +kernel) ?_
                  refine gx_iload_n_2 (gx_iconst ((gx_nil ?_)))
                  refine n_icmp_lt (off := 13) (tgt := 87) (by decide +kernel) (by decide) (fun c74 => ?_) (fun c74 => ?_)
                  · try simp only [bI_0, Decidable.not_not] at c74
                    refine n_blk [(.aload_n 0, .null), (.bipush 32, .int (nI 32)), (.bipush 32, .int (nI 32))] (Nat.le_of_ble_eq_true rfl) (by decide +kernel) ?_
                    refine gx_aload_n_0 (gx_bipush (gx_bipush ((gx_nil ?_))))
                    refine n_call kX10_227 (r_reads_ok (V := vU (vU V 15 (nI (sp + (nmv tx n 4 sp 0).2))) 18 (nI (nmv tx n 4 sp 0).2)) g15 g14 hp2n hn gT (lo := 32) (hi := 32) (by decide) (by decide) g16 h3r) (by decide +kernel) rfl rfl (Nat.le_of_ble_eq_true rfl) (Nat.le_of_ble_eq_true rfl) (Nat.le_of_ble_eq_true rfl) rfl ?_
                    simp only [Option.toList_some, List.cons_append, List.nil_append]
                    refine n_blk [(.istore 5, .null), (.aload_n 0, .null)] (Nat.le_of_ble_eq_true rfl) (by decide +kernel) ?_
                    refine gx_istore_5 rfl (gx_aload_n_0 ((gx_nil ?_)))
                    refine n_getR fX10_38 (by decide +kernel) rfl ?_
                    refine n_blk [(.iload_n 1, .null), (.iconst 2, .int (nI 2)), (.iadd, .null), (.aload_n 0, .null), (.iload_n 2, .null), (.iconst 2, .int (nI 2))] (Nat.le_of_ble_eq_true rfl) (by decide +kernel) ?_
                    refine gx_iload_n_1 (gx_iconst (gx_iadd (gx_aload_n_0 (gx_iload_n_2 (gx_iconst ((gx_nil ?_)))))))
                    try simp only [nI_add, pk_mul, Nat.add_zero, Nat.zero_add, Nat.reduceAdd, Nat.reduceMul]
                    refine n_icmp_eq (off := 8) (tgt := 115) (by decide +kernel) (by decide) (fun c107 => ?_) (fun c107 => ?_)
                    · try simp only [bI_0, Decidable.not_not] at c107
                      refine n_blk [(.iconst 1, .int (nI 1)), (.goto 4, .retAddr 120)] (Nat.le_of_ble_eq_true rfl) (by decide +kernel) ?_
                      refine gx_iconst (gx_goto ((gx_nil ?_)))
                      refine n_call kX10_244 (r_number_no (sp := p2 + 1) (V := vU (vU (vU V 15 (nI (sp + (nmv tx n 4 sp 0).2))) 18 (nI (nmv tx n 4 sp 0).2)) 15 (nI (p2 + 1))) rfl e14 (by omega) hn gT e16 (mo := 1) (by decide) (by decide) hD2) (by decide +kernel) rfl rfl (Nat.le_of_ble_eq_true rfl) (Nat.le_of_ble_eq_true rfl) (Nat.le_of_ble_eq_true rfl) rfl ?_
                      simp only [Option.toList_some, List.cons_append, List.nil_append]
                      refine n_as (j := 19) rfl (by decide +kernel) (show _ < 120 from by omega) ?_
                      refine n_end none rfl ⟨by decide +kernel, rfl⟩ ?_
                      exact ⟨rfl, rnF3.1, fun j h1 h2 h3 => by simp [vU, h1, h2, h3], rnF3.2.1, fun e he => by rw [hR] at he; cases he; rfl, fun c p' he => by rw [hR] at he; cases he⟩
                    · exact absurd (by decide) c107
                  · exact absurd (by decide) c74
              · exact absurd c20 (by decide)
      · have hR := pnR_B1 h0 (by decide) (fun z => h3 (by rw [show sp + (nmv tx n (kd1 2) sp 0).2 = p2 from hp2] at z; exact z))
        rw [show sp + (nmv tx n (kd1 2) sp 0).2 = p2 from hp2] at hR
        have hw16 : ¬ vU (vU (vU V 15 (nI (sp + (nmv tx n 4 sp 0).2))) 18 (nI (nmv tx n 4 sp 0).2)) 16 (nI p2) 16 = -1 := nI_nm1 (by omega)
        refine mE_of (by decide) rfl (Nat.le_of_ble_eq_true rfl) [some (.ref o), some (.int (nI (4 * k))), some (.int (nI 2)), none, none, none] rfl ?_
        refine n_blk [(.iload_n 2, .null), (.iconst 4, .int (nI 4))] (Nat.le_of_ble_eq_true rfl) (by decide +kernel) ?_
        refine gx_iload_n_2 (gx_iconst ((gx_nil ?_)))
        refine n_icmp_ge (off := 7) (tgt := 9) (by decide +kernel) (by decide) (fun c2 => ?_) (fun c2 => ?_)
        · exact absurd c2 (by decide)
        · try simp only [bI_0, Decidable.not_not] at c2
          refine n_blk [(.iconst 1, .int (nI 1)), (.goto 4, .retAddr 10), (.istore_n 3, .null), (.iload_n 2, .null), (.bipush 7, .int (nI 7))] (Nat.le_of_ble_eq_true rfl) (by decide +kernel) ?_
          refine gx_iconst (gx_goto (gx_istore_n_3 rfl (gx_iload_n_2 (gx_bipush ((gx_nil ?_))))))
          refine n_icmp_eq (off := 9) (tgt := 23) (by decide +kernel) (by decide) (fun c14 => ?_) (fun c14 => ?_)
          · exact absurd c14 (by decide)
          · try simp only [bI_0, Decidable.not_not] at c14
            refine n_blk [(.iload_n 2, .null), (.bipush 8, .int (nI 8))] (Nat.le_of_ble_eq_true rfl) (by decide +kernel) ?_
            refine gx_iload_n_2 (gx_bipush ((gx_nil ?_)))
            refine n_icmp_ne (off := 7) (tgt := 27) (by decide +kernel) (by decide) (fun c20 => ?_) (fun c20 => ?_)
            · try simp only [bI_0, Decidable.not_not] at c20
              refine n_blk [(.iconst 0, .int (nI 0)), (.istore 4, .null), (.aload_n 0, .null)] (Nat.le_of_ble_eq_true rfl) (by decide +kernel) ?_
              refine gx_iconst (gx_istore_4 rfl (gx_aload_n_0 ((gx_nil ?_))))
              refine n_getR fX10_38 (by decide +kernel) rfl ?_
              refine n_blk [(.iload_n 1, .null), (.iconst 1, .int (nI 1)), (.iadd, .null), (.aload_n 0, .null), (.iload_n 3, .null)] (Nat.le_of_ble_eq_true rfl) (by decide +kernel) ?_
              refine gx_iload_n_1 (gx_iconst (gx_iadd (gx_aload_n_0 (gx_iload_n_3 ((gx_nil ?_))))))
              try simp only [nI_add, pk_mul, Nat.add_zero, Nat.zero_add, Nat.reduceAdd, Nat.reduceMul]
              refine n_if_eq (off := 7) (tgt := 46) (by decide +kernel) (by decide) (fun c39 => ?_) (fun c39 => ?_)
              · exact absurd c39 (by decide)
              · try simp only [bI_0, Decidable.not_not] at c39
                refine n_blk [(.iconst 4, .int (nI 4)), (.goto 13, .retAddr 56)] (Nat.le_of_ble_eq_true rfl) (by decide +kernel) ?_
                refine gx_iconst (gx_goto ((gx_nil ?_)))
                refine n_call kX10_244 (r_number_ok e15 e14 hsp hn hT e16 (mo := 4) (by decide) (by decide) hD) (by decide +kernel) rfl rfl (Nat.le_of_ble_eq_true rfl) (Nat.le_of_ble_eq_true rfl) (Nat.le_of_ble_eq_true rfl) rfl ?_
                simp only [Option.toList_some, List.cons_append, List.nil_append]
                refine n_as (j := 19) rfl (by decide +kernel) (show _ < 120 from by omega) ?_
                refine n_blk [(.aload_n 0, .null)] (Nat.le_of_ble_eq_true rfl) (by decide +kernel) ?_
                refine gx_aload_n_0 ((gx_nil ?_))
                refine n_getR fX10_38 (by decide +kernel) rfl ?_
                refine n_blk [(.iload_n 1, .null), (.iconst 3, .int (nI 3)), (.iadd, .null), (.aload_n 0, .null)] (Nat.le_of_ble_eq_true rfl) (by decide +kernel) ?_
                refine gx_iload_n_1 (gx_iconst (gx_iadd (gx_aload_n_0 ((gx_nil ?_)))))
                try simp only [nI_add, pk_mul, Nat.add_zero, Nat.zero_add, Nat.reduceAdd, Nat.reduceMul]
                refine n_getI fX10_230 (by decide +kernel) rfl ?_
                try simp only [vU_s, vU_n, ne_eq, Nat.reduceEqDiff, not_false_eq_true, nI_add, pk_mul, Nat.add_zero, Nat.zero_add, Nat.reduceAdd, Nat.reduceMul]
                refine n_as (j := 19) rfl (by decide +kernel) (show _ < 120 from by omega) ?_
                refine n_blk [(.iload_n 2, .null), (.iconst 3, .int (nI 3))] (Nat.le_of_ble_eq_true rfl) (by decide +kernel) ?_
                refine gx_iload_n_2 (gx_iconst ((gx_nil ?_)))
                refine n_icmp_lt (off := 13) (tgt := 87) (by decide +kernel) (by decide) (fun c74 => ?_) (fun c74 => ?_)
                · try simp only [bI_0, Decidable.not_not] at c74
                  refine n_blk [(.aload_n 0, .null), (.bipush 32, .int (nI 32)), (.bipush 32, .int (nI 32))] (Nat.le_of_ble_eq_true rfl) (by decide +kernel) ?_
                  refine gx_aload_n_0 (gx_bipush (gx_bipush ((gx_nil ?_))))
                  refine n_call kX10_227 (r_reads_no (V := vU (vU V 15 (nI (sp + (nmv tx n 4 sp 0).2))) 18 (nI (nmv tx n 4 sp 0).2)) g15 g14 hp2n hn gT (lo := 32) (hi := 32) (by decide) (by decide) (fun z => h3 (by omega))) (by decide +kernel) rfl rfl (Nat.le_of_ble_eq_true rfl) (Nat.le_of_ble_eq_true rfl) (Nat.le_of_ble_eq_true rfl) rfl ?_
                  rw [if_pos g16]
                  simp only [Option.toList_some, List.cons_append, List.nil_append]
                  refine n_blk [(.istore 5, .null), (.aload_n 0, .null)] (Nat.le_of_ble_eq_true rfl) (by decide +kernel) ?_
                  refine gx_istore_5 rfl (gx_aload_n_0 ((gx_nil ?_)))
                  refine n_getR fX10_38 (by decide +kernel) rfl ?_
                  refine n_blk [(.iload_n 1, .null), (.iconst 2, .int (nI 2)), (.iadd, .null), (.aload_n 0, .null), (.iload_n 2, .null), (.iconst 2, .int (nI 2))] (Nat.le_of_ble_eq_true rfl) (by decide +kernel) ?_
                  refine gx_iload_n_1 (gx_iconst (gx_iadd (gx_aload_n_0 (gx_iload_n_2 (gx_iconst ((gx_nil ?_)))))))
                  try simp only [nI_add, pk_mul, Nat.add_zero, Nat.zero_add, Nat.reduceAdd, Nat.reduceMul]
                  refine n_icmp_eq (off := 8) (tgt := 115) (by decide +kernel) (by decide) (fun c107 => ?_) (fun c107 => ?_)
                  · try simp only [bI_0, Decidable.not_not] at c107
                    refine n_blk [(.iconst 1, .int (nI 1)), (.goto 4, .retAddr 120)] (Nat.le_of_ble_eq_true rfl) (by decide +kernel) ?_
                    refine gx_iconst (gx_goto ((gx_nil ?_)))
                    refine n_call kX10_244 (r_number_wr (sp := p2) (V := vU (vU (vU V 15 (nI (sp + (nmv tx n 4 sp 0).2))) 18 (nI (nmv tx n 4 sp 0).2)) 16 (nI p2)) g15 e14 hp2n hn gT hw16 (mo := 1) (by decide) (by decide)) (by decide +kernel) rfl rfl (Nat.le_of_ble_eq_true rfl) (Nat.le_of_ble_eq_true rfl) (Nat.le_of_ble_eq_true rfl) rfl ?_
                    simp only [Option.toList_some, List.cons_append, List.nil_append]
                    refine n_as (j := 19) rfl (by decide +kernel) (show _ < 120 from by omega) ?_
                    refine n_end none rfl ⟨by decide +kernel, rfl⟩ ?_
                    exact ⟨rfl, rnF3.1, fun j h1 h2 h3 => by simp [vU, h1, h2, h3], rnF3.2.1, fun e he => by rw [hR] at he; cases he; rfl, fun c p' he => by rw [hR] at he; cases he⟩
                  · exact absurd (by decide) c107
                · exact absurd (by decide) c74
            · exact absurd c20 (by decide)
    · have hR := pnR_A (tx := tx) (n := n) (w := 2) (p := sp) ((nmv_0 (k := 3)).mpr hD)
      have gT : ∀ i, i < n → fU (fU F 19 (4 * k + 1) (nI 0)) 19 (4 * k + 3) (nI 1) 9 i = nI (tx i) ∧ tx i < 128 := hT
      have hw16 : ¬ vU (vU V 16 (nI sp)) 18 (nI 1) 16 = -1 := nI_nm1 (by omega)
      refine mE_of (by decide) rfl (Nat.le_of_ble_eq_true rfl) [some (.ref o), some (.int (nI (4 * k))), some (.int (nI 2)), none, none, none] rfl ?_
      refine n_blk [(.iload_n 2, .null), (.iconst 4, .int (nI 4))] (Nat.le_of_ble_eq_true rfl) (by decide +kernel) ?_
      refine gx_iload_n_2 (gx_iconst ((gx_nil ?_)))
      refine n_icmp_ge (off := 7) (tgt := 9) (by decide +kernel) (by decide) (fun c2 => ?_) (fun c2 => ?_)
      · exact absurd c2 (by decide)
      · try simp only [bI_0, Decidable.not_not] at c2
        refine n_blk [(.iconst 1, .int (nI 1)), (.goto 4, .retAddr 10), (.istore_n 3, .null), (.iload_n 2, .null), (.bipush 7, .int (nI 7))] (Nat.le_of_ble_eq_true rfl) (by decide +kernel) ?_
        refine gx_iconst (gx_goto (gx_istore_n_3 rfl (gx_iload_n_2 (gx_bipush ((gx_nil ?_))))))
        refine n_icmp_eq (off := 9) (tgt := 23) (by decide +kernel) (by decide) (fun c14 => ?_) (fun c14 => ?_)
        · exact absurd c14 (by decide)
        · try simp only [bI_0, Decidable.not_not] at c14
          refine n_blk [(.iload_n 2, .null), (.bipush 8, .int (nI 8))] (Nat.le_of_ble_eq_true rfl) (by decide +kernel) ?_
          refine gx_iload_n_2 (gx_bipush ((gx_nil ?_)))
          refine n_icmp_ne (off := 7) (tgt := 27) (by decide +kernel) (by decide) (fun c20 => ?_) (fun c20 => ?_)
          · try simp only [bI_0, Decidable.not_not] at c20
            refine n_blk [(.iconst 0, .int (nI 0)), (.istore 4, .null), (.aload_n 0, .null)] (Nat.le_of_ble_eq_true rfl) (by decide +kernel) ?_
            refine gx_iconst (gx_istore_4 rfl (gx_aload_n_0 ((gx_nil ?_))))
            refine n_getR fX10_38 (by decide +kernel) rfl ?_
            refine n_blk [(.iload_n 1, .null), (.iconst 1, .int (nI 1)), (.iadd, .null), (.aload_n 0, .null), (.iload_n 3, .null)] (Nat.le_of_ble_eq_true rfl) (by decide +kernel) ?_
            refine gx_iload_n_1 (gx_iconst (gx_iadd (gx_aload_n_0 (gx_iload_n_3 ((gx_nil ?_))))))
            try simp only [nI_add, pk_mul, Nat.add_zero, Nat.zero_add, Nat.reduceAdd, Nat.reduceMul]
            refine n_if_eq (off := 7) (tgt := 46) (by decide +kernel) (by decide) (fun c39 => ?_) (fun c39 => ?_)
            · exact absurd c39 (by decide)
            · try simp only [bI_0, Decidable.not_not] at c39
              refine n_blk [(.iconst 4, .int (nI 4)), (.goto 13, .retAddr 56)] (Nat.le_of_ble_eq_true rfl) (by decide +kernel) ?_
              refine gx_iconst (gx_goto ((gx_nil ?_)))
              refine n_call kX10_244 (r_number_no e15 e14 hsp hn hT e16 (mo := 4) (by decide) (by decide) hD) (by decide +kernel) rfl rfl (Nat.le_of_ble_eq_true rfl) (Nat.le_of_ble_eq_true rfl) (Nat.le_of_ble_eq_true rfl) rfl ?_
              simp only [Option.toList_some, List.cons_append, List.nil_append]
              refine n_as (j := 19) rfl (by decide +kernel) (show _ < 120 from by omega) ?_
              refine n_blk [(.aload_n 0, .null)] (Nat.le_of_ble_eq_true rfl) (by decide +kernel) ?_
              refine gx_aload_n_0 ((gx_nil ?_))
              refine n_getR fX10_38 (by decide +kernel) rfl ?_
              refine n_blk [(.iload_n 1, .null), (.iconst 3, .int (nI 3)), (.iadd, .null), (.aload_n 0, .null)] (Nat.le_of_ble_eq_true rfl) (by decide +kernel) ?_
              refine gx_iload_n_1 (gx_iconst (gx_iadd (gx_aload_n_0 ((gx_nil ?_)))))
              try simp only [nI_add, pk_mul, Nat.add_zero, Nat.zero_add, Nat.reduceAdd, Nat.reduceMul]
              refine n_getI fX10_230 (by decide +kernel) rfl ?_
              try simp only [vU_s, vU_n, ne_eq, Nat.reduceEqDiff, not_false_eq_true, nI_add, pk_mul, Nat.add_zero, Nat.zero_add, Nat.reduceAdd, Nat.reduceMul]
              refine n_as (j := 19) rfl (by decide +kernel) (show _ < 120 from by omega) ?_
              refine n_blk [(.iload_n 2, .null), (.iconst 3, .int (nI 3))] (Nat.le_of_ble_eq_true rfl) (by decide +kernel) ?_
              refine gx_iload_n_2 (gx_iconst ((gx_nil ?_)))
              refine n_icmp_lt (off := 13) (tgt := 87) (by decide +kernel) (by decide) (fun c74 => ?_) (fun c74 => ?_)
              · try simp only [bI_0, Decidable.not_not] at c74
                refine n_blk [(.aload_n 0, .null), (.bipush 32, .int (nI 32)), (.bipush 32, .int (nI 32))] (Nat.le_of_ble_eq_true rfl) (by decide +kernel) ?_
                refine gx_aload_n_0 (gx_bipush (gx_bipush ((gx_nil ?_))))
                refine n_call kX10_227 (r_reads_no (V := vU (vU V 16 (nI sp)) 18 (nI 1)) e15 e14 hsp hn gT (lo := 32) (hi := 32) (by decide) (by decide) (fun z => hw16 z.1)) (by decide +kernel) rfl rfl (Nat.le_of_ble_eq_true rfl) (Nat.le_of_ble_eq_true rfl) (Nat.le_of_ble_eq_true rfl) rfl ?_
                rw [if_neg hw16, show vU (vU V 16 (nI sp)) 18 (nI 1) 16 = nI sp from rfl]
                simp only [Option.toList_some, List.cons_append, List.nil_append]
                refine n_blk [(.istore 5, .null), (.aload_n 0, .null)] (Nat.le_of_ble_eq_true rfl) (by decide +kernel) ?_
                refine gx_istore_5 rfl (gx_aload_n_0 ((gx_nil ?_)))
                refine n_getR fX10_38 (by decide +kernel) rfl ?_
                refine n_blk [(.iload_n 1, .null), (.iconst 2, .int (nI 2)), (.iadd, .null), (.aload_n 0, .null), (.iload_n 2, .null), (.iconst 2, .int (nI 2))] (Nat.le_of_ble_eq_true rfl) (by decide +kernel) ?_
                refine gx_iload_n_1 (gx_iconst (gx_iadd (gx_aload_n_0 (gx_iload_n_2 (gx_iconst ((gx_nil ?_)))))))
                try simp only [nI_add, pk_mul, Nat.add_zero, Nat.zero_add, Nat.reduceAdd, Nat.reduceMul]
                refine n_icmp_eq (off := 8) (tgt := 115) (by decide +kernel) (by decide) (fun c107 => ?_) (fun c107 => ?_)
                · try simp only [bI_0, Decidable.not_not] at c107
                  refine n_blk [(.iconst 1, .int (nI 1)), (.goto 4, .retAddr 120)] (Nat.le_of_ble_eq_true rfl) (by decide +kernel) ?_
                  refine gx_iconst (gx_goto ((gx_nil ?_)))
                  refine n_call kX10_244 (r_number_wr (sp := sp) (V := vU (vU (vU V 16 (nI sp)) 18 (nI 1)) 16 (nI sp)) e15 e14 hsp hn gT hw16 (mo := 1) (by decide) (by decide)) (by decide +kernel) rfl rfl (Nat.le_of_ble_eq_true rfl) (Nat.le_of_ble_eq_true rfl) (Nat.le_of_ble_eq_true rfl) rfl ?_
                  simp only [Option.toList_some, List.cons_append, List.nil_append]
                  refine n_as (j := 19) rfl (by decide +kernel) (show _ < 120 from by omega) ?_
                  refine n_end none rfl ⟨by decide +kernel, rfl⟩ ?_
                  exact ⟨rfl, rnF3.1, fun j h1 h2 h3 => by simp [vU, h1, h2, h3], rnF3.2.1, fun e he => by rw [hR] at he; cases he; rfl, fun c p' he => by rw [hR] at he; cases he⟩
                · exact absurd (by decide) c107
              · exact absurd (by decide) c74
          · exact absurd c20 (by decide)
  · by_cases hD : isD tx n sp = true
    · have h0 : ¬ (nmv tx n (kd1 3) sp 0).2 = 0 := fun z => (nmv_0 (k := 3)).mp z hD
      have hle := nmv_le (tx := tx) (n := n) (k := 4) (p := sp) (v := 0)
      have h0n : ¬ (nmv tx n 4 sp 0).2 = 0 := h0
      have hR := pnR_B0 h0 rfl
      refine mE_of (by decide) rfl (Nat.le_of_ble_eq_true rfl) [some (.ref o), some (.int (nI (4 * k))), some (.int (nI 3)), none, none, none] rfl ?_
      refine n_blk [(.iload_n 2, .null), (.iconst 4, .int (nI 4))] (Nat.le_of_ble_eq_true rfl) (by decide +kernel) ?_
      refine gx_iload_n_2 (gx_iconst ((gx_nil ?_)))
      refine n_icmp_ge (off := 7) (tgt := 9) (by decide +kernel) (by decide) (fun c2 => ?_) (fun c2 => ?_)
      · exact absurd c2 (by decide)
      · try simp only [bI_0, Decidable.not_not] at c2
        refine n_blk [(.iconst 1, .int (nI 1)), (.goto 4, .retAddr 10), (.istore_n 3, .null), (.iload_n 2, .null), (.bipush 7, .int (nI 7))] (Nat.le_of_ble_eq_true rfl) (by decide +kernel) ?_
        refine gx_iconst (gx_goto (gx_istore_n_3 rfl (gx_iload_n_2 (gx_bipush ((gx_nil ?_))))))
        refine n_icmp_eq (off := 9) (tgt := 23) (by decide +kernel) (by decide) (fun c14 => ?_) (fun c14 => ?_)
        · exact absurd c14 (by decide)
        · try simp only [bI_0, Decidable.not_not] at c14
          refine n_blk [(.iload_n 2, .null), (.bipush 8, .int (nI 8))] (Nat.le_of_ble_eq_true rfl) (by decide +kernel) ?_
          refine gx_iload_n_2 (gx_bipush ((gx_nil ?_)))
          refine n_icmp_ne (off := 7) (tgt := 27) (by decide +kernel) (by decide) (fun c20 => ?_) (fun c20 => ?_)
          · try simp only [bI_0, Decidable.not_not] at c20
            refine n_blk [(.iconst 0, .int (nI 0)), (.istore 4, .null), (.aload_n 0, .null)] (Nat.le_of_ble_eq_true rfl) (by decide +kernel) ?_
            refine gx_iconst (gx_istore_4 rfl (gx_aload_n_0 ((gx_nil ?_))))
            refine n_getR fX10_38 (by decide +kernel) rfl ?_
            refine n_blk [(.iload_n 1, .null), (.iconst 1, .int (nI 1)), (.iadd, .null), (.aload_n 0, .null), (.iload_n 3, .null)] (Nat.le_of_ble_eq_true rfl) (by decide +kernel) ?_
            refine gx_iload_n_1 (gx_iconst (gx_iadd (gx_aload_n_0 (gx_iload_n_3 ((gx_nil ?_))))))
            try simp only [nI_add, pk_mul, Nat.add_zero, Nat.zero_add, Nat.reduceAdd, Nat.reduceMul]
            refine n_if_eq (off := 7) (tgt := 46) (by decide +kernel) (by decide) (fun c39 => ?_) (fun c39 => ?_)
            · exact absurd c39 (by decide)
            · try simp only [bI_0, Decidable.not_not] at c39
              refine n_blk [(.iconst 4, .int (nI 4)), (.goto 13, .retAddr 56)] (Nat.le_of_ble_eq_true rfl) (by decide +kernel) ?_
              refine gx_iconst (gx_goto ((gx_nil ?_)))
              refine n_call kX10_244 (r_number_ok e15 e14 hsp hn hT e16 (mo := 4) (by decide) (by decide) hD) (by decide +kernel) rfl rfl (Nat.le_of_ble_eq_true rfl) (Nat.le_of_ble_eq_true rfl) (Nat.le_of_ble_eq_true rfl) rfl ?_
              simp only [Option.toList_some, List.cons_append, List.nil_append]
              refine n_as (j := 19) rfl (by decide +kernel) (show _ < 120 from by omega) ?_
              refine n_blk [(.aload_n 0, .null)] (Nat.le_of_ble_eq_true rfl) (by decide +kernel) ?_
              refine gx_aload_n_0 ((gx_nil ?_))
              refine n_getR fX10_38 (by decide +kernel) rfl ?_
              refine n_blk [(.iload_n 1, .null), (.iconst 3, .int (nI 3)), (.iadd, .null), (.aload_n 0, .null)] (Nat.le_of_ble_eq_true rfl) (by decide +kernel) ?_
              refine gx_iload_n_1 (gx_iconst (gx_iadd (gx_aload_n_0 ((gx_nil ?_)))))
              try simp only [nI_add, pk_mul, Nat.add_zero, Nat.zero_add, Nat.reduceAdd, Nat.reduceMul]
              refine n_getI fX10_230 (by decide +kernel) rfl ?_
              try simp only [vU_s, vU_n, ne_eq, Nat.reduceEqDiff, not_false_eq_true, nI_add, pk_mul, Nat.add_zero, Nat.zero_add, Nat.reduceAdd, Nat.reduceMul]
              refine n_as (j := 19) rfl (by decide +kernel) (show _ < 120 from by omega) ?_
              refine n_blk [(.iload_n 2, .null), (.iconst 3, .int (nI 3))] (Nat.le_of_ble_eq_true rfl) (by decide +kernel) ?_
              refine gx_iload_n_2 (gx_iconst ((gx_nil ?_)))
              refine n_icmp_lt (off := 13) (tgt := 87) (by decide +kernel) (by decide) (fun c74 => ?_) (fun c74 => ?_)
              · exact absurd c74 (by decide)
              · try simp only [bI_0, Decidable.not_not] at c74
                refine n_blk [(.iload_n 2, .null), (.iconst 5, .int (nI 5))] (Nat.le_of_ble_eq_true rfl) (by decide +kernel) ?_
                refine gx_iload_n_2 (gx_iconst ((gx_nil ?_)))
                refine n_icmp_eq (off := 8) (tgt := 87) (by decide +kernel) (by decide) (fun c79 => ?_) (fun c79 => ?_)
                · exact absurd c79 (by decide)
                · try simp only [bI_0, Decidable.not_not] at c79
                  refine n_blk [(.iload 4, .null)] (Nat.le_of_ble_eq_true rfl) (by decide +kernel) ?_
                  refine gx_iload_4 ((gx_nil ?_))
                  refine n_if_eq (off := 40) (tgt := 124) (by decide +kernel) (by decide) (fun c84 => ?_) (fun c84 => ?_)
                  · try simp only [bI_0, Decidable.not_not] at c84
                    refine n_end none rfl ⟨by decide +kernel, rfl⟩ ?_
                    exact ⟨rfl, rnF.1, fun j h1 h2 h3 => by simp [vU, h1, h2, h3], rnF.2.1, fun e he => (by rw [hR] at he; cases he), fun c p' he => by rw [hR] at he; cases he; exact ⟨e16, rfl, rnF.2.2.1, rnF.2.2.2, fun z => absurd rfl z⟩⟩
                  · exact absurd (by decide) c84
          · exact absurd c20 (by decide)
    · have hR := pnR_A (tx := tx) (n := n) (w := 3) (p := sp) ((nmv_0 (k := 3)).mpr hD)
      refine mE_of (by decide) rfl (Nat.le_of_ble_eq_true rfl) [some (.ref o), some (.int (nI (4 * k))), some (.int (nI 3)), none, none, none] rfl ?_
      refine n_blk [(.iload_n 2, .null), (.iconst 4, .int (nI 4))] (Nat.le_of_ble_eq_true rfl) (by decide +kernel) ?_
      refine gx_iload_n_2 (gx_iconst ((gx_nil ?_)))
      refine n_icmp_ge (off := 7) (tgt := 9) (by decide +kernel) (by decide) (fun c2 => ?_) (fun c2 => ?_)
      · exact absurd c2 (by decide)
      · try simp only [bI_0, Decidable.not_not] at c2
        refine n_blk [(.iconst 1, .int (nI 1)), (.goto 4, .retAddr 10), (.istore_n 3, .null), (.iload_n 2, .null), (.bipush 7, .int (nI 7))] (Nat.le_of_ble_eq_true rfl) (by decide +kernel) ?_
        refine gx_iconst (gx_goto (gx_istore_n_3 rfl (gx_iload_n_2 (gx_bipush ((gx_nil ?_))))))
        refine n_icmp_eq (off := 9) (tgt := 23) (by decide +kernel) (by decide) (fun c14 => ?_) (fun c14 => ?_)
        · exact absurd c14 (by decide)
        · try simp only [bI_0, Decidable.not_not] at c14
          refine n_blk [(.iload_n 2, .null), (.bipush 8, .int (nI 8))] (Nat.le_of_ble_eq_true rfl) (by decide +kernel) ?_
          refine gx_iload_n_2 (gx_bipush ((gx_nil ?_)))
          refine n_icmp_ne (off := 7) (tgt := 27) (by decide +kernel) (by decide) (fun c20 => ?_) (fun c20 => ?_)
          · try simp only [bI_0, Decidable.not_not] at c20
            refine n_blk [(.iconst 0, .int (nI 0)), (.istore 4, .null), (.aload_n 0, .null)] (Nat.le_of_ble_eq_true rfl) (by decide +kernel) ?_
            refine gx_iconst (gx_istore_4 rfl (gx_aload_n_0 ((gx_nil ?_))))
            refine n_getR fX10_38 (by decide +kernel) rfl ?_
            refine n_blk [(.iload_n 1, .null), (.iconst 1, .int (nI 1)), (.iadd, .null), (.aload_n 0, .null), (.iload_n 3, .null)] (Nat.le_of_ble_eq_true rfl) (by decide +kernel) ?_
            refine gx_iload_n_1 (gx_iconst (gx_iadd (gx_aload_n_0 (gx_iload_n_3 ((gx_nil ?_))))))
            try simp only [nI_add, pk_mul, Nat.add_zero, Nat.zero_add, Nat.reduceAdd, Nat.reduceMul]
            refine n_if_eq (off := 7) (tgt := 46) (by decide +kernel) (by decide) (fun c39 => ?_) (fun c39 => ?_)
            · exact absurd c39 (by decide)
            · try simp only [bI_0, Decidable.not_not] at c39
              refine n_blk [(.iconst 4, .int (nI 4)), (.goto 13, .retAddr 56)] (Nat.le_of_ble_eq_true rfl) (by decide +kernel) ?_
              refine gx_iconst (gx_goto ((gx_nil ?_)))
              refine n_call kX10_244 (r_number_no e15 e14 hsp hn hT e16 (mo := 4) (by decide) (by decide) hD) (by decide +kernel) rfl rfl (Nat.le_of_ble_eq_true rfl) (Nat.le_of_ble_eq_true rfl) (Nat.le_of_ble_eq_true rfl) rfl ?_
              simp only [Option.toList_some, List.cons_append, List.nil_append]
              refine n_as (j := 19) rfl (by decide +kernel) (show _ < 120 from by omega) ?_
              refine n_blk [(.aload_n 0, .null)] (Nat.le_of_ble_eq_true rfl) (by decide +kernel) ?_
              refine gx_aload_n_0 ((gx_nil ?_))
              refine n_getR fX10_38 (by decide +kernel) rfl ?_
              refine n_blk [(.iload_n 1, .null), (.iconst 3, .int (nI 3)), (.iadd, .null), (.aload_n 0, .null)] (Nat.le_of_ble_eq_true rfl) (by decide +kernel) ?_
              refine gx_iload_n_1 (gx_iconst (gx_iadd (gx_aload_n_0 ((gx_nil ?_)))))
              try simp only [nI_add, pk_mul, Nat.add_zero, Nat.zero_add, Nat.reduceAdd, Nat.reduceMul]
              refine n_getI fX10_230 (by decide +kernel) rfl ?_
              try simp only [vU_s, vU_n, ne_eq, Nat.reduceEqDiff, not_false_eq_true, nI_add, pk_mul, Nat.add_zero, Nat.zero_add, Nat.reduceAdd, Nat.reduceMul]
              refine n_as (j := 19) rfl (by decide +kernel) (show _ < 120 from by omega) ?_
              refine n_blk [(.iload_n 2, .null), (.iconst 3, .int (nI 3))] (Nat.le_of_ble_eq_true rfl) (by decide +kernel) ?_
              refine gx_iload_n_2 (gx_iconst ((gx_nil ?_)))
              refine n_icmp_lt (off := 13) (tgt := 87) (by decide +kernel) (by decide) (fun c74 => ?_) (fun c74 => ?_)
              · exact absurd c74 (by decide)
              · try simp only [bI_0, Decidable.not_not] at c74
                refine n_blk [(.iload_n 2, .null), (.iconst 5, .int (nI 5))] (Nat.le_of_ble_eq_true rfl) (by decide +kernel) ?_
                refine gx_iload_n_2 (gx_iconst ((gx_nil ?_)))
                refine n_icmp_eq (off := 8) (tgt := 87) (by decide +kernel) (by decide) (fun c79 => ?_) (fun c79 => ?_)
                · exact absurd c79 (by decide)
                · try simp only [bI_0, Decidable.not_not] at c79
                  refine n_blk [(.iload 4, .null)] (Nat.le_of_ble_eq_true rfl) (by decide +kernel) ?_
                  refine gx_iload_4 ((gx_nil ?_))
                  refine n_if_eq (off := 40) (tgt := 124) (by decide +kernel) (by decide) (fun c84 => ?_) (fun c84 => ?_)
                  · try simp only [bI_0, Decidable.not_not] at c84
                    refine n_end none rfl ⟨by decide +kernel, rfl⟩ ?_
                    exact ⟨rfl, rnF.1, fun j h1 h2 h3 => by simp [vU, h1, h2, h3], rnF.2.1, fun e he => by rw [hR] at he; cases he; rfl, fun c p' he => by rw [hR] at he; cases he⟩
                  · exact absurd (by decide) c84
          · exact absurd c20 (by decide)
  · by_cases hD : isD tx n sp = true
    · have h0 : ¬ (nmv tx n (kd1 4) sp 0).2 = 0 := fun z => (nmv_0 (k := 1)).mp z hD
      have hle := nmv_le (tx := tx) (n := n) (k := 2) (p := sp) (v := 0)
      have h0n : ¬ (nmv tx n 2 sp 0).2 = 0 := h0
      have hR := pnR_B0 h0 rfl
      refine mE_of (by decide) rfl (Nat.le_of_ble_eq_true rfl) [some (.ref o), some (.int (nI (4 * k))), some (.int (nI 4)), none, none, none] rfl ?_
      refine n_blk [(.iload_n 2, .null), (.iconst 4, .int (nI 4))] (Nat.le_of_ble_eq_true rfl) (by decide +kernel) ?_
      refine gx_iload_n_2 (gx_iconst ((gx_nil ?_)))
      refine n_icmp_ge (off := 7) (tgt := 9) (by decide +kernel) (by decide) (fun c2 => ?_) (fun c2 => ?_)
      · try simp only [bI_0, Decidable.not_not] at c2
        refine n_blk [(.iconst 0, .int (nI 0)), (.istore_n 3, .null), (.iload_n 2, .null), (.bipush 7, .int (nI 7))] (Nat.le_of_ble_eq_true rfl) (by decide +kernel) ?_
        refine gx_iconst (gx_istore_n_3 rfl (gx_iload_n_2 (gx_bipush ((gx_nil ?_)))))
        refine n_icmp_eq (off := 9) (tgt := 23) (by decide +kernel) (by decide) (fun c14 => ?_) (fun c14 => ?_)
        · exact absurd c14 (by decide)
        · try simp only [bI_0, Decidable.not_not] at c14
          refine n_blk [(.iload_n 2, .null), (.bipush 8, .int (nI 8))] (Nat.le_of_ble_eq_true rfl) (by decide +kernel) ?_
          refine gx_iload_n_2 (gx_bipush ((gx_nil ?_)))
          refine n_icmp_ne (off := 7) (tgt := 27) (by decide +kernel) (by decide) (fun c20 => ?_) (fun c20 => ?_)
          · try simp only [bI_0, Decidable.not_not] at c20
            refine n_blk [(.iconst 0, .int (nI 0)), (.istore 4, .null), (.aload_n 0, .null)] (Nat.le_of_ble_eq_true rfl) (by decide +kernel) ?_
            refine gx_iconst (gx_istore_4 rfl (gx_aload_n_0 ((gx_nil ?_))))
            refine n_getR fX10_38 (by decide +kernel) rfl ?_
            refine n_blk [(.iload_n 1, .null), (.iconst 1, .int (nI 1)), (.iadd, .null), (.aload_n 0, .null), (.iload_n 3, .null)] (Nat.le_of_ble_eq_true rfl) (by decide +kernel) ?_
            refine gx_iload_n_1 (gx_iconst (gx_iadd (gx_aload_n_0 (gx_iload_n_3 ((gx_nil ?_))))))
            try simp only [nI_add, pk_mul, Nat.add_zero, Nat.zero_add, Nat.reduceAdd, Nat.reduceMul]
            refine n_if_eq (off := 7) (tgt := 46) (by decide +kernel) (by decide) (fun c39 => ?_) (fun c39 => ?_)
            · try simp only [bI_0, Decidable.not_not] at c39
              refine n_blk [(.iload 4, .null)] (Nat.le_of_ble_eq_true rfl) (by decide +kernel) ?_
              refine gx_iload_4 ((gx_nil ?_))
              refine n_if_eq (off := 7) (tgt := 55) (by decide +kernel) (by decide) (fun c48 => ?_) (fun c48 => ?_)
              · try simp only [bI_0, Decidable.not_not] at c48
                refine n_blk [(.iconst 2, .int (nI 2))] (Nat.le_of_ble_eq_true rfl) (by decide +kernel) ?_
                refine gx_iconst ((gx_nil ?_))
                refine n_call kX10_244 (r_number_ok e15 e14 hsp hn hT e16 (mo := 2) (by decide) (by decide) hD) (by decide +kernel) rfl rfl (Nat.le_of_ble_eq_true rfl) (Nat.le_of_ble_eq_true rfl) (Nat.le_of_ble_eq_true rfl) rfl ?_
                simp only [Option.toList_some, List.cons_append, List.nil_append]
                refine n_as (j := 19) rfl (by decide +kernel) (show _ < 120 from by omega) ?_
                refine n_blk [(.aload_n 0, .null)] (Nat.le_of_ble_eq_true rfl) (by decide +kernel) ?_
                refine gx_aload_n_0 ((gx_nil ?_))
                refine n_getR fX10_38 (by decide +kernel) rfl ?_
                refine n_blk [(.iload_n 1, .null), (.iconst 3, .int (nI 3)), (.iadd, .null), (.aload_n 0, .null)] (Nat.le_of_ble_eq_true rfl) (by decide +kernel) ?_
                refine gx_iload_n_1 (gx_iconst (gx_iadd (gx_aload_n_0 ((gx_nil ?_)))))
                try simp only [nI_add, pk_mul, Nat.add_zero, Nat.zero_add, Nat.reduceAdd, Nat.reduceMul]
                refine n_getI fX10_230 (by decide +kernel) rfl ?_
                try simp only [vU_s, vU_n, ne_eq, Nat.reduceEqDiff, not_false_eq_true, nI_add, pk_mul, Nat.add_zero, Nat.zero_add, Nat.reduceAdd, Nat.reduceMul]
                refine n_as (j := 19) rfl (by decide +kernel) (show _ < 120 from by omega) ?_
                refine n_blk [(.iload_n 2, .null), (.iconst 3, .int (nI 3))] (Nat.le_of_ble_eq_true rfl) (by decide +kernel) ?_
                refine gx_iload_n_2 (gx_iconst ((gx_nil ?_)))
                refine n_icmp_lt (off := 13) (tgt := 87) (by decide +kernel) (by decide) (fun c74 => ?_) (fun c74 => ?_)
                · exact absurd c74 (by decide)
                · try simp only [bI_0, Decidable.not_not] at c74
                  refine n_blk [(.iload_n 2, .null), (.iconst 5, .int (nI 5))] (Nat.le_of_ble_eq_true rfl) (by decide +kernel) ?_
                  refine gx_iload_n_2 (gx_iconst ((gx_nil ?_)))
                  refine n_icmp_eq (off := 8) (tgt := 87) (by decide +kernel) (by decide) (fun c79 => ?_) (fun c79 => ?_)
                  · exact absurd c79 (by decide)
                  · try simp only [bI_0, Decidable.not_not] at c79
                    refine n_blk [(.iload 4, .null)] (Nat.le_of_ble_eq_true rfl) (by decide +kernel) ?_
                    refine gx_iload_4 ((gx_nil ?_))
                    refine n_if_eq (off := 40) (tgt := 124) (by decide +kernel) (by decide) (fun c84 => ?_) (fun c84 => ?_)
                    · try simp only [bI_0, Decidable.not_not] at c84
                      refine n_end none rfl ⟨by decide +kernel, rfl⟩ ?_
                      exact ⟨rfl, rnF.1, fun j h1 h2 h3 => by simp [vU, h1, h2, h3], rnF.2.1, fun e he => (by rw [hR] at he; cases he), fun c p' he => by rw [hR] at he; cases he; exact ⟨e16, rfl, rnF.2.2.1, rnF.2.2.2, fun z => absurd rfl z⟩⟩
                    · exact absurd (by decide) c84
              · exact absurd (by decide) c48
            · exact absurd (by decide) c39
          · exact absurd c20 (by decide)
      · exact absurd (by decide) c2
    · have hR := pnR_A (tx := tx) (n := n) (w := 4) (p := sp) ((nmv_0 (k := 1)).mpr hD)
      refine mE_of (by decide) rfl (Nat.le_of_ble_eq_true rfl) [some (.ref o), some (.int (nI (4 * k))), some (.int (nI 4)), none, none, none] rfl ?_
      refine n_blk [(.iload_n 2, .null), (.iconst 4, .int (nI 4))] (Nat.le_of_ble_eq_true rfl) (by decide +kernel) ?_
      refine gx_iload_n_2 (gx_iconst ((gx_nil ?_)))
      refine n_icmp_ge (off := 7) (tgt := 9) (by decide +kernel) (by decide) (fun c2 => ?_) (fun c2 => ?_)
      · try simp only [bI_0, Decidable.not_not] at c2
        refine n_blk [(.iconst 0, .int (nI 0)), (.istore_n 3, .null), (.iload_n 2, .null), (.bipush 7, .int (nI 7))] (Nat.le_of_ble_eq_true rfl) (by decide +kernel) ?_
        refine gx_iconst (gx_istore_n_3 rfl (gx_iload_n_2 (gx_bipush ((gx_nil ?_)))))
        refine n_icmp_eq (off := 9) (tgt := 23) (by decide +kernel) (by decide) (fun c14 => ?_) (fun c14 => ?_)
        · exact absurd c14 (by decide)
        · try simp only [bI_0, Decidable.not_not] at c14
          refine n_blk [(.iload_n 2, .null), (.bipush 8, .int (nI 8))] (Nat.le_of_ble_eq_true rfl) (by decide +kernel) ?_
          refine gx_iload_n_2 (gx_bipush ((gx_nil ?_)))
          refine n_icmp_ne (off := 7) (tgt := 27) (by decide +kernel) (by decide) (fun c20 => ?_) (fun c20 => ?_)
          · try simp only [bI_0, Decidable.not_not] at c20
            refine n_blk [(.iconst 0, .int (nI 0)), (.istore 4, .null), (.aload_n 0, .null)] (Nat.le_of_ble_eq_true rfl) (by decide +kernel) ?_
            refine gx_iconst (gx_istore_4 rfl (gx_aload_n_0 ((gx_nil ?_))))
            refine n_getR fX10_38 (by decide +kernel) rfl ?_
            refine n_blk [(.iload_n 1, .null), (.iconst 1, .int (nI 1)), (.iadd, .null), (.aload_n 0, .null), (.iload_n 3, .null)] (Nat.le_of_ble_eq_true rfl) (by decide +kernel) ?_
            refine gx_iload_n_1 (gx_iconst (gx_iadd (gx_aload_n_0 (gx_iload_n_3 ((gx_nil ?_))))))
            try simp only [nI_add, pk_mul, Nat.add_zero, Nat.zero_add, Nat.reduceAdd, Nat.reduceMul]
            refine n_if_eq (off := 7) (tgt := 46) (by decide +kernel) (by decide) (fun c39 => ?_) (fun c39 => ?_)
            · try simp only [bI_0, Decidable.not_not] at c39
              refine n_blk [(.iload 4, .null)] (Nat.le_of_ble_eq_true rfl) (by decide +kernel) ?_
              refine gx_iload_4 ((gx_nil ?_))
              refine n_if_eq (off := 7) (tgt := 55) (by decide +kernel) (by decide) (fun c48 => ?_) (fun c48 => ?_)
              · try simp only [bI_0, Decidable.not_not] at c48
                refine n_blk [(.iconst 2, .int (nI 2))] (Nat.le_of_ble_eq_true rfl) (by decide +kernel) ?_
                refine gx_iconst ((gx_nil ?_))
                refine n_call kX10_244 (r_number_no e15 e14 hsp hn hT e16 (mo := 2) (by decide) (by decide) hD) (by decide +kernel) rfl rfl (Nat.le_of_ble_eq_true rfl) (Nat.le_of_ble_eq_true rfl) (Nat.le_of_ble_eq_true rfl) rfl ?_
                simp only [Option.toList_some, List.cons_append, List.nil_append]
                refine n_as (j := 19) rfl (by decide +kernel) (show _ < 120 from by omega) ?_
                refine n_blk [(.aload_n 0, .null)] (Nat.le_of_ble_eq_true rfl) (by decide +kernel) ?_
                refine gx_aload_n_0 ((gx_nil ?_))
                refine n_getR fX10_38 (by decide +kernel) rfl ?_
                refine n_blk [(.iload_n 1, .null), (.iconst 3, .int (nI 3)), (.iadd, .null), (.aload_n 0, .null)] (Nat.le_of_ble_eq_true rfl) (by decide +kernel) ?_
                refine gx_iload_n_1 (gx_iconst (gx_iadd (gx_aload_n_0 ((gx_nil ?_)))))
                try simp only [nI_add, pk_mul, Nat.add_zero, Nat.zero_add, Nat.reduceAdd, Nat.reduceMul]
                refine n_getI fX10_230 (by decide +kernel) rfl ?_
                try simp only [vU_s, vU_n, ne_eq, Nat.reduceEqDiff, not_false_eq_true, nI_add, pk_mul, Nat.add_zero, Nat.zero_add, Nat.reduceAdd, Nat.reduceMul]
                refine n_as (j := 19) rfl (by decide +kernel) (show _ < 120 from by omega) ?_
                refine n_blk [(.iload_n 2, .null), (.iconst 3, .int (nI 3))] (Nat.le_of_ble_eq_true rfl) (by decide +kernel) ?_
                refine gx_iload_n_2 (gx_iconst ((gx_nil ?_)))
                refine n_icmp_lt (off := 13) (tgt := 87) (by decide +kernel) (by decide) (fun c74 => ?_) (fun c74 => ?_)
                · exact absurd c74 (by decide)
                · try simp only [bI_0, Decidable.not_not] at c74
                  refine n_blk [(.iload_n 2, .null), (.iconst 5, .int (nI 5))] (Nat.le_of_ble_eq_true rfl) (by decide +kernel) ?_
                  refine gx_iload_n_2 (gx_iconst ((gx_nil ?_)))
                  refine n_icmp_eq (off := 8) (tgt := 87) (by decide +kernel) (by decide) (fun c79 => ?_) (fun c79 => ?_)
                  · exact absurd c79 (by decide)
                  · try simp only [bI_0, Decidable.not_not] at c79
                    refine n_blk [(.iload 4, .null)] (Nat.le_of_ble_eq_true rfl) (by decide +kernel) ?_
                    refine gx_iload_4 ((gx_nil ?_))
                    refine n_if_eq (off := 40) (tgt := 124) (by decide +kernel) (by decide) (fun c84 => ?_) (fun c84 => ?_)
                    · try simp only [bI_0, Decidable.not_not] at c84
                      refine n_end none rfl ⟨by decide +kernel, rfl⟩ ?_
                      exact ⟨rfl, rnF.1, fun j h1 h2 h3 => by simp [vU, h1, h2, h3], rnF.2.1, fun e he => by rw [hR] at he; cases he; rfl, fun c p' he => by rw [hR] at he; cases he⟩
                    · exact absurd (by decide) c84
              · exact absurd (by decide) c48
            · exact absurd (by decide) c39
          · exact absurd c20 (by decide)
      · exact absurd (by decide) c2
  · by_cases hD : isD tx n sp = true
    · have h0 : ¬ (nmv tx n (kd1 5) sp 0).2 = 0 := fun z => (nmv_0 (k := 1)).mp z hD
      have hle := nmv_le (tx := tx) (n := n) (k := 2) (p := sp) (v := 0)
      have h0n : ¬ (nmv tx n 2 sp 0).2 = 0 := h0
      obtain ⟨p2, hp2⟩ : ∃ z, sp + (nmv tx n 2 sp 0).2 = z := ⟨_, rfl⟩
      have hp2n : p2 ≤ n := by omega
      have g15 : vU (vU V 15 (nI (sp + (nmv tx n 2 sp 0).2))) 18 (nI (nmv tx n 2 sp 0).2) 15 = nI p2 := by rw [hp2]; rfl
      have g14 : vU (vU V 15 (nI (sp + (nmv tx n 2 sp 0).2))) 18 (nI (nmv tx n 2 sp 0).2) 14 = nI n := e14
      have g16 : vU (vU V 15 (nI (sp + (nmv tx n 2 sp 0).2))) 18 (nI (nmv tx n 2 sp 0).2) 16 = -1 := e16
      have gT : ∀ i, i < n → fU (fU F 19 (4 * k + 1) (nI (nmv tx n 2 sp 0).1)) 19 (4 * k + 3) (nI (nmv tx n 2 sp 0).2) 9 i = nI (tx i) ∧ tx i < 128 := hT
      by_cases h3 : p2 < n ∧ tx p2 = 32
      · have h3r : p2 < n ∧ 32 ≤ tx p2 ∧ tx p2 ≤ 32 := by omega
        have h3k : sp + (nmv tx n (kd1 5) sp 0).2 < n ∧ tx (sp + (nmv tx n (kd1 5) sp 0).2) = 32 := by
          show sp + (nmv tx n 2 sp 0).2 < n ∧ tx (sp + (nmv tx n 2 sp 0).2) = 32
          rw [hp2]; exact h3
        by_cases hD2 : isD tx n (p2 + 1) = true
        · have hle2 := nmv_le (tx := tx) (n := n) (k := 1) (p := p2 + 1) (v := 0)
          have h4 : ¬ (nmv tx n (kd2 5) (sp + (nmv tx n (kd1 5) sp 0).2 + 1) 0).2 = 0 := fun z => (nmv_0 (k := 0)).mp z (by rw [show sp + (nmv tx n (kd1 5) sp 0).2 = p2 from hp2]; exact hD2)
          have hR := pnR_B3 h0 (by decide) h3k h4
          rw [show sp + (nmv tx n (kd1 5) sp 0).2 = p2 from hp2] at hR
          refine mE_of (by decide) rfl (Nat.le_of_ble_eq_true rfl) [some (.ref o), some (.int (nI (4 * k))), some (.int (nI 5)), none, none, none] rfl ?_
          refine n_blk [(.iload_n 2, .null), (.iconst 4, .int (nI 4))] (Nat.le_of_ble_eq_true rfl) (by decide +kernel) ?_
          refine gx_iload_n_2 (gx_iconst ((gx_nil ?_)))
          refine n_icmp_ge (off := 7) (tgt := 9) (by decide +kernel) (by decide) (fun c2 => ?_) (fun c2 => ?_)
          · try simp only [bI_0, Decidable.not_not] at c2
            refine n_blk [(.iconst 0, .int (nI 0)), (.istore_n 3, .null), (.iload_n 2, .null), (.bipush 7, .int (nI 7))] (Nat.le_of_ble_eq_true rfl) (by decide +kernel) ?_
            refine gx_iconst (gx_istore_n_3 rfl (gx_iload_n_2 (gx_bipush ((gx_nil ?_)))))
            refine n_icmp_eq (off := 9) (tgt := 23) (by decide +kernel) (by decide) (fun c14 => ?_) (fun c14 => ?_)
            · exact absurd c14 (by decide)
            · try simp only [bI_0, Decidable.not_not] at c14
              refine n_blk [(.iload_n 2, .null), (.bipush 8, .int (nI 8))] (Nat.le_of_ble_eq_true rfl) (by decide +kernel) ?_
              refine gx_iload_n_2 (gx_bipush ((gx_nil ?_)))
              refine n_icmp_ne (off := 7) (tgt := 27) (by decide +kernel) (by decide) (fun c20 => ?_) (fun c20 => ?_)
              · try simp only [bI_0, Decidable.not_not] at c20
                refine n_blk [(.iconst 0, .int (nI 0)), (.istore 4, .null), (.aload_n 0, .null)] (Nat.le_of_ble_eq_true rfl) (by decide +kernel) ?_
                refine gx_iconst (gx_istore_4 rfl (gx_aload_n_0 ((gx_nil ?_))))
                refine n_getR fX10_38 (by decide +kernel) rfl ?_
                refine n_blk [(.iload_n 1, .null), (.iconst 1, .int (nI 1)), (.iadd, .null), (.aload_n 0, .null), (.iload_n 3, .null)] (Nat.le_of_ble_eq_true rfl) (by decide +kernel) ?_
                refine gx_iload_n_1 (gx_iconst (gx_iadd (gx_aload_n_0 (gx_iload_n_3 ((gx_nil ?_))))))
                try simp only [nI_add, pk_mul, Nat.add_zero, Nat.zero_add, Nat.reduceAdd, Nat.reduceMul]
                refine n_if_eq (off := 7) (tgt := 46) (by decide +kernel) (by decide) (fun c39 => ?_) (fun c39 => ?_)
                · try simp only [bI_0, Decidable.not_not] at c39
                  refine n_blk [(.iload 4, .null)] (Nat.le_of_ble_eq_true rfl) (by decide +kernel) ?_
                  refine gx_iload_4 ((gx_nil ?_))
                  refine n_if_eq (off := 7) (tgt := 55) (by decide +kernel) (by decide) (fun c48 => ?_) (fun c48 => ?_)
                  · try simp only [bI_0, Decidable.not_not] at c48
                    refine n_blk [(.iconst 2, .int (nI 2))] (Nat.le_of_ble_eq_true rfl) (by decide +kernel) ?_
                    refine gx_iconst ((gx_nil ?_))
                    refine n_call kX10_244 (r_number_ok e15 e14 hsp hn hT e16 (mo := 2) (by decide) (by decide) hD) (by decide +kernel) rfl rfl (Nat.le_of_ble_eq_true rfl) (Nat.le_of_ble_eq_true rfl) (Nat.le_of_ble_eq_true rfl) rfl ?_
                    simp only [Option.toList_some, List.cons_append, List.nil_append]
                    refine n_as (j := 19) rfl (by decide +kernel) (show _ < 120 from by omega) ?_
                    refine n_blk [(.aload_n 0, .null)] (Nat.le_of_ble_eq_true rfl) (by decide +kernel) ?_
                    refine gx_aload_n_0 ((gx_nil ?_))
                    refine n_getR fX10_38 (by decide +kernel) rfl ?_
                    refine n_blk [(.iload_n 1, .null), (.iconst 3, .int (nI 3)), (.iadd, .null), (.aload_n 0, .null)] (Nat.le_of_ble_eq_true rfl) (by decide +kernel) ?_
                    refine gx_iload_n_1 (gx_iconst (gx_iadd (gx_aload_n_0 ((gx_nil ?_)))))
                    try simp only [nI_add, pk_mul, Nat.add_zero, Nat.zero_add, Nat.reduceAdd, Nat.reduceMul]
                    refine n_getI fX10_230 (by decide +kernel) rfl ?_
                    try simp only [vU_s, vU_n, ne_eq, Nat.reduceEqDiff, not_false_eq_true, nI_add, pk_mul, Nat.add_zero, Nat.zero_add, Nat.reduceAdd, Nat.reduceMul]
                    refine n_as (j := 19) rfl (by decide +kernel) (show _ < 120 from by omega) ?_
                    refine n_blk [(.iload_n 2, .null), (.iconst 3, .int (nI 3))] (Nat.le_of_ble_eq_true rfl) (by decide +kernel) ?_
                    refine gx_iload_n_2 (gx_iconst ((gx_nil ?_)))
                    refine n_icmp_lt (off := 13) (tgt := 87) (by decide +kernel) (by decide) (fun c74 => ?_) (fun c74 => ?_)
                    · exact absurd c74 (by decide)
                    · try simp only [bI_0, Decidable.not_not] at c74
                      refine n_blk [(.iload_n 2, .null), (.iconst 5, .int (nI 5))] (Nat.le_of_ble_eq_true rfl) (by decide +kernel) ?_
                      refine gx_iload_n_2 (gx_iconst ((gx_nil ?_)))
                      refine n_icmp_eq (off := 8) (tgt := 87) (by decide +kernel) (by decide) (fun c79 => ?_) (fun c79 => ?_)
                      · try simp only [bI_0, Decidable.not_not] at c79
                        refine n_blk [(.aload_n 0, .null), (.bipush 32, .int (nI 32)), (.bipush 32, .int (nI 32))] (Nat.le_of_ble_eq_true rfl) (by decide +kernel) ?_
                        refine gx_aload_n_0 (gx_bipush (gx_bipush ((gx_nil ?_))))
                        refine n_call kX10_227 (r_reads_ok (V := vU (vU V 15 (nI (sp + (nmv tx n 2 sp 0).2))) 18 (nI (nmv tx n 2 sp 0).2)) g15 g14 hp2n hn gT (lo := 32) (hi := 32) (by decide) (by decide) g16 h3r) (by decide +kernel) rfl rfl (Nat.le_of_ble_eq_true rfl) (Nat.le_of_ble_eq_true rfl) (Nat.le_of_ble_eq_true rfl) rfl ?_
                        simp only [Option.toList_some, List.cons_append, List.nil_append]
                        refine n_blk [(.istore 5, .null), (.aload_n 0, .null)] (Nat.le_of_ble_eq_true rfl) (by decide +kernel) ?_
                        refine gx_istore_5 rfl (gx_aload_n_0 ((gx_nil ?_)))
                        refine n_getR fX10_38 (by decide +kernel) rfl ?_
                        refine n_blk [(.iload_n 1, .null), (.iconst 2, .int (nI 2)), (.iadd, .null), (.aload_n 0, .null), (.iload_n 2, .null), (.iconst 2, .int (nI 2))] (Nat.le_of_ble_eq_true rfl) (by decide +kernel) ?_
                        refine gx_iload_n_1 (gx_iconst (gx_iadd (gx_aload_n_0 (gx_iload_n_2 (gx_iconst ((gx_nil ?_)))))))
                        try simp only [nI_add, pk_mul, Nat.add_zero, Nat.zero_add, Nat.reduceAdd, Nat.reduceMul]
                        refine n_icmp_eq (off := 8) (tgt := 115) (by decide +kernel) (by decide) (fun c107 => ?_) (fun c107 => ?_)
                        · exact absurd c107 (by decide)
                        · try simp only [bI_0, Decidable.not_not] at c107
                          refine n_blk [(.iload_n 2, .null), (.iconst 5, .int (nI 5))] (Nat.le_of_ble_eq_true rfl) (by decide +kernel) ?_
                          refine gx_iload_n_2 (gx_iconst ((gx_nil ?_)))
                          refine n_icmp_ne (off := 7) (tgt := 119) (by decide +kernel) (by decide) (fun c112 => ?_) (fun c112 => ?_)
                          · exact absurd (by decide) c112
                          · try simp only [bI_0, Decidable.not_not] at c112
                            refine n_blk [(.iconst 1, .int (nI 1)), (.goto 4, .retAddr 120)] (Nat.le_of_ble_eq_true rfl) (by decide +kernel) ?_
                            refine gx_iconst (gx_goto ((gx_nil ?_)))
                            refine n_call kX10_244 (r_number_ok (sp := p2 + 1) (V := vU (vU (vU V 15 (nI (sp + (nmv tx n 2 sp 0).2))) 18 (nI (nmv tx n 2 sp 0).2)) 15 (nI (p2 + 1))) rfl e14 (by omega) hn gT e16 (mo := 1) (by decide) (by decide) hD2) (by decide +kernel) rfl rfl (Nat.le_of_ble_eq_true rfl) (Nat.le_of_ble_eq_true rfl) (Nat.le_of_ble_eq_true rfl) rfl ?_
                            simp only [Option.toList_some, List.cons_append, List.nil_append]
                            refine n_as (j := 19) rfl (by decide +kernel) (show _ < 120 from by omega) ?_
                            refine n_end none rfl ⟨by decide +kernel, rfl⟩ ?_
                            exact ⟨rfl, rnF3.1, fun j h1 h2 h3 => by simp [vU, h1, h2, h3], rnF3.2.1, fun e he => (by rw [hR] at he; cases he), fun c p' he => by rw [hR] at he; cases he; exact ⟨e16, rfl, rnF3.2.2.1, rnF3.2.2.2.1, fun _ => rnF3.2.2.2.2⟩⟩
                      · exact absurd (by decide) c79
                  · exact absurd (by decide) c48
                · exact absurd (by decide) c39
              · exact absurd c20 (by decide)
          · exact absurd (by decide) c2
        · have h4 : (nmv tx n (kd2 5) (sp + (nmv tx n (kd1 5) sp 0).2 + 1) 0).2 = 0 := (nmv_0 (k := 0)).mpr (by rw [show sp + (nmv tx n (kd1 5) sp 0).2 = p2 from hp2]; exact hD2)
          have hR := pnR_B2 h0 (by decide) h3k h4
          rw [show sp + (nmv tx n (kd1 5) sp 0).2 = p2 from hp2] at hR
          refine mE_of (by decide) rfl (Nat.le_of_ble_eq_true rfl) [some (.ref o), some (.int (nI (4 * k))), some (.int (nI 5)), none, none, none] rfl ?_
          refine n_blk [(.iload_n 2, .null), (.iconst 4, .int (nI 4))] (Nat.le_of_ble_eq_true rfl) (by decide +kernel) ?_
          refine gx_iload_n_2 (gx_iconst ((gx_nil ?_)))
          refine n_icmp_ge (off := 7) (tgt := 9) (by decide +kernel) (by decide) (fun c2 => ?_) (fun c2 => ?_)
          · try simp only [bI_0, Decidable.not_not] at c2
            refine n_blk [(.iconst 0, .int (nI 0)), (.istore_n 3, .null), (.iload_n 2, .null), (.bipush 7, .int (nI 7))] (Nat.le_of_ble_eq_true rfl) (by decide +kernel) ?_
            refine gx_iconst (gx_istore_n_3 rfl (gx_iload_n_2 (gx_bipush ((gx_nil ?_)))))
            refine n_icmp_eq (off := 9) (tgt := 23) (by decide +kernel) (by decide) (fun c14 => ?_) (fun c14 => ?_)
            · exact absurd c14 (by decide)
            · try simp only [bI_0, Decidable.not_not] at c14
              refine n_blk [(.iload_n 2, .null), (.bipush 8, .int (nI 8))] (Nat.le_of_ble_eq_true rfl) (by decide +kernel) ?_
              refine gx_iload_n_2 (gx_bipush ((gx_nil ?_)))
              refine n_icmp_ne (off := 7) (tgt := 27) (by decide +kernel) (by decide) (fun c20 => ?_) (fun c20 => ?_)
              · try simp only [bI_0, Decidable.not_not] at c20
                refine n_blk [(.iconst 0, .int (nI 0)), (.istore 4, .null), (.aload_n 0, .null)] (Nat.le_of_ble_eq_true rfl) (by decide +kernel) ?_
                refine gx_iconst (gx_istore_4 rfl (gx_aload_n_0 ((gx_nil ?_))))
                refine n_getR fX10_38 (by decide +kernel) rfl ?_
                refine n_blk [(.iload_n 1, .null), (.iconst 1, .int (nI 1)), (.iadd, .null), (.aload_n 0, .null), (.iload_n 3, .null)] (Nat.le_of_ble_eq_true rfl) (by decide +kernel) ?_
                refine gx_iload_n_1 (gx_iconst (gx_iadd (gx_aload_n_0 (gx_iload_n_3 ((gx_nil ?_))))))
                try simp only [nI_add, pk_mul, Nat.add_zero, Nat.zero_add, Nat.reduceAdd, Nat.reduceMul]
                refine n_if_eq (off := 7) (tgt := 46) (by decide +kernel) (by decide) (fun c39 => ?_) (fun c39 => ?_)
                · try simp only [bI_0, Decidable.not_not] at c39
                  refine n_blk [(.iload 4, .null)] (Nat.le_of_ble_eq_true rfl) (by decide +kernel) ?_
                  refine gx_iload_4 ((gx_nil ?_))
                  refine n_if_eq (off := 7) (tgt := 55) (by decide +kernel) (by decide) (fun c48 => ?_) (fun c48 => ?_)
                  · try simp only [bI_0, Decidable.not_not] at c48
                    refine n_blk [(.iconst 2, .int (nI 2))] (Nat.le_of_ble_eq_true rfl) (by decide +kernel) ?_
                    refine gx_iconst ((gx_nil ?_))
                    refine n_call kX10_244 (r_number_ok e15 e14 hsp hn hT e16 (mo := 2) (by decide) (by decide) hD) (by decide +kernel) rfl rfl (Nat.le_of_ble_eq_true rfl) (Nat.le_of_ble_eq_true rfl) (Nat.le_of_ble_eq_true rfl) rfl ?_
                    simp only [Option.toList_some, List.cons_append, List.nil_append]
                    refine n_as (j := 19) rfl (by decide +kernel) (show _ < 120 from by omega) ?_
                    refine n_blk [(.aload_n 0, .null)] (Nat.le_of_ble_eq_true rfl) (by decide +kernel) ?_
                    refine gx_aload_n_0 ((gx_nil ?_))
                    refine n_getR fX10_38 (by decide +kernel) rfl ?_
                    refine n_blk [(.iload_n 1, .null), (.iconst 3, .int (nI 3)), (.iadd, .null), (.aload_n 0, .null)] (Nat.le_of_ble_eq_true rfl) (by decide +kernel) ?_
                    refine gx_iload_n_1 (gx_iconst (gx_iadd (gx_aload_n_0 ((gx_nil ?_)))))
                    try simp only [nI_add, pk_mul, Nat.add_zero, Nat.zero_add, Nat.reduceAdd, Nat.reduceMul]
                    refine n_getI fX10_230 (by decide +kernel) rfl ?_
                    try simp only [vU_s, vU_n, ne_eq, Nat.reduceEqDiff, not_false_eq_true, nI_add, pk_mul, Nat.add_zero, Nat.zero_add, Nat.reduceAdd, Nat.reduceMul]
                    refine n_as (j := 19) rfl (by decide +kernel) (show _ < 120 from by omega) ?_
                    refine n_blk [(.iload_n 2, .null), (.iconst 3, .int (nI 3))] (Nat.le_of_ble_eq_true rfl) (by decide +kernel) ?_
                    refine gx_iload_n_2 (gx_iconst ((gx_nil ?_)))
                    refine n_icmp_lt (off := 13) (tgt := 87) (by decide +kernel) (by decide) (fun c74 => ?_) (fun c74 => ?_)
                    · exact absurd c74 (by decide)
                    · try simp only [bI_0, Decidable.not_not] at c74
                      refine n_blk [(.iload_n 2, .null), (.iconst 5, .int (nI 5))] (Nat.le_of_ble_eq_true rfl) (by decide +kernel) ?_
                      refine gx_iload_n_2 (gx_iconst ((gx_nil ?_)))
                      refine n_icmp_eq (off := 8) (tgt := 87) (by decide +kernel) (by decide) (fun c79 => ?_) (fun c79 => ?_)
                      · try simp only [bI_0, Decidable.not_not] at c79
                        refine n_blk [(.aload_n 0, .null), (.bipush 32, .int (nI 32)), (.bipush 32, .int (nI 32))] (Nat.le_of_ble_eq_true rfl) (by decide +kernel) ?_
                        refine gx_aload_n_0 (gx_bipush (gx_bipush ((gx_nil ?_))))
                        refine n_call kX10_227 (r_reads_ok (V := vU (vU V 15 (nI (sp + (nmv tx n 2 sp 0).2))) 18 (nI (nmv tx n 2 sp 0).2)) g15 g14 hp2n hn gT (lo := 32) (hi := 32) (by decide) (by decide) g16 h3r) (by decide +kernel) rfl rfl (Nat.le_of_ble_eq_true rfl) (Nat.le_of_ble_eq_true rfl) (Nat.le_of_ble_eq_true rfl) rfl ?_
                        simp only [Option.toList_some, List.cons_append, List.nil_append]
                        refine n_blk [(.istore 5, .null), (.aload_n 0, .null)] (Nat.le_of_ble_eq_true rfl) (by decide +kernel) ?_
                        refine gx_istore_5 rfl (gx_aload_n_0 ((gx_nil ?_)))
                        refine n_getR fX10_38 (by decide +kernel) rfl ?_
                        refine n_blk [(.iload_n 1, .null), (.iconst 2, .int (nI 2)), (.iadd, .null), (.aload_n 0, .null), (.iload_n 2, .null), (.iconst 2, .int (nI 2))] (Nat.le_of_ble_eq_true rfl) (by decide +kernel) ?_
                        refine gx_iload_n_1 (gx_iconst (gx_iadd (gx_aload_n_0 (gx_iload_n_2 (gx_iconst ((gx_nil ?_)))))))
                        try simp only [nI_add, pk_mul, Nat.add_zero, Nat.zero_add, Nat.reduceAdd, Nat.reduceMul]
                        refine n_icmp_eq (off := 8) (tgt := 115) (by decide +kernel) (by decide) (fun c107 => ?_) (fun c107 => ?_)
                        · exact absurd c107 (by decide)
                        · try simp only [bI_0, Decidable.not_not] at c107
                          refine n_blk [(.iload_n 2, .null), (.iconst 5, .int (nI 5))] (Nat.le_of_ble_eq_true rfl) (by decide +kernel) ?_
                          refine gx_iload_n_2 (gx_iconst ((gx_nil ?_)))
                          refine n_icmp_ne (off := 7) (tgt := 119) (by decide +kernel) (by decide) (fun c112 => ?_) (fun c112 => ?_)
                          · exact absurd (by decide) c112
                          · try simp only [bI_0, Decidable.not_not] at c112
                            refine n_blk [(.iconst 1, .int (nI 1)), (.goto 4, .retAddr 120)] (Nat.le_of_ble_eq_true rfl) (by decide +kernel) ?_
                            refine gx_iconst (gx_goto ((gx_nil ?_)))
                            refine n_call kX10_244 (r_number_no (sp := p2 + 1) (V := vU (vU (vU V 15 (nI (sp + (nmv tx n 2 sp 0).2))) 18 (nI (nmv tx n 2 sp 0).2)) 15 (nI (p2 + 1))) rfl e14 (by omega) hn gT e16 (mo := 1) (by decide) (by decide) hD2) (by decide +kernel) rfl rfl (Nat.le_of_ble_eq_true rfl) (Nat.le_of_ble_eq_true rfl) (Nat.le_of_ble_eq_true rfl) rfl ?_
                            simp only [Option.toList_some, List.cons_append, List.nil_append]
                            refine n_as (j := 19) rfl (by decide +kernel) (show _ < 120 from by omega) ?_
                            refine n_end none rfl ⟨by decide +kernel, rfl⟩ ?_
                            exact ⟨rfl, rnF3.1, fun j h1 h2 h3 => by simp [vU, h1, h2, h3], rnF3.2.1, fun e he => by rw [hR] at he; cases he; rfl, fun c p' he => by rw [hR] at he; cases he⟩
                      · exact absurd (by decide) c79
                  · exact absurd (by decide) c48
                · exact absurd (by decide) c39
              · exact absurd c20 (by decide)
          · exact absurd (by decide) c2
      · have hR := pnR_B1 h0 (by decide) (fun z => h3 (by rw [show sp + (nmv tx n (kd1 5) sp 0).2 = p2 from hp2] at z; exact z))
        rw [show sp + (nmv tx n (kd1 5) sp 0).2 = p2 from hp2] at hR
        have hw16 : ¬ vU (vU (vU V 15 (nI (sp + (nmv tx n 2 sp 0).2))) 18 (nI (nmv tx n 2 sp 0).2)) 16 (nI p2) 16 = -1 := nI_nm1 (by omega)
        refine mE_of (by decide) rfl (Nat.le_of_ble_eq_true rfl) [some (.ref o), some (.int (nI (4 * k))), some (.int (nI 5)), none, none, none] rfl ?_
        refine n_blk [(.iload_n 2, .null), (.iconst 4, .int (nI 4))] (Nat.le_of_ble_eq_true rfl) (by decide +kernel) ?_
        refine gx_iload_n_2 (gx_iconst ((gx_nil ?_)))
        refine n_icmp_ge (off := 7) (tgt := 9) (by decide +kernel) (by decide) (fun c2 => ?_) (fun c2 => ?_)
        · try simp only [bI_0, Decidable.not_not] at c2
          refine n_blk [(.iconst 0, .int (nI 0)), (.istore_n 3, .null), (.iload_n 2, .null), (.bipush 7, .int (nI 7))] (Nat.le_of_ble_eq_true rfl) (by decide +kernel) ?_
          refine gx_iconst (gx_istore_n_3 rfl (gx_iload_n_2 (gx_bipush ((gx_nil ?_)))))
          refine n_icmp_eq (off := 9) (tgt := 23) (by decide +kernel) (by decide) (fun c14 => ?_) (fun c14 => ?_)
          · exact absurd c14 (by decide)
          · try simp only [bI_0, Decidable.not_not] at c14
            refine n_blk [(.iload_n 2, .null), (.bipush 8, .int (nI 8))] (Nat.le_of_ble_eq_true rfl) (by decide +kernel) ?_
            refine gx_iload_n_2 (gx_bipush ((gx_nil ?_)))
            refine n_icmp_ne (off := 7) (tgt := 27) (by decide +kernel) (by decide) (fun c20 => ?_) (fun c20 => ?_)
            · try simp only [bI_0, Decidable.not_not] at c20
              refine n_blk [(.iconst 0, .int (nI 0)), (.istore 4, .null), (.aload_n 0, .null)] (Nat.le_of_ble_eq_true rfl) (by decide +kernel) ?_
              refine gx_iconst (gx_istore_4 rfl (gx_aload_n_0 ((gx_nil ?_))))
              refine n_getR fX10_38 (by decide +kernel) rfl ?_
              refine n_blk [(.iload_n 1, .null), (.iconst 1, .int (nI 1)), (.iadd, .null), (.aload_n 0, .null), (.iload_n 3, .null)] (Nat.le_of_ble_eq_true rfl) (by decide +kernel) ?_
              refine gx_iload_n_1 (gx_iconst (gx_iadd (gx_aload_n_0 (gx_iload_n_3 ((gx_nil ?_))))))
              try simp only [nI_add, pk_mul, Nat.add_zero, Nat.zero_add, Nat.reduceAdd, Nat.reduceMul]
              refine n_if_eq (off := 7) (tgt := 46) (by decide +kernel) (by decide) (fun c39 => ?_) (fun c39 => ?_)
              · try simp only [bI_0, Decidable.not_not] at c39
                refine n_blk [(.iload 4, .null)] (Nat.le_of_ble_eq_true rfl) (by decide +kernel) ?_
                refine gx_iload_4 ((gx_nil ?_))
                refine n_if_eq (off := 7) (tgt := 55) (by decide +kernel) (by decide) (fun c48 => ?_) (fun c48 => ?_)
                · try simp only [bI_0, Decidable.not_not] at c48
                  refine n_blk [(.iconst 2, .int (nI 2))] (Nat.le_of_ble_eq_true rfl) (by decide +kernel) ?_
                  refine gx_iconst ((gx_nil ?_))
                  refine n_call kX10_244 (r_number_ok e15 e14 hsp hn hT e16 (mo := 2) (by decide) (by decide) hD) (by decide +kernel) rfl rfl (Nat.le_of_ble_eq_true rfl) (Nat.le_of_ble_eq_true rfl) (Nat.le_of_ble_eq_true rfl) rfl ?_
                  simp only [Option.toList_some, List.cons_append, List.nil_append]
                  refine n_as (j := 19) rfl (by decide +kernel) (show _ < 120 from by omega) ?_
                  refine n_blk [(.aload_n 0, .null)] (Nat.le_of_ble_eq_true rfl) (by decide +kernel) ?_
                  refine gx_aload_n_0 ((gx_nil ?_))
                  refine n_getR fX10_38 (by decide +kernel) rfl ?_
                  refine n_blk [(.iload_n 1, .null), (.iconst 3, .int (nI 3)), (.iadd, .null), (.aload_n 0, .null)] (Nat.le_of_ble_eq_true rfl) (by decide +kernel) ?_
                  refine gx_iload_n_1 (gx_iconst (gx_iadd (gx_aload_n_0 ((gx_nil ?_)))))
                  try simp only [nI_add, pk_mul, Nat.add_zero, Nat.zero_add, Nat.reduceAdd, Nat.reduceMul]
                  refine n_getI fX10_230 (by decide +kernel) rfl ?_
                  try simp only [vU_s, vU_n, ne_eq, Nat.reduceEqDiff, not_false_eq_true, nI_add, pk_mul, Nat.add_zero, Nat.zero_add, Nat.reduceAdd, Nat.reduceMul]
                  refine n_as (j := 19) rfl (by decide +kernel) (show _ < 120 from by omega) ?_
                  refine n_blk [(.iload_n 2, .null), (.iconst 3, .int (nI 3))] (Nat.le_of_ble_eq_true rfl) (by decide +kernel) ?_
                  refine gx_iload_n_2 (gx_iconst ((gx_nil ?_)))
                  refine n_icmp_lt (off := 13) (tgt := 87) (by decide +kernel) (by decide) (fun c74 => ?_) (fun c74 => ?_)
                  · exact absurd c74 (by decide)
                  · try simp only [bI_0, Decidable.not_not] at c74
                    refine n_blk [(.iload_n 2, .null), (.iconst 5, .int (nI 5))] (Nat.le_of_ble_eq_true rfl) (by decide +kernel) ?_
                    refine gx_iload_n_2 (gx_iconst ((gx_nil ?_)))
                    refine n_icmp_eq (off := 8) (tgt := 87) (by decide +kernel) (by decide) (fun c79 => ?_) (fun c79 => ?_)
                    · try simp only [bI_0, Decidable.not_not] at c79
                      refine n_blk [(.aload_n 0, .null), (.bipush 32, .int (nI 32)), (.bipush 32, .int (nI 32))] (Nat.le_of_ble_eq_true rfl) (by decide +kernel) ?_
                      refine gx_aload_n_0 (gx_bipush (gx_bipush ((gx_nil ?_))))
                      refine n_call kX10_227 (r_reads_no (V := vU (vU V 15 (nI (sp + (nmv tx n 2 sp 0).2))) 18 (nI (nmv tx n 2 sp 0).2)) g15 g14 hp2n hn gT (lo := 32) (hi := 32) (by decide) (by decide) (fun z => h3 (by omega))) (by decide +kernel) rfl rfl (Nat.le_of_ble_eq_true rfl) (Nat.le_of_ble_eq_true rfl) (Nat.le_of_ble_eq_true rfl) rfl ?_
                      rw [if_pos g16]
                      simp only [Option.toList_some, List.cons_append, List.nil_append]
                      refine n_blk [(.istore 5, .null), (.aload_n 0, .null)] (Nat.le_of_ble_eq_true rfl) (by decide +kernel) ?_
                      refine gx_istore_5 rfl (gx_aload_n_0 ((gx_nil ?_)))
                      refine n_getR fX10_38 (by decide +kernel) rfl ?_
                      refine n_blk [(.iload_n 1, .null), (.iconst 2, .int (nI 2)), (.iadd, .null), (.aload_n 0, .null), (.iload_n 2, .null), (.iconst 2, .int (nI 2))] (Nat.le_of_ble_eq_true rfl) (by decide +kernel) ?_
                      refine gx_iload_n_1 (gx_iconst (gx_iadd (gx_aload_n_0 (gx_iload_n_2 (gx_iconst ((gx_nil ?_)))))))
                      try simp only [nI_add, pk_mul, Nat.add_zero, Nat.zero_add, Nat.reduceAdd, Nat.reduceMul]
                      refine n_icmp_eq (off := 8) (tgt := 115) (by decide +kernel) (by decide) (fun c107 => ?_) (fun c107 => ?_)
                      · exact absurd c107 (by decide)
                      · try simp only [bI_0, Decidable.not_not] at c107
                        refine n_blk [(.iload_n 2, .null), (.iconst 5, .int (nI 5))] (Nat.le_of_ble_eq_true rfl) (by decide +kernel) ?_
                        refine gx_iload_n_2 (gx_iconst ((gx_nil ?_)))
                        refine n_icmp_ne (off := 7) (tgt := 119) (by decide +kernel) (by decide) (fun c112 => ?_) (fun c112 => ?_)
                        · exact absurd (by decide) c112
                        · try simp only [bI_0, Decidable.not_not] at c112
                          refine n_blk [(.iconst 1, .int (nI 1)), (.goto 4, .retAddr 120)] (Nat.le_of_ble_eq_true rfl) (by decide +kernel) ?_
                          refine gx_iconst (gx_goto ((gx_nil ?_)))
                          refine n_call kX10_244 (r_number_wr (sp := p2) (V := vU (vU (vU V 15 (nI (sp + (nmv tx n 2 sp 0).2))) 18 (nI (nmv tx n 2 sp 0).2)) 16 (nI p2)) g15 e14 hp2n hn gT hw16 (mo := 1) (by decide) (by decide)) (by decide +kernel) rfl rfl (Nat.le_of_ble_eq_true rfl) (Nat.le_of_ble_eq_true rfl) (Nat.le_of_ble_eq_true rfl) rfl ?_
                          simp only [Option.toList_some, List.cons_append, List.nil_append]
                          refine n_as (j := 19) rfl (by decide +kernel) (show _ < 120 from by omega) ?_
                          refine n_end none rfl ⟨by decide +kernel, rfl⟩ ?_
                          exact ⟨rfl, rnF3.1, fun j h1 h2 h3 => by simp [vU, h1, h2, h3], rnF3.2.1, fun e he => by rw [hR] at he; cases he; rfl, fun c p' he => by rw [hR] at he; cases he⟩
                    · exact absurd (by decide) c79
                · exact absurd (by decide) c48
              · exact absurd (by decide) c39
            · exact absurd c20 (by decide)
        · exact absurd (by decide) c2
    · have hR := pnR_A (tx := tx) (n := n) (w := 5) (p := sp) ((nmv_0 (k := 1)).mpr hD)
      have gT : ∀ i, i < n → fU (fU F 19 (4 * k + 1) (nI 0)) 19 (4 * k + 3) (nI 1) 9 i = nI (tx i) ∧ tx i < 128 := hT
      have hw16 : ¬ vU (vU V 16 (nI sp)) 18 (nI 1) 16 = -1 := nI_nm1 (by omega)
      refine mE_of (by decide) rfl (Nat.le_of_ble_eq_true rfl) [some (.ref o), some (.int (nI (4 * k))), some (.int (nI 5)), none, none, none] rfl ?_
      refine n_blk [(.iload_n 2, .null), (.iconst 4, .int (nI 4))] (Nat.le_of_ble_eq_true rfl) (by decide +kernel) ?_
      refine gx_iload_n_2 (gx_iconst ((gx_nil ?_)))
      refine n_icmp_ge (off := 7) (tgt := 9) (by decide +kernel) (by decide) (fun c2 => ?_) (fun c2 => ?_)
      · try simp only [bI_0, Decidable.not_not] at c2
        refine n_blk [(.iconst 0, .int (nI 0)), (.istore_n 3, .null), (.iload_n 2, .null), (.bipush 7, .int (nI 7))] (Nat.le_of_ble_eq_true rfl) (by decide +kernel) ?_
        refine gx_iconst (gx_istore_n_3 rfl (gx_iload_n_2 (gx_bipush ((gx_nil ?_)))))
        refine n_icmp_eq (off := 9) (tgt := 23) (by decide +kernel) (by decide) (fun c14 => ?_) (fun c14 => ?_)
        · exact absurd c14 (by decide)
        · try simp only [bI_0, Decidable.not_not] at c14
          refine n_blk [(.iload_n 2, .null), (.bipush 8, .int (nI 8))] (Nat.le_of_ble_eq_true rfl) (by decide +kernel) ?_
          refine gx_iload_n_2 (gx_bipush ((gx_nil ?_)))
          refine n_icmp_ne (off := 7) (tgt := 27) (by decide +kernel) (by decide) (fun c20 => ?_) (fun c20 => ?_)
          · try simp only [bI_0, Decidable.not_not] at c20
            refine n_blk [(.iconst 0, .int (nI 0)), (.istore 4, .null), (.aload_n 0, .null)] (Nat.le_of_ble_eq_true rfl) (by decide +kernel) ?_
            refine gx_iconst (gx_istore_4 rfl (gx_aload_n_0 ((gx_nil ?_))))
            refine n_getR fX10_38 (by decide +kernel) rfl ?_
            refine n_blk [(.iload_n 1, .null), (.iconst 1, .int (nI 1)), (.iadd, .null), (.aload_n 0, .null), (.iload_n 3, .null)] (Nat.le_of_ble_eq_true rfl) (by decide +kernel) ?_
            refine gx_iload_n_1 (gx_iconst (gx_iadd (gx_aload_n_0 (gx_iload_n_3 ((gx_nil ?_))))))
            try simp only [nI_add, pk_mul, Nat.add_zero, Nat.zero_add, Nat.reduceAdd, Nat.reduceMul]
            refine n_if_eq (off := 7) (tgt := 46) (by decide +kernel) (by decide) (fun c39 => ?_) (fun c39 => ?_)
            · try simp only [bI_0, Decidable.not_not] at c39
              refine n_blk [(.iload 4, .null)] (Nat.le_of_ble_eq_true rfl) (by decide +kernel) ?_
              refine gx_iload_4 ((gx_nil ?_))
              refine n_if_eq (off := 7) (tgt := 55) (by decide +kernel) (by decide) (fun c48 => ?_) (fun c48 => ?_)
              · try simp only [bI_0, Decidable.not_not] at c48
                refine n_blk [(.iconst 2, .int (nI 2))] (Nat.le_of_ble_eq_true rfl) (by decide +kernel) ?_
                refine gx_iconst ((gx_nil ?_))
                refine n_call kX10_244 (r_number_no e15 e14 hsp hn hT e16 (mo := 2) (by decide) (by decide) hD) (by decide +kernel) rfl rfl (Nat.le_of_ble_eq_true rfl) (Nat.le_of_ble_eq_true rfl) (Nat.le_of_ble_eq_true rfl) rfl ?_
                simp only [Option.toList_some, List.cons_append, List.nil_append]
                refine n_as (j := 19) rfl (by decide +kernel) (show _ < 120 from by omega) ?_
                refine n_blk [(.aload_n 0, .null)] (Nat.le_of_ble_eq_true rfl) (by decide +kernel) ?_
                refine gx_aload_n_0 ((gx_nil ?_))
                refine n_getR fX10_38 (by decide +kernel) rfl ?_
                refine n_blk [(.iload_n 1, .null), (.iconst 3, .int (nI 3)), (.iadd, .null), (.aload_n 0, .null)] (Nat.le_of_ble_eq_true rfl) (by decide +kernel) ?_
                refine gx_iload_n_1 (gx_iconst (gx_iadd (gx_aload_n_0 ((gx_nil ?_)))))
                try simp only [nI_add, pk_mul, Nat.add_zero, Nat.zero_add, Nat.reduceAdd, Nat.reduceMul]
                refine n_getI fX10_230 (by decide +kernel) rfl ?_
                try simp only [vU_s, vU_n, ne_eq, Nat.reduceEqDiff, not_false_eq_true, nI_add, pk_mul, Nat.add_zero, Nat.zero_add, Nat.reduceAdd, Nat.reduceMul]
                refine n_as (j := 19) rfl (by decide +kernel) (show _ < 120 from by omega) ?_
                refine n_blk [(.iload_n 2, .null), (.iconst 3, .int (nI 3))] (Nat.le_of_ble_eq_true rfl) (by decide +kernel) ?_
                refine gx_iload_n_2 (gx_iconst ((gx_nil ?_)))
                refine n_icmp_lt (off := 13) (tgt := 87) (by decide +kernel) (by decide) (fun c74 => ?_) (fun c74 => ?_)
                · exact absurd c74 (by decide)
                · try simp only [bI_0, Decidable.not_not] at c74
                  refine n_blk [(.iload_n 2, .null), (.iconst 5, .int (nI 5))] (Nat.le_of_ble_eq_true rfl) (by decide +kernel) ?_
                  refine gx_iload_n_2 (gx_iconst ((gx_nil ?_)))
                  refine n_icmp_eq (off := 8) (tgt := 87) (by decide +kernel) (by decide) (fun c79 => ?_) (fun c79 => ?_)
                  · try simp only [bI_0, Decidable.not_not] at c79
                    refine n_blk [(.aload_n 0, .null), (.bipush 32, .int (nI 32)), (.bipush 32, .int (nI 32))] (Nat.le_of_ble_eq_true rfl) (by decide +kernel) ?_
                    refine gx_aload_n_0 (gx_bipush (gx_bipush ((gx_nil ?_))))
                    refine n_call kX10_227 (r_reads_no (V := vU (vU V 16 (nI sp)) 18 (nI 1)) e15 e14 hsp hn gT (lo := 32) (hi := 32) (by decide) (by decide) (fun z => hw16 z.1)) (by decide +kernel) rfl rfl (Nat.le_of_ble_eq_true rfl) (Nat.le_of_ble_eq_true rfl) (Nat.le_of_ble_eq_true rfl) rfl ?_
                    rw [if_neg hw16, show vU (vU V 16 (nI sp)) 18 (nI 1) 16 = nI sp from rfl]
                    simp only [Option.toList_some, List.cons_append, List.nil_append]
                    refine n_blk [(.istore 5, .null), (.aload_n 0, .null)] (Nat.le_of_ble_eq_true rfl) (by decide +kernel) ?_
                    refine gx_istore_5 rfl (gx_aload_n_0 ((gx_nil ?_)))
                    refine n_getR fX10_38 (by decide +kernel) rfl ?_
                    refine n_blk [(.iload_n 1, .null), (.iconst 2, .int (nI 2)), (.iadd, .null), (.aload_n 0, .null), (.iload_n 2, .null), (.iconst 2, .int (nI 2))] (Nat.le_of_ble_eq_true rfl) (by decide +kernel) ?_
                    refine gx_iload_n_1 (gx_iconst (gx_iadd (gx_aload_n_0 (gx_iload_n_2 (gx_iconst ((gx_nil ?_)))))))
                    try simp only [nI_add, pk_mul, Nat.add_zero, Nat.zero_add, Nat.reduceAdd, Nat.reduceMul]
                    refine n_icmp_eq (off := 8) (tgt := 115) (by decide +kernel) (by decide) (fun c107 => ?_) (fun c107 => ?_)
                    · exact absurd c107 (by decide)
                    · try simp only [bI_0, Decidable.not_not] at c107
                      refine n_blk [(.iload_n 2, .null), (.iconst 5, .int (nI 5))] (Nat.le_of_ble_eq_true rfl) (by decide +kernel) ?_
                      refine gx_iload_n_2 (gx_iconst ((gx_nil ?_)))
                      refine n_icmp_ne (off := 7) (tgt := 119) (by decide +kernel) (by decide) (fun c112 => ?_) (fun c112 => ?_)
                      · exact absurd (by decide) c112
                      · try simp only [bI_0, Decidable.not_not] at c112
                        refine n_blk [(.iconst 1, .int (nI 1)), (.goto 4, .retAddr 120)] (Nat.le_of_ble_eq_true rfl) (by decide +kernel) ?_
                        refine gx_iconst (gx_goto ((gx_nil ?_)))
                        refine n_call kX10_244 (r_number_wr (sp := sp) (V := vU (vU (vU V 16 (nI sp)) 18 (nI 1)) 16 (nI sp)) e15 e14 hsp hn gT hw16 (mo := 1) (by decide) (by decide)) (by decide +kernel) rfl rfl (Nat.le_of_ble_eq_true rfl) (Nat.le_of_ble_eq_true rfl) (Nat.le_of_ble_eq_true rfl) rfl ?_
                        simp only [Option.toList_some, List.cons_append, List.nil_append]
                        refine n_as (j := 19) rfl (by decide +kernel) (show _ < 120 from by omega) ?_
                        refine n_end none rfl ⟨by decide +kernel, rfl⟩ ?_
                        exact ⟨rfl, rnF3.1, fun j h1 h2 h3 => by simp [vU, h1, h2, h3], rnF3.2.1, fun e he => by rw [hR] at he; cases he; rfl, fun c p' he => by rw [hR] at he; cases he⟩
                  · exact absurd (by decide) c79
              · exact absurd (by decide) c48
            · exact absurd (by decide) c39
          · exact absurd c20 (by decide)
      · exact absurd (by decide) c2
  · by_cases hD : isD tx n sp = true
    · have h0 : ¬ (nmv tx n (kd1 6) sp 0).2 = 0 := fun z => (nmv_0 (k := 1)).mp z hD
      have hle := nmv_le (tx := tx) (n := n) (k := 2) (p := sp) (v := 0)
      have h0n : ¬ (nmv tx n 2 sp 0).2 = 0 := h0
      have hR := pnR_B0 h0 rfl
      refine mE_of (by decide) rfl (Nat.le_of_ble_eq_true rfl) [some (.ref o), some (.int (nI (4 * k))), some (.int (nI 6)), none, none, none] rfl ?_
      refine n_blk [(.iload_n 2, .null), (.iconst 4, .int (nI 4))] (Nat.le_of_ble_eq_true rfl) (by decide +kernel) ?_
      refine gx_iload_n_2 (gx_iconst ((gx_nil ?_)))
      refine n_icmp_ge (off := 7) (tgt := 9) (by decide +kernel) (by decide) (fun c2 => ?_) (fun c2 => ?_)
      · try simp only [bI_0, Decidable.not_not] at c2
        refine n_blk [(.iconst 0, .int (nI 0)), (.istore_n 3, .null), (.iload_n 2, .null), (.bipush 7, .int (nI 7))] (Nat.le_of_ble_eq_true rfl) (by decide +kernel) ?_
        refine gx_iconst (gx_istore_n_3 rfl (gx_iload_n_2 (gx_bipush ((gx_nil ?_)))))
        refine n_icmp_eq (off := 9) (tgt := 23) (by decide +kernel) (by decide) (fun c14 => ?_) (fun c14 => ?_)
        · exact absurd c14 (by decide)
        · try simp only [bI_0, Decidable.not_not] at c14
          refine n_blk [(.iload_n 2, .null), (.bipush 8, .int (nI 8))] (Nat.le_of_ble_eq_true rfl) (by decide +kernel) ?_
          refine gx_iload_n_2 (gx_bipush ((gx_nil ?_)))
          refine n_icmp_ne (off := 7) (tgt := 27) (by decide +kernel) (by decide) (fun c20 => ?_) (fun c20 => ?_)
          · try simp only [bI_0, Decidable.not_not] at c20
            refine n_blk [(.iconst 0, .int (nI 0)), (.istore 4, .null), (.aload_n 0, .null)] (Nat.le_of_ble_eq_true rfl) (by decide +kernel) ?_
            refine gx_iconst (gx_istore_4 rfl (gx_aload_n_0 ((gx_nil ?_))))
            refine n_getR fX10_38 (by decide +kernel) rfl ?_
            refine n_blk [(.iload_n 1, .null), (.iconst 1, .int (nI 1)), (.iadd, .null), (.aload_n 0, .null), (.iload_n 3, .null)] (Nat.le_of_ble_eq_true rfl) (by decide +kernel) ?_
            refine gx_iload_n_1 (gx_iconst (gx_iadd (gx_aload_n_0 (gx_iload_n_3 ((gx_nil ?_))))))
            try simp only [nI_add, pk_mul, Nat.add_zero, Nat.zero_add, Nat.reduceAdd, Nat.reduceMul]
            refine n_if_eq (off := 7) (tgt := 46) (by decide +kernel) (by decide) (fun c39 => ?_) (fun c39 => ?_)
            · try simp only [bI_0, Decidable.not_not] at c39
              refine n_blk [(.iload 4, .null)] (Nat.le_of_ble_eq_true rfl) (by decide +kernel) ?_
              refine gx_iload_4 ((gx_nil ?_))
              refine n_if_eq (off := 7) (tgt := 55) (by decide +kernel) (by decide) (fun c48 => ?_) (fun c48 => ?_)
              · try simp only [bI_0, Decidable.not_not] at c48
                refine n_blk [(.iconst 2, .int (nI 2))] (Nat.le_of_ble_eq_true rfl) (by decide +kernel) ?_
                refine gx_iconst ((gx_nil ?_))
                refine n_call kX10_244 (r_number_ok e15 e14 hsp hn hT e16 (mo := 2) (by decide) (by decide) hD) (by decide +kernel) rfl rfl (Nat.le_of_ble_eq_true rfl) (Nat.le_of_ble_eq_true rfl) (Nat.le_of_ble_eq_true rfl) rfl ?_
                simp only [Option.toList_some, List.cons_append, List.nil_append]
                refine n_as (j := 19) rfl (by decide +kernel) (show _ < 120 from by omega) ?_
                refine n_blk [(.aload_n 0, .null)] (Nat.le_of_ble_eq_true rfl) (by decide +kernel) ?_
                refine gx_aload_n_0 ((gx_nil ?_))
                refine n_getR fX10_38 (by decide +kernel) rfl ?_
                refine n_blk [(.iload_n 1, .null), (.iconst 3, .int (nI 3)), (.iadd, .null), (.aload_n 0, .null)] (Nat.le_of_ble_eq_true rfl) (by decide +kernel) ?_
                refine gx_iload_n_1 (gx_iconst (gx_iadd (gx_aload_n_0 ((gx_nil ?_)))))
                try simp only [nI_add, pk_mul, Nat.add_zero, Nat.zero_add, Nat.reduceAdd, Nat.reduceMul]
                refine n_getI fX10_230 (by decide +kernel) rfl ?_
                try simp only [vU_s, vU_n, ne_eq, Nat.reduceEqDiff, not_false_eq_true, nI_add, pk_mul, Nat.add_zero, Nat.zero_add, Nat.reduceAdd, Nat.reduceMul]
                refine n_as (j := 19) rfl (by decide +kernel) (show _ < 120 from by omega) ?_
                refine n_blk [(.iload_n 2, .null), (.iconst 3, .int (nI 3))] (Nat.le_of_ble_eq_true rfl) (by decide +kernel) ?_
                refine gx_iload_n_2 (gx_iconst ((gx_nil ?_)))
                refine n_icmp_lt (off := 13) (tgt := 87) (by decide +kernel) (by decide) (fun c74 => ?_) (fun c74 => ?_)
                · exact absurd c74 (by decide)
                · try simp only [bI_0, Decidable.not_not] at c74
                  refine n_blk [(.iload_n 2, .null), (.iconst 5, .int (nI 5))] (Nat.le_of_ble_eq_true rfl) (by decide +kernel) ?_
                  refine gx_iload_n_2 (gx_iconst ((gx_nil ?_)))
                  refine n_icmp_eq (off := 8) (tgt := 87) (by decide +kernel) (by decide) (fun c79 => ?_) (fun c79 => ?_)
                  · exact absurd c79 (by decide)
                  · try simp only [bI_0, Decidable.not_not] at c79
                    refine n_blk [(.iload 4, .null)] (Nat.le_of_ble_eq_true rfl) (by decide +kernel) ?_
                    refine gx_iload_4 ((gx_nil ?_))
                    refine n_if_eq (off := 40) (tgt := 124) (by decide +kernel) (by decide) (fun c84 => ?_) (fun c84 => ?_)
                    · try simp only [bI_0, Decidable.not_not] at c84
                      refine n_end none rfl ⟨by decide +kernel, rfl⟩ ?_
                      exact ⟨rfl, rnF.1, fun j h1 h2 h3 => by simp [vU, h1, h2, h3], rnF.2.1, fun e he => (by rw [hR] at he; cases he), fun c p' he => by rw [hR] at he; cases he; exact ⟨e16, rfl, rnF.2.2.1, rnF.2.2.2, fun z => absurd rfl z⟩⟩
                    · exact absurd (by decide) c84
              · exact absurd (by decide) c48
            · exact absurd (by decide) c39
          · exact absurd c20 (by decide)
      · exact absurd (by decide) c2
    · have hR := pnR_A (tx := tx) (n := n) (w := 6) (p := sp) ((nmv_0 (k := 1)).mpr hD)
      refine mE_of (by decide) rfl (Nat.le_of_ble_eq_true rfl) [some (.ref o), some (.int (nI (4 * k))), some (.int (nI 6)), none, none, none] rfl ?_
      refine n_blk [(.iload_n 2, .null), (.iconst 4, .int (nI 4))] (Nat.le_of_ble_eq_true rfl) (by decide +kernel) ?_
      refine gx_iload_n_2 (gx_iconst ((gx_nil ?_)))
      refine n_icmp_ge (off := 7) (tgt := 9) (by decide +kernel) (by decide) (fun c2 => ?_) (fun c2 => ?_)
      · try simp only [bI_0, Decidable.not_not] at c2
        refine n_blk [(.iconst 0, .int (nI 0)), (.istore_n 3, .null), (.iload_n 2, .null), (.bipush 7, .int (nI 7))] (Nat.le_of_ble_eq_true rfl) (by decide +kernel) ?_
        refine gx_iconst (gx_istore_n_3 rfl (gx_iload_n_2 (gx_bipush ((gx_nil ?_)))))
        refine n_icmp_eq (off := 9) (tgt := 23) (by decide +kernel) (by decide) (fun c14 => ?_) (fun c14 => ?_)
        · exact absurd c14 (by decide)
        · try simp only [bI_0, Decidable.not_not] at c14
          refine n_blk [(.iload_n 2, .null), (.bipush 8, .int (nI 8))] (Nat.le_of_ble_eq_true rfl) (by decide +kernel) ?_
          refine gx_iload_n_2 (gx_bipush ((gx_nil ?_)))
          refine n_icmp_ne (off := 7) (tgt := 27) (by decide +kernel) (by decide) (fun c20 => ?_) (fun c20 => ?_)
          · try simp only [bI_0, Decidable.not_not] at c20
            refine n_blk [(.iconst 0, .int (nI 0)), (.istore 4, .null), (.aload_n 0, .null)] (Nat.le_of_ble_eq_true rfl) (by decide +kernel) ?_
            refine gx_iconst (gx_istore_4 rfl (gx_aload_n_0 ((gx_nil ?_))))
            refine n_getR fX10_38 (by decide +kernel) rfl ?_
            refine n_blk [(.iload_n 1, .null), (.iconst 1, .int (nI 1)), (.iadd, .null), (.aload_n 0, .null), (.iload_n 3, .null)] (Nat.le_of_ble_eq_true rfl) (by decide +kernel) ?_
            refine gx_iload_n_1 (gx_iconst (gx_iadd (gx_aload_n_0 (gx_iload_n_3 ((gx_nil ?_))))))
            try simp only [nI_add, pk_mul, Nat.add_zero, Nat.zero_add, Nat.reduceAdd, Nat.reduceMul]
            refine n_if_eq (off := 7) (tgt := 46) (by decide +kernel) (by decide) (fun c39 => ?_) (fun c39 => ?_)
            · try simp only [bI_0, Decidable.not_not] at c39
              refine n_blk [(.iload 4, .null)] (Nat.le_of_ble_eq_true rfl) (by decide +kernel) ?_
              refine gx_iload_4 ((gx_nil ?_))
              refine n_if_eq (off := 7) (tgt := 55) (by decide +kernel) (by decide) (fun c48 => ?_) (fun c48 => ?_)
              · try simp only [bI_0, Decidable.not_not] at c48
                refine n_blk [(.iconst 2, .int (nI 2))] (Nat.le_of_ble_eq_true rfl) (by decide +kernel) ?_
                refine gx_iconst ((gx_nil ?_))
                refine n_call kX10_244 (r_number_no e15 e14 hsp hn hT e16 (mo := 2) (by decide) (by decide) hD) (by decide +kernel) rfl rfl (Nat.le_of_ble_eq_true rfl) (Nat.le_of_ble_eq_true rfl) (Nat.le_of_ble_eq_true rfl) rfl ?_
                simp only [Option.toList_some, List.cons_append, List.nil_append]
                refine n_as (j := 19) rfl (by decide +kernel) (show _ < 120 from by omega) ?_
                refine n_blk [(.aload_n 0, .null)] (Nat.le_of_ble_eq_true rfl) (by decide +kernel) ?_
                refine gx_aload_n_0 ((gx_nil ?_))
                refine n_getR fX10_38 (by decide +kernel) rfl ?_
                refine n_blk [(.iload_n 1, .null), (.iconst 3, .int (nI 3)), (.iadd, .null), (.aload_n 0, .null)] (Nat.le_of_ble_eq_true rfl) (by decide +kernel) ?_
                refine gx_iload_n_1 (gx_iconst (gx_iadd (gx_aload_n_0 ((gx_nil ?_)))))
                try simp only [nI_add, pk_mul, Nat.add_zero, Nat.zero_add, Nat.reduceAdd, Nat.reduceMul]
                refine n_getI fX10_230 (by decide +kernel) rfl ?_
                try simp only [vU_s, vU_n, ne_eq, Nat.reduceEqDiff, not_false_eq_true, nI_add, pk_mul, Nat.add_zero, Nat.zero_add, Nat.reduceAdd, Nat.reduceMul]
                refine n_as (j := 19) rfl (by decide +kernel) (show _ < 120 from by omega) ?_
                refine n_blk [(.iload_n 2, .null), (.iconst 3, .int (nI 3))] (Nat.le_of_ble_eq_true rfl) (by decide +kernel) ?_
                refine gx_iload_n_2 (gx_iconst ((gx_nil ?_)))
                refine n_icmp_lt (off := 13) (tgt := 87) (by decide +kernel) (by decide) (fun c74 => ?_) (fun c74 => ?_)
                · exact absurd c74 (by decide)
                · try simp only [bI_0, Decidable.not_not] at c74
                  refine n_blk [(.iload_n 2, .null), (.iconst 5, .int (nI 5))] (Nat.le_of_ble_eq_true rfl) (by decide +kernel) ?_
                  refine gx_iload_n_2 (gx_iconst ((gx_nil ?_)))
                  refine n_icmp_eq (off := 8) (tgt := 87) (by decide +kernel) (by decide) (fun c79 => ?_) (fun c79 => ?_)
                  · exact absurd c79 (by decide)
                  · try simp only [bI_0, Decidable.not_not] at c79
                    refine n_blk [(.iload 4, .null)] (Nat.le_of_ble_eq_true rfl) (by decide +kernel) ?_
                    refine gx_iload_4 ((gx_nil ?_))
                    refine n_if_eq (off := 40) (tgt := 124) (by decide +kernel) (by decide) (fun c84 => ?_) (fun c84 => ?_)
                    · try simp only [bI_0, Decidable.not_not] at c84
                      refine n_end none rfl ⟨by decide +kernel, rfl⟩ ?_
                      exact ⟨rfl, rnF.1, fun j h1 h2 h3 => by simp [vU, h1, h2, h3], rnF.2.1, fun e he => by rw [hR] at he; cases he; rfl, fun c p' he => by rw [hR] at he; cases he⟩
                    · exact absurd (by decide) c84
              · exact absurd (by decide) c48
            · exact absurd (by decide) c39
          · exact absurd c20 (by decide)
      · exact absurd (by decide) c2
  · by_cases hD : isD tx n sp = true
    · have h0 : ¬ (nmv tx n (kd1 7) sp 0).2 = 0 := fun z => (nmv_0 (k := 0)).mp z hD
      have hle := nmv_le (tx := tx) (n := n) (k := 1) (p := sp) (v := 0)
      have h0n : ¬ (nmv tx n 1 sp 0).2 = 0 := h0
      obtain ⟨p2, hp2⟩ : ∃ z, sp + (nmv tx n 1 sp 0).2 = z := ⟨_, rfl⟩
      have hp2n : p2 ≤ n := by omega
      have g15 : vU (vU V 15 (nI (sp + (nmv tx n 1 sp 0).2))) 18 (nI (nmv tx n 1 sp 0).2) 15 = nI p2 := by rw [hp2]; rfl
      have g14 : vU (vU V 15 (nI (sp + (nmv tx n 1 sp 0).2))) 18 (nI (nmv tx n 1 sp 0).2) 14 = nI n := e14
      have g16 : vU (vU V 15 (nI (sp + (nmv tx n 1 sp 0).2))) 18 (nI (nmv tx n 1 sp 0).2) 16 = -1 := e16
      have gT : ∀ i, i < n → fU (fU F 19 (4 * k + 1) (nI (nmv tx n 1 sp 0).1)) 19 (4 * k + 3) (nI (nmv tx n 1 sp 0).2) 9 i = nI (tx i) ∧ tx i < 128 := hT
      by_cases h3 : p2 < n ∧ tx p2 = 32
      · have h3r : p2 < n ∧ 32 ≤ tx p2 ∧ tx p2 ≤ 32 := by omega
        have h3k : sp + (nmv tx n (kd1 7) sp 0).2 < n ∧ tx (sp + (nmv tx n (kd1 7) sp 0).2) = 32 := by
          show sp + (nmv tx n 1 sp 0).2 < n ∧ tx (sp + (nmv tx n 1 sp 0).2) = 32
          rw [hp2]; exact h3
        by_cases hD2 : isD tx n (p2 + 1) = true
        · have hle2 := nmv_le (tx := tx) (n := n) (k := 2) (p := p2 + 1) (v := 0)
          have h4 : ¬ (nmv tx n (kd2 7) (sp + (nmv tx n (kd1 7) sp 0).2 + 1) 0).2 = 0 := fun z => (nmv_0 (k := 1)).mp z (by rw [show sp + (nmv tx n (kd1 7) sp 0).2 = p2 from hp2]; exact hD2)
          have hR := pnR_B3 h0 (by decide) h3k h4
          rw [show sp + (nmv tx n (kd1 7) sp 0).2 = p2 from hp2] at hR
          refine mE_of (by decide) rfl (Nat.le_of_ble_eq_true rfl) [some (.ref o), some (.int (nI (4 * k))), some (.int (nI 7)), none, none, none] rfl ?_
          refine n_blk [(.iload_n 2, .null), (.iconst 4, .int (nI 4))] (Nat.le_of_ble_eq_true rfl) (by decide +kernel) ?_
          refine gx_iload_n_2 (gx_iconst ((gx_nil ?_)))
          refine n_icmp_ge (off := 7) (tgt := 9) (by decide +kernel) (by decide) (fun c2 => ?_) (fun c2 => ?_)
          · try simp only [bI_0, Decidable.not_not] at c2
            refine n_blk [(.iconst 0, .int (nI 0)), (.istore_n 3, .null), (.iload_n 2, .null), (.bipush 7, .int (nI 7))] (Nat.le_of_ble_eq_true rfl) (by decide +kernel) ?_
            refine gx_iconst (gx_istore_n_3 rfl (gx_iload_n_2 (gx_bipush ((gx_nil ?_)))))
            refine n_icmp_eq (off := 9) (tgt := 23) (by decide +kernel) (by decide) (fun c14 => ?_) (fun c14 => ?_)
            · try simp only [bI_0, Decidable.not_not] at c14
              refine n_blk [(.iconst 1, .int (nI 1)), (.goto 4, .retAddr 28), (.istore 4, .null), (.aload_n 0, .null)] (Nat.le_of_ble_eq_true rfl) (by decide +kernel) ?_
              refine gx_iconst (gx_goto (gx_istore_4 rfl (gx_aload_n_0 ((gx_nil ?_)))))
              refine n_getR fX10_38 (by decide +kernel) rfl ?_
              refine n_blk [(.iload_n 1, .null), (.iconst 1, .int (nI 1)), (.iadd, .null), (.aload_n 0, .null), (.iload_n 3, .null)] (Nat.le_of_ble_eq_true rfl) (by decide +kernel) ?_
              refine gx_iload_n_1 (gx_iconst (gx_iadd (gx_aload_n_0 (gx_iload_n_3 ((gx_nil ?_))))))
              try simp only [nI_add, pk_mul, Nat.add_zero, Nat.zero_add, Nat.reduceAdd, Nat.reduceMul]
              refine n_if_eq (off := 7) (tgt := 46) (by decide +kernel) (by decide) (fun c39 => ?_) (fun c39 => ?_)
              · try simp only [bI_0, Decidable.not_not] at c39
                refine n_blk [(.iload 4, .null)] (Nat.le_of_ble_eq_true rfl) (by decide +kernel) ?_
                refine gx_iload_4 ((gx_nil ?_))
                refine n_if_eq (off := 7) (tgt := 55) (by decide +kernel) (by decide) (fun c48 => ?_) (fun c48 => ?_)
                · exact absurd c48 (by decide)
                · try simp only [bI_0, Decidable.not_not] at c48
                  refine n_blk [(.iconst 1, .int (nI 1)), (.goto 4, .retAddr 56)] (Nat.le_of_ble_eq_true rfl) (by decide +kernel) ?_
                  refine gx_iconst (gx_goto ((gx_nil ?_)))
                  refine n_call kX10_244 (r_number_ok e15 e14 hsp hn hT e16 (mo := 1) (by decide) (by decide) hD) (by decide +kernel) rfl rfl (Nat.le_of_ble_eq_true rfl) (Nat.le_of_ble_eq_true rfl) (Nat.le_of_ble_eq_true rfl) rfl ?_
                  simp only [Option.toList_some, List.cons_append, List.nil_append]
                  refine n_as (j := 19) rfl (by decide +kernel) (show _ < 120 from by omega) ?_
                  refine n_blk [(.aload_n 0, .null)] (Nat.le_of_ble_eq_true rfl) (by decide +kernel) ?_
                  refine gx_aload_n_0 ((gx_nil ?_))
                  refine n_getR fX10_38 (by decide +kernel) rfl ?_
                  refine n_blk [(.iload_n 1, .null), (.iconst 3, .int (nI 3)), (.iadd, .null), (.aload_n 0, .null)] (Nat.le_of_ble_eq_true rfl) (by decide +kernel) ?_
                  refine gx_iload_n_1 (gx_iconst (gx_iadd (gx_aload_n_0 ((gx_nil ?_)))))
                  try simp only [nI_add, pk_mul, Nat.add_zero, Nat.zero_add, Nat.reduceAdd, Nat.reduceMul]
                  refine n_getI fX10_230 (by decide +kernel) rfl ?_
                  try simp only [vU_s, vU_n, ne_eq, Nat.reduceEqDiff, not_false_eq_true, nI_add, pk_mul, Nat.add_zero, Nat.zero_add, Nat.reduceAdd, Nat.reduceMul]
                  refine n_as (j := 19) rfl (by decide +kernel) (show _ < 120 from by omega) ?_
                  refine n_blk [(.iload_n 2, .null), (.iconst 3, .int (nI 3))] (Nat.le_of_ble_eq_true rfl) (by decide +kernel) ?_
                  refine gx_iload_n_2 (gx_iconst ((gx_nil ?_)))
                  refine n_icmp_lt (off := 13) (tgt := 87) (by decide +kernel) (by decide) (fun c74 => ?_) (fun c74 => ?_)
                  · exact absurd c74 (by decide)
                  · try simp only [bI_0, Decidable.not_not] at c74
                    refine n_blk [(.iload_n 2, .null), (.iconst 5, .int (nI 5))] (Nat.le_of_ble_eq_true rfl) (by decide +kernel) ?_
                    refine gx_iload_n_2 (gx_iconst ((gx_nil ?_)))
                    refine n_icmp_eq (off := 8) (tgt := 87) (by decide +kernel) (by decide) (fun c79 => ?_) (fun c79 => ?_)
                    · exact absurd c79 (by decide)
                    · try simp only [bI_0, Decidable.not_not] at c79
                      refine n_blk [(.iload 4, .null)] (Nat.le_of_ble_eq_true rfl) (by decide +kernel) ?_
                      refine gx_iload_4 ((gx_nil ?_))
                      refine n_if_eq (off := 40) (tgt := 124) (by decide +kernel) (by decide) (fun c84 => ?_) (fun c84 => ?_)
                      · exact absurd c84 (by decide)
                      · try simp only [bI_0, Decidable.not_not] at c84
                        refine n_blk [(.aload_n 0, .null), (.bipush 32, .int (nI 32)), (.bipush 32, .int (nI 32))] (Nat.le_of_ble_eq_true rfl) (by decide +kernel) ?_
                        refine gx_aload_n_0 (gx_bipush (gx_bipush ((gx_nil ?_))))
                        refine n_call kX10_227 (r_reads_ok (V := vU (vU V 15 (nI (sp + (nmv tx n 1 sp 0).2))) 18 (nI (nmv tx n 1 sp 0).2)) g15 g14 hp2n hn gT (lo := 32) (hi := 32) (by decide) (by decide) g16 h3r) (by decide +kernel) rfl rfl (Nat.le_of_ble_eq_true rfl) (Nat.le_of_ble_eq_true rfl) (Nat.le_of_ble_eq_true rfl) rfl ?_
                        simp only [Option.toList_some, List.cons_append, List.nil_append]
                        refine n_blk [(.istore 5, .null), (.aload_n 0, .null)] (Nat.le_of_ble_eq_true rfl) (by decide +kernel) ?_
                        refine gx_istore_5 rfl (gx_aload_n_0 ((gx_nil ?_)))
                        refine n_getR fX10_38 (by decide +kernel) rfl ?_
                        refine n_blk [(.iload_n 1, .null), (.iconst 2, .int (nI 2)), (.iadd, .null), (.aload_n 0, .null), (.iload_n 2, .null), (.iconst 2, .int (nI 2))] (Nat.le_of_ble_eq_true rfl) (by decide +kernel) ?_
                        refine gx_iload_n_1 (gx_iconst (gx_iadd (gx_aload_n_0 (gx_iload_n_2 (gx_iconst ((gx_nil ?_)))))))
                        try simp only [nI_add, pk_mul, Nat.add_zero, Nat.zero_add, Nat.reduceAdd, Nat.reduceMul]
                        refine n_icmp_eq (off := 8) (tgt := 115) (by decide +kernel) (by decide) (fun c107 => ?_) (fun c107 => ?_)
                        · exact absurd c107 (by decide)
                        · try simp only [bI_0, Decidable.not_not] at c107
                          refine n_blk [(.iload_n 2, .null), (.iconst 5, .int (nI 5))] (Nat.le_of_ble_eq_true rfl) (by decide +kernel) ?_
                          refine gx_iload_n_2 (gx_iconst ((gx_nil ?_)))
                          refine n_icmp_ne (off := 7) (tgt := 119) (by decide +kernel) (by decide) (fun c112 => ?_) (fun c112 => ?_)
                          · try simp only [bI_0, Decidable.not_not] at c112
                            refine n_blk [(.iconst 2, .int (nI 2))] (Nat.le_of_ble_eq_true rfl) (by decide +kernel) ?_
                            refine gx_iconst ((gx_nil ?_))
                            refine n_call kX10_244 (r_number_ok (sp := p2 + 1) (V := vU (vU (vU V 15 (nI (sp + (nmv tx n 1 sp 0).2))) 18 (nI (nmv tx n 1 sp 0).2)) 15 (nI (p2 + 1))) rfl e14 (by omega) hn gT e16 (mo := 2) (by decide) (by decide) hD2) (by decide +kernel) rfl rfl (Nat.le_of_ble_eq_true rfl) (Nat.le_of_ble_eq_true rfl) (Nat.le_of_ble_eq_true rfl) rfl ?_
                            simp only [Option.toList_some, List.cons_append, List.nil_append]
                            refine n_as (j := 19) rfl (by decide +kernel) (show _ < 120 from by omega) ?_
                            refine n_end none rfl ⟨by decide +kernel, rfl⟩ ?_
                            exact ⟨rfl, rnF3.1, fun j h1 h2 h3 => by simp [vU, h1, h2, h3], rnF3.2.1, fun e he => (by rw [hR] at he; cases he), fun c p' he => by rw [hR] at he; cases he; exact ⟨e16, rfl, rnF3.2.2.1, rnF3.2.2.2.1, fun _ => rnF3.2.2.2.2⟩⟩
                          · exact absurd c112 (by decide)
              · exact absurd (by decide) c39
            · exact absurd (by decide) c14
          · exact absurd (by decide) c2
        · have h4 : (nmv tx n (kd2 7) (sp + (nmv tx n (kd1 7) sp 0).2 + 1) 0).2 = 0 := (nmv_0 (k := 1)).mpr (by rw [show sp + (nmv tx n (kd1 7) sp 0).2 = p2 from hp2]; exact hD2)
          have hR := pnR_B2 h0 (by decide) h3k h4
          rw [show sp + (nmv tx n (kd1 7) sp 0).2 = p2 from hp2] at hR
          refine mE_of (by decide) rfl (Nat.le_of_ble_eq_true rfl) [some (.ref o), some (.int (nI (4 * k))), some (.int (nI 7)), none, none, none] rfl ?_
          refine n_blk [(.iload_n 2, .null), (.iconst 4, .int (nI 4))] (Nat.le_of_ble_eq_true rfl) (by decide +kernel) ?_
          refine gx_iload_n_2 (gx_iconst ((gx_nil ?_)))
          refine n_icmp_ge (off := 7) (tgt := 9) (by decide +kernel) (by decide) (fun c2 => ?_) (fun c2 => ?_)
          · try simp only [bI_0, Decidable.not_not] at c2
            refine n_blk [(.iconst 0, .int (nI 0)), (.istore_n 3, .null), (.iload_n 2, .null), (.bipush 7, .int (nI 7))] (Nat.le_of_ble_eq_true rfl) (by decide +kernel) ?_
            refine gx_iconst (gx_istore_n_3 rfl (gx_iload_n_2 (gx_bipush ((gx_nil ?_)))))
            refine n_icmp_eq (off := 9) (tgt := 23) (by decide +kernel) (by decide) (fun c14 => ?_) (fun c14 => ?_)
            · try simp only [bI_0, Decidable.not_not] at c14
              refine n_blk [(.iconst 1, .int (nI 1)), (.goto 4, .retAddr 28), (.istore 4, .null), (.aload_n 0, .null)] (Nat.le_of_ble_eq_true rfl) (by decide +kernel) ?_
              refine gx_iconst (gx_goto (gx_istore_4 rfl (gx_aload_n_0 ((gx_nil ?_)))))
              refine n_getR fX10_38 (by decide +kernel) rfl ?_
              refine n_blk [(.iload_n 1, .null), (.iconst 1, .int (nI 1)), (.iadd, .null), (.aload_n 0, .null), (.iload_n 3, .null)] (Nat.le_of_ble_eq_true rfl) (by decide +kernel) ?_
              refine gx_iload_n_1 (gx_iconst (gx_iadd (gx_aload_n_0 (gx_iload_n_3 ((gx_nil ?_))))))
              try simp only [nI_add, pk_mul, Nat.add_zero, Nat.zero_add, Nat.reduceAdd, Nat.reduceMul]
              refine n_if_eq (off := 7) (tgt := 46) (by decide +kernel) (by decide) (fun c39 => ?_) (fun c39 => ?_)
              · try simp only [bI_0, Decidable.not_not] at c39
                refine n_blk [(.iload 4, .null)] (Nat.le_of_ble_eq_true rfl) (by decide +kernel) ?_
                refine gx_iload_4 ((gx_nil ?_))
                refine n_if_eq (off := 7) (tgt := 55) (by decide +kernel) (by decide) (fun c48 => ?_) (fun c48 => ?_)
                · exact absurd c48 (by decide)
                · try simp only [bI_0, Decidable.not_not] at c48
                  refine n_blk [(.iconst 1, .int (nI 1)), (.goto 4, .retAddr 56)] (Nat.le_of_ble_eq_true rfl) (by decide +kernel) ?_
                  refine gx_iconst (gx_goto ((gx_nil ?_)))
                  refine n_call kX10_244 (r_number_ok e15 e14 hsp hn hT e16 (mo := 1) (by decide) (by decide) hD) (by decide +kernel) rfl rfl (Nat.le_of_ble_eq_true rfl) (Nat.le_of_ble_eq_true rfl) (Nat.le_of_ble_eq_true rfl) rfl ?_
                  simp only [Option.toList_some, List.cons_append, List.nil_append]
                  refine n_as (j := 19) rfl (by decide +kernel) (show _ < 120 from by omega) ?_
                  refine n_blk [(.aload_n 0, .null)] (Nat.le_of_ble_eq_true rfl) (by decide +kernel) ?_
                  refine gx_aload_n_0 ((gx_nil ?_))
                  refine n_getR fX10_38 (by decide +kernel) rfl ?_
                  refine n_blk [(.iload_n 1, .null), (.iconst 3, .int (nI 3)), (.iadd, .null), (.aload_n 0, .null)] (Nat.le_of_ble_eq_true rfl) (by decide +kernel) ?_
                  refine gx_iload_n_1 (gx_iconst (gx_iadd (gx_aload_n_0 ((gx_nil ?_)))))
                  try simp only [nI_add, pk_mul, Nat.add_zero, Nat.zero_add, Nat.reduceAdd, Nat.reduceMul]
                  refine n_getI fX10_230 (by decide +kernel) rfl ?_
                  try simp only [vU_s, vU_n, ne_eq, Nat.reduceEqDiff, not_false_eq_true, nI_add, pk_mul, Nat.add_zero, Nat.zero_add, Nat.reduceAdd, Nat.reduceMul]
                  refine n_as (j := 19) rfl (by decide +kernel) (show _ < 120 from by omega) ?_
                  refine n_blk [(.iload_n 2, .null), (.iconst 3, .int (nI 3))] (Nat.le_of_ble_eq_true rfl) (by decide +kernel) ?_
                  refine gx_iload_n_2 (gx_iconst ((gx_nil ?_)))
                  refine n_icmp_lt (off := 13) (tgt := 87) (by decide +kernel) (by decide) (fun c74 => ?_) (fun c74 => ?_)
                  · exact absurd c74 (by decide)
                  · try simp only [bI_0, Decidable.not_not] at c74
                    refine n_blk [(.iload_n 2, .null), (.iconst 5, .int (nI 5))] (Nat.le_of_ble_eq_true rfl) (by decide +kernel) ?_
                    refine gx_iload_n_2 (gx_iconst ((gx_nil ?_)))
                    refine n_icmp_eq (off := 8) (tgt := 87) (by decide +kernel) (by decide) (fun c79 => ?_) (fun c79 => ?_)
                    · exact absurd c79 (by decide)
                    · try simp only [bI_0, Decidable.not_not] at c79
                      refine n_blk [(.iload 4, .null)] (Nat.le_of_ble_eq_true rfl) (by decide +kernel) ?_
                      refine gx_iload_4 ((gx_nil ?_))
                      refine n_if_eq (off := 40) (tgt := 124) (by decide +kernel) (by decide) (fun c84 => ?_) (fun c84 => ?_)
                      · exact absurd c84 (by decide)
                      · try simp only [bI_0, Decidable.not_not] at c84
                        refine n_blk [(.aload_n 0, .null), (.bipush 32, .int (nI 32)), (.bipush 32, .int (nI 32))] (Nat.le_of_ble_eq_true rfl) (by decide +kernel) ?_
                        refine gx_aload_n_0 (gx_bipush (gx_bipush ((gx_nil ?_))))
                        refine n_call kX10_227 (r_reads_ok (V := vU (vU V 15 (nI (sp + (nmv tx n 1 sp 0).2))) 18 (nI (nmv tx n 1 sp 0).2)) g15 g14 hp2n hn gT (lo := 32) (hi := 32) (by decide) (by decide) g16 h3r) (by decide +kernel) rfl rfl (Nat.le_of_ble_eq_true rfl) (Nat.le_of_ble_eq_true rfl) (Nat.le_of_ble_eq_true rfl) rfl ?_
                        simp only [Option.toList_some, List.cons_append, List.nil_append]
                        refine n_blk [(.istore 5, .null), (.aload_n 0, .null)] (Nat.le_of_ble_eq_true rfl) (by decide +kernel) ?_
                        refine gx_istore_5 rfl (gx_aload_n_0 ((gx_nil ?_)))
                        refine n_getR fX10_38 (by decide +kernel) rfl ?_
                        refine n_blk [(.iload_n 1, .null), (.iconst 2, .int (nI 2)), (.iadd, .null), (.aload_n 0, .null), (.iload_n 2, .null), (.iconst 2, .int (nI 2))] (Nat.le_of_ble_eq_true rfl) (by decide +kernel) ?_
                        refine gx_iload_n_1 (gx_iconst (gx_iadd (gx_aload_n_0 (gx_iload_n_2 (gx_iconst ((gx_nil ?_)))))))
                        try simp only [nI_add, pk_mul, Nat.add_zero, Nat.zero_add, Nat.reduceAdd, Nat.reduceMul]
                        refine n_icmp_eq (off := 8) (tgt := 115) (by decide +kernel) (by decide) (fun c107 => ?_) (fun c107 => ?_)
                        · exact absurd c107 (by decide)
                        · try simp only [bI_0, Decidable.not_not] at c107
                          refine n_blk [(.iload_n 2, .null), (.iconst 5, .int (nI 5))] (Nat.le_of_ble_eq_true rfl) (by decide +kernel) ?_
                          refine gx_iload_n_2 (gx_iconst ((gx_nil ?_)))
                          refine n_icmp_ne (off := 7) (tgt := 119) (by decide +kernel) (by decide) (fun c112 => ?_) (fun c112 => ?_)
                          · try simp only [bI_0, Decidable.not_not] at c112
                            refine n_blk [(.iconst 2, .int (nI 2))] (Nat.le_of_ble_eq_true rfl) (by decide +kernel) ?_
                            refine gx_iconst ((gx_nil ?_))
                            refine n_call kX10_244 (r_number_no (sp := p2 + 1) (V := vU (vU (vU V 15 (nI (sp + (nmv tx n 1 sp 0).2))) 18 (nI (nmv tx n 1 sp 0).2)) 15 (nI (p2 + 1))) rfl e14 (by omega) hn gT e16 (mo := 2) (by decide) (by decide) hD2) (by decide +kernel) rfl rfl (Nat.le_of_ble_eq_true rfl) (Nat.le_of_ble_eq_true rfl) (Nat.le_of_ble_eq_true rfl) rfl ?_
                            simp only [Option.toList_some, List.cons_append, List.nil_append]
                            refine n_as (j := 19) rfl (by decide +kernel) (show _ < 120 from by omega) ?_
                            refine n_end none rfl ⟨by decide +kernel, rfl⟩ ?_
                            exact ⟨rfl, rnF3.1, fun j h1 h2 h3 => by simp [vU, h1, h2, h3], rnF3.2.1, fun e he => by rw [hR] at he; cases he; rfl, fun c p' he => by rw [hR] at he; cases he⟩
                          · exact absurd c112 (by decide)
              · exact absurd (by decide) c39
            · exact absurd (by decide) c14
          · exact absurd (by decide) c2
      · have hR := pnR_B1 h0 (by decide) (fun z => h3 (by rw [show sp + (nmv tx n (kd1 7) sp 0).2 = p2 from hp2] at z; exact z))
        rw [show sp + (nmv tx n (kd1 7) sp 0).2 = p2 from hp2] at hR
        have hw16 : ¬ vU (vU (vU V 15 (nI (sp + (nmv tx n 1 sp 0).2))) 18 (nI (nmv tx n 1 sp 0).2)) 16 (nI p2) 16 = -1 := nI_nm1 (by omega)
        refine mE_of (by decide) rfl (Nat.le_of_ble_eq_true rfl) [some (.ref o), some (.int (nI (4 * k))), some (.int (nI 7)), none, none, none] rfl ?_
        refine n_blk [(.iload_n 2, .null), (.iconst 4, .int (nI 4))] (Nat.le_of_ble_eq_true rfl) (by decide +kernel) ?_
        refine gx_iload_n_2 (gx_iconst ((gx_nil ?_)))
        refine n_icmp_ge (off := 7) (tgt := 9) (by decide +kernel) (by decide) (fun c2 => ?_) (fun c2 => ?_)
        · try simp only [bI_0, Decidable.not_not] at c2
          refine n_blk [(.iconst 0, .int (nI 0)), (.istore_n 3, .null), (.iload_n 2, .null), (.bipush 7, .int (nI 7))] (Nat.le_of_ble_eq_true rfl) (by decide +kernel) ?_
          refine gx_iconst (gx_istore_n_3 rfl (gx_iload_n_2 (gx_bipush ((gx_nil ?_)))))
          refine n_icmp_eq (off := 9) (tgt := 23) (by decide +kernel) (by decide) (fun c14 => ?_) (fun c14 => ?_)
          · try simp only [bI_0, Decidable.not_not] at c14
            refine n_blk [(.iconst 1, .int (nI 1)), (.goto 4, .retAddr 28), (.istore 4, .null), (.aload_n 0, .null)] (Nat.le_of_ble_eq_true rfl) (by decide +kernel) ?_
            refine gx_iconst (gx_goto (gx_istore_4 rfl (gx_aload_n_0 ((gx_nil ?_)))))
            refine n_getR fX10_38 (by decide +kernel) rfl ?_
            refine n_blk [(.iload_n 1, .null), (.iconst 1, .int (nI 1)), (.iadd, .null), (.aload_n 0, .null), (.iload_n 3, .null)] (Nat.le_of_ble_eq_true rfl) (by decide +kernel) ?_
            refine gx_iload_n_1 (gx_iconst (gx_iadd (gx_aload_n_0 (gx_iload_n_3 ((gx_nil ?_))))))
            try simp only [nI_add, pk_mul, Nat.add_zero, Nat.zero_add, Nat.reduceAdd, Nat.reduceMul]
            refine n_if_eq (off := 7) (tgt := 46) (by decide +kernel) (by decide) (fun c39 => ?_) (fun c39 => ?_)
            · try simp only [bI_0, Decidable.not_not] at c39
              refine n_blk [(.iload 4, .null)] (Nat.le_of_ble_eq_true rfl) (by decide +kernel) ?_
              refine gx_iload_4 ((gx_nil ?_))
              refine n_if_eq (off := 7) (tgt := 55) (by decide +kernel) (by decide) (fun c48 => ?_) (fun c48 => ?_)
              · exact absurd c48 (by decide)
              · try simp only [bI_0, Decidable.not_not] at c48
                refine n_blk [(.iconst 1, .int (nI 1)), (.goto 4, .retAddr 56)] (Nat.le_of_ble_eq_true rfl) (by decide +kernel) ?_
                refine gx_iconst (gx_goto ((gx_nil ?_)))
                refine n_call kX10_244 (r_number_ok e15 e14 hsp hn hT e16 (mo := 1) (by decide) (by decide) hD) (by decide +kernel) rfl rfl (Nat.le_of_ble_eq_true rfl) (Nat.le_of_ble_eq_true rfl) (Nat.le_of_ble_eq_true rfl) rfl ?_
                simp only [Option.toList_some, List.cons_append, List.nil_append]
                refine n_as (j := 19) rfl (by decide +kernel) (show _ < 120 from by omega) ?_
                refine n_blk [(.aload_n 0, .null)] (Nat.le_of_ble_eq_true rfl) (by decide +kernel) ?_
                refine gx_aload_n_0 ((gx_nil ?_))
                refine n_getR fX10_38 (by decide +kernel) rfl ?_
                refine n_blk [(.iload_n 1, .null), (.iconst 3, .int (nI 3)), (.iadd, .null), (.aload_n 0, .null)] (Nat.le_of_ble_eq_true rfl) (by decide +kernel) ?_
                refine gx_iload_n_1 (gx_iconst (gx_iadd (gx_aload_n_0 ((gx_nil ?_)))))
                try simp only [nI_add, pk_mul, Nat.add_zero, Nat.zero_add, Nat.reduceAdd, Nat.reduceMul]
                refine n_getI fX10_230 (by decide +kernel) rfl ?_
                try simp only [vU_s, vU_n, ne_eq, Nat.reduceEqDiff, not_false_eq_true, nI_add, pk_mul, Nat.add_zero, Nat.zero_add, Nat.reduceAdd, Nat.reduceMul]
                refine n_as (j := 19) rfl (by decide +kernel) (show _ < 120 from by omega) ?_
                refine n_blk [(.iload_n 2, .null), (.iconst 3, .int (nI 3))] (Nat.le_of_ble_eq_true rfl) (by decide +kernel) ?_
                refine gx_iload_n_2 (gx_iconst ((gx_nil ?_)))
                refine n_icmp_lt (off := 13) (tgt := 87) (by decide +kernel) (by decide) (fun c74 => ?_) (fun c74 => ?_)
                · exact absurd c74 (by decide)
                · try simp only [bI_0, Decidable.not_not] at c74
                  refine n_blk [(.iload_n 2, .null), (.iconst 5, .int (nI 5))] (Nat.le_of_ble_eq_true rfl) (by decide +kernel) ?_
                  refine gx_iload_n_2 (gx_iconst ((gx_nil ?_)))
                  refine n_icmp_eq (off := 8) (tgt := 87) (by decide +kernel) (by decide) (fun c79 => ?_) (fun c79 => ?_)
                  · exact absurd c79 (by decide)
                  · try simp only [bI_0, Decidable.not_not] at c79
                    refine n_blk [(.iload 4, .null)] (Nat.le_of_ble_eq_true rfl) (by decide +kernel) ?_
                    refine gx_iload_4 ((gx_nil ?_))
                    refine n_if_eq (off := 40) (tgt := 124) (by decide +kernel) (by decide) (fun c84 => ?_) (fun c84 => ?_)
                    · exact absurd c84 (by decide)
                    · try simp only [bI_0, Decidable.not_not] at c84
                      refine n_blk [(.aload_n 0, .null), (.bipush 32, .int (nI 32)), (.bipush 32, .int (nI 32))] (Nat.le_of_ble_eq_true rfl) (by decide +kernel) ?_
                      refine gx_aload_n_0 (gx_bipush (gx_bipush ((gx_nil ?_))))
                      refine n_call kX10_227 (r_reads_no (V := vU (vU V 15 (nI (sp + (nmv tx n 1 sp 0).2))) 18 (nI (nmv tx n 1 sp 0).2)) g15 g14 hp2n hn gT (lo := 32) (hi := 32) (by decide) (by decide) (fun z => h3 (by omega))) (by decide +kernel) rfl rfl (Nat.le_of_ble_eq_true rfl) (Nat.le_of_ble_eq_true rfl) (Nat.le_of_ble_eq_true rfl) rfl ?_
                      rw [if_pos g16]
                      simp only [Option.toList_some, List.cons_append, List.nil_append]
                      refine n_blk [(.istore 5, .null), (.aload_n 0, .null)] (Nat.le_of_ble_eq_true rfl) (by decide +kernel) ?_
                      refine gx_istore_5 rfl (gx_aload_n_0 ((gx_nil ?_)))
                      refine n_getR fX10_38 (by decide +kernel) rfl ?_
                      refine n_blk [(.iload_n 1, .null), (.iconst 2, .int (nI 2)), (.iadd, .null), (.aload_n 0, .null), (.iload_n 2, .null), (.iconst 2, .int (nI 2))] (Nat.le_of_ble_eq_true rfl) (by decide +kernel) ?_
                      refine gx_iload_n_1 (gx_iconst (gx_iadd (gx_aload_n_0 (gx_iload_n_2 (gx_iconst ((gx_nil ?_)))))))
                      try simp only [nI_add, pk_mul, Nat.add_zero, Nat.zero_add, Nat.reduceAdd, Nat.reduceMul]
                      refine n_icmp_eq (off := 8) (tgt := 115) (by decide +kernel) (by decide) (fun c107 => ?_) (fun c107 => ?_)
                      · exact absurd c107 (by decide)
                      · try simp only [bI_0, Decidable.not_not] at c107
                        refine n_blk [(.iload_n 2, .null), (.iconst 5, .int (nI 5))] (Nat.le_of_ble_eq_true rfl) (by decide +kernel) ?_
                        refine gx_iload_n_2 (gx_iconst ((gx_nil ?_)))
                        refine n_icmp_ne (off := 7) (tgt := 119) (by decide +kernel) (by decide) (fun c112 => ?_) (fun c112 => ?_)
                        · try simp only [bI_0, Decidable.not_not] at c112
                          refine n_blk [(.iconst 2, .int (nI 2))] (Nat.le_of_ble_eq_true rfl) (by decide +kernel) ?_
                          refine gx_iconst ((gx_nil ?_))
                          refine n_call kX10_244 (r_number_wr (sp := p2) (V := vU (vU (vU V 15 (nI (sp + (nmv tx n 1 sp 0).2))) 18 (nI (nmv tx n 1 sp 0).2)) 16 (nI p2)) g15 e14 hp2n hn gT hw16 (mo := 2) (by decide) (by decide)) (by decide +kernel) rfl rfl (Nat.le_of_ble_eq_true rfl) (Nat.le_of_ble_eq_true rfl) (Nat.le_of_ble_eq_true rfl) rfl ?_
                          simp only [Option.toList_some, List.cons_append, List.nil_append]
                          refine n_as (j := 19) rfl (by decide +kernel) (show _ < 120 from by omega) ?_
                          refine n_end none rfl ⟨by decide +kernel, rfl⟩ ?_
                          exact ⟨rfl, rnF3.1, fun j h1 h2 h3 => by simp [vU, h1, h2, h3], rnF3.2.1, fun e he => by rw [hR] at he; cases he; rfl, fun c p' he => by rw [hR] at he; cases he⟩
                        · exact absurd c112 (by decide)
            · exact absurd (by decide) c39
          · exact absurd (by decide) c14
        · exact absurd (by decide) c2
    · have hR := pnR_A (tx := tx) (n := n) (w := 7) (p := sp) ((nmv_0 (k := 0)).mpr hD)
      have gT : ∀ i, i < n → fU (fU F 19 (4 * k + 1) (nI 0)) 19 (4 * k + 3) (nI 1) 9 i = nI (tx i) ∧ tx i < 128 := hT
      have hw16 : ¬ vU (vU V 16 (nI sp)) 18 (nI 1) 16 = -1 := nI_nm1 (by omega)
      refine mE_of (by decide) rfl (Nat.le_of_ble_eq_true rfl) [some (.ref o), some (.int (nI (4 * k))), some (.int (nI 7)), none, none, none] rfl ?_
      refine n_blk [(.iload_n 2, .null), (.iconst 4, .int (nI 4))] (Nat.le_of_ble_eq_true rfl) (by decide +kernel) ?_
      refine gx_iload_n_2 (gx_iconst ((gx_nil ?_)))
      refine n_icmp_ge (off := 7) (tgt := 9) (by decide +kernel) (by decide) (fun c2 => ?_) (fun c2 => ?_)
      · try simp only [bI_0, Decidable.not_not] at c2
        refine n_blk [(.iconst 0, .int (nI 0)), (.istore_n 3, .null), (.iload_n 2, .null), (.bipush 7, .int (nI 7))] (Nat.le_of_ble_eq_true rfl) (by decide +kernel) ?_
        refine gx_iconst (gx_istore_n_3 rfl (gx_iload_n_2 (gx_bipush ((gx_nil ?_)))))
        refine n_icmp_eq (off := 9) (tgt := 23) (by decide +kernel) (by decide) (fun c14 => ?_) (fun c14 => ?_)
        · try simp only [bI_0, Decidable.not_not] at c14
          refine n_blk [(.iconst 1, .int (nI 1)), (.goto 4, .retAddr 28), (.istore 4, .null), (.aload_n 0, .null)] (Nat.le_of_ble_eq_true rfl) (by decide +kernel) ?_
          refine gx_iconst (gx_goto (gx_istore_4 rfl (gx_aload_n_0 ((gx_nil ?_)))))
          refine n_getR fX10_38 (by decide +kernel) rfl ?_
          refine n_blk [(.iload_n 1, .null), (.iconst 1, .int (nI 1)), (.iadd, .null), (.aload_n 0, .null), (.iload_n 3, .null)] (Nat.le_of_ble_eq_true rfl) (by decide +kernel) ?_
          refine gx_iload_n_1 (gx_iconst (gx_iadd (gx_aload_n_0 (gx_iload_n_3 ((gx_nil ?_))))))
          try simp only [nI_add, pk_mul, Nat.add_zero, Nat.zero_add, Nat.reduceAdd, Nat.reduceMul]
          refine n_if_eq (off := 7) (tgt := 46) (by decide +kernel) (by decide) (fun c39 => ?_) (fun c39 => ?_)
          · try simp only [bI_0, Decidable.not_not] at c39
            refine n_blk [(.iload 4, .null)] (Nat.le_of_ble_eq_true rfl) (by decide +kernel) ?_
            refine gx_iload_4 ((gx_nil ?_))
            refine n_if_eq (off := 7) (tgt := 55) (by decide +kernel) (by decide) (fun c48 => ?_) (fun c48 => ?_)
            · exact absurd c48 (by decide)
            · try simp only [bI_0, Decidable.not_not] at c48
              refine n_blk [(.iconst 1, .int (nI 1)), (.goto 4, .retAddr 56)] (Nat.le_of_ble_eq_true rfl) (by decide +kernel) ?_
              refine gx_iconst (gx_goto ((gx_nil ?_)))
              refine n_call kX10_244 (r_number_no e15 e14 hsp hn hT e16 (mo := 1) (by decide) (by decide) hD) (by decide +kernel) rfl rfl (Nat.le_of_ble_eq_true rfl) (Nat.le_of_ble_eq_true rfl) (Nat.le_of_ble_eq_true rfl) rfl ?_
              simp only [Option.toList_some, List.cons_append, List.nil_append]
              refine n_as (j := 19) rfl (by decide +kernel) (show _ < 120 from by omega) ?_
              refine n_blk [(.aload_n 0, .null)] (Nat.le_of_ble_eq_true rfl) (by decide +kernel) ?_
              refine gx_aload_n_0 ((gx_nil ?_))
              refine n_getR fX10_38 (by decide +kernel) rfl ?_
              refine n_blk [(.iload_n 1, .null), (.iconst 3, .int (nI 3)), (.iadd, .null), (.aload_n 0, .null)] (Nat.le_of_ble_eq_true rfl) (by decide +kernel) ?_
              refine gx_iload_n_1 (gx_iconst (gx_iadd (gx_aload_n_0 ((gx_nil ?_)))))
              try simp only [nI_add, pk_mul, Nat.add_zero, Nat.zero_add, Nat.reduceAdd, Nat.reduceMul]
              refine n_getI fX10_230 (by decide +kernel) rfl ?_
              try simp only [vU_s, vU_n, ne_eq, Nat.reduceEqDiff, not_false_eq_true, nI_add, pk_mul, Nat.add_zero, Nat.zero_add, Nat.reduceAdd, Nat.reduceMul]
              refine n_as (j := 19) rfl (by decide +kernel) (show _ < 120 from by omega) ?_
              refine n_blk [(.iload_n 2, .null), (.iconst 3, .int (nI 3))] (Nat.le_of_ble_eq_true rfl) (by decide +kernel) ?_
              refine gx_iload_n_2 (gx_iconst ((gx_nil ?_)))
              refine n_icmp_lt (off := 13) (tgt := 87) (by decide +kernel) (by decide) (fun c74 => ?_) (fun c74 => ?_)
              · exact absurd c74 (by decide)
              · try simp only [bI_0, Decidable.not_not] at c74
                refine n_blk [(.iload_n 2, .null), (.iconst 5, .int (nI 5))] (Nat.le_of_ble_eq_true rfl) (by decide +kernel) ?_
                refine gx_iload_n_2 (gx_iconst ((gx_nil ?_)))
                refine n_icmp_eq (off := 8) (tgt := 87) (by decide +kernel) (by decide) (fun c79 => ?_) (fun c79 => ?_)
                · exact absurd c79 (by decide)
                · try simp only [bI_0, Decidable.not_not] at c79
                  refine n_blk [(.iload 4, .null)] (Nat.le_of_ble_eq_true rfl) (by decide +kernel) ?_
                  refine gx_iload_4 ((gx_nil ?_))
                  refine n_if_eq (off := 40) (tgt := 124) (by decide +kernel) (by decide) (fun c84 => ?_) (fun c84 => ?_)
                  · exact absurd c84 (by decide)
                  · try simp only [bI_0, Decidable.not_not] at c84
                    refine n_blk [(.aload_n 0, .null), (.bipush 32, .int (nI 32)), (.bipush 32, .int (nI 32))] (Nat.le_of_ble_eq_true rfl) (by decide +kernel) ?_
                    refine gx_aload_n_0 (gx_bipush (gx_bipush ((gx_nil ?_))))
                    refine n_call kX10_227 (r_reads_no (V := vU (vU V 16 (nI sp)) 18 (nI 1)) e15 e14 hsp hn gT (lo := 32) (hi := 32) (by decide) (by decide) (fun z => hw16 z.1)) (by decide +kernel) rfl rfl (Nat.le_of_ble_eq_true rfl) (Nat.le_of_ble_eq_true rfl) (Nat.le_of_ble_eq_true rfl) rfl ?_
                    rw [if_neg hw16, show vU (vU V 16 (nI sp)) 18 (nI 1) 16 = nI sp from rfl]
                    simp only [Option.toList_some, List.cons_append, List.nil_append]
                    refine n_blk [(.istore 5, .null), (.aload_n 0, .null)] (Nat.le_of_ble_eq_true rfl) (by decide +kernel) ?_
                    refine gx_istore_5 rfl (gx_aload_n_0 ((gx_nil ?_)))
                    refine n_getR fX10_38 (by decide +kernel) rfl ?_
                    refine n_blk [(.iload_n 1, .null), (.iconst 2, .int (nI 2)), (.iadd, .null), (.aload_n 0, .null), (.iload_n 2, .null), (.iconst 2, .int (nI 2))] (Nat.le_of_ble_eq_true rfl) (by decide +kernel) ?_
                    refine gx_iload_n_1 (gx_iconst (gx_iadd (gx_aload_n_0 (gx_iload_n_2 (gx_iconst ((gx_nil ?_)))))))
                    try simp only [nI_add, pk_mul, Nat.add_zero, Nat.zero_add, Nat.reduceAdd, Nat.reduceMul]
                    refine n_icmp_eq (off := 8) (tgt := 115) (by decide +kernel) (by decide) (fun c107 => ?_) (fun c107 => ?_)
                    · exact absurd c107 (by decide)
                    · try simp only [bI_0, Decidable.not_not] at c107
                      refine n_blk [(.iload_n 2, .null), (.iconst 5, .int (nI 5))] (Nat.le_of_ble_eq_true rfl) (by decide +kernel) ?_
                      refine gx_iload_n_2 (gx_iconst ((gx_nil ?_)))
                      refine n_icmp_ne (off := 7) (tgt := 119) (by decide +kernel) (by decide) (fun c112 => ?_) (fun c112 => ?_)
                      · try simp only [bI_0, Decidable.not_not] at c112
                        refine n_blk [(.iconst 2, .int (nI 2))] (Nat.le_of_ble_eq_true rfl) (by decide +kernel) ?_
                        refine gx_iconst ((gx_nil ?_))
                        refine n_call kX10_244 (r_number_wr (sp := sp) (V := vU (vU (vU V 16 (nI sp)) 18 (nI 1)) 16 (nI sp)) e15 e14 hsp hn gT hw16 (mo := 2) (by decide) (by decide)) (by decide +kernel) rfl rfl (Nat.le_of_ble_eq_true rfl) (Nat.le_of_ble_eq_true rfl) (Nat.le_of_ble_eq_true rfl) rfl ?_
                        simp only [Option.toList_some, List.cons_append, List.nil_append]
                        refine n_as (j := 19) rfl (by decide +kernel) (show _ < 120 from by omega) ?_
                        refine n_end none rfl ⟨by decide +kernel, rfl⟩ ?_
                        exact ⟨rfl, rnF3.1, fun j h1 h2 h3 => by simp [vU, h1, h2, h3], rnF3.2.1, fun e he => by rw [hR] at he; cases he; rfl, fun c p' he => by rw [hR] at he; cases he⟩
                      · exact absurd c112 (by decide)
          · exact absurd (by decide) c39
        · exact absurd (by decide) c14
      · exact absurd (by decide) c2
  · by_cases hD : isD tx n sp = true
    · have h0 : ¬ (nmv tx n (kd1 8) sp 0).2 = 0 := fun z => (nmv_0 (k := 0)).mp z hD
      have hle := nmv_le (tx := tx) (n := n) (k := 1) (p := sp) (v := 0)
      have h0n : ¬ (nmv tx n 1 sp 0).2 = 0 := h0
      obtain ⟨p2, hp2⟩ : ∃ z, sp + (nmv tx n 1 sp 0).2 = z := ⟨_, rfl⟩
      have hp2n : p2 ≤ n := by omega
      have g15 : vU (vU V 15 (nI (sp + (nmv tx n 1 sp 0).2))) 18 (nI (nmv tx n 1 sp 0).2) 15 = nI p2 := by rw [hp2]; rfl
      have g14 : vU (vU V 15 (nI (sp + (nmv tx n 1 sp 0).2))) 18 (nI (nmv tx n 1 sp 0).2) 14 = nI n := e14
      have g16 : vU (vU V 15 (nI (sp + (nmv tx n 1 sp 0).2))) 18 (nI (nmv tx n 1 sp 0).2) 16 = -1 := e16
      have gT : ∀ i, i < n → fU (fU F 19 (4 * k + 1) (nI (nmv tx n 1 sp 0).1)) 19 (4 * k + 3) (nI (nmv tx n 1 sp 0).2) 9 i = nI (tx i) ∧ tx i < 128 := hT
      by_cases h3 : p2 < n ∧ tx p2 = 32
      · have h3r : p2 < n ∧ 32 ≤ tx p2 ∧ tx p2 ≤ 32 := by omega
        have h3k : sp + (nmv tx n (kd1 8) sp 0).2 < n ∧ tx (sp + (nmv tx n (kd1 8) sp 0).2) = 32 := by
          show sp + (nmv tx n 1 sp 0).2 < n ∧ tx (sp + (nmv tx n 1 sp 0).2) = 32
          rw [hp2]; exact h3
        by_cases hD2 : isD tx n (p2 + 1) = true
        · have hle2 := nmv_le (tx := tx) (n := n) (k := 2) (p := p2 + 1) (v := 0)
          have h4 : ¬ (nmv tx n (kd2 8) (sp + (nmv tx n (kd1 8) sp 0).2 + 1) 0).2 = 0 := fun z => (nmv_0 (k := 1)).mp z (by rw [show sp + (nmv tx n (kd1 8) sp 0).2 = p2 from hp2]; exact hD2)
          have hR := pnR_B3 h0 (by decide) h3k h4
          rw [show sp + (nmv tx n (kd1 8) sp 0).2 = p2 from hp2] at hR
          refine mE_of (by decide) rfl (Nat.le_of_ble_eq_true rfl) [some (.ref o), some (.int (nI (4 * k))), some (.int (nI 8)), none, none, none] rfl ?_
          refine n_blk [(.iload_n 2, .null), (.iconst 4, .int (nI 4))] (Nat.le_of_ble_eq_true rfl) (by decide +kernel) ?_
          refine gx_iload_n_2 (gx_iconst ((gx_nil ?_)))
          refine n_icmp_ge (off := 7) (tgt := 9) (by decide +kernel) (by decide) (fun c2 => ?_) (fun c2 => ?_)
          · try simp only [bI_0, Decidable.not_not] at c2
            refine n_blk [(.iconst 0, .int (nI 0)), (.istore_n 3, .null), (.iload_n 2, .null), (.bipush 7, .int (nI 7))] (Nat.le_of_ble_eq_true rfl) (by decide +kernel) ?_
            refine gx_iconst (gx_istore_n_3 rfl (gx_iload_n_2 (gx_bipush ((gx_nil ?_)))))
            refine n_icmp_eq (off := 9) (tgt := 23) (by decide +kernel) (by decide) (fun c14 => ?_) (fun c14 => ?_)
            · exact absurd c14 (by decide)
            · try simp only [bI_0, Decidable.not_not] at c14
              refine n_blk [(.iload_n 2, .null), (.bipush 8, .int (nI 8))] (Nat.le_of_ble_eq_true rfl) (by decide +kernel) ?_
              refine gx_iload_n_2 (gx_bipush ((gx_nil ?_)))
              refine n_icmp_ne (off := 7) (tgt := 27) (by decide +kernel) (by decide) (fun c20 => ?_) (fun c20 => ?_)
              · exact absurd (by decide) c20
              · try simp only [bI_0, Decidable.not_not] at c20
                refine n_blk [(.iconst 1, .int (nI 1)), (.goto 4, .retAddr 28), (.istore 4, .null), (.aload_n 0, .null)] (Nat.le_of_ble_eq_true rfl) (by decide +kernel) ?_
                refine gx_iconst (gx_goto (gx_istore_4 rfl (gx_aload_n_0 ((gx_nil ?_)))))
                refine n_getR fX10_38 (by decide +kernel) rfl ?_
                refine n_blk [(.iload_n 1, .null), (.iconst 1, .int (nI 1)), (.iadd, .null), (.aload_n 0, .null), (.iload_n 3, .null)] (Nat.le_of_ble_eq_true rfl) (by decide +kernel) ?_
                refine gx_iload_n_1 (gx_iconst (gx_iadd (gx_aload_n_0 (gx_iload_n_3 ((gx_nil ?_))))))
                try simp only [nI_add, pk_mul, Nat.add_zero, Nat.zero_add, Nat.reduceAdd, Nat.reduceMul]
                refine n_if_eq (off := 7) (tgt := 46) (by decide +kernel) (by decide) (fun c39 => ?_) (fun c39 => ?_)
                · try simp only [bI_0, Decidable.not_not] at c39
                  refine n_blk [(.iload 4, .null)] (Nat.le_of_ble_eq_true rfl) (by decide +kernel) ?_
                  refine gx_iload_4 ((gx_nil ?_))
                  refine n_if_eq (off := 7) (tgt := 55) (by decide +kernel) (by decide) (fun c48 => ?_) (fun c48 => ?_)
                  · exact absurd c48 (by decide)
                  · try simp only [bI_0, Decidable.not_not] at c48
                    refine n_blk [(.iconst 1, .int (nI 1)), (.goto 4, .retAddr 56)] (Nat.le_of_ble_eq_true rfl) (by decide +kernel) ?_
                    refine gx_iconst (gx_goto ((gx_nil ?_)))
                    refine n_call kX10_244 (r_number_ok e15 e14 hsp hn hT e16 (mo := 1) (by decide) (by decide) hD) (by decide +kernel) rfl rfl (Nat.le_of_ble_eq_true rfl) (Nat.le_of_ble_eq_true rfl) (Nat.le_of_ble_eq_true rfl) rfl ?_
                    simp only [Option.toList_some, List.cons_append, List.nil_append]
                    refine n_as (j := 19) rfl (by decide +kernel) (show _ < 120 from by omega) ?_
                    refine n_blk [(.aload_n 0, .null)] (Nat.le_of_ble_eq_true rfl) (by decide +kernel) ?_
                    refine gx_aload_n_0 ((gx_nil ?_))
                    refine n_getR fX10_38 (by decide +kernel) rfl ?_
                    refine n_blk [(.iload_n 1, .null), (.iconst 3, .int (nI 3)), (.iadd, .null), (.aload_n 0, .null)] (Nat.le_of_ble_eq_true rfl) (by decide +kernel) ?_
                    refine gx_iload_n_1 (gx_iconst (gx_iadd (gx_aload_n_0 ((gx_nil ?_)))))
                    try simp only [nI_add, pk_mul, Nat.add_zero, Nat.zero_add, Nat.reduceAdd, Nat.reduceMul]
                    refine n_getI fX10_230 (by decide +kernel) rfl ?_
                    try simp only [vU_s, vU_n, ne_eq, Nat.reduceEqDiff, not_false_eq_true, nI_add, pk_mul, Nat.add_zero, Nat.zero_add, Nat.reduceAdd, Nat.reduceMul]
                    refine n_as (j := 19) rfl (by decide +kernel) (show _ < 120 from by omega) ?_
                    refine n_blk [(.iload_n 2, .null), (.iconst 3, .int (nI 3))] (Nat.le_of_ble_eq_true rfl) (by decide +kernel) ?_
                    refine gx_iload_n_2 (gx_iconst ((gx_nil ?_)))
                    refine n_icmp_lt (off := 13) (tgt := 87) (by decide +kernel) (by decide) (fun c74 => ?_) (fun c74 => ?_)
                    · exact absurd c74 (by decide)
                    · try simp only [bI_0, Decidable.not_not] at c74
                      refine n_blk [(.iload_n 2, .null), (.iconst 5, .int (nI 5))] (Nat.le_of_ble_eq_true rfl) (by decide +kernel) ?_
                      refine gx_iload_n_2 (gx_iconst ((gx_nil ?_)))
                      refine n_icmp_eq (off := 8) (tgt := 87) (by decide +kernel) (by decide) (fun c79 => ?_) (fun c79 => ?_)
                      · exact absurd c79 (by decide)
                      · try simp only [bI_0, Decidable.not_not] at c79
                        refine n_blk [(.iload 4, .null)] (Nat.le_of_ble_eq_true rfl) (by decide +kernel) ?_
                        refine gx_iload_4 ((gx_nil ?_))
                        refine n_if_eq (off := 40) (tgt := 124) (by decide +kernel) (by decide) (fun c84 => ?_) (fun c84 => ?_)
                        · exact absurd c84 (by decide)
                        · try simp only [bI_0, Decidable.not_not] at c84
                          refine n_blk [(.aload_n 0, .null), (.bipush 32, .int (nI 32)), (.bipush 32, .int (nI 32))] (Nat.le_of_ble_eq_true rfl) (by decide +kernel) ?_
                          refine gx_aload_n_0 (gx_bipush (gx_bipush ((gx_nil ?_))))
                          refine n_call kX10_227 (r_reads_ok (V := vU (vU V 15 (nI (sp + (nmv tx n 1 sp 0).2))) 18 (nI (nmv tx n 1 sp 0).2)) g15 g14 hp2n hn gT (lo := 32) (hi := 32) (by decide) (by decide) g16 h3r) (by decide +kernel) rfl rfl (Nat.le_of_ble_eq_true rfl) (Nat.le_of_ble_eq_true rfl) (Nat.le_of_ble_eq_true rfl) rfl ?_
                          simp only [Option.toList_some, List.cons_append, List.nil_append]
                          refine n_blk [(.istore 5, .null), (.aload_n 0, .null)] (Nat.le_of_ble_eq_true rfl) (by decide +kernel) ?_
                          refine gx_istore_5 rfl (gx_aload_n_0 ((gx_nil ?_)))
                          refine n_getR fX10_38 (by decide +kernel) rfl ?_
                          refine n_blk [(.iload_n 1, .null), (.iconst 2, .int (nI 2)), (.iadd, .null), (.aload_n 0, .null), (.iload_n 2, .null), (.iconst 2, .int (nI 2))] (Nat.le_of_ble_eq_true rfl) (by decide +kernel) ?_
                          refine gx_iload_n_1 (gx_iconst (gx_iadd (gx_aload_n_0 (gx_iload_n_2 (gx_iconst ((gx_nil ?_)))))))
                          try simp only [nI_add, pk_mul, Nat.add_zero, Nat.zero_add, Nat.reduceAdd, Nat.reduceMul]
                          refine n_icmp_eq (off := 8) (tgt := 115) (by decide +kernel) (by decide) (fun c107 => ?_) (fun c107 => ?_)
                          · exact absurd c107 (by decide)
                          · try simp only [bI_0, Decidable.not_not] at c107
                            refine n_blk [(.iload_n 2, .null), (.iconst 5, .int (nI 5))] (Nat.le_of_ble_eq_true rfl) (by decide +kernel) ?_
                            refine gx_iload_n_2 (gx_iconst ((gx_nil ?_)))
                            refine n_icmp_ne (off := 7) (tgt := 119) (by decide +kernel) (by decide) (fun c112 => ?_) (fun c112 => ?_)
                            · try simp only [bI_0, Decidable.not_not] at c112
                              refine n_blk [(.iconst 2, .int (nI 2))] (Nat.le_of_ble_eq_true rfl) (by decide +kernel) ?_
                              refine gx_iconst ((gx_nil ?_))
                              refine n_call kX10_244 (r_number_ok (sp := p2 + 1) (V := vU (vU (vU V 15 (nI (sp + (nmv tx n 1 sp 0).2))) 18 (nI (nmv tx n 1 sp 0).2)) 15 (nI (p2 + 1))) rfl e14 (by omega) hn gT e16 (mo := 2) (by decide) (by decide) hD2) (by decide +kernel) rfl rfl (Nat.le_of_ble_eq_true rfl) (Nat.le_of_ble_eq_true rfl) (Nat.le_of_ble_eq_true rfl) rfl ?_
                              simp only [Option.toList_some, List.cons_append, List.nil_append]
                              refine n_as (j := 19) rfl (by decide +kernel) (show _ < 120 from by omega) ?_
                              refine n_end none rfl ⟨by decide +kernel, rfl⟩ ?_
                              exact ⟨rfl, rnF3.1, fun j h1 h2 h3 => by simp [vU, h1, h2, h3], rnF3.2.1, fun e he => (by rw [hR] at he; cases he), fun c p' he => by rw [hR] at he; cases he; exact ⟨e16, rfl, rnF3.2.2.1, rnF3.2.2.2.1, fun _ => rnF3.2.2.2.2⟩⟩
                            · exact absurd c112 (by decide)
                · exact absurd (by decide) c39
          · exact absurd (by decide) c2
        · have h4 : (nmv tx n (kd2 8) (sp + (nmv tx n (kd1 8) sp 0).2 + 1) 0).2 = 0 := (nmv_0 (k := 1)).mpr (by rw [show sp + (nmv tx n (kd1 8) sp 0).2 = p2 from hp2]; exact hD2)
          have hR := pnR_B2 h0 (by decide) h3k h4
          rw [show sp + (nmv tx n (kd1 8) sp 0).2 = p2 from hp2] at hR
          refine mE_of (by decide) rfl (Nat.le_of_ble_eq_true rfl) [some (.ref o), some (.int (nI (4 * k))), some (.int (nI 8)), none, none, none] rfl ?_
          refine n_blk [(.iload_n 2, .null), (.iconst 4, .int (nI 4))] (Nat.le_of_ble_eq_true rfl) (by decide +kernel) ?_
          refine gx_iload_n_2 (gx_iconst ((gx_nil ?_)))
          refine n_icmp_ge (off := 7) (tgt := 9) (by decide +kernel) (by decide) (fun c2 => ?_) (fun c2 => ?_)
          · try simp only [bI_0, Decidable.not_not] at c2
            refine n_blk [(.iconst 0, .int (nI 0)), (.istore_n 3, .null), (.iload_n 2, .null), (.bipush 7, .int (nI 7))] (Nat.le_of_ble_eq_true rfl) (by decide +kernel) ?_
            refine gx_iconst (gx_istore_n_3 rfl (gx_iload_n_2 (gx_bipush ((gx_nil ?_)))))
            refine n_icmp_eq (off := 9) (tgt := 23) (by decide +kernel) (by decide) (fun c14 => ?_) (fun c14 => ?_)
            · exact absurd c14 (by decide)
            · try simp only [bI_0, Decidable.not_not] at c14
              refine n_blk [(.iload_n 2, .null), (.bipush 8, .int (nI 8))] (Nat.le_of_ble_eq_true rfl) (by decide +kernel) ?_
              refine gx_iload_n_2 (gx_bipush ((gx_nil ?_)))
              refine n_icmp_ne (off := 7) (tgt := 27) (by decide +kernel) (by decide) (fun c20 => ?_) (fun c20 => ?_)
              · exact absurd (by decide) c20
              · try simp only [bI_0, Decidable.not_not] at c20
                refine n_blk [(.iconst 1, .int (nI 1)), (.goto 4, .retAddr 28), (.istore 4, .null), (.aload_n 0, .null)] (Nat.le_of_ble_eq_true rfl) (by decide +kernel) ?_
                refine gx_iconst (gx_goto (gx_istore_4 rfl (gx_aload_n_0 ((gx_nil ?_)))))
                refine n_getR fX10_38 (by decide +kernel) rfl ?_
                refine n_blk [(.iload_n 1, .null), (.iconst 1, .int (nI 1)), (.iadd, .null), (.aload_n 0, .null), (.iload_n 3, .null)] (Nat.le_of_ble_eq_true rfl) (by decide +kernel) ?_
                refine gx_iload_n_1 (gx_iconst (gx_iadd (gx_aload_n_0 (gx_iload_n_3 ((gx_nil ?_))))))
                try simp only [nI_add, pk_mul, Nat.add_zero, Nat.zero_add, Nat.reduceAdd, Nat.reduceMul]
                refine n_if_eq (off := 7) (tgt := 46) (by decide +kernel) (by decide) (fun c39 => ?_) (fun c39 => ?_)
                · try simp only [bI_0, Decidable.not_not] at c39
                  refine n_blk [(.iload 4, .null)] (Nat.le_of_ble_eq_true rfl) (by decide +kernel) ?_
                  refine gx_iload_4 ((gx_nil ?_))
                  refine n_if_eq (off := 7) (tgt := 55) (by decide +kernel) (by decide) (fun c48 => ?_) (fun c48 => ?_)
                  · exact absurd c48 (by decide)
                  · try simp only [bI_0, Decidable.not_not] at c48
                    refine n_blk [(.iconst 1, .int (nI 1)), (.goto 4, .retAddr 56)] (Nat.le_of_ble_eq_true rfl) (by decide +kernel) ?_
                    refine gx_iconst (gx_goto ((gx_nil ?_)))
                    refine n_call kX10_244 (r_number_ok e15 e14 hsp hn hT e16 (mo := 1) (by decide) (by decide) hD) (by decide +kernel) rfl rfl (Nat.le_of_ble_eq_true rfl) (Nat.le_of_ble_eq_true rfl) (Nat.le_of_ble_eq_true rfl) rfl ?_
                    simp only [Option.toList_some, List.cons_append, List.nil_append]
                    refine n_as (j := 19) rfl (by decide +kernel) (show _ < 120 from by omega) ?_
                    refine n_blk [(.aload_n 0, .null)] (Nat.le_of_ble_eq_true rfl) (by decide +kernel) ?_
                    refine gx_aload_n_0 ((gx_nil ?_))
                    refine n_getR fX10_38 (by decide +kernel) rfl ?_
                    refine n_blk [(.iload_n 1, .null), (.iconst 3, .int (nI 3)), (.iadd, .null), (.aload_n 0, .null)] (Nat.le_of_ble_eq_true rfl) (by decide +kernel) ?_
                    refine gx_iload_n_1 (gx_iconst (gx_iadd (gx_aload_n_0 ((gx_nil ?_)))))
                    try simp only [nI_add, pk_mul, Nat.add_zero, Nat.zero_add, Nat.reduceAdd, Nat.reduceMul]
                    refine n_getI fX10_230 (by decide +kernel) rfl ?_
                    try simp only [vU_s, vU_n, ne_eq, Nat.reduceEqDiff, not_false_eq_true, nI_add, pk_mul, Nat.add_zero, Nat.zero_add, Nat.reduceAdd, Nat.reduceMul]
                    refine n_as (j := 19) rfl (by decide +kernel) (show _ < 120 from by omega) ?_
                    refine n_blk [(.iload_n 2, .null), (.iconst 3, .int (nI 3))] (Nat.le_of_ble_eq_true rfl) (by decide +kernel) ?_
                    refine gx_iload_n_2 (gx_iconst ((gx_nil ?_)))
                    refine n_icmp_lt (off := 13) (tgt := 87) (by decide +kernel) (by decide) (fun c74 => ?_) (fun c74 => ?_)
                    · exact absurd c74 (by decide)
                    · try simp only [bI_0, Decidable.not_not] at c74
                      refine n_blk [(.iload_n 2, .null), (.iconst 5, .int (nI 5))] (Nat.le_of_ble_eq_true rfl) (by decide +kernel) ?_
                      refine gx_iload_n_2 (gx_iconst ((gx_nil ?_)))
                      refine n_icmp_eq (off := 8) (tgt := 87) (by decide +kernel) (by decide) (fun c79 => ?_) (fun c79 => ?_)
                      · exact absurd c79 (by decide)
                      · try simp only [bI_0, Decidable.not_not] at c79
                        refine n_blk [(.iload 4, .null)] (Nat.le_of_ble_eq_true rfl) (by decide +kernel) ?_
                        refine gx_iload_4 ((gx_nil ?_))
                        refine n_if_eq (off := 40) (tgt := 124) (by decide +kernel) (by decide) (fun c84 => ?_) (fun c84 => ?_)
                        · exact absurd c84 (by decide)
                        · try simp only [bI_0, Decidable.not_not] at c84
                          refine n_blk [(.aload_n 0, .null), (.bipush 32, .int (nI 32)), (.bipush 32, .int (nI 32))] (Nat.le_of_ble_eq_true rfl) (by decide +kernel) ?_
                          refine gx_aload_n_0 (gx_bipush (gx_bipush ((gx_nil ?_))))
                          refine n_call kX10_227 (r_reads_ok (V := vU (vU V 15 (nI (sp + (nmv tx n 1 sp 0).2))) 18 (nI (nmv tx n 1 sp 0).2)) g15 g14 hp2n hn gT (lo := 32) (hi := 32) (by decide) (by decide) g16 h3r) (by decide +kernel) rfl rfl (Nat.le_of_ble_eq_true rfl) (Nat.le_of_ble_eq_true rfl) (Nat.le_of_ble_eq_true rfl) rfl ?_
                          simp only [Option.toList_some, List.cons_append, List.nil_append]
                          refine n_blk [(.istore 5, .null), (.aload_n 0, .null)] (Nat.le_of_ble_eq_true rfl) (by decide +kernel) ?_
                          refine gx_istore_5 rfl (gx_aload_n_0 ((gx_nil ?_)))
                          refine n_getR fX10_38 (by decide +kernel) rfl ?_
                          refine n_blk [(.iload_n 1, .null), (.iconst 2, .int (nI 2)), (.iadd, .null), (.aload_n 0, .null), (.iload_n 2, .null), (.iconst 2, .int (nI 2))] (Nat.le_of_ble_eq_true rfl) (by decide +kernel) ?_
                          refine gx_iload_n_1 (gx_iconst (gx_iadd (gx_aload_n_0 (gx_iload_n_2 (gx_iconst ((gx_nil ?_)))))))
                          try simp only [nI_add, pk_mul, Nat.add_zero, Nat.zero_add, Nat.reduceAdd, Nat.reduceMul]
                          refine n_icmp_eq (off := 8) (tgt := 115) (by decide +kernel) (by decide) (fun c107 => ?_) (fun c107 => ?_)
                          · exact absurd c107 (by decide)
                          · try simp only [bI_0, Decidable.not_not] at c107
                            refine n_blk [(.iload_n 2, .null), (.iconst 5, .int (nI 5))] (Nat.le_of_ble_eq_true rfl) (by decide +kernel) ?_
                            refine gx_iload_n_2 (gx_iconst ((gx_nil ?_)))
                            refine n_icmp_ne (off := 7) (tgt := 119) (by decide +kernel) (by decide) (fun c112 => ?_) (fun c112 => ?_)
                            · try simp only [bI_0, Decidable.not_not] at c112
                              refine n_blk [(.iconst 2, .int (nI 2))] (Nat.le_of_ble_eq_true rfl) (by decide +kernel) ?_
                              refine gx_iconst ((gx_nil ?_))
                              refine n_call kX10_244 (r_number_no (sp := p2 + 1) (V := vU (vU (vU V 15 (nI (sp + (nmv tx n 1 sp 0).2))) 18 (nI (nmv tx n 1 sp 0).2)) 15 (nI (p2 + 1))) rfl e14 (by omega) hn gT e16 (mo := 2) (by decide) (by decide) hD2) (by decide +kernel) rfl rfl (Nat.le_of_ble_eq_true rfl) (Nat.le_of_ble_eq_true rfl) (Nat.le_of_ble_eq_true rfl) rfl ?_
                              simp only [Option.toList_some, List.cons_append, List.nil_append]
                              refine n_as (j := 19) rfl (by decide +kernel) (show _ < 120 from by omega) ?_
                              refine n_end none rfl ⟨by decide +kernel, rfl⟩ ?_
                              exact ⟨rfl, rnF3.1, fun j h1 h2 h3 => by simp [vU, h1, h2, h3], rnF3.2.1, fun e he => by rw [hR] at he; cases he; rfl, fun c p' he => by rw [hR] at he; cases he⟩
                            · exact absurd c112 (by decide)
                · exact absurd (by decide) c39
          · exact absurd (by decide) c2
      · have hR := pnR_B1 h0 (by decide) (fun z => h3 (by rw [show sp + (nmv tx n (kd1 8) sp 0).2 = p2 from hp2] at z; exact z))
        rw [show sp + (nmv tx n (kd1 8) sp 0).2 = p2 from hp2] at hR
        have hw16 : ¬ vU (vU (vU V 15 (nI (sp + (nmv tx n 1 sp 0).2))) 18 (nI (nmv tx n 1 sp 0).2)) 16 (nI p2) 16 = -1 := nI_nm1 (by omega)
        refine mE_of (by decide) rfl (Nat.le_of_ble_eq_true rfl) [some (.ref o), some (.int (nI (4 * k))), some (.int (nI 8)), none, none, none] rfl ?_
        refine n_blk [(.iload_n 2, .null), (.iconst 4, .int (nI 4))] (Nat.le_of_ble_eq_true rfl) (by decide +kernel) ?_
        refine gx_iload_n_2 (gx_iconst ((gx_nil ?_)))
        refine n_icmp_ge (off := 7) (tgt := 9) (by decide +kernel) (by decide) (fun c2 => ?_) (fun c2 => ?_)
        · try simp only [bI_0, Decidable.not_not] at c2
          refine n_blk [(.iconst 0, .int (nI 0)), (.istore_n 3, .null), (.iload_n 2, .null), (.bipush 7, .int (nI 7))] (Nat.le_of_ble_eq_true rfl) (by decide +kernel) ?_
          refine gx_iconst (gx_istore_n_3 rfl (gx_iload_n_2 (gx_bipush ((gx_nil ?_)))))
          refine n_icmp_eq (off := 9) (tgt := 23) (by decide +kernel) (by decide) (fun c14 => ?_) (fun c14 => ?_)
          · exact absurd c14 (by decide)
          · try simp only [bI_0, Decidable.not_not] at c14
            refine n_blk [(.iload_n 2, .null), (.bipush 8, .int (nI 8))] (Nat.le_of_ble_eq_true rfl) (by decide +kernel) ?_
            refine gx_iload_n_2 (gx_bipush ((gx_nil ?_)))
            refine n_icmp_ne (off := 7) (tgt := 27) (by decide +kernel) (by decide) (fun c20 => ?_) (fun c20 => ?_)
            · exact absurd (by decide) c20
            · try simp only [bI_0, Decidable.not_not] at c20
              refine n_blk [(.iconst 1, .int (nI 1)), (.goto 4, .retAddr 28), (.istore 4, .null), (.aload_n 0, .null)] (Nat.le_of_ble_eq_true rfl) (by decide +kernel) ?_
              refine gx_iconst (gx_goto (gx_istore_4 rfl (gx_aload_n_0 ((gx_nil ?_)))))
              refine n_getR fX10_38 (by decide +kernel) rfl ?_
              refine n_blk [(.iload_n 1, .null), (.iconst 1, .int (nI 1)), (.iadd, .null), (.aload_n 0, .null), (.iload_n 3, .null)] (Nat.le_of_ble_eq_true rfl) (by decide +kernel) ?_
              refine gx_iload_n_1 (gx_iconst (gx_iadd (gx_aload_n_0 (gx_iload_n_3 ((gx_nil ?_))))))
              try simp only [nI_add, pk_mul, Nat.add_zero, Nat.zero_add, Nat.reduceAdd, Nat.reduceMul]
              refine n_if_eq (off := 7) (tgt := 46) (by decide +kernel) (by decide) (fun c39 => ?_) (fun c39 => ?_)
              · try simp only [bI_0, Decidable.not_not] at c39
                refine n_blk [(.iload 4, .null)] (Nat.le_of_ble_eq_true rfl) (by decide +kernel) ?_
                refine gx_iload_4 ((gx_nil ?_))
                refine n_if_eq (off := 7) (tgt := 55) (by decide +kernel) (by decide) (fun c48 => ?_) (fun c48 => ?_)
                · exact absurd c48 (by decide)
                · try simp only [bI_0, Decidable.not_not] at c48
                  refine n_blk [(.iconst 1, .int (nI 1)), (.goto 4, .retAddr 56)] (Nat.le_of_ble_eq_true rfl) (by decide +kernel) ?_
                  refine gx_iconst (gx_goto ((gx_nil ?_)))
                  refine n_call kX10_244 (r_number_ok e15 e14 hsp hn hT e16 (mo := 1) (by decide) (by decide) hD) (by decide +kernel) rfl rfl (Nat.le_of_ble_eq_true rfl) (Nat.le_of_ble_eq_true rfl) (Nat.le_of_ble_eq_true rfl) rfl ?_
                  simp only [Option.toList_some, List.cons_append, List.nil_append]
                  refine n_as (j := 19) rfl (by decide +kernel) (show _ < 120 from by omega) ?_
                  refine n_blk [(.aload_n 0, .null)] (Nat.le_of_ble_eq_true rfl) (by decide +kernel) ?_
                  refine gx_aload_n_0 ((gx_nil ?_))
                  refine n_getR fX10_38 (by decide +kernel) rfl ?_
                  refine n_blk [(.iload_n 1, .null), (.iconst 3, .int (nI 3)), (.iadd, .null), (.aload_n 0, .null)] (Nat.le_of_ble_eq_true rfl) (by decide +kernel) ?_
                  refine gx_iload_n_1 (gx_iconst (gx_iadd (gx_aload_n_0 ((gx_nil ?_)))))
                  try simp only [nI_add, pk_mul, Nat.add_zero, Nat.zero_add, Nat.reduceAdd, Nat.reduceMul]
                  refine n_getI fX10_230 (by decide +kernel) rfl ?_
                  try simp only [vU_s, vU_n, ne_eq, Nat.reduceEqDiff, not_false_eq_true, nI_add, pk_mul, Nat.add_zero, Nat.zero_add, Nat.reduceAdd, Nat.reduceMul]
                  refine n_as (j := 19) rfl (by decide +kernel) (show _ < 120 from by omega) ?_
                  refine n_blk [(.iload_n 2, .null), (.iconst 3, .int (nI 3))] (Nat.le_of_ble_eq_true rfl) (by decide +kernel) ?_
                  refine gx_iload_n_2 (gx_iconst ((gx_nil ?_)))
                  refine n_icmp_lt (off := 13) (tgt := 87) (by decide +kernel) (by decide) (fun c74 => ?_) (fun c74 => ?_)
                  · exact absurd c74 (by decide)
                  · try simp only [bI_0, Decidable.not_not] at c74
                    refine n_blk [(.iload_n 2, .null), (.iconst 5, .int (nI 5))] (Nat.le_of_ble_eq_true rfl) (by decide +kernel) ?_
                    refine gx_iload_n_2 (gx_iconst ((gx_nil ?_)))
                    refine n_icmp_eq (off := 8) (tgt := 87) (by decide +kernel) (by decide) (fun c79 => ?_) (fun c79 => ?_)
                    · exact absurd c79 (by decide)
                    · try simp only [bI_0, Decidable.not_not] at c79
                      refine n_blk [(.iload 4, .null)] (Nat.le_of_ble_eq_true rfl) (by decide +kernel) ?_
                      refine gx_iload_4 ((gx_nil ?_))
                      refine n_if_eq (off := 40) (tgt := 124) (by decide +kernel) (by decide) (fun c84 => ?_) (fun c84 => ?_)
                      · exact absurd c84 (by decide)
                      · try simp only [bI_0, Decidable.not_not] at c84
                        refine n_blk [(.aload_n 0, .null), (.bipush 32, .int (nI 32)), (.bipush 32, .int (nI 32))] (Nat.le_of_ble_eq_true rfl) (by decide +kernel) ?_
                        refine gx_aload_n_0 (gx_bipush (gx_bipush ((gx_nil ?_))))
                        refine n_call kX10_227 (r_reads_no (V := vU (vU V 15 (nI (sp + (nmv tx n 1 sp 0).2))) 18 (nI (nmv tx n 1 sp 0).2)) g15 g14 hp2n hn gT (lo := 32) (hi := 32) (by decide) (by decide) (fun z => h3 (by omega))) (by decide +kernel) rfl rfl (Nat.le_of_ble_eq_true rfl) (Nat.le_of_ble_eq_true rfl) (Nat.le_of_ble_eq_true rfl) rfl ?_
                        rw [if_pos g16]
                        simp only [Option.toList_some, List.cons_append, List.nil_append]
                        refine n_blk [(.istore 5, .null), (.aload_n 0, .null)] (Nat.le_of_ble_eq_true rfl) (by decide +kernel) ?_
                        refine gx_istore_5 rfl (gx_aload_n_0 ((gx_nil ?_)))
                        refine n_getR fX10_38 (by decide +kernel) rfl ?_
                        refine n_blk [(.iload_n 1, .null), (.iconst 2, .int (nI 2)), (.iadd, .null), (.aload_n 0, .null), (.iload_n 2, .null), (.iconst 2, .int (nI 2))] (Nat.le_of_ble_eq_true rfl) (by decide +kernel) ?_
                        refine gx_iload_n_1 (gx_iconst (gx_iadd (gx_aload_n_0 (gx_iload_n_2 (gx_iconst ((gx_nil ?_)))))))
                        try simp only [nI_add, pk_mul, Nat.add_zero, Nat.zero_add, Nat.reduceAdd, Nat.reduceMul]
                        refine n_icmp_eq (off := 8) (tgt := 115) (by decide +kernel) (by decide) (fun c107 => ?_) (fun c107 => ?_)
                        · exact absurd c107 (by decide)
                        · try simp only [bI_0, Decidable.not_not] at c107
                          refine n_blk [(.iload_n 2, .null), (.iconst 5, .int (nI 5))] (Nat.le_of_ble_eq_true rfl) (by decide +kernel) ?_
                          refine gx_iload_n_2 (gx_iconst ((gx_nil ?_)))
                          refine n_icmp_ne (off := 7) (tgt := 119) (by decide +kernel) (by decide) (fun c112 => ?_) (fun c112 => ?_)
                          · try simp only [bI_0, Decidable.not_not] at c112
                            refine n_blk [(.iconst 2, .int (nI 2))] (Nat.le_of_ble_eq_true rfl) (by decide +kernel) ?_
                            refine gx_iconst ((gx_nil ?_))
                            refine n_call kX10_244 (r_number_wr (sp := p2) (V := vU (vU (vU V 15 (nI (sp + (nmv tx n 1 sp 0).2))) 18 (nI (nmv tx n 1 sp 0).2)) 16 (nI p2)) g15 e14 hp2n hn gT hw16 (mo := 2) (by decide) (by decide)) (by decide +kernel) rfl rfl (Nat.le_of_ble_eq_true rfl) (Nat.le_of_ble_eq_true rfl) (Nat.le_of_ble_eq_true rfl) rfl ?_
                            simp only [Option.toList_some, List.cons_append, List.nil_append]
                            refine n_as (j := 19) rfl (by decide +kernel) (show _ < 120 from by omega) ?_
                            refine n_end none rfl ⟨by decide +kernel, rfl⟩ ?_
                            exact ⟨rfl, rnF3.1, fun j h1 h2 h3 => by simp [vU, h1, h2, h3], rnF3.2.1, fun e he => by rw [hR] at he; cases he; rfl, fun c p' he => by rw [hR] at he; cases he⟩
                          · exact absurd c112 (by decide)
              · exact absurd (by decide) c39
        · exact absurd (by decide) c2
    · have hR := pnR_A (tx := tx) (n := n) (w := 8) (p := sp) ((nmv_0 (k := 0)).mpr hD)
      have gT : ∀ i, i < n → fU (fU F 19 (4 * k + 1) (nI 0)) 19 (4 * k + 3) (nI 1) 9 i = nI (tx i) ∧ tx i < 128 := hT
      have hw16 : ¬ vU (vU V 16 (nI sp)) 18 (nI 1) 16 = -1 := nI_nm1 (by omega)
      refine mE_of (by decide) rfl (Nat.le_of_ble_eq_true rfl) [some (.ref o), some (.int (nI (4 * k))), some (.int (nI 8)), none, none, none] rfl ?_
      refine n_blk [(.iload_n 2, .null), (.iconst 4, .int (nI 4))] (Nat.le_of_ble_eq_true rfl) (by decide +kernel) ?_
      refine gx_iload_n_2 (gx_iconst ((gx_nil ?_)))
      refine n_icmp_ge (off := 7) (tgt := 9) (by decide +kernel) (by decide) (fun c2 => ?_) (fun c2 => ?_)
      · try simp only [bI_0, Decidable.not_not] at c2
        refine n_blk [(.iconst 0, .int (nI 0)), (.istore_n 3, .null), (.iload_n 2, .null), (.bipush 7, .int (nI 7))] (Nat.le_of_ble_eq_true rfl) (by decide +kernel) ?_
        refine gx_iconst (gx_istore_n_3 rfl (gx_iload_n_2 (gx_bipush ((gx_nil ?_)))))
        refine n_icmp_eq (off := 9) (tgt := 23) (by decide +kernel) (by decide) (fun c14 => ?_) (fun c14 => ?_)
        · exact absurd c14 (by decide)
        · try simp only [bI_0, Decidable.not_not] at c14
          refine n_blk [(.iload_n 2, .null), (.bipush 8, .int (nI 8))] (Nat.le_of_ble_eq_true rfl) (by decide +kernel) ?_
          refine gx_iload_n_2 (gx_bipush ((gx_nil ?_)))
          refine n_icmp_ne (off := 7) (tgt := 27) (by decide +kernel) (by decide) (fun c20 => ?_) (fun c20 => ?_)
          · exact absurd (by decide) c20
          · try simp only [bI_0, Decidable.not_not] at c20
            refine n_blk [(.iconst 1, .int (nI 1)), (.goto 4, .retAddr 28), (.istore 4, .null), (.aload_n 0, .null)] (Nat.le_of_ble_eq_true rfl) (by decide +kernel) ?_
            refine gx_iconst (gx_goto (gx_istore_4 rfl (gx_aload_n_0 ((gx_nil ?_)))))
            refine n_getR fX10_38 (by decide +kernel) rfl ?_
            refine n_blk [(.iload_n 1, .null), (.iconst 1, .int (nI 1)), (.iadd, .null), (.aload_n 0, .null), (.iload_n 3, .null)] (Nat.le_of_ble_eq_true rfl) (by decide +kernel) ?_
            refine gx_iload_n_1 (gx_iconst (gx_iadd (gx_aload_n_0 (gx_iload_n_3 ((gx_nil ?_))))))
            try simp only [nI_add, pk_mul, Nat.add_zero, Nat.zero_add, Nat.reduceAdd, Nat.reduceMul]
            refine n_if_eq (off := 7) (tgt := 46) (by decide +kernel) (by decide) (fun c39 => ?_) (fun c39 => ?_)
            · try simp only [bI_0, Decidable.not_not] at c39
              refine n_blk [(.iload 4, .null)] (Nat.le_of_ble_eq_true rfl) (by decide +kernel) ?_
              refine gx_iload_4 ((gx_nil ?_))
              refine n_if_eq (off := 7) (tgt := 55) (by decide +kernel) (by decide) (fun c48 => ?_) (fun c48 => ?_)
              · exact absurd c48 (by decide)
              · try simp only [bI_0, Decidable.not_not] at c48
                refine n_blk [(.iconst 1, .int (nI 1)), (.goto 4, .retAddr 56)] (Nat.le_of_ble_eq_true rfl) (by decide +kernel) ?_
                refine gx_iconst (gx_goto ((gx_nil ?_)))
                refine n_call kX10_244 (r_number_no e15 e14 hsp hn hT e16 (mo := 1) (by decide) (by decide) hD) (by decide +kernel) rfl rfl (Nat.le_of_ble_eq_true rfl) (Nat.le_of_ble_eq_true rfl) (Nat.le_of_ble_eq_true rfl) rfl ?_
                simp only [Option.toList_some, List.cons_append, List.nil_append]
                refine n_as (j := 19) rfl (by decide +kernel) (show _ < 120 from by omega) ?_
                refine n_blk [(.aload_n 0, .null)] (Nat.le_of_ble_eq_true rfl) (by decide +kernel) ?_
                refine gx_aload_n_0 ((gx_nil ?_))
                refine n_getR fX10_38 (by decide +kernel) rfl ?_
                refine n_blk [(.iload_n 1, .null), (.iconst 3, .int (nI 3)), (.iadd, .null), (.aload_n 0, .null)] (Nat.le_of_ble_eq_true rfl) (by decide +kernel) ?_
                refine gx_iload_n_1 (gx_iconst (gx_iadd (gx_aload_n_0 ((gx_nil ?_)))))
                try simp only [nI_add, pk_mul, Nat.add_zero, Nat.zero_add, Nat.reduceAdd, Nat.reduceMul]
                refine n_getI fX10_230 (by decide +kernel) rfl ?_
                try simp only [vU_s, vU_n, ne_eq, Nat.reduceEqDiff, not_false_eq_true, nI_add, pk_mul, Nat.add_zero, Nat.zero_add, Nat.reduceAdd, Nat.reduceMul]
                refine n_as (j := 19) rfl (by decide +kernel) (show _ < 120 from by omega) ?_
                refine n_blk [(.iload_n 2, .null), (.iconst 3, .int (nI 3))] (Nat.le_of_ble_eq_true rfl) (by decide +kernel) ?_
                refine gx_iload_n_2 (gx_iconst ((gx_nil ?_)))
                refine n_icmp_lt (off := 13) (tgt := 87) (by decide +kernel) (by decide) (fun c74 => ?_) (fun c74 => ?_)
                · exact absurd c74 (by decide)
                · try simp only [bI_0, Decidable.not_not] at c74
                  refine n_blk [(.iload_n 2, .null), (.iconst 5, .int (nI 5))] (Nat.le_of_ble_eq_true rfl) (by decide +kernel) ?_
                  refine gx_iload_n_2 (gx_iconst ((gx_nil ?_)))
                  refine n_icmp_eq (off := 8) (tgt := 87) (by decide +kernel) (by decide) (fun c79 => ?_) (fun c79 => ?_)
                  · exact absurd c79 (by decide)
                  · try simp only [bI_0, Decidable.not_not] at c79
                    refine n_blk [(.iload 4, .null)] (Nat.le_of_ble_eq_true rfl) (by decide +kernel) ?_
                    refine gx_iload_4 ((gx_nil ?_))
                    refine n_if_eq (off := 40) (tgt := 124) (by decide +kernel) (by decide) (fun c84 => ?_) (fun c84 => ?_)
                    · exact absurd c84 (by decide)
                    · try simp only [bI_0, Decidable.not_not] at c84
                      refine n_blk [(.aload_n 0, .null), (.bipush 32, .int (nI 32)), (.bipush 32, .int (nI 32))] (Nat.le_of_ble_eq_true rfl) (by decide +kernel) ?_
                      refine gx_aload_n_0 (gx_bipush (gx_bipush ((gx_nil ?_))))
                      refine n_call kX10_227 (r_reads_no (V := vU (vU V 16 (nI sp)) 18 (nI 1)) e15 e14 hsp hn gT (lo := 32) (hi := 32) (by decide) (by decide) (fun z => hw16 z.1)) (by decide +kernel) rfl rfl (Nat.le_of_ble_eq_true rfl) (Nat.le_of_ble_eq_true rfl) (Nat.le_of_ble_eq_true rfl) rfl ?_
                      rw [if_neg hw16, show vU (vU V 16 (nI sp)) 18 (nI 1) 16 = nI sp from rfl]
                      simp only [Option.toList_some, List.cons_append, List.nil_append]
                      refine n_blk [(.istore 5, .null), (.aload_n 0, .null)] (Nat.le_of_ble_eq_true rfl) (by decide +kernel) ?_
                      refine gx_istore_5 rfl (gx_aload_n_0 ((gx_nil ?_)))
                      refine n_getR fX10_38 (by decide +kernel) rfl ?_
                      refine n_blk [(.iload_n 1, .null), (.iconst 2, .int (nI 2)), (.iadd, .null), (.aload_n 0, .null), (.iload_n 2, .null), (.iconst 2, .int (nI 2))] (Nat.le_of_ble_eq_true rfl) (by decide +kernel) ?_
                      refine gx_iload_n_1 (gx_iconst (gx_iadd (gx_aload_n_0 (gx_iload_n_2 (gx_iconst ((gx_nil ?_)))))))
                      try simp only [nI_add, pk_mul, Nat.add_zero, Nat.zero_add, Nat.reduceAdd, Nat.reduceMul]
                      refine n_icmp_eq (off := 8) (tgt := 115) (by decide +kernel) (by decide) (fun c107 => ?_) (fun c107 => ?_)
                      · exact absurd c107 (by decide)
                      · try simp only [bI_0, Decidable.not_not] at c107
                        refine n_blk [(.iload_n 2, .null), (.iconst 5, .int (nI 5))] (Nat.le_of_ble_eq_true rfl) (by decide +kernel) ?_
                        refine gx_iload_n_2 (gx_iconst ((gx_nil ?_)))
                        refine n_icmp_ne (off := 7) (tgt := 119) (by decide +kernel) (by decide) (fun c112 => ?_) (fun c112 => ?_)
                        · try simp only [bI_0, Decidable.not_not] at c112
                          refine n_blk [(.iconst 2, .int (nI 2))] (Nat.le_of_ble_eq_true rfl) (by decide +kernel) ?_
                          refine gx_iconst ((gx_nil ?_))
                          refine n_call kX10_244 (r_number_wr (sp := sp) (V := vU (vU (vU V 16 (nI sp)) 18 (nI 1)) 16 (nI sp)) e15 e14 hsp hn gT hw16 (mo := 2) (by decide) (by decide)) (by decide +kernel) rfl rfl (Nat.le_of_ble_eq_true rfl) (Nat.le_of_ble_eq_true rfl) (Nat.le_of_ble_eq_true rfl) rfl ?_
                          simp only [Option.toList_some, List.cons_append, List.nil_append]
                          refine n_as (j := 19) rfl (by decide +kernel) (show _ < 120 from by omega) ?_
                          refine n_end none rfl ⟨by decide +kernel, rfl⟩ ?_
                          exact ⟨rfl, rnF3.1, fun j h1 h2 h3 => by simp [vU, h1, h2, h3], rnF3.2.1, fun e he => by rw [hR] at he; cases he; rfl, fun c p' he => by rw [hR] at he; cases he⟩
                        · exact absurd c112 (by decide)
            · exact absurd (by decide) c39
      · exact absurd (by decide) c2
  · by_cases hD : isD tx n sp = true
    · have h0 : ¬ (nmv tx n (kd1 9) sp 0).2 = 0 := fun z => (nmv_0 (k := 1)).mp z hD
      have hle := nmv_le (tx := tx) (n := n) (k := 2) (p := sp) (v := 0)
      have h0n : ¬ (nmv tx n 2 sp 0).2 = 0 := h0
      have hR := pnR_B0 h0 rfl
      refine mE_of (by decide) rfl (Nat.le_of_ble_eq_true rfl) [some (.ref o), some (.int (nI (4 * k))), some (.int (nI 9)), none, none, none] rfl ?_
      refine n_blk [(.iload_n 2, .null), (.iconst 4, .int (nI 4))] (Nat.le_of_ble_eq_true rfl) (by decide +kernel) ?_
      refine gx_iload_n_2 (gx_iconst ((gx_nil ?_)))
      refine n_icmp_ge (off := 7) (tgt := 9) (by decide +kernel) (by decide) (fun c2 => ?_) (fun c2 => ?_)
      · try simp only [bI_0, Decidable.not_not] at c2
        refine n_blk [(.iconst 0, .int (nI 0)), (.istore_n 3, .null), (.iload_n 2, .null), (.bipush 7, .int (nI 7))] (Nat.le_of_ble_eq_true rfl) (by decide +kernel) ?_
        refine gx_iconst (gx_istore_n_3 rfl (gx_iload_n_2 (gx_bipush ((gx_nil ?_)))))
        refine n_icmp_eq (off := 9) (tgt := 23) (by decide +kernel) (by decide) (fun c14 => ?_) (fun c14 => ?_)
        · exact absurd c14 (by decide)
        · try simp only [bI_0, Decidable.not_not] at c14
          refine n_blk [(.iload_n 2, .null), (.bipush 8, .int (nI 8))] (Nat.le_of_ble_eq_true rfl) (by decide +kernel) ?_
          refine gx_iload_n_2 (gx_bipush ((gx_nil ?_)))
          refine n_icmp_ne (off := 7) (tgt := 27) (by decide +kernel) (by decide) (fun c20 => ?_) (fun c20 => ?_)
          · try simp only [bI_0, Decidable.not_not] at c20
            refine n_blk [(.iconst 0, .int (nI 0)), (.istore 4, .null), (.aload_n 0, .null)] (Nat.le_of_ble_eq_true rfl) (by decide +kernel) ?_
            refine gx_iconst (gx_istore_4 rfl (gx_aload_n_0 ((gx_nil ?_))))
            refine n_getR fX10_38 (by decide +kernel) rfl ?_
            refine n_blk [(.iload_n 1, .null), (.iconst 1, .int (nI 1)), (.iadd, .null), (.aload_n 0, .null), (.iload_n 3, .null)] (Nat.le_of_ble_eq_true rfl) (by decide +kernel) ?_
            refine gx_iload_n_1 (gx_iconst (gx_iadd (gx_aload_n_0 (gx_iload_n_3 ((gx_nil ?_))))))
            try simp only [nI_add, pk_mul, Nat.add_zero, Nat.zero_add, Nat.reduceAdd, Nat.reduceMul]
            refine n_if_eq (off := 7) (tgt := 46) (by decide +kernel) (by decide) (fun c39 => ?_) (fun c39 => ?_)
            · try simp only [bI_0, Decidable.not_not] at c39
              refine n_blk [(.iload 4, .null)] (Nat.le_of_ble_eq_true rfl) (by decide +kernel) ?_
              refine gx_iload_4 ((gx_nil ?_))
              refine n_if_eq (off := 7) (tgt := 55) (by decide +kernel) (by decide) (fun c48 => ?_) (fun c48 => ?_)
              · try simp only [bI_0, Decidable.not_not] at c48
                refine n_blk [(.iconst 2, .int (nI 2))] (Nat.le_of_ble_eq_true rfl) (by decide +kernel) ?_
                refine gx_iconst ((gx_nil ?_))
                refine n_call kX10_244 (r_number_ok e15 e14 hsp hn hT e16 (mo := 2) (by decide) (by decide) hD) (by decide +kernel) rfl rfl (Nat.le_of_ble_eq_true rfl) (Nat.le_of_ble_eq_true rfl) (Nat.le_of_ble_eq_true rfl) rfl ?_
                simp only [Option.toList_some, List.cons_append, List.nil_append]
                refine n_as (j := 19) rfl (by decide +kernel) (show _ < 120 from by omega) ?_
                refine n_blk [(.aload_n 0, .null)] (Nat.le_of_ble_eq_true rfl) (by decide +kernel) ?_
                refine gx_aload_n_0 ((gx_nil ?_))
                refine n_getR fX10_38 (by decide +kernel) rfl ?_
                refine n_blk [(.iload_n 1, .null), (.iconst 3, .int (nI 3)), (.iadd, .null), (.aload_n 0, .null)] (Nat.le_of_ble_eq_true rfl) (by decide +kernel) ?_
                refine gx_iload_n_1 (gx_iconst (gx_iadd (gx_aload_n_0 ((gx_nil ?_)))))
                try simp only [nI_add, pk_mul, Nat.add_zero, Nat.zero_add, Nat.reduceAdd, Nat.reduceMul]
                refine n_getI fX10_230 (by decide +kernel) rfl ?_
                try simp only [vU_s, vU_n, ne_eq, Nat.reduceEqDiff, not_false_eq_true, nI_add, pk_mul, Nat.add_zero, Nat.zero_add, Nat.reduceAdd, Nat.reduceMul]
                refine n_as (j := 19) rfl (by decide +kernel) (show _ < 120 from by omega) ?_
                refine n_blk [(.iload_n 2, .null), (.iconst 3, .int (nI 3))] (Nat.le_of_ble_eq_true rfl) (by decide +kernel) ?_
                refine gx_iload_n_2 (gx_iconst ((gx_nil ?_)))
                refine n_icmp_lt (off := 13) (tgt := 87) (by decide +kernel) (by decide) (fun c74 => ?_) (fun c74 => ?_)
                · exact absurd c74 (by decide)
                · try simp only [bI_0, Decidable.not_not] at c74
                  refine n_blk [(.iload_n 2, .null), (.iconst 5, .int (nI 5))] (Nat.le_of_ble_eq_true rfl) (by decide +kernel) ?_
                  refine gx_iload_n_2 (gx_iconst ((gx_nil ?_)))
                  refine n_icmp_eq (off := 8) (tgt := 87) (by decide +kernel) (by decide) (fun c79 => ?_) (fun c79 => ?_)
                  · exact absurd c79 (by decide)
                  · try simp only [bI_0, Decidable.not_not] at c79
                    refine n_blk [(.iload 4, .null)] (Nat.le_of_ble_eq_true rfl) (by decide +kernel) ?_
                    refine gx_iload_4 ((gx_nil ?_))
                    refine n_if_eq (off := 40) (tgt := 124) (by decide +kernel) (by decide) (fun c84 => ?_) (fun c84 => ?_)
                    · try simp only [bI_0, Decidable.not_not] at c84
                      refine n_end none rfl ⟨by decide +kernel, rfl⟩ ?_
                      exact ⟨rfl, rnF.1, fun j h1 h2 h3 => by simp [vU, h1, h2, h3], rnF.2.1, fun e he => (by rw [hR] at he; cases he), fun c p' he => by rw [hR] at he; cases he; exact ⟨e16, rfl, rnF.2.2.1, rnF.2.2.2, fun z => absurd rfl z⟩⟩
                    · exact absurd (by decide) c84
              · exact absurd (by decide) c48
            · exact absurd (by decide) c39
          · exact absurd c20 (by decide)
      · exact absurd (by decide) c2
    · have hR := pnR_A (tx := tx) (n := n) (w := 9) (p := sp) ((nmv_0 (k := 1)).mpr hD)
      refine mE_of (by decide) rfl (Nat.le_of_ble_eq_true rfl) [some (.ref o), some (.int (nI (4 * k))), some (.int (nI 9)), none, none, none] rfl ?_
      refine n_blk [(.iload_n 2, .null), (.iconst 4, .int (nI 4))] (Nat.le_of_ble_eq_true rfl) (by decide +kernel) ?_
      refine gx_iload_n_2 (gx_iconst ((gx_nil ?_)))
      refine n_icmp_ge (off := 7) (tgt := 9) (by decide +kernel) (by decide) (fun c2 => ?_) (fun c2 => ?_)
      · try simp only [bI_0, Decidable.not_not] at c2
        refine n_blk [(.iconst 0, .int (nI 0)), (.istore_n 3, .null), (.iload_n 2, .null), (.bipush 7, .int (nI 7))] (Nat.le_of_ble_eq_true rfl) (by decide +kernel) ?_
        refine gx_iconst (gx_istore_n_3 rfl (gx_iload_n_2 (gx_bipush ((gx_nil ?_)))))
        refine n_icmp_eq (off := 9) (tgt := 23) (by decide +kernel) (by decide) (fun c14 => ?_) (fun c14 => ?_)
        · exact absurd c14 (by decide)
        · try simp only [bI_0, Decidable.not_not] at c14
          refine n_blk [(.iload_n 2, .null), (.bipush 8, .int (nI 8))] (Nat.le_of_ble_eq_true rfl) (by decide +kernel) ?_
          refine gx_iload_n_2 (gx_bipush ((gx_nil ?_)))
          refine n_icmp_ne (off := 7) (tgt := 27) (by decide +kernel) (by decide) (fun c20 => ?_) (fun c20 => ?_)
          · try simp only [bI_0, Decidable.not_not] at c20
            refine n_blk [(.iconst 0, .int (nI 0)), (.istore 4, .null), (.aload_n 0, .null)] (Nat.le_of_ble_eq_true rfl) (by decide +kernel) ?_
            refine gx_iconst (gx_istore_4 rfl (gx_aload_n_0 ((gx_nil ?_))))
            refine n_getR fX10_38 (by decide +kernel) rfl ?_
            refine n_blk [(.iload_n 1, .null), (.iconst 1, .int (nI 1)), (.iadd, .null), (.aload_n 0, .null), (.iload_n 3, .null)] (Nat.le_of_ble_eq_true rfl) (by decide +kernel) ?_
            refine gx_iload_n_1 (gx_iconst (gx_iadd (gx_aload_n_0 (gx_iload_n_3 ((gx_nil ?_))))))
            try simp only [nI_add, pk_mul, Nat.add_zero, Nat.zero_add, Nat.reduceAdd, Nat.reduceMul]
            refine n_if_eq (off := 7) (tgt := 46) (by decide +kernel) (by decide) (fun c39 => ?_) (fun c39 => ?_)
            · try simp only [bI_0, Decidable.not_not] at c39
              refine n_blk [(.iload 4, .null)] (Nat.le_of_ble_eq_true rfl) (by decide +kernel) ?_
              refine gx_iload_4 ((gx_nil ?_))
              refine n_if_eq (off := 7) (tgt := 55) (by decide +kernel) (by decide) (fun c48 => ?_) (fun c48 => ?_)
              · try simp only [bI_0, Decidable.not_not] at c48
                refine n_blk [(.iconst 2, .int (nI 2))] (Nat.le_of_ble_eq_true rfl) (by decide +kernel) ?_
                refine gx_iconst ((gx_nil ?_))
                refine n_call kX10_244 (r_number_no e15 e14 hsp hn hT e16 (mo := 2) (by decide) (by decide) hD) (by decide +kernel) rfl rfl (Nat.le_of_ble_eq_true rfl) (Nat.le_of_ble_eq_true rfl) (Nat.le_of_ble_eq_true rfl) rfl ?_
                simp only [Option.toList_some, List.cons_append, List.nil_append]
                refine n_as (j := 19) rfl (by decide +kernel) (show _ < 120 from by omega) ?_
                refine n_blk [(.aload_n 0, .null)] (Nat.le_of_ble_eq_true rfl) (by decide +kernel) ?_
                refine gx_aload_n_0 ((gx_nil ?_))
                refine n_getR fX10_38 (by decide +kernel) rfl ?_
                refine n_blk [(.iload_n 1, .null), (.iconst 3, .int (nI 3)), (.iadd, .null), (.aload_n 0, .null)] (Nat.le_of_ble_eq_true rfl) (by decide +kernel) ?_
                refine gx_iload_n_1 (gx_iconst (gx_iadd (gx_aload_n_0 ((gx_nil ?_)))))
                try simp only [nI_add, pk_mul, Nat.add_zero, Nat.zero_add, Nat.reduceAdd, Nat.reduceMul]
                refine n_getI fX10_230 (by decide +kernel) rfl ?_
                try simp only [vU_s, vU_n, ne_eq, Nat.reduceEqDiff, not_false_eq_true, nI_add, pk_mul, Nat.add_zero, Nat.zero_add, Nat.reduceAdd, Nat.reduceMul]
                refine n_as (j := 19) rfl (by decide +kernel) (show _ < 120 from by omega) ?_
                refine n_blk [(.iload_n 2, .null), (.iconst 3, .int (nI 3))] (Nat.le_of_ble_eq_true rfl) (by decide +kernel) ?_
                refine gx_iload_n_2 (gx_iconst ((gx_nil ?_)))
                refine n_icmp_lt (off := 13) (tgt := 87) (by decide +kernel) (by decide) (fun c74 => ?_) (fun c74 => ?_)
                · exact absurd c74 (by decide)
                · try simp only [bI_0, Decidable.not_not] at c74
                  refine n_blk [(.iload_n 2, .null), (.iconst 5, .int (nI 5))] (Nat.le_of_ble_eq_true rfl) (by decide +kernel) ?_
                  refine gx_iload_n_2 (gx_iconst ((gx_nil ?_)))
                  refine n_icmp_eq (off := 8) (tgt := 87) (by decide +kernel) (by decide) (fun c79 => ?_) (fun c79 => ?_)
                  · exact absurd c79 (by decide)
                  · try simp only [bI_0, Decidable.not_not] at c79
                    refine n_blk [(.iload 4, .null)] (Nat.le_of_ble_eq_true rfl) (by decide +kernel) ?_
                    refine gx_iload_4 ((gx_nil ?_))
                    refine n_if_eq (off := 40) (tgt := 124) (by decide +kernel) (by decide) (fun c84 => ?_) (fun c84 => ?_)
                    · try simp only [bI_0, Decidable.not_not] at c84
                      refine n_end none rfl ⟨by decide +kernel, rfl⟩ ?_
                      exact ⟨rfl, rnF.1, fun j h1 h2 h3 => by simp [vU, h1, h2, h3], rnF.2.1, fun e he => by rw [hR] at he; cases he; rfl, fun c p' he => by rw [hR] at he; cases he⟩
                    · exact absurd (by decide) c84
              · exact absurd (by decide) c48
            · exact absurd (by decide) c39
          · exact absurd c20 (by decide)
      · exact absurd (by decide) c2
end SRn
