section S18ref9leantxt
variable {Γ : gE} {o : Nat} {ad : Nat → Nat} {V : Nat → Int32} {F : Nat → Nat → Int32}
theorem rInto_keep {N : Nat → Int32} {k c b q : Nat} {rt : Int32} (h5 : q ≠ 62 + 7 * k + 5) (h6 : q ≠ 62 + 7 * k + 6) (h2 : q ≠ 8 + 3 * rIx rt + 2) : rInto N k rt c b q = N q := by
  unfold rInto
  rw [pk_un h2, pk_un h6, pk_un h5]
theorem rInto_OK {N : Nat → Int32} {k c : Nat} {rt : Int32} (hOK : rOK N) (hg : rGo N k rt c (rOp N rt) = true) : rOK (rInto N k rt c (rOp N rt)) := by
  have hb := hOK.get rt
  obtain ⟨-, -, -, hn⟩ := of_decide_eq_true hg
  obtain ⟨j, hj, ej⟩ := rBag_in hb.1 hn
  have hx5 := rIx_le rt
  intro r hr
  by_cases e : r = rIx rt
  · subst e
    unfold rInto
    rw [pk_us, hb.2, ej, nI_add]
    unfold rMax
    split
    · exact ⟨j + 1, by omega, rfl⟩
    · exact ⟨rOp N rt, hb.1, rfl⟩
  · rw [rInto_keep (by omega) (by omega) (by omega)]
    exact hOK r hr
def rLR (N : Nat → Int32) (i t : Nat) : Int32 := rRoute N (N (62 + 7 * i + 1)) t
def rSK (N0 : Nat → Int32) (pr : Int32) (c t : Nat) : Nat → (Nat → Int32) × Int32
  | 0 => (N0, nI 0)
  | i + 1 => if (rSK N0 pr c t i).1 (62 + 7 * i + 3) = pr ∧ rGo (rSK N0 pr c t i).1 i (rLR (rSK N0 pr c t i).1 i t) c (rOp (rSK N0 pr c t i).1 (rLR (rSK N0 pr c t i).1 i t)) = true then (rInto (rSK N0 pr c t i).1 i (rLR (rSK N0 pr c t i).1 i t) c (rOp (rSK N0 pr c t i).1 (rLR (rSK N0 pr c t i).1 i t)), (rSK N0 pr c t i).2 + nI 1) else rSK N0 pr c t i
theorem rSK_s {N0 : Nat → Int32} {pr : Int32} {c t i : Nat} : rSK N0 pr c t (i + 1) = if (rSK N0 pr c t i).1 (62 + 7 * i + 3) = pr ∧ rGo (rSK N0 pr c t i).1 i (rLR (rSK N0 pr c t i).1 i t) c (rOp (rSK N0 pr c t i).1 (rLR (rSK N0 pr c t i).1 i t)) = true then (rInto (rSK N0 pr c t i).1 i (rLR (rSK N0 pr c t i).1 i t) c (rOp (rSK N0 pr c t i).1 (rLR (rSK N0 pr c t i).1 i t)), (rSK N0 pr c t i).2 + nI 1) else rSK N0 pr c t i := rfl
theorem rSK_low {N0 : Nat → Int32} {pr : Int32} {c t q : Nat} (hq : q < 8) : ∀ i, (rSK N0 pr c t i).1 q = N0 q
  | 0 => rfl
  | i + 1 => by
    rw [rSK_s]
    split
    · exact (rInto_keep (by omega) (by omega) (by omega)).trans (rSK_low hq i)
    · exact rSK_low hq i
theorem rSK_OK {N0 : Nat → Int32} {pr : Int32} {c t : Nat} (hOK : rOK N0) : ∀ i, rOK (rSK N0 pr c t i).1
  | 0 => hOK
  | i + 1 => by
    rw [rSK_s]
    split
    · next h => exact rInto_OK (rSK_OK hOK i) h.2
    · exact rSK_OK hOK i
theorem r_sortsKind {c : Nat} (hc : c ≤ 20) (h3 : F 0 3 = nI c) {t : Nat} (ht : t ≤ 12) (h4 : F 0 4 = nI t) (hOK : rOK (F 0)) (pr : Int32) : mC Γ o ad M_X10_sortsKind [.int pr] V F 5 (some (.int (rSK (F 0) pr c t c).2)) V (fR F 0 (rSK (F 0) pr c t c).1) := by
  have loop : ∀ n i (Fk : Nat → Nat → Int32), i ≤ c → c < i + n → Fk = fR F 0 (rSK (F 0) pr c t i).1 → mG Γ o ad M_X10_sortsKind 5 (some (.int (rSK (F 0) pr c t c).2)) V (fR F 0 (rSK (F 0) pr c t c).1) 4 [some (.ref o), some (.int pr), some (.int (rSK (F 0) pr c t i).2), some (.int (nI i)), none, none] [] V Fk := by
    intro n
    induction n with
    | zero => intro i Fk h1 h2; omega
    | succ n ih =>
      intro i Fk hi hn eF
      have e0 : Fk 0 = (rSK (F 0) pr c t i).1 := by rw [eF, fR_s]
      have hOKk : rOK (Fk 0) := by rw [e0]; exact rSK_OK hOK i
      have h3k : Fk 0 3 = nI c := by rw [e0, rSK_low (by decide)]; exact h3
      have h4k : Fk 0 4 = nI t := by rw [e0, rSK_low (by decide)]; exact h4
      have hg := hOKk.get (rLR (Fk 0) i t)
      refine m_blk [(.iload_n 3, .null), (.aload_n 0, .null)] (Nat.le_of_ble_eq_true rfl) (by decide +kernel) ?_
      refine gx_iload_n_3 (gx_aload_n_0 ((gx_nil ?_)))
      refine m_getR fX10_9 (by decide +kernel) rfl ?_
      refine m_blk [(.iconst 3, .int (nI 3))] (Nat.le_of_ble_eq_true rfl) (by decide +kernel) ?_
      refine gx_iconst ((gx_nil ?_))
      refine m_al (j := 0) rfl (by decide +kernel) (show _ < 202 from by omega) ?_
      refine m_icmp_ge (off := 63) (tgt := 74) (by decide +kernel) (by decide) (fun c11 => ?_) (fun c11 => ?_)
      · try simp only [bI_0, Decidable.not_not] at c11
        have hic : i = c := by
          rw [h3k] at c11
          have := (nI_leI (by omega) (by omega)).mp c11
          omega
        subst hic
        refine m_blk [(.iload_n 2, .null)] (Nat.le_of_ble_eq_true rfl) (by decide +kernel) ?_
        refine gx_iload_n_2 ((gx_nil ?_))
        refine m_end (some (.int _)) rfl ⟨by decide +kernel, _, rfl, rfl⟩ ?_ ?_ ?_
        · rfl
        · rfl
        · exact eF
      · try simp only [bI_0, Decidable.not_not] at c11
        have hic : i < c := by
          rcases Nat.lt_or_ge i c with q | q
          · exact q
          · exact absurd (by rw [h3k]; exact nI_le q (by omega)) c11
        refine m_blk [(.aload_n 0, .null), (.aload_n 0, .null)] (Nat.le_of_ble_eq_true rfl) (by decide +kernel) ?_
        refine gx_aload_n_0 (gx_aload_n_0 ((gx_nil ?_)))
        refine m_getR fX10_9 (by decide +kernel) rfl ?_
        refine m_blk [(.iload_n 3, .null)] (Nat.le_of_ble_eq_true rfl) (by decide +kernel) ?_
        refine gx_iload_n_3 ((gx_nil ?_))
        refine m_callS kX10_94 (r_letterAt _) (by decide +kernel) rfl rfl (Nat.le_of_ble_eq_true rfl) (Nat.le_of_ble_eq_true rfl) (Nat.le_of_ble_eq_true rfl) rfl ?_
        try simp only [Option.toList_some, Option.toList_none, List.cons_append, List.nil_append, bI_0, n1_0, n0_0, Decidable.not_not, not_true_eq_false, not_false_eq_true, nI_add, pk_mul, Nat.add_zero, Nat.zero_add, Nat.reduceAdd, Nat.reduceMul]
        refine m_blk [(.iconst 1, .int (nI 1)), (.iadd, .null)] (Nat.le_of_ble_eq_true rfl) (by decide +kernel) ?_
        refine gx_iconst (gx_iadd ((gx_nil ?_)))
        try simp only [nI_add, pk_mul, Nat.add_zero, Nat.zero_add, Nat.reduceAdd, Nat.reduceMul]
        refine m_al (j := 0) rfl (by decide +kernel) (show _ < 202 from by omega) ?_
        refine m_call kX10_131 (r_routed ht h4k _) (by decide +kernel) rfl rfl (Nat.le_of_ble_eq_true rfl) (Nat.le_of_ble_eq_true rfl) (Nat.le_of_ble_eq_true rfl) rfl ?_
        refine m_top (show _ = rLR (Fk 0) i t from rfl) ?_
        try simp only [Option.toList_some, List.cons_append, List.nil_append]
        refine m_blk [(.istore 4, .null), (.aload_n 0, .null)] (Nat.le_of_ble_eq_true rfl) (by decide +kernel) ?_
        refine gx_istore_4 rfl (gx_aload_n_0 ((gx_nil ?_)))
        refine m_getR fX10_9 (by decide +kernel) rfl ?_
        refine m_blk [(.iload_n 3, .null)] (Nat.le_of_ble_eq_true rfl) (by decide +kernel) ?_
        refine gx_iload_n_3 ((gx_nil ?_))
        refine m_callS kX10_94 (r_letterAt _) (by decide +kernel) rfl rfl (Nat.le_of_ble_eq_true rfl) (Nat.le_of_ble_eq_true rfl) (Nat.le_of_ble_eq_true rfl) rfl ?_
        try simp only [Option.toList_some, Option.toList_none, List.cons_append, List.nil_append, bI_0, n1_0, n0_0, Decidable.not_not, not_true_eq_false, not_false_eq_true, nI_add, pk_mul, Nat.add_zero, Nat.zero_add, Nat.reduceAdd, Nat.reduceMul]
        refine m_blk [(.iconst 3, .int (nI 3)), (.iadd, .null)] (Nat.le_of_ble_eq_true rfl) (by decide +kernel) ?_
        refine gx_iconst (gx_iadd ((gx_nil ?_)))
        try simp only [nI_add, pk_mul, Nat.add_zero, Nat.zero_add, Nat.reduceAdd, Nat.reduceMul]
        refine m_al (j := 0) rfl (by decide +kernel) (show _ < 202 from by omega) ?_
        refine m_blk [(.iload_n 1, .null)] (Nat.le_of_ble_eq_true rfl) (by decide +kernel) ?_
        refine gx_iload_n_1 ((gx_nil ?_))
        refine m_icmp_ne (off := 25) (tgt := 68) (by decide +kernel) (by decide) (fun c43 => ?_) (fun c43 => ?_)
        · try simp only [bI_0, Decidable.not_not] at c43
          refine m_blk [(.iinc 3 1, .int (nI 1)), (.goto (-67), .retAddr 4)] (Nat.le_of_ble_eq_true rfl) (by decide +kernel) ?_
          refine gx_iinc_3 rfl (gx_goto ((gx_nil ?_)))
          try simp only [nI_add, pk_mul, Nat.add_zero, Nat.zero_add, Nat.reduceAdd, Nat.reduceMul]
          refine m_weak ?_ (ih (i + 1) Fk (by omega) (by omega) (by rw [eF, rSK_s, if_neg (fun z => c43 (by rw [e0]; exact z.1))]))
          simp only [gLe, and_true, true_and, Option.some.injEq, Value.int.injEq]
          rw [rSK_s, if_neg (fun z => c43 (by rw [e0]; exact z.1))]
        · try simp only [bI_0, Decidable.not_not] at c43
          refine m_blk [(.aload_n 0, .null), (.iload_n 3, .null), (.iload 4, .null)] (Nat.le_of_ble_eq_true rfl) (by decide +kernel) ?_
          refine gx_aload_n_0 (gx_iload_n_3 (gx_iload_4 ((gx_nil ?_))))
          refine m_call kX10_134 (r_canGo hc h3k i (by omega) (rLR (Fk 0) i t) hg.1 hg.2) (by decide +kernel) rfl rfl (Nat.le_of_ble_eq_true rfl) (Nat.le_of_ble_eq_true rfl) (Nat.le_of_ble_eq_true rfl) rfl ?_
          try simp only [Option.toList_some, Option.toList_none, List.cons_append, List.nil_append, bI_0, n1_0, n0_0, Decidable.not_not, not_true_eq_false, not_false_eq_true, nI_add, pk_mul, Nat.add_zero, Nat.zero_add, Nat.reduceAdd, Nat.reduceMul]
          refine m_if_eq (off := 15) (tgt := 68) (by decide +kernel) (by decide) (fun c53 => ?_) (fun c53 => ?_)
          · try simp only [bI_0, Decidable.not_not] at c53
            refine m_blk [(.iinc 3 1, .int (nI 1)), (.goto (-67), .retAddr 4)] (Nat.le_of_ble_eq_true rfl) (by decide +kernel) ?_
            refine gx_iinc_3 rfl (gx_goto ((gx_nil ?_)))
            try simp only [nI_add, pk_mul, Nat.add_zero, Nat.zero_add, Nat.reduceAdd, Nat.reduceMul]
            refine m_weak ?_ (ih (i + 1) Fk (by omega) (by omega) (by rw [eF, rSK_s, if_neg (fun z => c53 (by rw [e0]; exact z.2))]))
            simp only [gLe, and_true, true_and, Option.some.injEq, Value.int.injEq]
            rw [rSK_s, if_neg (fun z => c53 (by rw [e0]; exact z.2))]
          · try simp only [bI_0, Decidable.not_not] at c53
            refine m_blk [(.aload_n 0, .null), (.iload_n 3, .null), (.iload 4, .null)] (Nat.le_of_ble_eq_true rfl) (by decide +kernel) ?_
            refine gx_aload_n_0 (gx_iload_n_3 (gx_iload_4 ((gx_nil ?_))))
            refine m_call kX10_137 (r_goesInto hc h3k i (by omega) (rLR (Fk 0) i t) hg.1 hg.2) (by decide +kernel) rfl rfl (Nat.le_of_ble_eq_true rfl) (Nat.le_of_ble_eq_true rfl) (Nat.le_of_ble_eq_true rfl) rfl ?_
            try simp only [Option.toList_some, Option.toList_none, List.cons_append, List.nil_append, bI_0, n1_0, n0_0, Decidable.not_not, not_true_eq_false, not_false_eq_true, nI_add, pk_mul, Nat.add_zero, Nat.zero_add, Nat.reduceAdd, Nat.reduceMul]
            refine m_blk [(.istore 5, .null), (.iinc 2 1, .int (nI 1)), (.iinc 3 1, .int (nI 1)), (.goto (-67), .retAddr 4)] (Nat.le_of_ble_eq_true rfl) (by decide +kernel) ?_
            refine gx_istore_5 rfl (gx_iinc_2 rfl (gx_iinc_3 rfl (gx_goto ((gx_nil ?_)))))
            try simp only [nI_add, pk_mul, Nat.add_zero, Nat.zero_add, Nat.reduceAdd, Nat.reduceMul]
            have hp : (rSK (F 0) pr c t i).1 (62 + 7 * i + 3) = pr ∧ rGo (rSK (F 0) pr c t i).1 i (rLR (rSK (F 0) pr c t i).1 i t) c (rOp (rSK (F 0) pr c t i).1 (rLR (rSK (F 0) pr c t i).1 i t)) = true := by rw [← e0]; exact ⟨c43, c53⟩
            refine m_weak ?_ (ih (i + 1) _ (by omega) (by omega) (by rw [rSK_s, if_pos hp, eF, fR_fR, fR_s]))
            simp only [gLe, and_true, true_and, Option.some.injEq, Value.int.injEq]
            rw [rSK_s, if_pos hp]
  refine mC_of (by decide) rfl (Nat.le_of_ble_eq_true rfl) [some (.ref o), some (.int pr), none, none, none, none] rfl ?_
  refine m_blk [(.iconst 0, .int (nI 0)), (.istore_n 2, .null), (.iconst 0, .int (nI 0)), (.istore_n 3, .null)] (Nat.le_of_ble_eq_true rfl) (by decide +kernel) ?_
  refine gx_iconst (gx_istore_n_2 rfl (gx_iconst (gx_istore_n_3 rfl ((gx_nil ?_)))))
  exact loop (c + 1) 0 F (by omega) (by omega) fR_self.symm
def rSA (N : Nat → Int32) (c t : Nat) : (Nat → Int32) × Int32 := ((rSK (rSK N (nI 1) c t c).1 (nI 0) c t c).1, (rSK N (nI 1) c t c).2 + (rSK (rSK N (nI 1) c t c).1 (nI 0) c t c).2)
theorem r_sortsAll {c : Nat} (hc : c ≤ 20) (h3 : F 0 3 = nI c) {t : Nat} (ht : t ≤ 12) (h4 : F 0 4 = nI t) (hOK : rOK (F 0)) : mC Γ o ad M_X10_sortsAll [] V F 6 (some (.int (rSA (F 0) c t).2)) (vU V 13 (nI 0)) (fR F 0 (rSA (F 0) c t).1) := by
  have hOK1 : rOK (fR F 0 (rSK (F 0) (nI 1) c t c).1 0) := by rw [fR_s]; exact rSK_OK hOK c
  have h31 : fR F 0 (rSK (F 0) (nI 1) c t c).1 0 3 = nI c := by rw [fR_s, rSK_low (by decide)]; exact h3
  have h41 : fR F 0 (rSK (F 0) (nI 1) c t c).1 0 4 = nI t := by rw [fR_s, rSK_low (by decide)]; exact h4
  refine mC_of (by decide) rfl (Nat.le_of_ble_eq_true rfl) [some (.ref o), none] rfl ?_
  refine m_blk [(.aload_n 0, .null), (.iconst 0, .int (nI 0))] (Nat.le_of_ble_eq_true rfl) (by decide +kernel) ?_
  refine gx_aload_n_0 (gx_iconst ((gx_nil ?_)))
  refine m_putI fX10_45 (by decide +kernel) rfl (by decide) rfl rfl ?_
  refine m_blk [(.aload_n 0, .null), (.iconst 1, .int (nI 1))] (Nat.le_of_ble_eq_true rfl) (by decide +kernel) ?_
  refine gx_aload_n_0 (gx_iconst ((gx_nil ?_)))
  refine m_call kX10_143 (r_sortsKind hc h3 ht h4 hOK _) (by decide +kernel) rfl rfl (Nat.le_of_ble_eq_true rfl) (Nat.le_of_ble_eq_true rfl) (Nat.le_of_ble_eq_true rfl) rfl ?_
  try simp only [Option.toList_some, Option.toList_none, List.cons_append, List.nil_append, bI_0, n1_0, n0_0, Decidable.not_not, not_true_eq_false, not_false_eq_true, nI_add, pk_mul, Nat.add_zero, Nat.zero_add, Nat.reduceAdd, Nat.reduceMul]
  refine m_blk [(.istore_n 1, .null), (.iload_n 1, .null), (.aload_n 0, .null), (.iconst 0, .int (nI 0))] (Nat.le_of_ble_eq_true rfl) (by decide +kernel) ?_
  refine gx_istore_n_1 rfl (gx_iload_n_1 (gx_aload_n_0 (gx_iconst ((gx_nil ?_)))))
  refine m_call kX10_143 (r_sortsKind hc h31 ht h41 hOK1 _) (by decide +kernel) rfl rfl (Nat.le_of_ble_eq_true rfl) (Nat.le_of_ble_eq_true rfl) (Nat.le_of_ble_eq_true rfl) rfl ?_
  try simp only [Option.toList_some, Option.toList_none, List.cons_append, List.nil_append, bI_0, n1_0, n0_0, Decidable.not_not, not_true_eq_false, not_false_eq_true, nI_add, pk_mul, Nat.add_zero, Nat.zero_add, Nat.reduceAdd, Nat.reduceMul]
  refine m_blk [(.iadd, .null)] (Nat.le_of_ble_eq_true rfl) (by decide +kernel) ?_
  refine gx_iadd ((gx_nil ?_))
  try simp only [nI_add, pk_mul, Nat.add_zero, Nat.zero_add, Nat.reduceAdd, Nat.reduceMul]
  refine m_end (some (.int _)) rfl ⟨by decide +kernel, _, rfl, rfl⟩ ?_ ?_ ?_
  · rw [fR_s]; rfl
  · rfl
  · rw [fR_fR, fR_s]; rfl
def rBk (N : Nat → Int32) (p : Nat) : Nat → Int32 := upd (upd (upd (upd N (62 + 7 * p + 4) (N (62 + 7 * p + 4) + nI 1)) (62 + 7 * p + 5) (-1)) 7 (N 7 + nI 1)) 6 (N 6 + (if N (62 + 7 * p + 4) + nI 1 = nI 3 then nI 1 else nI 0))
theorem r_isDead (p : Nat) (hp : p < 20) : mC Γ o ad M_X10_isDead [.int (nI p)] V F 1 (some (.int (bI (F 0 (62 + 7 * p + 4) + nI 1 = nI 3)))) V (fR F 0 (rBk (F 0) p)) := by
  refine mC_of (by decide) rfl (Nat.le_of_ble_eq_true rfl) [some (.ref o), some (.int (nI p)), none, none] rfl ?_
  refine m_blk [(.iload_n 1, .null)] (Nat.le_of_ble_eq_true rfl) (by decide +kernel) ?_
  refine gx_iload_n_1 ((gx_nil ?_))
  refine m_callS kX10_94 (r_letterAt _) (by decide +kernel) rfl rfl (Nat.le_of_ble_eq_true rfl) (Nat.le_of_ble_eq_true rfl) (Nat.le_of_ble_eq_true rfl) rfl ?_
  try simp only [Option.toList_some, Option.toList_none, List.cons_append, List.nil_append, bI_0, n1_0, n0_0, Decidable.not_not, not_true_eq_false, not_false_eq_true, nI_add, pk_mul, Nat.add_zero, Nat.zero_add, Nat.reduceAdd, Nat.reduceMul]
  refine m_blk [(.istore_n 2, .null), (.aload_n 0, .null)] (Nat.le_of_ble_eq_true rfl) (by decide +kernel) ?_
  refine gx_istore_n_2 rfl (gx_aload_n_0 ((gx_nil ?_)))
  refine m_getR fX10_9 (by decide +kernel) rfl ?_
  refine m_blk [(.iload_n 2, .null), (.iconst 4, .int (nI 4)), (.iadd, .null), (.dup2, .null)] (Nat.le_of_ble_eq_true rfl) (by decide +kernel) ?_
  refine gx_iload_n_2 (gx_iconst (gx_iadd (gx_dup2ir ((gx_nil ?_)))))
  try simp only [nI_add, pk_mul, Nat.add_zero, Nat.zero_add, Nat.reduceAdd, Nat.reduceMul]
  refine m_al (j := 0) rfl (by decide +kernel) (show _ < 202 from by omega) ?_
  refine m_blk [(.iconst 1, .int (nI 1)), (.iadd, .null)] (Nat.le_of_ble_eq_true rfl) (by decide +kernel) ?_
  refine gx_iconst (gx_iadd ((gx_nil ?_)))
  try simp only [nI_add, pk_mul, Nat.add_zero, Nat.zero_add, Nat.reduceAdd, Nat.reduceMul]
  refine m_as (j := 0) rfl (by decide +kernel) (show _ < 202 from by omega) ?_
  refine m_blk [(.aload_n 0, .null)] (Nat.le_of_ble_eq_true rfl) (by decide +kernel) ?_
  refine gx_aload_n_0 ((gx_nil ?_))
  refine m_getR fX10_9 (by decide +kernel) rfl ?_
  refine m_blk [(.iload_n 2, .null), (.iconst 5, .int (nI 5)), (.iadd, .null), (.iconst (-1), .int (-1))] (Nat.le_of_ble_eq_true rfl) (by decide +kernel) ?_
  refine gx_iload_n_2 (gx_iconst (gx_iadd (gx_iconst ((gx_nil ?_)))))
  try simp only [nI_add, pk_mul, Nat.add_zero, Nat.zero_add, Nat.reduceAdd, Nat.reduceMul]
  refine m_as (j := 0) rfl (by decide +kernel) (show _ < 202 from by omega) ?_
  refine m_blk [(.aload_n 0, .null)] (Nat.le_of_ble_eq_true rfl) (by decide +kernel) ?_
  refine gx_aload_n_0 ((gx_nil ?_))
  refine m_getR fX10_9 (by decide +kernel) rfl ?_
  refine m_blk [(.bipush 7, .int (nI 7)), (.dup2, .null)] (Nat.le_of_ble_eq_true rfl) (by decide +kernel) ?_
  refine gx_bipush (gx_dup2ir ((gx_nil ?_)))
  refine m_al (j := 0) rfl (by decide +kernel) (show _ < 202 from by omega) ?_
  simp only [fU_row, fR_fR, fR_s]
  rw [pk_un (by omega), pk_un (by omega)]
  refine m_blk [(.iconst 1, .int (nI 1)), (.iadd, .null)] (Nat.le_of_ble_eq_true rfl) (by decide +kernel) ?_
  refine gx_iconst (gx_iadd ((gx_nil ?_)))
  try simp only [nI_add, pk_mul, Nat.add_zero, Nat.zero_add, Nat.reduceAdd, Nat.reduceMul]
  refine m_as (j := 0) rfl (by decide +kernel) (show _ < 202 from by omega) ?_
  refine m_blk [(.aload_n 0, .null)] (Nat.le_of_ble_eq_true rfl) (by decide +kernel) ?_
  refine gx_aload_n_0 ((gx_nil ?_))
  refine m_getR fX10_9 (by decide +kernel) rfl ?_
  refine m_blk [(.iload_n 2, .null), (.iconst 4, .int (nI 4)), (.iadd, .null)] (Nat.le_of_ble_eq_true rfl) (by decide +kernel) ?_
  refine gx_iload_n_2 (gx_iconst (gx_iadd ((gx_nil ?_))))
  try simp only [nI_add, pk_mul, Nat.add_zero, Nat.zero_add, Nat.reduceAdd, Nat.reduceMul]
  refine m_al (j := 0) rfl (by decide +kernel) (show _ < 202 from by omega) ?_
  simp only [fU_row, fR_fR, fR_s]
  rw [pk_un (by omega), pk_un (by omega), pk_us]
  refine m_blk [(.iconst 3, .int (nI 3))] (Nat.le_of_ble_eq_true rfl) (by decide +kernel) ?_
  refine gx_iconst ((gx_nil ?_))
  refine m_icmp_ne (off := 7) (tgt := 53) (by decide +kernel) (by decide) (fun c46 => ?_) (fun c46 => ?_)
  · try simp only [bI_0, Decidable.not_not] at c46
    refine m_blk [(.iconst 0, .int (nI 0)), (.istore_n 3, .null), (.aload_n 0, .null)] (Nat.le_of_ble_eq_true rfl) (by decide +kernel) ?_
    refine gx_iconst (gx_istore_n_3 rfl (gx_aload_n_0 ((gx_nil ?_))))
    refine m_getR fX10_9 (by decide +kernel) rfl ?_
    refine m_blk [(.bipush 6, .int (nI 6)), (.dup2, .null)] (Nat.le_of_ble_eq_true rfl) (by decide +kernel) ?_
    refine gx_bipush (gx_dup2ir ((gx_nil ?_)))
    refine m_al (j := 0) rfl (by decide +kernel) (show _ < 202 from by omega) ?_
    simp only [fU_row, fR_fR, fR_s]
    rw [pk_un (by omega), pk_un (by omega), pk_un (by omega)]
    refine m_blk [(.iload_n 3, .null)] (Nat.le_of_ble_eq_true rfl) (by decide +kernel) ?_
    refine gx_iload_n_3 ((gx_nil ?_))
    refine m_if_eq (off := 7) (tgt := 71) (by decide +kernel) (by decide) (fun c64 => ?_) (fun c64 => ?_)
    · try simp only [bI_0, Decidable.not_not] at c64
      refine m_blk [(.iconst 0, .int (nI 0)), (.iadd, .null)] (Nat.le_of_ble_eq_true rfl) (by decide +kernel) ?_
      refine gx_iconst (gx_iadd ((gx_nil ?_)))
      try simp only [nI_add, pk_mul, Nat.add_zero, Nat.zero_add, Nat.reduceAdd, Nat.reduceMul]
      refine m_as (j := 0) rfl (by decide +kernel) (show _ < 202 from by omega) ?_
      refine m_blk [(.iload_n 3, .null)] (Nat.le_of_ble_eq_true rfl) (by decide +kernel) ?_
      refine gx_iload_n_3 ((gx_nil ?_))
      refine m_end (some (.int _)) rfl ⟨by decide +kernel, _, rfl, by first | rfl | (unfold bI; split <;> rfl)⟩ ?_ ?_ ?_
      · rw [bI_f c46]
      · rfl
      · simp only [fU_row, fR_fR, fR_s]
        unfold rBk
        rw [if_neg c46]
    · exact absurd (by decide) c64
  · try simp only [bI_0, Decidable.not_not] at c46
    refine m_blk [(.iconst 1, .int (nI 1)), (.goto 4, .retAddr 54), (.istore_n 3, .null), (.aload_n 0, .null)] (Nat.le_of_ble_eq_true rfl) (by decide +kernel) ?_
    refine gx_iconst (gx_goto (gx_istore_n_3 rfl (gx_aload_n_0 ((gx_nil ?_)))))
    refine m_getR fX10_9 (by decide +kernel) rfl ?_
    refine m_blk [(.bipush 6, .int (nI 6)), (.dup2, .null)] (Nat.le_of_ble_eq_true rfl) (by decide +kernel) ?_
    refine gx_bipush (gx_dup2ir ((gx_nil ?_)))
    refine m_al (j := 0) rfl (by decide +kernel) (show _ < 202 from by omega) ?_
    simp only [fU_row, fR_fR, fR_s]
    rw [pk_un (by omega), pk_un (by omega), pk_un (by omega)]
    refine m_blk [(.iload_n 3, .null)] (Nat.le_of_ble_eq_true rfl) (by decide +kernel) ?_
    refine gx_iload_n_3 ((gx_nil ?_))
    refine m_if_eq (off := 7) (tgt := 71) (by decide +kernel) (by decide) (fun c64 => ?_) (fun c64 => ?_)
    · exact absurd c64 (by decide)
    · try simp only [bI_0, Decidable.not_not] at c64
      refine m_blk [(.iconst 1, .int (nI 1)), (.goto 4, .retAddr 72), (.iadd, .null)] (Nat.le_of_ble_eq_true rfl) (by decide +kernel) ?_
      refine gx_iconst (gx_goto (gx_iadd ((gx_nil ?_))))
      try simp only [nI_add, pk_mul, Nat.add_zero, Nat.zero_add, Nat.reduceAdd, Nat.reduceMul]
      refine m_as (j := 0) rfl (by decide +kernel) (show _ < 202 from by omega) ?_
      refine m_blk [(.iload_n 3, .null)] (Nat.le_of_ble_eq_true rfl) (by decide +kernel) ?_
      refine gx_iload_n_3 ((gx_nil ?_))
      refine m_end (some (.int _)) rfl ⟨by decide +kernel, _, rfl, by first | rfl | (unfold bI; split <;> rfl)⟩ ?_ ?_ ?_
      · rw [bI_t c46]
      · rfl
      · simp only [fU_row, fR_fR, fR_s]
        unfold rBk
        rw [if_pos c46]
end S18ref9leantxt
