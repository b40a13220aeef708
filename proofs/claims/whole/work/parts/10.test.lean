section T
def bI (p : Prop) [Decidable p] : Int32 := if p then nI 1 else nI 0
theorem bI_t {p : Prop} [Decidable p] (h : p) : bI p = nI 1 := if_pos h
theorem bI_f {p : Prop} [Decidable p] (h : ¬ p) : bI p = nI 0 := if_neg h
theorem bI_0 {p : Prop} [Decidable p] : bI p = 0 ↔ ¬ p := by
  unfold bI
  by_cases h : p
  · rw [if_pos h]; exact ⟨fun z => absurd z (by decide), fun z => absurd h z⟩
  · rw [if_neg h]; exact ⟨fun _ => h, fun _ => rfl⟩
theorem bI_n {p : Prop} [Decidable p] : ¬ bI p = 0 ↔ p := by rw [bI_0, Decidable.not_not]
variable {Γ : gE} {o : Nat} {ad : Nat → Nat} {V : Nat → Int32} {F : Nat → Nat → Int32}
theorem r_isIn (x lo hi : Int32) : sC Γ M_X10_isIn [.int x, .int lo, .int hi] 0 (some (.int (bI (lo ≤ x ∧ x ≤ hi)))) := by
  intro h
  refine gC_of (by decide) rfl (Nat.le_of_ble_eq_true rfl) [some (.int x), some (.int lo), some (.int hi)] rfl ?_
  refine g_blk [(.iload_n 0, .null), (.iload_n 1, .null)] (Nat.le_of_ble_eq_true rfl) (by decide +kernel) ?_
  refine gx_iload_n_0 (gx_iload_n_1 ((gx_nil ?_)))
  refine g_icmp_lt (off := 12) (tgt := 14) (by decide +kernel) (by decide) (fun c2 => ?_) (fun c2 => ?_)
  · refine g_blk [(.iconst 0, .int (nI 0))] (Nat.le_of_ble_eq_true rfl) (by decide +kernel) ?_
    refine gx_iconst ((gx_nil ?_))
    exact g_end (some (.int _)) rfl ⟨by decide +kernel, _, rfl, by first | rfl | decide⟩ ⟨by first | rfl | (simp only [Option.some.injEq, Value.int.injEq, bI, Int32.lt_iff_toInt_lt, Int32.le_iff_toInt_le] at *; split <;> first | rfl | omega), rfl⟩
  · refine g_blk [(.iload_n 0, .null), (.iload_n 2, .null)] (Nat.le_of_ble_eq_true rfl) (by decide +kernel) ?_
    refine gx_iload_n_0 (gx_iload_n_2 ((gx_nil ?_)))
    refine g_icmp_gt (off := 7) (tgt := 14) (by decide +kernel) (by decide) (fun c7 => ?_) (fun c7 => ?_)
    · refine g_blk [(.iconst 0, .int (nI 0))] (Nat.le_of_ble_eq_true rfl) (by decide +kernel) ?_
      refine gx_iconst ((gx_nil ?_))
      exact g_end (some (.int _)) rfl ⟨by decide +kernel, _, rfl, by first | rfl | decide⟩ ⟨by first | rfl | (simp only [Option.some.injEq, Value.int.injEq, bI, Int32.lt_iff_toInt_lt, Int32.le_iff_toInt_le] at *; split <;> first | rfl | omega), rfl⟩
    · refine g_blk [(.iconst 1, .int (nI 1)), (.goto 4, .retAddr 15)] (Nat.le_of_ble_eq_true rfl) (by decide +kernel) ?_
      refine gx_iconst (gx_goto ((gx_nil ?_)))
      exact g_end (some (.int _)) rfl ⟨by decide +kernel, _, rfl, by first | rfl | decide⟩ ⟨by first | rfl | (simp only [Option.some.injEq, Value.int.injEq, bI, Int32.lt_iff_toInt_lt, Int32.le_iff_toInt_le] at *; split <;> first | rfl | omega), rfl⟩
theorem r_letterAt (k : Nat) : sC Γ M_X10_letterAt [.int (nI k)] 0 (some (.int (nI (62 + 7 * k)))) := by
  intro h
  refine gC_of (by decide) rfl (Nat.le_of_ble_eq_true rfl) [some (.int (nI k))] rfl ?_
  refine g_blk [(.bipush 62, .int (nI 62)), (.bipush 7, .int (nI 7)), (.iload_n 0, .null), (.imul, .null), (.iadd, .null)] (Nat.le_of_ble_eq_true rfl) (by decide +kernel) ?_
  refine gx_bipush (gx_bipush (gx_iload_n_0 (gx_imul (gx_iadd ((gx_nil ?_))))))
  try simp only [nI_add, pk_mul, Nat.add_zero, Nat.zero_add, Nat.reduceAdd, Nat.reduceMul]
  exact g_end (some (.int _)) rfl ⟨by decide +kernel, _, rfl, by first | rfl | decide⟩ ⟨by first | rfl | (simp only [Option.some.injEq, Value.int.injEq, bI, Int32.lt_iff_toInt_lt, Int32.le_iff_toInt_le] at *; split <;> first | rfl | omega), rfl⟩
def rPlace (N : Nat → Int32) (id : Int32) : Nat → Int32
  | 0 => -1
  | i + 1 => if N (62 + 7 * i) = id then nI i else rPlace N id i
theorem r_placeOf {c : Nat} (hc : c ≤ 20) (h3 : F 0 3 = nI c) (id : Int32) : mC Γ o ad M_X10_placeOf [.int id] V F 1 (some (.int (rPlace (F 0) id c))) V F := by
  have loop : ∀ n i, i ≤ c → c < i + n → mG Γ o ad M_X10_placeOf 1 (some (.int (rPlace (F 0) id c))) V F 4 [some (.ref o), some (.int id), some (.int (rPlace (F 0) id i)), some (.int (nI i))] [] V F := by
    intro n
    induction n with
    | zero => intro i h1 h2; omega
    | succ n ih =>
      intro i hi hn
      refine m_blk [(.iload_n 3, .null), (.aload_n 0, .null)] (Nat.le_of_ble_eq_true rfl) (by decide +kernel) ?_
      refine gx_iload_n_3 (gx_aload_n_0 ((gx_nil ?_)))
      refine m_getR fX10_9 (by decide +kernel) rfl ?_
      refine m_blk [(.iconst 3, .int (nI 3))] (Nat.le_of_ble_eq_true rfl) (by decide +kernel) ?_
      refine gx_iconst ((gx_nil ?_))
      refine m_al (j := 0) rfl (by decide +kernel) (show _ < 202 from by omega) ?_
      refine m_icmp_ge (off := 30) (tgt := 41) (by decide +kernel) (by decide) (fun c11 => ?_) (fun c11 => ?_)
      · have hic : i = c := by
          rw [h3] at c11
          have := (nI_leI (by omega) (by omega)).mp c11
          omega
        subst hic
        refine m_blk [(.iload_n 2, .null)] (Nat.le_of_ble_eq_true rfl) (by decide +kernel) ?_
        refine gx_iload_n_2 ((gx_nil ?_))
        refine m_end (some (.int _)) rfl ⟨by decide +kernel, _, rfl, rfl⟩ ?_ ?_ ?_
        all_goals first | rfl | simp_all
      · have hic : i < c := by
          rcases Nat.lt_or_ge i c with q | q
          · exact q
          · exact absurd (by rw [h3]; exact nI_le q (by omega)) c11
        refine m_blk [(.aload_n 0, .null)] (Nat.le_of_ble_eq_true rfl) (by decide +kernel) ?_
        refine gx_aload_n_0 ((gx_nil ?_))
        refine m_getR fX10_9 (by decide +kernel) rfl ?_
        refine m_blk [(.iload_n 3, .null)] (Nat.le_of_ble_eq_true rfl) (by decide +kernel) ?_
        refine gx_iload_n_3 ((gx_nil ?_))
        refine m_callS kX10_94 (r_letterAt _) (by decide +kernel) rfl rfl (Nat.le_of_ble_eq_true rfl) (Nat.le_of_ble_eq_true rfl) (Nat.le_of_ble_eq_true rfl) rfl ?_
        try simp only [Option.toList_some, Option.toList_none, List.cons_append, List.nil_append, nI_add, pk_mul, Nat.add_zero, Nat.zero_add, Nat.reduceAdd, Nat.reduceMul]
        refine m_blk [(.iconst 0, .int (nI 0)), (.iadd, .null)] (Nat.le_of_ble_eq_true rfl) (by decide +kernel) ?_
        refine gx_iconst (gx_iadd ((gx_nil ?_)))
        try simp only [nI_add, pk_mul, Nat.add_zero, Nat.zero_add, Nat.reduceAdd, Nat.reduceMul]
        refine m_al (j := 0) rfl (by decide +kernel) (show _ < 202 from by omega) ?_
        refine m_blk [(.iload_n 1, .null)] (Nat.le_of_ble_eq_true rfl) (by decide +kernel) ?_
        refine gx_iload_n_1 ((gx_nil ?_))
        refine m_icmp_ne (off := 7) (tgt := 33) (by decide +kernel) (by decide) (fun c26 => ?_) (fun c26 => ?_)
        · refine m_blk [(.iload_n 2, .null), (.istore_n 2, .null), (.iinc 3 1, .int (nI 1)), (.goto (-34), .retAddr 4)] (Nat.le_of_ble_eq_true rfl) (by decide +kernel) ?_
          refine gx_iload_n_2 (gx_istore_n_2 rfl (gx_iinc_3 rfl (gx_goto ((gx_nil ?_)))))
          try simp only [nI_add, pk_mul, Nat.add_zero, Nat.zero_add, Nat.reduceAdd, Nat.reduceMul]
          first | exact ih (i + 1) (by omega) (by omega) | (have e9 := ih (i + 1) (by omega) (by omega); simpa [rPlace, *] using e9)
        · refine m_blk [(.iload_n 3, .null), (.goto 4, .retAddr 34), (.istore_n 2, .null), (.iinc 3 1, .int (nI 1)), (.goto (-34), .retAddr 4)] (Nat.le_of_ble_eq_true rfl) (by decide +kernel) ?_
          refine gx_iload_n_3 (gx_goto (gx_istore_n_2 rfl (gx_iinc_3 rfl (gx_goto ((gx_nil ?_))))))
          try simp only [nI_add, pk_mul, Nat.add_zero, Nat.zero_add, Nat.reduceAdd, Nat.reduceMul]
          first | exact ih (i + 1) (by omega) (by omega) | (have e9 := ih (i + 1) (by omega) (by omega); simpa [rPlace, *] using e9)
  refine mC_of (by decide) rfl (Nat.le_of_ble_eq_true rfl) [some (.ref o), some (.int id), none, none] rfl ?_
  refine m_blk [(.iconst (-1), .int (-1)), (.istore_n 2, .null), (.iconst 0, .int (nI 0)), (.istore_n 3, .null)] (Nat.le_of_ble_eq_true rfl) (by decide +kernel) ?_
  refine gx_iconst (gx_istore_n_2 rfl (gx_iconst (gx_istore_n_3 rfl ((gx_nil ?_)))))
  exact loop (c + 1) 0 (Nat.zero_le _) (by omega)
end T
