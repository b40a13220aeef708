section S25ref16leantxt
variable {Γ : gE} {o : Nat} {ad : Nat → Nat} {V : Nat → Int32} {F : Nat → Nat → Int32}
def rFb (N : Nat → Int32) (rt : Int32) (c : Nat) : Nat → Int32
  | 0 => nI 0
  | k + 1 => if rWt N rt (rFb N rt c k) c < rWt N rt (nI (k + 1)) c then nI (k + 1) else rFb N rt c k
theorem rFb_s {N : Nat → Int32} {rt : Int32} {c k : Nat} : rFb N rt c (k + 1) = if rWt N rt (rFb N rt c k) c < rWt N rt (nI (k + 1)) c then nI (k + 1) else rFb N rt c k := rfl
def tFb (N : Nat → Int32) (rt : Int32) : Int32 := rT (bI (nI 0 ≤ rt ∧ rt ≤ nI 5)) (bI (0 < N (8 + 3 * rIx rt + 2))) (nI 1)
theorem rp_fullestBag {c : Nat} (hc : c ≤ 20) (h3 : F 0 3 = nI c) (rt : Int32) {b : Nat} (hb : b ≤ 3) (hO : F 0 (8 + 3 * rIx rt + 2) = nI b) : mC Γ o ad M_X10_fullestBag [.int rt] V F 3 (some (.int (if tFb (F 0) rt = 0 then rFb (F 0) rt c (b - 1) else nI 0))) (vU V 13 (tFb (F 0) rt)) F := by
  have hx5 := rIx_le rt
  have loop : ∀ n k, k ≤ b - 1 → b - 1 < k + n → mG Γ o ad M_X10_fullestBag 3 (some (.int (if tFb (F 0) rt = 0 then rFb (F 0) rt c (b - 1) else nI 0))) (vU V 13 (tFb (F 0) rt)) F 17 [some (.ref o), some (.int rt), some (.int (nI b)), some (.int (rFb (F 0) rt c k)), some (.int (nI (k + 1)))] [] V F := by
    intro n
    induction n with
    | zero => intro k h1 h2; omega
    | succ n ih =>
      intro k hk hn
      refine m_blk [(.iload 4, .null), (.iload_n 2, .null)] (Nat.le_of_ble_eq_true rfl) (by decide +kernel) ?_
      refine gx_iload_4 (gx_iload_n_2 ((gx_nil ?_)))
      refine m_icmp_ge (off := 32) (tgt := 52) (by decide +kernel) (by decide) (fun c20 => ?_) (fun c20 => ?_)
      · try simp only [bI_0, Decidable.not_not] at c20
        have hic : k = b - 1 := by
          have := (nI_leI (by omega) (by omega)).mp c20
          omega
        subst hic
        refine m_blk [(.aload_n 0, .null), (.iload_n 1, .null)] (Nat.le_of_ble_eq_true rfl) (by decide +kernel) ?_
        refine gx_aload_n_0 (gx_iload_n_1 ((gx_nil ?_)))
        refine m_callS kX10_74 (r_isRoute _) (by decide +kernel) rfl rfl (Nat.le_of_ble_eq_true rfl) (Nat.le_of_ble_eq_true rfl) (Nat.le_of_ble_eq_true rfl) rfl ?_
        try simp only [Option.toList_some, Option.toList_none, List.cons_append, List.nil_append, bI_0, n1_0, n0_0, Decidable.not_not, not_true_eq_false, not_false_eq_true, nI_add, pk_mul, Nat.add_zero, Nat.zero_add, Nat.reduceAdd, Nat.reduceMul]
        refine m_blk [(.iload_n 2, .null)] (Nat.le_of_ble_eq_true rfl) (by decide +kernel) ?_
        refine gx_iload_n_2 ((gx_nil ?_))
        refine m_if_le (off := 7) (tgt := 65) (by decide +kernel) (by decide) (fun c58 => ?_) (fun c58 => ?_)
        · try simp only [bI_0, Decidable.not_not] at c58
          refine m_blk [(.iconst 0, .int (nI 0)), (.iconst 1, .int (nI 1))] (Nat.le_of_ble_eq_true rfl) (by decide +kernel) ?_
          refine gx_iconst (gx_iconst ((gx_nil ?_)))
          refine m_call kX10_48 (r_holds _ _ _) (by decide +kernel) rfl rfl (Nat.le_of_ble_eq_true rfl) (Nat.le_of_ble_eq_true rfl) (Nat.le_of_ble_eq_true rfl) rfl ?_
          try simp only [Option.toList_some, Option.toList_none, List.cons_append, List.nil_append, bI_0, n1_0, n0_0, Decidable.not_not, not_true_eq_false, not_false_eq_true, nI_add, pk_mul, Nat.add_zero, Nat.zero_add, Nat.reduceAdd, Nat.reduceMul]
          refine m_if_eq (off := 7) (tgt := 77) (by decide +kernel) (by decide) (fun c70 => ?_) (fun c70 => ?_)
          · try simp only [bI_0, Decidable.not_not] at c70
            refine m_blk [(.iconst 0, .int (nI 0))] (Nat.le_of_ble_eq_true rfl) (by decide +kernel) ?_
            refine gx_iconst ((gx_nil ?_))
            have hT : tFb (F 0) rt = rT (bI (nI 0 ≤ rt ∧ rt ≤ nI 5)) (nI 0) (nI 1) := by
              unfold tFb
              rw [hO, bI_f (p := 0 < nI b) (Int32.not_lt.mpr c58)]
            have hτ : ¬ tFb (F 0) rt = 0 := by
              rw [hT]
              intro z
              have z1 := (rT_iff _ _ _).mp z
              simp only [bI_0, n1_0, n0_0, Decidable.not_not, not_true_eq_false, not_false_eq_true, and_true] at z1
              first | exact c70 z1 | simp_all
            rw [if_neg hτ]
            refine m_end (some (.int _)) rfl ⟨by decide +kernel, _, rfl, rfl⟩ ?_ ?_ ?_
            · rfl
            · rw [hT]
            · rfl
          · try simp only [bI_0, Decidable.not_not] at c70
            refine m_blk [(.iload_n 3, .null), (.goto 4, .retAddr 78)] (Nat.le_of_ble_eq_true rfl) (by decide +kernel) ?_
            refine gx_iload_n_3 (gx_goto ((gx_nil ?_)))
            have hT : tFb (F 0) rt = rT (bI (nI 0 ≤ rt ∧ rt ≤ nI 5)) (nI 0) (nI 1) := by
              unfold tFb
              rw [hO, bI_f (p := 0 < nI b) (Int32.not_lt.mpr c58)]
            have hτ : tFb (F 0) rt = 0 := by
              rw [hT]
              exact (rT_iff _ _ _).mpr (by simp only [bI_0, n1_0, n0_0, Decidable.not_not, not_true_eq_false, not_false_eq_true, and_true]; first | exact c70 | exact c70.1 | simp_all)
            rw [if_pos hτ]
            refine m_end (some (.int _)) rfl ⟨by decide +kernel, _, rfl, rfl⟩ ?_ ?_ ?_
            · rfl
            · rw [hT]
            · rfl
        · try simp only [bI_0, Decidable.not_not] at c58
          refine m_blk [(.iconst 1, .int (nI 1)), (.goto 4, .retAddr 66), (.iconst 1, .int (nI 1))] (Nat.le_of_ble_eq_true rfl) (by decide +kernel) ?_
          refine gx_iconst (gx_goto (gx_iconst ((gx_nil ?_))))
          refine m_call kX10_48 (r_holds _ _ _) (by decide +kernel) rfl rfl (Nat.le_of_ble_eq_true rfl) (Nat.le_of_ble_eq_true rfl) (Nat.le_of_ble_eq_true rfl) rfl ?_
          try simp only [Option.toList_some, Option.toList_none, List.cons_append, List.nil_append, bI_0, n1_0, n0_0, Decidable.not_not, not_true_eq_false, not_false_eq_true, nI_add, pk_mul, Nat.add_zero, Nat.zero_add, Nat.reduceAdd, Nat.reduceMul]
          refine m_if_eq (off := 7) (tgt := 77) (by decide +kernel) (by decide) (fun c70 => ?_) (fun c70 => ?_)
          · try simp only [bI_0, Decidable.not_not] at c70
            refine m_blk [(.iconst 0, .int (nI 0))] (Nat.le_of_ble_eq_true rfl) (by decide +kernel) ?_
            refine gx_iconst ((gx_nil ?_))
            have hT : tFb (F 0) rt = rT (bI (nI 0 ≤ rt ∧ rt ≤ nI 5)) (nI 1) (nI 1) := by
              unfold tFb
              rw [hO, bI_t (p := 0 < nI b) (Int32.not_le.mp c58)]
            have hτ : ¬ tFb (F 0) rt = 0 := by
              rw [hT]
              intro z
              have z1 := (rT_iff _ _ _).mp z
              simp only [bI_0, n1_0, n0_0, Decidable.not_not, not_true_eq_false, not_false_eq_true, and_true] at z1
              first | exact c70 z1 | simp_all
            rw [if_neg hτ]
            refine m_end (some (.int _)) rfl ⟨by decide +kernel, _, rfl, rfl⟩ ?_ ?_ ?_
            · rfl
            · rw [hT]
            · rfl
          · try simp only [bI_0, Decidable.not_not] at c70
            refine m_blk [(.iload_n 3, .null), (.goto 4, .retAddr 78)] (Nat.le_of_ble_eq_true rfl) (by decide +kernel) ?_
            refine gx_iload_n_3 (gx_goto ((gx_nil ?_)))
            have hT : tFb (F 0) rt = rT (bI (nI 0 ≤ rt ∧ rt ≤ nI 5)) (nI 1) (nI 1) := by
              unfold tFb
              rw [hO, bI_t (p := 0 < nI b) (Int32.not_le.mp c58)]
            have hτ : tFb (F 0) rt = 0 := by
              rw [hT]
              exact (rT_iff _ _ _).mpr (by simp only [bI_0, n1_0, n0_0, Decidable.not_not, not_true_eq_false, not_false_eq_true, and_true]; first | exact c70 | exact c70.1 | simp_all)
            rw [if_pos hτ]
            refine m_end (some (.int _)) rfl ⟨by decide +kernel, _, rfl, rfl⟩ ?_ ?_ ?_
            · rfl
            · rw [hT]
            · rfl
      · try simp only [bI_0, Decidable.not_not] at c20
        have hic : k < b - 1 := by
          rcases Nat.lt_or_ge (k + 1) b with q | q
          · omega
          · exact absurd (nI_le q (by omega)) c20
        refine m_blk [(.aload_n 0, .null), (.iload_n 1, .null), (.iload 4, .null)] (Nat.le_of_ble_eq_true rfl) (by decide +kernel) ?_
        refine gx_aload_n_0 (gx_iload_n_1 (gx_iload_4 ((gx_nil ?_))))
        refine m_call kX10_100 (r_weightIn hc h3 _ _) (by decide +kernel) rfl rfl (Nat.le_of_ble_eq_true rfl) (Nat.le_of_ble_eq_true rfl) (Nat.le_of_ble_eq_true rfl) rfl ?_
        try simp only [Option.toList_some, Option.toList_none, List.cons_append, List.nil_append, bI_0, n1_0, n0_0, Decidable.not_not, not_true_eq_false, not_false_eq_true, nI_add, pk_mul, Nat.add_zero, Nat.zero_add, Nat.reduceAdd, Nat.reduceMul]
        refine m_blk [(.aload_n 0, .null), (.iload_n 1, .null), (.iload_n 3, .null)] (Nat.le_of_ble_eq_true rfl) (by decide +kernel) ?_
        refine gx_aload_n_0 (gx_iload_n_1 (gx_iload_n_3 ((gx_nil ?_))))
        refine m_call kX10_100 (r_weightIn hc h3 _ _) (by decide +kernel) rfl rfl (Nat.le_of_ble_eq_true rfl) (Nat.le_of_ble_eq_true rfl) (Nat.le_of_ble_eq_true rfl) rfl ?_
        try simp only [Option.toList_some, Option.toList_none, List.cons_append, List.nil_append, bI_0, n1_0, n0_0, Decidable.not_not, not_true_eq_false, not_false_eq_true, nI_add, pk_mul, Nat.add_zero, Nat.zero_add, Nat.reduceAdd, Nat.reduceMul]
        refine m_icmp_le (off := 8) (tgt := 44) (by decide +kernel) (by decide) (fun c36 => ?_) (fun c36 => ?_)
        · try simp only [bI_0, Decidable.not_not] at c36
          refine m_blk [(.iload_n 3, .null), (.istore_n 3, .null), (.iinc 4 1, .int (nI 1)), (.goto (-32), .retAddr 17)] (Nat.le_of_ble_eq_true rfl) (by decide +kernel) ?_
          refine gx_iload_n_3 (gx_istore_n_3 rfl (gx_iinc_4 rfl (gx_goto ((gx_nil ?_)))))
          try simp only [nI_add, pk_mul, Nat.add_zero, Nat.zero_add, Nat.reduceAdd, Nat.reduceMul]
          have e9 := ih (k + 1) (by omega) (by omega)
          rw [rFb_s, if_neg (Int32.not_lt.mpr c36)] at e9
          exact m_weak (by simp [gLe]) e9
        · try simp only [bI_0, Decidable.not_not] at c36
          refine m_blk [(.iload 4, .null), (.goto 4, .retAddr 45), (.istore_n 3, .null), (.iinc 4 1, .int (nI 1)), (.goto (-32), .retAddr 17)] (Nat.le_of_ble_eq_true rfl) (by decide +kernel) ?_
          refine gx_iload_4 (gx_goto (gx_istore_n_3 rfl (gx_iinc_4 rfl (gx_goto ((gx_nil ?_))))))
          try simp only [nI_add, pk_mul, Nat.add_zero, Nat.zero_add, Nat.reduceAdd, Nat.reduceMul]
          have e9 := ih (k + 1) (by omega) (by omega)
          rw [rFb_s, if_pos (Int32.not_le.mp c36)] at e9
          exact m_weak (by simp [gLe]) e9
  refine mC_of (by decide) rfl (Nat.le_of_ble_eq_true rfl) [some (.ref o), some (.int rt), none, none, none] rfl ?_
  refine m_blk [(.aload_n 0, .null)] (Nat.le_of_ble_eq_true rfl) (by decide +kernel) ?_
  refine gx_aload_n_0 ((gx_nil ?_))
  refine m_getR fX10_9 (by decide +kernel) rfl ?_
  refine m_blk [(.iload_n 1, .null)] (Nat.le_of_ble_eq_true rfl) (by decide +kernel) ?_
  refine gx_iload_n_1 ((gx_nil ?_))
  refine m_callS kX10_41 (r_routeAt _) (by decide +kernel) rfl rfl (Nat.le_of_ble_eq_true rfl) (Nat.le_of_ble_eq_true rfl) (Nat.le_of_ble_eq_true rfl) rfl ?_
  try simp only [Option.toList_some, Option.toList_none, List.cons_append, List.nil_append, bI_0, n1_0, n0_0, Decidable.not_not, not_true_eq_false, not_false_eq_true, nI_add, pk_mul, Nat.add_zero, Nat.zero_add, Nat.reduceAdd, Nat.reduceMul]
  refine m_blk [(.iconst 2, .int (nI 2)), (.iadd, .null)] (Nat.le_of_ble_eq_true rfl) (by decide +kernel) ?_
  refine gx_iconst (gx_iadd ((gx_nil ?_)))
  try simp only [nI_add, pk_mul, Nat.add_zero, Nat.zero_add, Nat.reduceAdd, Nat.reduceMul]
  refine m_al (j := 0) rfl (by decide +kernel) (show _ < 202 from by omega) ?_
  refine m_top hO ?_
  refine m_blk [(.istore_n 2, .null), (.iconst 0, .int (nI 0)), (.istore_n 3, .null), (.iconst 1, .int (nI 1)), (.istore 4, .null)] (Nat.le_of_ble_eq_true rfl) (by decide +kernel) ?_
  refine gx_istore_n_2 rfl (gx_iconst (gx_istore_n_3 rfl (gx_iconst (gx_istore_4 rfl ((gx_nil ?_))))))
  exact loop (b + 1) 0 (Nat.zero_le _) (by omega)
def rMo (N : Nat → Int32) (c a b : Nat) : Bool := decide (0 < rWt N (nI b) (-1) c - rWt N (nI a) (-1) c ∨ (rWt N (nI b) (-1) c - rWt N (nI a) (-1) c = 0 ∧ (0 < N (8 + 3 * b + 2) - N (8 + 3 * a + 2) ∨ (N (8 + 3 * b + 2) - N (8 + 3 * a + 2) = 0 ∧ nI b < nI a))))
def rAh (N : Nat → Int32) (c a : Nat) : Nat → Int32
  | 0 => nI 0
  | b + 1 => rAh N c a b + bI (rMo N c a b = true)
def rRk (N : Nat → Int32) (c : Nat) (rank : Int32) : Nat → Int32
  | 0 => -1
  | a + 1 => if rAh N c a 6 = rank then nI a else rRk N c rank a
theorem rRk_s {N : Nat → Int32} {c a : Nat} {rank : Int32} : rRk N c rank (a + 1) = if rAh N c a 6 = rank then nI a else rRk N c rank a := rfl
theorem r_rbIn {c : Nat} (hc : c ≤ 20) (h3 : F 0 3 = nI c) {v : Option Value} {V' : Nat → Int32} {F' : Nat → Nat → Int32} {rk fd : Int32} {a : Nat} (ha : a ≤ 5) : ∀ n b, b + n = 6 → (mG Γ o ad M_X10_routeByWeight 3 v V' F' 107 [some (.ref o), some (.int rk), some (.int fd), some (.int (nI a)), some (.int (rAh (F 0) c a 6)), none, none, none] [] V F) → mG Γ o ad M_X10_routeByWeight 3 v V' F' 16 [some (.ref o), some (.int rk), some (.int fd), some (.int (nI a)), some (.int (rAh (F 0) c a b)), some (.int (nI b)), none, none] [] V F := by
  intro n
  induction n with
  | zero =>
    intro b hn cont
    refine m_blk [(.iload 5, .null), (.bipush 6, .int (nI 6))] (Nat.le_of_ble_eq_true rfl) (by decide +kernel) ?_
    refine gx_iload_5 (gx_bipush ((gx_nil ?_)))
    refine m_icmp_ge (off := 87) (tgt := 107) (by decide +kernel) (by decide) (fun c20 => ?_) (fun c20 => ?_)
    · try simp only [bI_0, Decidable.not_not] at c20
      obtain rfl : b = 6 := by omega
      exact m_weak (by simp [gLe]) cont
    · try simp only [bI_0, Decidable.not_not] at c20
      exact absurd (nI_le (by omega) (by omega)) c20
  | succ n ih =>
    intro b hn cont
    have hxa := rIx_nI (i := a) ha
    have hxb := rIx_nI (i := b) (by omega)
    refine m_blk [(.iload 5, .null), (.bipush 6, .int (nI 6))] (Nat.le_of_ble_eq_true rfl) (by decide +kernel) ?_
    refine gx_iload_5 (gx_bipush ((gx_nil ?_)))
    refine m_icmp_ge (off := 87) (tgt := 107) (by decide +kernel) (by decide) (fun c20 => ?_) (fun c20 => ?_)
    · try simp only [bI_0, Decidable.not_not] at c20
      exact absurd c20 (nI_ge (by omega) (by omega))
    · try simp only [bI_0, Decidable.not_not] at c20
      refine m_blk [(.aload_n 0, .null), (.iload 5, .null), (.iconst (-1), .int (-1))] (Nat.le_of_ble_eq_true rfl) (by decide +kernel) ?_
      refine gx_aload_n_0 (gx_iload_5 (gx_iconst ((gx_nil ?_))))
      refine m_call kX10_100 (r_weightIn hc h3 _ _) (by decide +kernel) rfl rfl (Nat.le_of_ble_eq_true rfl) (Nat.le_of_ble_eq_true rfl) (Nat.le_of_ble_eq_true rfl) rfl ?_
      try simp only [Option.toList_some, Option.toList_none, List.cons_append, List.nil_append, bI_0, n1_0, n0_0, Decidable.not_not, not_true_eq_false, not_false_eq_true, nI_add, pk_mul, Nat.add_zero, Nat.zero_add, Nat.reduceAdd, Nat.reduceMul]
      refine m_blk [(.aload_n 0, .null), (.iload_n 3, .null), (.iconst (-1), .int (-1))] (Nat.le_of_ble_eq_true rfl) (by decide +kernel) ?_
      refine gx_aload_n_0 (gx_iload_n_3 (gx_iconst ((gx_nil ?_))))
      refine m_call kX10_100 (r_weightIn hc h3 _ _) (by decide +kernel) rfl rfl (Nat.le_of_ble_eq_true rfl) (Nat.le_of_ble_eq_true rfl) (Nat.le_of_ble_eq_true rfl) rfl ?_
      try simp only [Option.toList_some, Option.toList_none, List.cons_append, List.nil_append, bI_0, n1_0, n0_0, Decidable.not_not, not_true_eq_false, not_false_eq_true, nI_add, pk_mul, Nat.add_zero, Nat.zero_add, Nat.reduceAdd, Nat.reduceMul]
      refine m_blk [(.isub, .null), (.istore 6, .null), (.aload_n 0, .null)] (Nat.le_of_ble_eq_true rfl) (by decide +kernel) ?_
      refine gx_isub (gx_istore_6 rfl (gx_aload_n_0 ((gx_nil ?_))))
      refine m_getR fX10_9 (by decide +kernel) rfl ?_
      refine m_blk [(.iload 5, .null)] (Nat.le_of_ble_eq_true rfl) (by decide +kernel) ?_
      refine gx_iload_5 ((gx_nil ?_))
      refine m_callS kX10_41 (r_routeAt _) (by decide +kernel) rfl rfl (Nat.le_of_ble_eq_true rfl) (Nat.le_of_ble_eq_true rfl) (Nat.le_of_ble_eq_true rfl) rfl ?_
      try simp only [Option.toList_some, Option.toList_none, List.cons_append, List.nil_append, bI_0, n1_0, n0_0, Decidable.not_not, not_true_eq_false, not_false_eq_true, nI_add, pk_mul, Nat.add_zero, Nat.zero_add, Nat.reduceAdd, Nat.reduceMul]
      refine m_blk [(.iconst 2, .int (nI 2)), (.iadd, .null)] (Nat.le_of_ble_eq_true rfl) (by decide +kernel) ?_
      refine gx_iconst (gx_iadd ((gx_nil ?_)))
      try simp only [nI_add, pk_mul, Nat.add_zero, Nat.zero_add, Nat.reduceAdd, Nat.reduceMul]
      refine m_al (j := 0) rfl (by decide +kernel) (show _ < 202 from by have := rIx_le (nI b); omega) ?_
      refine m_blk [(.aload_n 0, .null)] (Nat.le_of_ble_eq_true rfl) (by decide +kernel) ?_
      refine gx_aload_n_0 ((gx_nil ?_))
      refine m_getR fX10_9 (by decide +kernel) rfl ?_
      refine m_blk [(.iload_n 3, .null)] (Nat.le_of_ble_eq_true rfl) (by decide +kernel) ?_
      refine gx_iload_n_3 ((gx_nil ?_))
      refine m_callS kX10_41 (r_routeAt _) (by decide +kernel) rfl rfl (Nat.le_of_ble_eq_true rfl) (Nat.le_of_ble_eq_true rfl) (Nat.le_of_ble_eq_true rfl) rfl ?_
      try simp only [Option.toList_some, Option.toList_none, List.cons_append, List.nil_append, bI_0, n1_0, n0_0, Decidable.not_not, not_true_eq_false, not_false_eq_true, nI_add, pk_mul, Nat.add_zero, Nat.zero_add, Nat.reduceAdd, Nat.reduceMul]
      refine m_blk [(.iconst 2, .int (nI 2)), (.iadd, .null)] (Nat.le_of_ble_eq_true rfl) (by decide +kernel) ?_
      refine gx_iconst (gx_iadd ((gx_nil ?_)))
      try simp only [nI_add, pk_mul, Nat.add_zero, Nat.zero_add, Nat.reduceAdd, Nat.reduceMul]
      refine m_al (j := 0) rfl (by decide +kernel) (show _ < 202 from by have := rIx_le (nI a); omega) ?_
      refine m_blk [(.isub, .null), (.istore 7, .null), (.iload 4, .null), (.iload 6, .null)] (Nat.le_of_ble_eq_true rfl) (by decide +kernel) ?_
      refine gx_isub (gx_istore_7 rfl (gx_iload_4 (gx_iload_6 ((gx_nil ?_)))))
      refine m_if_gt (off := 24) (tgt := 93) (by decide +kernel) (by decide) (fun c69 => ?_) (fun c69 => ?_)
      · try simp only [bI_0, Decidable.not_not] at c69
        refine m_blk [(.iconst 1, .int (nI 1)), (.goto 4, .retAddr 98), (.iadd, .null), (.istore 4, .null), (.iinc 5 1, .int (nI 1)), (.goto (-88), .retAddr 16)] (Nat.le_of_ble_eq_true rfl) (by decide +kernel) ?_
        refine gx_iconst (gx_goto (gx_iadd (gx_istore_4 rfl (gx_iinc_5 rfl (gx_goto ((gx_nil ?_)))))))
        try simp only [nI_add, pk_mul, Nat.add_zero, Nat.zero_add, Nat.reduceAdd, Nat.reduceMul]
        have e9 := ih (b + 1) (by omega) cont
        rw [show rAh (F 0) c a (b + 1) = rAh (F 0) c a b + nI 1 by show _ + _ = _; rw [bI_t (p := rMo (F 0) c a b = true) (decide_eq_true (Or.inl c69))]] at e9
        exact m_weak (by simp [gLe]) e9
      · try simp only [bI_0, Decidable.not_not] at c69
        refine m_blk [(.iload 6, .null)] (Nat.le_of_ble_eq_true rfl) (by decide +kernel) ?_
        refine gx_iload_6 ((gx_nil ?_))
        refine m_if_ne (off := 23) (tgt := 97) (by decide +kernel) (by decide) (fun c74 => ?_) (fun c74 => ?_)
        · try simp only [bI_0, Decidable.not_not] at c74
          refine m_blk [(.iconst 0, .int (nI 0)), (.iadd, .null), (.istore 4, .null), (.iinc 5 1, .int (nI 1)), (.goto (-88), .retAddr 16)] (Nat.le_of_ble_eq_true rfl) (by decide +kernel) ?_
          refine gx_iconst (gx_iadd (gx_istore_4 rfl (gx_iinc_5 rfl (gx_goto ((gx_nil ?_))))))
          try simp only [nI_add, pk_mul, Nat.add_zero, Nat.zero_add, Nat.reduceAdd, Nat.reduceMul]
          have e9 := ih (b + 1) (by omega) cont
          rw [show rAh (F 0) c a (b + 1) = rAh (F 0) c a b + nI 0 by show _ + _ = _; rw [bI_f (p := rMo (F 0) c a b = true) (fun z => (of_decide_eq_true z).elim c69 (fun y => c74 y.1))]] at e9
          exact m_weak (by simp [gLe]) e9
        · try simp only [bI_0, Decidable.not_not] at c74
          refine m_blk [(.iload 7, .null)] (Nat.le_of_ble_eq_true rfl) (by decide +kernel) ?_
          refine gx_iload_7 ((gx_nil ?_))
          refine m_if_gt (off := 14) (tgt := 93) (by decide +kernel) (by decide) (fun c79 => ?_) (fun c79 => ?_)
          · try simp only [bI_0, Decidable.not_not] at c79
            refine m_blk [(.iconst 1, .int (nI 1)), (.goto 4, .retAddr 98), (.iadd, .null), (.istore 4, .null), (.iinc 5 1, .int (nI 1)), (.goto (-88), .retAddr 16)] (Nat.le_of_ble_eq_true rfl) (by decide +kernel) ?_
            refine gx_iconst (gx_goto (gx_iadd (gx_istore_4 rfl (gx_iinc_5 rfl (gx_goto ((gx_nil ?_)))))))
            try simp only [nI_add, pk_mul, Nat.add_zero, Nat.zero_add, Nat.reduceAdd, Nat.reduceMul]
            have e9 := ih (b + 1) (by omega) cont
            rw [show rAh (F 0) c a (b + 1) = rAh (F 0) c a b + nI 1 by show _ + _ = _; rw [bI_t (p := rMo (F 0) c a b = true) (decide_eq_true (Or.inr ⟨c74, Or.inl (by rw [← hxa, ← hxb]; exact c79)⟩))]] at e9
            exact m_weak (by simp [gLe]) e9
          · try simp only [bI_0, Decidable.not_not] at c79
            refine m_blk [(.iload 7, .null)] (Nat.le_of_ble_eq_true rfl) (by decide +kernel) ?_
            refine gx_iload_7 ((gx_nil ?_))
            refine m_if_ne (off := 13) (tgt := 97) (by decide +kernel) (by decide) (fun c84 => ?_) (fun c84 => ?_)
            · try simp only [bI_0, Decidable.not_not] at c84
              refine m_blk [(.iconst 0, .int (nI 0)), (.iadd, .null), (.istore 4, .null), (.iinc 5 1, .int (nI 1)), (.goto (-88), .retAddr 16)] (Nat.le_of_ble_eq_true rfl) (by decide +kernel) ?_
              refine gx_iconst (gx_iadd (gx_istore_4 rfl (gx_iinc_5 rfl (gx_goto ((gx_nil ?_))))))
              try simp only [nI_add, pk_mul, Nat.add_zero, Nat.zero_add, Nat.reduceAdd, Nat.reduceMul]
              have e9 := ih (b + 1) (by omega) cont
              rw [show rAh (F 0) c a (b + 1) = rAh (F 0) c a b + nI 0 by show _ + _ = _; rw [bI_f (p := rMo (F 0) c a b = true) (fun z => (of_decide_eq_true z).elim c69 (fun y => y.2.elim (fun x => c79 (by rw [hxa, hxb]; exact x)) (fun x => c84 (by rw [hxa, hxb]; exact x.1))))]] at e9
              exact m_weak (by simp [gLe]) e9
            · try simp only [bI_0, Decidable.not_not] at c84
              refine m_blk [(.iload 5, .null), (.iload_n 3, .null)] (Nat.le_of_ble_eq_true rfl) (by decide +kernel) ?_
              refine gx_iload_5 (gx_iload_n_3 ((gx_nil ?_)))
              refine m_icmp_ge (off := 7) (tgt := 97) (by decide +kernel) (by decide) (fun c90 => ?_) (fun c90 => ?_)
              · try simp only [bI_0, Decidable.not_not] at c90
                refine m_blk [(.iconst 0, .int (nI 0)), (.iadd, .null), (.istore 4, .null), (.iinc 5 1, .int (nI 1)), (.goto (-88), .retAddr 16)] (Nat.le_of_ble_eq_true rfl) (by decide +kernel) ?_
                refine gx_iconst (gx_iadd (gx_istore_4 rfl (gx_iinc_5 rfl (gx_goto ((gx_nil ?_))))))
                try simp only [nI_add, pk_mul, Nat.add_zero, Nat.zero_add, Nat.reduceAdd, Nat.reduceMul]
                have e9 := ih (b + 1) (by omega) cont
                rw [show rAh (F 0) c a (b + 1) = rAh (F 0) c a b + nI 0 by show _ + _ = _; rw [bI_f (p := rMo (F 0) c a b = true) (fun z => (of_decide_eq_true z).elim c69 (fun y => y.2.elim (fun x => c79 (by rw [hxa, hxb]; exact x)) (fun x => absurd x.2 (Int32.not_lt.mpr c90))))]] at e9
                exact m_weak (by simp [gLe]) e9
              · try simp only [bI_0, Decidable.not_not] at c90
                refine m_blk [(.iconst 1, .int (nI 1)), (.goto 4, .retAddr 98), (.iadd, .null), (.istore 4, .null), (.iinc 5 1, .int (nI 1)), (.goto (-88), .retAddr 16)] (Nat.le_of_ble_eq_true rfl) (by decide +kernel) ?_
                refine gx_iconst (gx_goto (gx_iadd (gx_istore_4 rfl (gx_iinc_5 rfl (gx_goto ((gx_nil ?_)))))))
                try simp only [nI_add, pk_mul, Nat.add_zero, Nat.zero_add, Nat.reduceAdd, Nat.reduceMul]
                have e9 := ih (b + 1) (by omega) cont
                rw [show rAh (F 0) c a (b + 1) = rAh (F 0) c a b + nI 1 by show _ + _ = _; rw [bI_t (p := rMo (F 0) c a b = true) (decide_eq_true (Or.inr ⟨c74, Or.inr ⟨by rw [← hxa, ← hxb]; exact c84, Int32.not_le.mp c90⟩⟩))]] at e9
                exact m_weak (by simp [gLe]) e9
theorem rp_routeByWeight {c : Nat} (hc : c ≤ 20) (h3 : F 0 3 = nI c) (rk : Int32) : mC Γ o ad M_X10_routeByWeight [.int rk] V F 3 (some (.int (if rT (bI (¬ rRk (F 0) c rk 6 = -1)) (nI 1) (nI 1) = 0 then rRk (F 0) c rk 6 else nI 0))) (vU V 13 (rT (bI (¬ rRk (F 0) c rk 6 = -1)) (nI 1) (nI 1))) F := by
  have loop : ∀ n a, a + n = 6 → mG Γ o ad M_X10_routeByWeight 3 (some (.int (if rT (bI (¬ rRk (F 0) c rk 6 = -1)) (nI 1) (nI 1) = 0 then rRk (F 0) c rk 6 else nI 0))) (vU V 13 (rT (bI (¬ rRk (F 0) c rk 6 = -1)) (nI 1) (nI 1))) F 4 [some (.ref o), some (.int rk), some (.int (rRk (F 0) c rk a)), some (.int (nI a)), none, none, none, none] [] V F := by
    intro n
    induction n with
    | zero =>
      intro a hn
      obtain rfl : a = 6 := by omega
      refine m_blk [(.iload_n 3, .null), (.bipush 6, .int (nI 6))] (Nat.le_of_ble_eq_true rfl) (by decide +kernel) ?_
      refine gx_iload_n_3 (gx_bipush ((gx_nil ?_)))
      refine m_icmp_ge (off := 118) (tgt := 125) (by decide +kernel) (by decide) (fun c7 => ?_) (fun c7 => ?_)
      · try simp only [bI_0, Decidable.not_not] at c7
        refine m_blk [(.aload_n 0, .null), (.iload_n 2, .null), (.iconst (-1), .int (-1))] (Nat.le_of_ble_eq_true rfl) (by decide +kernel) ?_
        refine gx_aload_n_0 (gx_iload_n_2 (gx_iconst ((gx_nil ?_))))
        refine m_icmp_eq (off := 7) (tgt := 135) (by decide +kernel) (by decide) (fun c128 => ?_) (fun c128 => ?_)
        · try simp only [bI_0, Decidable.not_not] at c128
          refine m_blk [(.iconst 0, .int (nI 0))] (Nat.le_of_ble_eq_true rfl) (by decide +kernel) ?_
          refine gx_iconst ((gx_nil ?_))
          refine m_call kX10_62 (r_goes _) (by decide +kernel) rfl rfl (Nat.le_of_ble_eq_true rfl) (Nat.le_of_ble_eq_true rfl) (Nat.le_of_ble_eq_true rfl) rfl ?_
          rw [show bI (¬ nI 0 = 0) = nI 0 from by decide]
          simp only [Option.toList_some, List.cons_append, List.nil_append]
          refine m_if_eq (off := 7) (tgt := 146) (by decide +kernel) (by decide) (fun c139 => ?_) (fun c139 => ?_)
          · try simp only [bI_0, Decidable.not_not] at c139
            refine m_blk [(.iconst 0, .int (nI 0))] (Nat.le_of_ble_eq_true rfl) (by decide +kernel) ?_
            refine gx_iconst ((gx_nil ?_))
            rw [bI_f (p := ¬ rRk (F 0) c rk 6 = -1) (fun z => z c128)]
            have hτ : ¬ rT (nI 0) (nI 1) (nI 1) = 0 := by decide
            refine m_end (some (.int _)) rfl ⟨by decide +kernel, _, rfl, rfl⟩ ?_ ?_ ?_
            · rw [if_neg hτ]
            · rfl
            · rfl
          · exact absurd (by decide) c139
        · try simp only [bI_0, Decidable.not_not] at c128
          refine m_blk [(.iconst 1, .int (nI 1)), (.goto 4, .retAddr 136)] (Nat.le_of_ble_eq_true rfl) (by decide +kernel) ?_
          refine gx_iconst (gx_goto ((gx_nil ?_)))
          refine m_call kX10_62 (r_goes _) (by decide +kernel) rfl rfl (Nat.le_of_ble_eq_true rfl) (Nat.le_of_ble_eq_true rfl) (Nat.le_of_ble_eq_true rfl) rfl ?_
          rw [show bI (¬ nI 1 = 0) = nI 1 from by decide]
          simp only [Option.toList_some, List.cons_append, List.nil_append]
          refine m_if_eq (off := 7) (tgt := 146) (by decide +kernel) (by decide) (fun c139 => ?_) (fun c139 => ?_)
          · exact absurd c139 (by decide)
          · try simp only [bI_0, Decidable.not_not] at c139
            refine m_blk [(.iload_n 2, .null), (.goto 4, .retAddr 147)] (Nat.le_of_ble_eq_true rfl) (by decide +kernel) ?_
            refine gx_iload_n_2 (gx_goto ((gx_nil ?_)))
            rw [bI_t (p := ¬ rRk (F 0) c rk 6 = -1) c128]
            have hτ : rT (nI 1) (nI 1) (nI 1) = 0 := by decide
            refine m_end (some (.int _)) rfl ⟨by decide +kernel, _, rfl, rfl⟩ ?_ ?_ ?_
            · rw [if_pos hτ]
              try first | done | rfl | rfl
            · rfl
            · rfl
      · try simp only [bI_0, Decidable.not_not] at c7
        exact absurd (nI_le (by omega) (by omega)) c7
    | succ n ih =>
      intro a hn
      refine m_blk [(.iload_n 3, .null), (.bipush 6, .int (nI 6))] (Nat.le_of_ble_eq_true rfl) (by decide +kernel) ?_
      refine gx_iload_n_3 (gx_bipush ((gx_nil ?_)))
      refine m_icmp_ge (off := 118) (tgt := 125) (by decide +kernel) (by decide) (fun c7 => ?_) (fun c7 => ?_)
      · try simp only [bI_0, Decidable.not_not] at c7
        exact absurd c7 (nI_ge (by omega) (by omega))
      · try simp only [bI_0, Decidable.not_not] at c7
        refine m_blk [(.iconst 0, .int (nI 0)), (.istore 4, .null), (.iconst 0, .int (nI 0)), (.istore 5, .null)] (Nat.le_of_ble_eq_true rfl) (by decide +kernel) ?_
        refine gx_iconst (gx_istore_4 rfl (gx_iconst (gx_istore_5 rfl ((gx_nil ?_)))))
        refine m_lcl (L' := [some (.ref o), some (.int rk), some (.int (rRk (F 0) c rk a)), some (.int (nI a)), some (.int (rAh (F 0) c a 0)), some (.int (nI 0)), none, none]) rfl ?_
        refine r_rbIn hc h3 (by omega) 6 0 rfl ?_
        refine m_blk [(.iload 4, .null), (.iload_n 1, .null)] (Nat.le_of_ble_eq_true rfl) (by decide +kernel) ?_
        refine gx_iload_4 (gx_iload_n_1 ((gx_nil ?_)))
        refine m_icmp_ne (off := 7) (tgt := 117) (by decide +kernel) (by decide) (fun c110 => ?_) (fun c110 => ?_)
        · try simp only [bI_0, Decidable.not_not] at c110
          refine m_blk [(.iload_n 2, .null), (.istore_n 2, .null), (.iinc 3 1, .int (nI 1)), (.goto (-118), .retAddr 4)] (Nat.le_of_ble_eq_true rfl) (by decide +kernel) ?_
          refine gx_iload_n_2 (gx_istore_n_2 rfl (gx_iinc_3 rfl (gx_goto ((gx_nil ?_)))))
          try simp only [nI_add, pk_mul, Nat.add_zero, Nat.zero_add, Nat.reduceAdd, Nat.reduceMul]
          have e9 := ih (a + 1) (by omega)
          rw [rRk_s (a := a), if_neg c110] at e9
          exact m_weak (by simp [gLe]) e9
        · try simp only [bI_0, Decidable.not_not] at c110
          refine m_blk [(.iload_n 3, .null), (.goto 4, .retAddr 118), (.istore_n 2, .null), (.iinc 3 1, .int (nI 1)), (.goto (-118), .retAddr 4)] (Nat.le_of_ble_eq_true rfl) (by decide +kernel) ?_
          refine gx_iload_n_3 (gx_goto (gx_istore_n_2 rfl (gx_iinc_3 rfl (gx_goto ((gx_nil ?_))))))
          try simp only [nI_add, pk_mul, Nat.add_zero, Nat.zero_add, Nat.reduceAdd, Nat.reduceMul]
          have e9 := ih (a + 1) (by omega)
          rw [rRk_s (a := a), if_pos c110] at e9
          exact m_weak (by simp [gLe]) e9
  refine mC_of (by decide) rfl (Nat.le_of_ble_eq_true rfl) [some (.ref o), some (.int rk), none, none, none, none, none, none] rfl ?_
  refine m_blk [(.iconst (-1), .int (-1)), (.istore_n 2, .null), (.iconst 0, .int (nI 0)), (.istore_n 3, .null)] (Nat.le_of_ble_eq_true rfl) (by decide +kernel) ?_
  refine gx_iconst (gx_istore_n_2 rfl (gx_iconst (gx_istore_n_3 rfl ((gx_nil ?_)))))
  exact loop 6 0 rfl
theorem rp_undo0 (h6 : V 6 = nI 0) : mC Γ o ad M_X10_undo [] V F 2 (some (.int (nI 0))) (vU V 13 (nI 1)) (F) := by
  refine mC_of (by decide) rfl (Nat.le_of_ble_eq_true rfl) [some (.ref o)] rfl ?_
  refine m_blk [(.aload_n 0, .null), (.aload_n 0, .null)] (Nat.le_of_ble_eq_true rfl) (by decide +kernel) ?_
  refine gx_aload_n_0 (gx_aload_n_0 ((gx_nil ?_)))
  refine m_getI fX10_56 (by decide +kernel) rfl ?_
  refine m_if_le (off := 7) (tgt := 12) (by decide +kernel) (by decide) (fun c5 => ?_) (fun c5 => ?_)
  · try simp only [bI_0, Decidable.not_not] at c5
    refine m_blk [(.iconst 0, .int (nI 0))] (Nat.le_of_ble_eq_true rfl) (by decide +kernel) ?_
    refine gx_iconst ((gx_nil ?_))
    refine m_call kX10_62 (r_goes _) (by decide +kernel) rfl rfl (Nat.le_of_ble_eq_true rfl) (Nat.le_of_ble_eq_true rfl) (Nat.le_of_ble_eq_true rfl) rfl ?_
    rw [show bI (¬ nI 0 = 0) = nI 0 from by decide]
    simp only [Option.toList_some, List.cons_append, List.nil_append]
    refine m_if_ne (off := 5) (tgt := 21) (by decide +kernel) (by decide) (fun c16 => ?_) (fun c16 => ?_)
    · exact absurd (by decide) c16
    · try simp only [bI_0, Decidable.not_not] at c16
      refine m_blk [(.iconst 0, .int (nI 0))] (Nat.le_of_ble_eq_true rfl) (by decide +kernel) ?_
      refine gx_iconst ((gx_nil ?_))
      refine m_end (some (.int _)) rfl ⟨by decide +kernel, _, rfl, rfl⟩ ?_ ?_ ?_
      · rfl
      · rfl
      · rfl
  · try simp only [bI_0, Decidable.not_not] at c5
    exact absurd (by rw [h6]; decide) c5
theorem rp_undo1 {r : Nat} (hr : r < 8) (h6 : V 6 = nI (r + 1)) : mC Γ o ad M_X10_undo [] V F 2 (some (.int (nI r))) (vU (vU V 13 (nI 0)) 6 (nI r)) (fR F 0 (rCp (F 4) (F 0) (r * 202) 0 202)) := by
  refine mC_of (by decide) rfl (Nat.le_of_ble_eq_true rfl) [some (.ref o)] rfl ?_
  refine m_blk [(.aload_n 0, .null), (.aload_n 0, .null)] (Nat.le_of_ble_eq_true rfl) (by decide +kernel) ?_
  refine gx_aload_n_0 (gx_aload_n_0 ((gx_nil ?_)))
  refine m_getI fX10_56 (by decide +kernel) rfl ?_
  refine m_if_le (off := 7) (tgt := 12) (by decide +kernel) (by decide) (fun c5 => ?_) (fun c5 => ?_)
  · try simp only [bI_0, Decidable.not_not] at c5
    exact absurd c5 (by rw [h6]; exact nI_nle (by omega) (by omega))
  · try simp only [bI_0, Decidable.not_not] at c5
    refine m_blk [(.iconst 1, .int (nI 1)), (.goto 4, .retAddr 13)] (Nat.le_of_ble_eq_true rfl) (by decide +kernel) ?_
    refine gx_iconst (gx_goto ((gx_nil ?_)))
    refine m_call kX10_62 (r_goes _) (by decide +kernel) rfl rfl (Nat.le_of_ble_eq_true rfl) (Nat.le_of_ble_eq_true rfl) (Nat.le_of_ble_eq_true rfl) rfl ?_
    rw [show bI (¬ nI 1 = 0) = nI 1 from by decide]
    simp only [Option.toList_some, List.cons_append, List.nil_append]
    refine m_if_ne (off := 5) (tgt := 21) (by decide +kernel) (by decide) (fun c16 => ?_) (fun c16 => ?_)
    · try simp only [bI_0, Decidable.not_not] at c16
      refine m_blk [(.aload_n 0, .null), (.dup, .null)] (Nat.le_of_ble_eq_true rfl) (by decide +kernel) ?_
      refine gx_aload_n_0 (gx_dupr ((gx_nil ?_)))
      refine m_getI fX10_56 (by decide +kernel) rfl ?_
      try simp only [vU_s, vU_n, ne_eq, Nat.reduceEqDiff, not_false_eq_true, nI_add, pk_mul, Nat.add_zero, Nat.zero_add, Nat.reduceAdd, Nat.reduceMul]
      refine m_blk [(.iconst 1, .int (nI 1)), (.isub, .null)] (Nat.le_of_ble_eq_true rfl) (by decide +kernel) ?_
      refine gx_iconst (gx_isub ((gx_nil ?_)))
      refine m_top (show _ = nI r by rw [h6, n1_1, nI_pred]) ?_
      refine m_putI fX10_56 (by decide +kernel) rfl (by decide) rfl rfl ?_
      refine m_blk [(.aload_n 0, .null)] (Nat.le_of_ble_eq_true rfl) (by decide +kernel) ?_
      refine gx_aload_n_0 ((gx_nil ?_))
      refine m_getR fX10_22 (by decide +kernel) rfl ?_
      refine m_blk [(.aload_n 0, .null)] (Nat.le_of_ble_eq_true rfl) (by decide +kernel) ?_
      refine gx_aload_n_0 ((gx_nil ?_))
      refine m_getI fX10_56 (by decide +kernel) rfl ?_
      try simp only [vU_s, vU_n, ne_eq, Nat.reduceEqDiff, not_false_eq_true, nI_add, pk_mul, Nat.add_zero, Nat.zero_add, Nat.reduceAdd, Nat.reduceMul]
      refine m_blk [(.sipush 202, .int (nI 202)), (.imul, .null), (.aload_n 0, .null)] (Nat.le_of_ble_eq_true rfl) (by decide +kernel) ?_
      refine gx_sipush (gx_imul (gx_aload_n_0 ((gx_nil ?_))))
      try simp only [nI_add, pk_mul, Nat.add_zero, Nat.zero_add, Nat.reduceAdd, Nat.reduceMul]
      refine m_getR fX10_9 (by decide +kernel) rfl ?_
      refine m_blk [(.iconst 0, .int (nI 0))] (Nat.le_of_ble_eq_true rfl) (by decide +kernel) ?_
      refine gx_iconst ((gx_nil ?_))
      refine m_callR kX10_52 (r_copies (i := 4) (j := 0) rfl rfl (by decide) (r * 202) 0 ⟨by decide, by decide⟩ (show r * 202 + 202 ≤ 1616 by omega) (by decide)) (by decide +kernel) rfl rfl (Nat.le_of_ble_eq_true rfl) (Nat.le_of_ble_eq_true rfl) (Nat.le_of_ble_eq_true rfl) rfl ?_
      try simp only [Option.toList_some, Option.toList_none, List.cons_append, List.nil_append, bI_0, n1_0, n0_0, Decidable.not_not, not_true_eq_false, not_false_eq_true, nI_add, pk_mul, Nat.add_zero, Nat.zero_add, Nat.reduceAdd, Nat.reduceMul]
      refine m_blk [(.aload_n 0, .null)] (Nat.le_of_ble_eq_true rfl) (by decide +kernel) ?_
      refine gx_aload_n_0 ((gx_nil ?_))
      refine m_getI fX10_56 (by decide +kernel) rfl ?_
      try simp only [vU_s, vU_n, ne_eq, Nat.reduceEqDiff, not_false_eq_true, nI_add, pk_mul, Nat.add_zero, Nat.zero_add, Nat.reduceAdd, Nat.reduceMul]
      refine m_end (some (.int _)) rfl ⟨by decide +kernel, _, rfl, rfl⟩ ?_ ?_ ?_
      · rfl
      · rfl
      · rfl
    · exact absurd c16 (by decide)
theorem rp_save  : mC Γ o ad M_X10_save [] V F 1 (some (.int (F 0 3))) (vU (vU V 13 (nI 0)) 5 (nI 1)) (fR F 3 (F 0)) := by
  refine mC_of (by decide) rfl (Nat.le_of_ble_eq_true rfl) [some (.ref o)] rfl ?_
  refine m_blk [(.aload_n 0, .null), (.iconst 0, .int (nI 0))] (Nat.le_of_ble_eq_true rfl) (by decide +kernel) ?_
  refine gx_aload_n_0 (gx_iconst ((gx_nil ?_)))
  refine m_putI fX10_45 (by decide +kernel) rfl (by decide) rfl rfl ?_
  refine m_blk [(.aload_n 0, .null)] (Nat.le_of_ble_eq_true rfl) (by decide +kernel) ?_
  refine gx_aload_n_0 ((gx_nil ?_))
  refine m_getR fX10_9 (by decide +kernel) rfl ?_
  refine m_blk [(.iconst 0, .int (nI 0)), (.aload_n 0, .null)] (Nat.le_of_ble_eq_true rfl) (by decide +kernel) ?_
  refine gx_iconst (gx_aload_n_0 ((gx_nil ?_)))
  refine m_getR fX10_19 (by decide +kernel) rfl ?_
  refine m_blk [(.iconst 0, .int (nI 0))] (Nat.le_of_ble_eq_true rfl) (by decide +kernel) ?_
  refine gx_iconst ((gx_nil ?_))
  refine m_callR kX10_52 (r_copies0 (i := 0) (j := 3) rfl rfl (by decide) rfl rfl) (by decide +kernel) rfl rfl (Nat.le_of_ble_eq_true rfl) (Nat.le_of_ble_eq_true rfl) (Nat.le_of_ble_eq_true rfl) rfl ?_
  try simp only [Option.toList_some, Option.toList_none, List.cons_append, List.nil_append, bI_0, n1_0, n0_0, Decidable.not_not, not_true_eq_false, not_false_eq_true, nI_add, pk_mul, Nat.add_zero, Nat.zero_add, Nat.reduceAdd, Nat.reduceMul]
  refine m_blk [(.aload_n 0, .null), (.iconst 1, .int (nI 1))] (Nat.le_of_ble_eq_true rfl) (by decide +kernel) ?_
  refine gx_aload_n_0 (gx_iconst ((gx_nil ?_)))
  refine m_putI fX10_66 (by decide +kernel) rfl (by decide) rfl rfl ?_
  refine m_blk [(.aload_n 0, .null)] (Nat.le_of_ble_eq_true rfl) (by decide +kernel) ?_
  refine gx_aload_n_0 ((gx_nil ?_))
  refine m_getR fX10_9 (by decide +kernel) rfl ?_
  refine m_blk [(.iconst 3, .int (nI 3))] (Nat.le_of_ble_eq_true rfl) (by decide +kernel) ?_
  refine gx_iconst ((gx_nil ?_))
  refine m_al (j := 0) rfl (by decide +kernel) (show _ < 202 from by omega) ?_
  refine m_end (some (.int _)) rfl ⟨by decide +kernel, _, rfl, rfl⟩ ?_ ?_ ?_
  · rfl
  · rfl
  · rfl
theorem rp_restore0 (h5 : V 5 = nI 0) : mC Γ o ad M_X10_restore [] V F 2 (some (.int (nI 0))) (vU V 13 (nI 1)) (F) := by
  refine mC_of (by decide) rfl (Nat.le_of_ble_eq_true rfl) [some (.ref o)] rfl ?_
  refine m_blk [(.aload_n 0, .null), (.aload_n 0, .null)] (Nat.le_of_ble_eq_true rfl) (by decide +kernel) ?_
  refine gx_aload_n_0 (gx_aload_n_0 ((gx_nil ?_)))
  refine m_getI fX10_66 (by decide +kernel) rfl ?_
  refine m_call kX10_62 (r_goes _) (by decide +kernel) rfl rfl (Nat.le_of_ble_eq_true rfl) (Nat.le_of_ble_eq_true rfl) (Nat.le_of_ble_eq_true rfl) rfl ?_
  try simp only [Option.toList_some, Option.toList_none, List.cons_append, List.nil_append, bI_0, n1_0, n0_0, Decidable.not_not, not_true_eq_false, not_false_eq_true, nI_add, pk_mul, Nat.add_zero, Nat.zero_add, Nat.reduceAdd, Nat.reduceMul]
  refine m_if_ne (off := 5) (tgt := 13) (by decide +kernel) (by decide) (fun c8 => ?_) (fun c8 => ?_)
  · try simp only [bI_0, Decidable.not_not] at c8
    exact (c8 (h5.trans (by decide))).elim
  · try simp only [bI_0, Decidable.not_not] at c8
    refine m_blk [(.iconst 0, .int (nI 0))] (Nat.le_of_ble_eq_true rfl) (by decide +kernel) ?_
    refine gx_iconst ((gx_nil ?_))
    refine m_end (some (.int _)) rfl ⟨by decide +kernel, _, rfl, rfl⟩ ?_ ?_ ?_
    · rfl
    · rw [h5]; rfl
    · rfl
theorem rp_restore1 (h5 : V 5 = nI 1) : mC Γ o ad M_X10_restore [] V F 2 (some (.int (F 3 3))) (vU (vU V 13 (nI 0)) 6 (nI 0)) (fR F 0 (F 3)) := by
  refine mC_of (by decide) rfl (Nat.le_of_ble_eq_true rfl) [some (.ref o)] rfl ?_
  refine m_blk [(.aload_n 0, .null), (.aload_n 0, .null)] (Nat.le_of_ble_eq_true rfl) (by decide +kernel) ?_
  refine gx_aload_n_0 (gx_aload_n_0 ((gx_nil ?_)))
  refine m_getI fX10_66 (by decide +kernel) rfl ?_
  refine m_call kX10_62 (r_goes _) (by decide +kernel) rfl rfl (Nat.le_of_ble_eq_true rfl) (Nat.le_of_ble_eq_true rfl) (Nat.le_of_ble_eq_true rfl) rfl ?_
  try simp only [Option.toList_some, Option.toList_none, List.cons_append, List.nil_append, bI_0, n1_0, n0_0, Decidable.not_not, not_true_eq_false, not_false_eq_true, nI_add, pk_mul, Nat.add_zero, Nat.zero_add, Nat.reduceAdd, Nat.reduceMul]
  refine m_if_ne (off := 5) (tgt := 13) (by decide +kernel) (by decide) (fun c8 => ?_) (fun c8 => ?_)
  · try simp only [bI_0, Decidable.not_not] at c8
    refine m_blk [(.aload_n 0, .null)] (Nat.le_of_ble_eq_true rfl) (by decide +kernel) ?_
    refine gx_aload_n_0 ((gx_nil ?_))
    refine m_getR fX10_19 (by decide +kernel) rfl ?_
    refine m_blk [(.iconst 0, .int (nI 0)), (.aload_n 0, .null)] (Nat.le_of_ble_eq_true rfl) (by decide +kernel) ?_
    refine gx_iconst (gx_aload_n_0 ((gx_nil ?_)))
    refine m_getR fX10_9 (by decide +kernel) rfl ?_
    refine m_blk [(.iconst 0, .int (nI 0))] (Nat.le_of_ble_eq_true rfl) (by decide +kernel) ?_
    refine gx_iconst ((gx_nil ?_))
    refine m_callR kX10_52 (r_copies0 (i := 3) (j := 0) rfl rfl (by decide) rfl rfl) (by decide +kernel) rfl rfl (Nat.le_of_ble_eq_true rfl) (Nat.le_of_ble_eq_true rfl) (Nat.le_of_ble_eq_true rfl) rfl ?_
    try simp only [Option.toList_some, Option.toList_none, List.cons_append, List.nil_append, bI_0, n1_0, n0_0, Decidable.not_not, not_true_eq_false, not_false_eq_true, nI_add, pk_mul, Nat.add_zero, Nat.zero_add, Nat.reduceAdd, Nat.reduceMul]
    refine m_blk [(.aload_n 0, .null), (.iconst 0, .int (nI 0))] (Nat.le_of_ble_eq_true rfl) (by decide +kernel) ?_
    refine gx_aload_n_0 (gx_iconst ((gx_nil ?_)))
    refine m_putI fX10_56 (by decide +kernel) rfl (by decide) rfl rfl ?_
    refine m_blk [(.aload_n 0, .null)] (Nat.le_of_ble_eq_true rfl) (by decide +kernel) ?_
    refine gx_aload_n_0 ((gx_nil ?_))
    refine m_getR fX10_9 (by decide +kernel) rfl ?_
    refine m_blk [(.iconst 3, .int (nI 3))] (Nat.le_of_ble_eq_true rfl) (by decide +kernel) ?_
    refine gx_iconst ((gx_nil ?_))
    refine m_al (j := 0) rfl (by decide +kernel) (show _ < 202 from by omega) ?_
    refine m_end (some (.int _)) rfl ⟨by decide +kernel, _, rfl, rfl⟩ ?_ ?_ ?_
    · rfl
    · rw [h5]; rfl
    · rfl
  · try simp only [bI_0, Decidable.not_not] at c8
    exact absurd (h5.symm.trans c8) (by decide)
theorem rp_errorPosition  : mC Γ o ad M_X10_errorPosition [] V F 2 (some (.int (if V 7 = -1 then nI 0 else V 7))) (vU V 13 (if V 7 = -1 then nI 1 else nI 0)) (F) := by
  refine mC_of (by decide) rfl (Nat.le_of_ble_eq_true rfl) [some (.ref o)] rfl ?_
  refine m_blk [(.aload_n 0, .null), (.aload_n 0, .null)] (Nat.le_of_ble_eq_true rfl) (by decide +kernel) ?_
  refine gx_aload_n_0 (gx_aload_n_0 ((gx_nil ?_)))
  refine m_getI fX10_25 (by decide +kernel) rfl ?_
  refine m_blk [(.iconst (-1), .int (-1))] (Nat.le_of_ble_eq_true rfl) (by decide +kernel) ?_
  refine gx_iconst ((gx_nil ?_))
  refine m_icmp_eq (off := 7) (tgt := 13) (by decide +kernel) (by decide) (fun c6 => ?_) (fun c6 => ?_)
  · try simp only [bI_0, Decidable.not_not] at c6
    refine m_blk [(.iconst 0, .int (nI 0))] (Nat.le_of_ble_eq_true rfl) (by decide +kernel) ?_
    refine gx_iconst ((gx_nil ?_))
    refine m_call kX10_62 (r_goes _) (by decide +kernel) rfl rfl (Nat.le_of_ble_eq_true rfl) (Nat.le_of_ble_eq_true rfl) (Nat.le_of_ble_eq_true rfl) rfl ?_
    rw [show bI (¬ nI 0 = 0) = nI 0 from by decide]
    simp only [Option.toList_some, List.cons_append, List.nil_append]
    refine m_if_eq (off := 10) (tgt := 27) (by decide +kernel) (by decide) (fun c17 => ?_) (fun c17 => ?_)
    · try simp only [bI_0, Decidable.not_not] at c17
      refine m_blk [(.iconst 0, .int (nI 0))] (Nat.le_of_ble_eq_true rfl) (by decide +kernel) ?_
      refine gx_iconst ((gx_nil ?_))
      refine m_end (some (.int _)) rfl ⟨by decide +kernel, _, rfl, rfl⟩ ?_ ?_ ?_
      · (first | rw [if_pos c6] | rw [if_neg c6]) <;> rfl
      · (first | rw [if_pos c6] | rw [if_neg c6]) <;> rfl
      · rfl
    · exact absurd (by decide) c17
  · try simp only [bI_0, Decidable.not_not] at c6
    refine m_blk [(.iconst 1, .int (nI 1)), (.goto 4, .retAddr 14)] (Nat.le_of_ble_eq_true rfl) (by decide +kernel) ?_
    refine gx_iconst (gx_goto ((gx_nil ?_)))
    refine m_call kX10_62 (r_goes _) (by decide +kernel) rfl rfl (Nat.le_of_ble_eq_true rfl) (Nat.le_of_ble_eq_true rfl) (Nat.le_of_ble_eq_true rfl) rfl ?_
    rw [show bI (¬ nI 1 = 0) = nI 1 from by decide]
    simp only [Option.toList_some, List.cons_append, List.nil_append]
    refine m_if_eq (off := 10) (tgt := 27) (by decide +kernel) (by decide) (fun c17 => ?_) (fun c17 => ?_)
    · exact absurd c17 (by decide)
    · try simp only [bI_0, Decidable.not_not] at c17
      refine m_blk [(.aload_n 0, .null)] (Nat.le_of_ble_eq_true rfl) (by decide +kernel) ?_
      refine gx_aload_n_0 ((gx_nil ?_))
      refine m_getI fX10_25 (by decide +kernel) rfl ?_
      try simp only [vU_s, vU_n, ne_eq, Nat.reduceEqDiff, not_false_eq_true, nI_add, pk_mul, Nat.add_zero, Nat.zero_add, Nat.reduceAdd, Nat.reduceMul]
      refine m_blk [(.goto 4, .retAddr 28)] (Nat.le_of_ble_eq_true rfl) (by decide +kernel) ?_
      refine gx_goto ((gx_nil ?_))
      refine m_end (some (.int _)) rfl ⟨by decide +kernel, _, rfl, rfl⟩ ?_ ?_ ?_
      · (first | rw [if_pos c6] | rw [if_neg c6]) <;> rfl
      · (first | rw [if_pos c6] | rw [if_neg c6]) <;> rfl
      · rfl
theorem rp_failedCommand  : mC Γ o ad M_X10_failedCommand [] V F 2 (some (.int (if V 8 = -1 then nI 0 else V 8))) (vU V 13 (if V 8 = -1 then nI 1 else nI 0)) (F) := by
  refine mC_of (by decide) rfl (Nat.le_of_ble_eq_true rfl) [some (.ref o)] rfl ?_
  refine m_blk [(.aload_n 0, .null), (.aload_n 0, .null)] (Nat.le_of_ble_eq_true rfl) (by decide +kernel) ?_
  refine gx_aload_n_0 (gx_aload_n_0 ((gx_nil ?_)))
  refine m_getI fX10_29 (by decide +kernel) rfl ?_
  refine m_blk [(.iconst (-1), .int (-1))] (Nat.le_of_ble_eq_true rfl) (by decide +kernel) ?_
  refine gx_iconst ((gx_nil ?_))
  refine m_icmp_eq (off := 7) (tgt := 13) (by decide +kernel) (by decide) (fun c6 => ?_) (fun c6 => ?_)
  · try simp only [bI_0, Decidable.not_not] at c6
    refine m_blk [(.iconst 0, .int (nI 0))] (Nat.le_of_ble_eq_true rfl) (by decide +kernel) ?_
    refine gx_iconst ((gx_nil ?_))
    refine m_call kX10_62 (r_goes _) (by decide +kernel) rfl rfl (Nat.le_of_ble_eq_true rfl) (Nat.le_of_ble_eq_true rfl) (Nat.le_of_ble_eq_true rfl) rfl ?_
    rw [show bI (¬ nI 0 = 0) = nI 0 from by decide]
    simp only [Option.toList_some, List.cons_append, List.nil_append]
    refine m_if_eq (off := 10) (tgt := 27) (by decide +kernel) (by decide) (fun c17 => ?_) (fun c17 => ?_)
    · try simp only [bI_0, Decidable.not_not] at c17
      refine m_blk [(.iconst 0, .int (nI 0))] (Nat.le_of_ble_eq_true rfl) (by decide +kernel) ?_
      refine gx_iconst ((gx_nil ?_))
      refine m_end (some (.int _)) rfl ⟨by decide +kernel, _, rfl, rfl⟩ ?_ ?_ ?_
      · (first | rw [if_pos c6] | rw [if_neg c6]) <;> rfl
      · (first | rw [if_pos c6] | rw [if_neg c6]) <;> rfl
      · rfl
    · exact absurd (by decide) c17
  · try simp only [bI_0, Decidable.not_not] at c6
    refine m_blk [(.iconst 1, .int (nI 1)), (.goto 4, .retAddr 14)] (Nat.le_of_ble_eq_true rfl) (by decide +kernel) ?_
    refine gx_iconst (gx_goto ((gx_nil ?_)))
    refine m_call kX10_62 (r_goes _) (by decide +kernel) rfl rfl (Nat.le_of_ble_eq_true rfl) (Nat.le_of_ble_eq_true rfl) (Nat.le_of_ble_eq_true rfl) rfl ?_
    rw [show bI (¬ nI 1 = 0) = nI 1 from by decide]
    simp only [Option.toList_some, List.cons_append, List.nil_append]
    refine m_if_eq (off := 10) (tgt := 27) (by decide +kernel) (by decide) (fun c17 => ?_) (fun c17 => ?_)
    · exact absurd c17 (by decide)
    · try simp only [bI_0, Decidable.not_not] at c17
      refine m_blk [(.aload_n 0, .null)] (Nat.le_of_ble_eq_true rfl) (by decide +kernel) ?_
      refine gx_aload_n_0 ((gx_nil ?_))
      refine m_getI fX10_29 (by decide +kernel) rfl ?_
      try simp only [vU_s, vU_n, ne_eq, Nat.reduceEqDiff, not_false_eq_true, nI_add, pk_mul, Nat.add_zero, Nat.zero_add, Nat.reduceAdd, Nat.reduceMul]
      refine m_blk [(.goto 4, .retAddr 28)] (Nat.le_of_ble_eq_true rfl) (by decide +kernel) ?_
      refine gx_goto ((gx_nil ?_))
      refine m_end (some (.int _)) rfl ⟨by decide +kernel, _, rfl, rfl⟩ ?_ ?_ ?_
      · (first | rw [if_pos c6] | rw [if_neg c6]) <;> rfl
      · (first | rw [if_pos c6] | rw [if_neg c6]) <;> rfl
      · rfl
end S25ref16leantxt
