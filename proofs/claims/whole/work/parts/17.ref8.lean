section S17ref8leantxt
variable {Γ : gE} {o : Nat} {ad : Nat → Nat} {V : Nat → Int32} {F : Nat → Nat → Int32}
def rOp (N : Nat → Int32) (rt : Int32) : Nat := (N (8 + 3 * rIx rt + 2)).toNatClampNeg
def rOK (N : Nat → Int32) : Prop := ∀ r, r ≤ 5 → ∃ b, b ≤ 3 ∧ N (8 + 3 * r + 2) = nI b
theorem rOK.get {N : Nat → Int32} (h : rOK N) (rt : Int32) : rOp N rt ≤ 3 ∧ N (8 + 3 * rIx rt + 2) = nI (rOp N rt) := by
  obtain ⟨b, hb, e⟩ := h (rIx rt) (rIx_le rt)
  unfold rOp
  rw [e, nI_clamp (by omega)]
  exact ⟨hb, rfl⟩
theorem nI_nm1 {n : Nat} (h : n < 2147483648) : ¬ nI n = -1 := fun z => by
  have h1 := nI_toInt (n := n) (by omega)
  rw [z] at h1
  have h2 : (-1 : Int32).toInt = -1 := by decide
  omega
theorem rIdx_of {N : Nat → Int32} {id : Int32} {c p : Nat} (hp : p < 20) (h : rPlace N id c = nI p) : rIdx N id c = p := by
  unfold rIdx
  rw [h, nI_clamp (by omega)]
theorem rBag_in {N : Nat → Int32} {rt w : Int32} {c b : Nat} (hb : b ≤ 3) (h : ¬ rBag N rt w c b = -1) : ∃ k, k ≤ 2 ∧ rBag N rt w c b = nI k := by
  have key : ∀ (p : Nat → Bool) (b i : Nat), rFst p b = some i → i < b := by
    intro p b
    induction b with
    | zero => intro i h; cases h
    | succ b ih =>
      intro i h
      unfold rFst at h
      split at h
      · next k hk => cases h; exact Nat.lt_succ_of_lt (ih i hk)
      · split at h
        · cases h; exact Nat.lt_succ_self _
        · cases h
  unfold rBag at h ⊢
  split
  · next i hi => exact ⟨i, by have := key _ _ _ hi; omega, rfl⟩
  · next hi =>
    rw [hi] at h
    dsimp only at h
    split
    · next h3 => exact ⟨b, by omega, rfl⟩
    · next h3 => rw [if_neg h3] at h; exact absurd rfl h
theorem r_pulls {c : Nat} (hc : c ≤ 20) (h3 : F 0 3 = nI c) (id : Int32) : mC Γ o ad M_X10_pulls [.int id] V F 3 (some (.int (if rT (bI (¬ rPlace (F 0) id c = -1)) (bI (¬ F 0 (62 + 7 * rIdx (F 0) id c + 5) = -1)) (nI 1) = 0 then F 0 (62 + 7 * rIdx (F 0) id c + 5) else nI 0))) (vU V 13 (rT (bI (¬ rPlace (F 0) id c = -1)) (bI (¬ F 0 (62 + 7 * rIdx (F 0) id c + 5) = -1)) (nI 1))) (fR F 0 (if rT (bI (¬ rPlace (F 0) id c = -1)) (bI (¬ F 0 (62 + 7 * rIdx (F 0) id c + 5) = -1)) (nI 1) = 0 then upd (F 0) (62 + 7 * rIdx (F 0) id c + 5) (-1) else F 0)) := by
  refine mC_of (by decide) rfl (Nat.le_of_ble_eq_true rfl) [some (.ref o), some (.int id), none] rfl ?_
  refine m_blk [(.aload_n 0, .null), (.iload_n 1, .null), (.iconst 5, .int (nI 5))] (Nat.le_of_ble_eq_true rfl) (by decide +kernel) ?_
  refine gx_aload_n_0 (gx_iload_n_1 (gx_iconst ((gx_nil ?_))))
  refine m_call kX10_153 (r_of hc h3 _ 5 (by omega)) (by decide +kernel) rfl rfl (Nat.le_of_ble_eq_true rfl) (Nat.le_of_ble_eq_true rfl) (Nat.le_of_ble_eq_true rfl) rfl ?_
  try simp only [Option.toList_some, Option.toList_none, List.cons_append, List.nil_append, bI_0, n1_0, n0_0, Decidable.not_not, not_true_eq_false, not_false_eq_true, nI_add, pk_mul, Nat.add_zero, Nat.zero_add, Nat.reduceAdd, Nat.reduceMul]
  refine m_blk [(.istore_n 2, .null), (.aload_n 0, .null), (.aload_n 0, .null), (.iload_n 1, .null)] (Nat.le_of_ble_eq_true rfl) (by decide +kernel) ?_
  refine gx_istore_n_2 rfl (gx_aload_n_0 (gx_aload_n_0 (gx_iload_n_1 ((gx_nil ?_)))))
  refine m_call kX10_156 (r_isHere hc h3 _) (by decide +kernel) rfl rfl (Nat.le_of_ble_eq_true rfl) (Nat.le_of_ble_eq_true rfl) (Nat.le_of_ble_eq_true rfl) rfl ?_
  try simp only [Option.toList_some, Option.toList_none, List.cons_append, List.nil_append, bI_0, n1_0, n0_0, Decidable.not_not, not_true_eq_false, not_false_eq_true, nI_add, pk_mul, Nat.add_zero, Nat.zero_add, Nat.reduceAdd, Nat.reduceMul]
  refine m_blk [(.iload_n 2, .null), (.iconst (-1), .int (-1))] (Nat.le_of_ble_eq_true rfl) (by decide +kernel) ?_
  refine gx_iload_n_2 (gx_iconst ((gx_nil ?_)))
  refine m_icmp_eq (off := 7) (tgt := 22) (by decide +kernel) (by decide) (fun c15 => ?_) (fun c15 => ?_)
  · try simp only [bI_0, Decidable.not_not] at c15
    refine m_blk [(.iconst 0, .int (nI 0)), (.iconst 1, .int (nI 1))] (Nat.le_of_ble_eq_true rfl) (by decide +kernel) ?_
    refine gx_iconst (gx_iconst ((gx_nil ?_)))
    refine m_call kX10_48 (r_holds _ _ _) (by decide +kernel) rfl rfl (Nat.le_of_ble_eq_true rfl) (Nat.le_of_ble_eq_true rfl) (Nat.le_of_ble_eq_true rfl) rfl ?_
    try simp only [Option.toList_some, Option.toList_none, List.cons_append, List.nil_append, bI_0, n1_0, n0_0, Decidable.not_not, not_true_eq_false, not_false_eq_true, nI_add, pk_mul, Nat.add_zero, Nat.zero_add, Nat.reduceAdd, Nat.reduceMul]
    refine m_if_ne (off := 5) (tgt := 32) (by decide +kernel) (by decide) (fun c27 => ?_) (fun c27 => ?_)
    · try simp only [bI_0, Decidable.not_not] at c27
      exact c27.2.1.elim
    · try simp only [bI_0, Decidable.not_not] at c27
      refine m_blk [(.iconst 0, .int (nI 0))] (Nat.le_of_ble_eq_true rfl) (by decide +kernel) ?_
      refine gx_iconst ((gx_nil ?_))
      rw [bI_f (p := ¬ F 0 (62 + 7 * rIdx (F 0) id c + 5) = -1) (fun z => z c15)]
      have hτ : ¬ rT (bI (¬ rPlace (F 0) id c = -1)) (nI 0) (nI 1) = 0 := fun z => c27 (by simpa only [bI_0, n1_0, n0_0, Decidable.not_not, not_true_eq_false, not_false_eq_true] using (rT_iff _ _ _).mp z)
      refine m_end (some (.int _)) rfl ⟨by decide +kernel, _, rfl, rfl⟩ ?_ ?_ ?_
      · rw [if_neg hτ]
      · rfl
      · rw [if_neg hτ, fR_self]
  · try simp only [bI_0, Decidable.not_not] at c15
    refine m_blk [(.iconst 1, .int (nI 1)), (.goto 4, .retAddr 23), (.iconst 1, .int (nI 1))] (Nat.le_of_ble_eq_true rfl) (by decide +kernel) ?_
    refine gx_iconst (gx_goto (gx_iconst ((gx_nil ?_))))
    refine m_call kX10_48 (r_holds _ _ _) (by decide +kernel) rfl rfl (Nat.le_of_ble_eq_true rfl) (Nat.le_of_ble_eq_true rfl) (Nat.le_of_ble_eq_true rfl) rfl ?_
    try simp only [Option.toList_some, Option.toList_none, List.cons_append, List.nil_append, bI_0, n1_0, n0_0, Decidable.not_not, not_true_eq_false, not_false_eq_true, nI_add, pk_mul, Nat.add_zero, Nat.zero_add, Nat.reduceAdd, Nat.reduceMul]
    refine m_if_ne (off := 5) (tgt := 32) (by decide +kernel) (by decide) (fun c27 => ?_) (fun c27 => ?_)
    · try simp only [bI_0, Decidable.not_not] at c27
      obtain ⟨p, hp, ep⟩ := rPlace_in.resolve_left c27.1
      have hix := rIdx_of (by omega) ep
      refine m_blk [(.aload_n 0, .null)] (Nat.le_of_ble_eq_true rfl) (by decide +kernel) ?_
      refine gx_aload_n_0 ((gx_nil ?_))
      refine m_getR fX10_9 (by decide +kernel) rfl ?_
      refine m_blk [(.aload_n 0, .null), (.iload_n 1, .null)] (Nat.le_of_ble_eq_true rfl) (by decide +kernel) ?_
      refine gx_aload_n_0 (gx_iload_n_1 ((gx_nil ?_)))
      refine m_call kX10_97 (r_placeOf hc h3 _) (by decide +kernel) rfl rfl (Nat.le_of_ble_eq_true rfl) (Nat.le_of_ble_eq_true rfl) (Nat.le_of_ble_eq_true rfl) rfl ?_
      refine m_top ep ?_
      refine m_callS kX10_94 (r_letterAt _) (by decide +kernel) rfl rfl (Nat.le_of_ble_eq_true rfl) (Nat.le_of_ble_eq_true rfl) (Nat.le_of_ble_eq_true rfl) rfl ?_
      try simp only [Option.toList_some, Option.toList_none, List.cons_append, List.nil_append, bI_0, n1_0, n0_0, Decidable.not_not, not_true_eq_false, not_false_eq_true, nI_add, pk_mul, Nat.add_zero, Nat.zero_add, Nat.reduceAdd, Nat.reduceMul]
      refine m_blk [(.iconst 5, .int (nI 5)), (.iadd, .null), (.iconst (-1), .int (-1))] (Nat.le_of_ble_eq_true rfl) (by decide +kernel) ?_
      refine gx_iconst (gx_iadd (gx_iconst ((gx_nil ?_))))
      try simp only [nI_add, pk_mul, Nat.add_zero, Nat.zero_add, Nat.reduceAdd, Nat.reduceMul]
      refine m_as (j := 0) rfl (by decide +kernel) (show _ < 202 from by omega) ?_
      refine m_blk [(.iload_n 2, .null)] (Nat.le_of_ble_eq_true rfl) (by decide +kernel) ?_
      refine gx_iload_n_2 ((gx_nil ?_))
      rw [bI_t (p := ¬ F 0 (62 + 7 * rIdx (F 0) id c + 5) = -1) c15]
      have hτ : rT (bI (¬ rPlace (F 0) id c = -1)) (nI 1) (nI 1) = 0 := (rT_iff _ _ _).mpr (by simpa only [bI_0, n1_0, n0_0, Decidable.not_not, not_true_eq_false, not_false_eq_true] using c27)
      refine m_end (some (.int _)) rfl ⟨by decide +kernel, _, rfl, rfl⟩ ?_ ?_ ?_
      · rw [if_pos hτ]
        try first | done | rfl
      · rfl
      · rw [if_pos hτ]
        try first | done | (simp only [fU_row, hix])
    · try simp only [bI_0, Decidable.not_not] at c27
      refine m_blk [(.iconst 0, .int (nI 0))] (Nat.le_of_ble_eq_true rfl) (by decide +kernel) ?_
      refine gx_iconst ((gx_nil ?_))
      rw [bI_t (p := ¬ F 0 (62 + 7 * rIdx (F 0) id c + 5) = -1) c15]
      have hτ : ¬ rT (bI (¬ rPlace (F 0) id c = -1)) (nI 1) (nI 1) = 0 := fun z => c27 (by simpa only [bI_0, n1_0, n0_0, Decidable.not_not, not_true_eq_false, not_false_eq_true] using (rT_iff _ _ _).mp z)
      refine m_end (some (.int _)) rfl ⟨by decide +kernel, _, rfl, rfl⟩ ?_ ?_ ?_
      · rw [if_neg hτ]
      · rfl
      · rw [if_neg hτ, fR_self]
theorem r_sets (rt : Int32) (k : Nat) (hk : k < 2) (hr mo : Int32) : mC Γ o ad M_X10_sets [.int rt, .int (nI k), .int hr, .int mo] V F 3 (some (.int (F 0 (8 + 3 * rIx rt + k)))) (vU V 13 (rT (bI (nI 0 ≤ rt ∧ rt ≤ nI 5)) (bI (nI 0 ≤ hr ∧ hr ≤ mo)) (nI 1))) (fR F 0 (if rT (bI (nI 0 ≤ rt ∧ rt ≤ nI 5)) (bI (nI 0 ≤ hr ∧ hr ≤ mo)) (nI 1) = 0 then upd (F 0) (8 + 3 * rIx rt + k) hr else F 0)) := by
  have hx5 := rIx_le rt
  refine mC_of (by decide) rfl (Nat.le_of_ble_eq_true rfl) [some (.ref o), some (.int rt), some (.int (nI k)), some (.int hr), some (.int mo), none] rfl ?_
  refine m_blk [(.aload_n 0, .null)] (Nat.le_of_ble_eq_true rfl) (by decide +kernel) ?_
  refine gx_aload_n_0 ((gx_nil ?_))
  refine m_getR fX10_9 (by decide +kernel) rfl ?_
  refine m_blk [(.iload_n 1, .null)] (Nat.le_of_ble_eq_true rfl) (by decide +kernel) ?_
  refine gx_iload_n_1 ((gx_nil ?_))
  refine m_callS kX10_41 (r_routeAt _) (by decide +kernel) rfl rfl (Nat.le_of_ble_eq_true rfl) (Nat.le_of_ble_eq_true rfl) (Nat.le_of_ble_eq_true rfl) rfl ?_
  try simp only [Option.toList_some, Option.toList_none, List.cons_append, List.nil_append, bI_0, n1_0, n0_0, Decidable.not_not, not_true_eq_false, not_false_eq_true, nI_add, pk_mul, Nat.add_zero, Nat.zero_add, Nat.reduceAdd, Nat.reduceMul]
  refine m_blk [(.iload_n 2, .null), (.iadd, .null)] (Nat.le_of_ble_eq_true rfl) (by decide +kernel) ?_
  refine gx_iload_n_2 (gx_iadd ((gx_nil ?_)))
  try simp only [nI_add, pk_mul, Nat.add_zero, Nat.zero_add, Nat.reduceAdd, Nat.reduceMul]
  refine m_al (j := 0) rfl (by decide +kernel) (show _ < 202 from by omega) ?_
  refine m_blk [(.istore 5, .null), (.aload_n 0, .null), (.iload_n 1, .null)] (Nat.le_of_ble_eq_true rfl) (by decide +kernel) ?_
  refine gx_istore_5 rfl (gx_aload_n_0 (gx_iload_n_1 ((gx_nil ?_))))
  refine m_callS kX10_74 (r_isRoute _) (by decide +kernel) rfl rfl (Nat.le_of_ble_eq_true rfl) (Nat.le_of_ble_eq_true rfl) (Nat.le_of_ble_eq_true rfl) rfl ?_
  try simp only [Option.toList_some, Option.toList_none, List.cons_append, List.nil_append, bI_0, n1_0, n0_0, Decidable.not_not, not_true_eq_false, not_false_eq_true, nI_add, pk_mul, Nat.add_zero, Nat.zero_add, Nat.reduceAdd, Nat.reduceMul]
  refine m_blk [(.iload_n 3, .null), (.iconst 0, .int (nI 0)), (.iload 4, .null)] (Nat.le_of_ble_eq_true rfl) (by decide +kernel) ?_
  refine gx_iload_n_3 (gx_iconst (gx_iload_4 ((gx_nil ?_))))
  refine m_callS kX10_70 (r_isIn _ _ _) (by decide +kernel) rfl rfl (Nat.le_of_ble_eq_true rfl) (Nat.le_of_ble_eq_true rfl) (Nat.le_of_ble_eq_true rfl) rfl ?_
  try simp only [Option.toList_some, Option.toList_none, List.cons_append, List.nil_append, bI_0, n1_0, n0_0, Decidable.not_not, not_true_eq_false, not_false_eq_true, nI_add, pk_mul, Nat.add_zero, Nat.zero_add, Nat.reduceAdd, Nat.reduceMul]
  refine m_blk [(.iconst 1, .int (nI 1))] (Nat.le_of_ble_eq_true rfl) (by decide +kernel) ?_
  refine gx_iconst ((gx_nil ?_))
  refine m_call kX10_48 (r_holds _ _ _) (by decide +kernel) rfl rfl (Nat.le_of_ble_eq_true rfl) (Nat.le_of_ble_eq_true rfl) (Nat.le_of_ble_eq_true rfl) rfl ?_
  try simp only [Option.toList_some, Option.toList_none, List.cons_append, List.nil_append, bI_0, n1_0, n0_0, Decidable.not_not, not_true_eq_false, not_false_eq_true, nI_add, pk_mul, Nat.add_zero, Nat.zero_add, Nat.reduceAdd, Nat.reduceMul]
  refine m_if_eq (off := 15) (tgt := 44) (by decide +kernel) (by decide) (fun c29 => ?_) (fun c29 => ?_)
  · try simp only [bI_0, Decidable.not_not] at c29
    refine m_blk [(.iload 5, .null)] (Nat.le_of_ble_eq_true rfl) (by decide +kernel) ?_
    refine gx_iload_5 ((gx_nil ?_))
    have hτ : ¬ rT (bI (nI 0 ≤ rt ∧ rt ≤ nI 5)) (bI (nI 0 ≤ hr ∧ hr ≤ mo)) (nI 1) = 0 := fun z => c29 (by simpa only [bI_0, n1_0, n0_0, Decidable.not_not, not_true_eq_false, not_false_eq_true] using (rT_iff _ _ _).mp z)
    refine m_end (some (.int _)) rfl ⟨by decide +kernel, _, rfl, rfl⟩ ?_ ?_ ?_
    · rfl
    · rfl
    · rw [if_neg hτ, fR_self]
  · try simp only [bI_0, Decidable.not_not] at c29
    refine m_blk [(.aload_n 0, .null)] (Nat.le_of_ble_eq_true rfl) (by decide +kernel) ?_
    refine gx_aload_n_0 ((gx_nil ?_))
    refine m_getR fX10_9 (by decide +kernel) rfl ?_
    refine m_blk [(.iload_n 1, .null)] (Nat.le_of_ble_eq_true rfl) (by decide +kernel) ?_
    refine gx_iload_n_1 ((gx_nil ?_))
    refine m_callS kX10_41 (r_routeAt _) (by decide +kernel) rfl rfl (Nat.le_of_ble_eq_true rfl) (Nat.le_of_ble_eq_true rfl) (Nat.le_of_ble_eq_true rfl) rfl ?_
    try simp only [Option.toList_some, Option.toList_none, List.cons_append, List.nil_append, bI_0, n1_0, n0_0, Decidable.not_not, not_true_eq_false, not_false_eq_true, nI_add, pk_mul, Nat.add_zero, Nat.zero_add, Nat.reduceAdd, Nat.reduceMul]
    refine m_blk [(.iload_n 2, .null), (.iadd, .null), (.iload_n 3, .null)] (Nat.le_of_ble_eq_true rfl) (by decide +kernel) ?_
    refine gx_iload_n_2 (gx_iadd (gx_iload_n_3 ((gx_nil ?_))))
    try simp only [nI_add, pk_mul, Nat.add_zero, Nat.zero_add, Nat.reduceAdd, Nat.reduceMul]
    refine m_as (j := 0) rfl (by decide +kernel) (show _ < 202 from by omega) ?_
    refine m_blk [(.iload 5, .null)] (Nat.le_of_ble_eq_true rfl) (by decide +kernel) ?_
    refine gx_iload_5 ((gx_nil ?_))
    have hτ : rT (bI (nI 0 ≤ rt ∧ rt ≤ nI 5)) (bI (nI 0 ≤ hr ∧ hr ≤ mo)) (nI 1) = 0 := (rT_iff _ _ _).mpr (by simpa only [bI_0, n1_0, n0_0, Decidable.not_not, not_true_eq_false, not_false_eq_true] using c29)
    refine m_end (some (.int _)) rfl ⟨by decide +kernel, _, rfl, rfl⟩ ?_ ?_ ?_
    · rfl
    · rfl
    · rw [if_pos hτ]
      simp only [fU_row]
def rSrt (N : Nat → Int32) (id : Int32) (c t : Nat) : Int32 := rRoute N (N (62 + 7 * rIdx N id c + 1)) t
theorem r_sorts {c : Nat} (hc : c ≤ 20) (h3 : F 0 3 = nI c) {t : Nat} (ht : t ≤ 12) (h4 : F 0 4 = nI t) (hOK : rOK (F 0)) (id : Int32) : mC Γ o ad M_X10_sorts [.int id] V F 5 (some (.int (if rT (bI (¬ rPlace (F 0) id c = -1)) (bI (¬ rPlace (F 0) id c = -1 ∧ rGo (F 0) (rIdx (F 0) id c) (rSrt (F 0) id c t) c (rOp (F 0) (rSrt (F 0) id c t)) = true)) (nI 1) = 0 then rBag (F 0) (rSrt (F 0) id c t) (F 0 (62 + 7 * rIdx (F 0) id c + 2)) c (rOp (F 0) (rSrt (F 0) id c t)) else nI 0))) (vU V 13 (rT (bI (¬ rPlace (F 0) id c = -1)) (bI (¬ rPlace (F 0) id c = -1 ∧ rGo (F 0) (rIdx (F 0) id c) (rSrt (F 0) id c t) c (rOp (F 0) (rSrt (F 0) id c t)) = true)) (nI 1))) (fR F 0 (if rT (bI (¬ rPlace (F 0) id c = -1)) (bI (¬ rPlace (F 0) id c = -1 ∧ rGo (F 0) (rIdx (F 0) id c) (rSrt (F 0) id c t) c (rOp (F 0) (rSrt (F 0) id c t)) = true)) (nI 1) = 0 then rInto (F 0) (rIdx (F 0) id c) (rSrt (F 0) id c t) c (rOp (F 0) (rSrt (F 0) id c t)) else F 0)) := by
  refine mC_of (by decide) rfl (Nat.le_of_ble_eq_true rfl) [some (.ref o), some (.int id), none, none] rfl ?_
  refine m_blk [(.aload_n 0, .null), (.iload_n 1, .null)] (Nat.le_of_ble_eq_true rfl) (by decide +kernel) ?_
  refine gx_aload_n_0 (gx_iload_n_1 ((gx_nil ?_)))
  refine m_call kX10_97 (r_placeOf hc h3 _) (by decide +kernel) rfl rfl (Nat.le_of_ble_eq_true rfl) (Nat.le_of_ble_eq_true rfl) (Nat.le_of_ble_eq_true rfl) rfl ?_
  try simp only [Option.toList_some, Option.toList_none, List.cons_append, List.nil_append, bI_0, n1_0, n0_0, Decidable.not_not, not_true_eq_false, not_false_eq_true, nI_add, pk_mul, Nat.add_zero, Nat.zero_add, Nat.reduceAdd, Nat.reduceMul]
  refine m_blk [(.istore_n 2, .null), (.iload_n 2, .null), (.iconst (-1), .int (-1))] (Nat.le_of_ble_eq_true rfl) (by decide +kernel) ?_
  refine gx_istore_n_2 rfl (gx_iload_n_2 (gx_iconst ((gx_nil ?_))))
  refine m_icmp_ne (off := 7) (tgt := 15) (by decide +kernel) (by decide) (fun c8 => ?_) (fun c8 => ?_)
  · try simp only [bI_0, Decidable.not_not] at c8
    obtain ⟨p, hp, ep⟩ := rPlace_in.resolve_left c8
    have hix := rIdx_of (by omega) ep
    have hg := hOK.get (rSrt (F 0) id c t)
    refine m_lcl (L' := [some (.ref o), some (.int id), some (.int (nI p)), none]) (by rw [ep]) ?_
    refine m_blk [(.aload_n 0, .null), (.aload_n 0, .null)] (Nat.le_of_ble_eq_true rfl) (by decide +kernel) ?_
    refine gx_aload_n_0 (gx_aload_n_0 ((gx_nil ?_)))
    refine m_getR fX10_9 (by decide +kernel) rfl ?_
    refine m_blk [(.iload_n 2, .null)] (Nat.le_of_ble_eq_true rfl) (by decide +kernel) ?_
    refine gx_iload_n_2 ((gx_nil ?_))
    refine m_callS kX10_94 (r_letterAt _) (by decide +kernel) rfl rfl (Nat.le_of_ble_eq_true rfl) (Nat.le_of_ble_eq_true rfl) (Nat.le_of_ble_eq_true rfl) rfl ?_
    try simp only [Option.toList_some, Option.toList_none, List.cons_append, List.nil_append, bI_0, n1_0, n0_0, Decidable.not_not, not_true_eq_false, not_false_eq_true, nI_add, pk_mul, Nat.add_zero, Nat.zero_add, Nat.reduceAdd, Nat.reduceMul]
    refine m_blk [(.iconst 1, .int (nI 1)), (.iadd, .null)] (Nat.le_of_ble_eq_true rfl) (by decide +kernel) ?_
    refine gx_iconst (gx_iadd ((gx_nil ?_)))
    try simp only [nI_add, pk_mul, Nat.add_zero, Nat.zero_add, Nat.reduceAdd, Nat.reduceMul]
    refine m_al (j := 0) rfl (by decide +kernel) (show _ < 202 from by omega) ?_
    refine m_call kX10_131 (r_routed ht h4 _) (by decide +kernel) rfl rfl (Nat.le_of_ble_eq_true rfl) (Nat.le_of_ble_eq_true rfl) (Nat.le_of_ble_eq_true rfl) rfl ?_
    refine m_top (show _ = rSrt (F 0) id c t by unfold rSrt; rw [hix]) ?_
    try simp only [Option.toList_some, List.cons_append, List.nil_append]
    refine m_blk [(.istore_n 3, .null), (.aload_n 0, .null), (.iload_n 2, .null), (.iconst (-1), .int (-1))] (Nat.le_of_ble_eq_true rfl) (by decide +kernel) ?_
    refine gx_istore_n_3 rfl (gx_aload_n_0 (gx_iload_n_2 (gx_iconst ((gx_nil ?_)))))
    refine m_icmp_eq (off := 7) (tgt := 41) (by decide +kernel) (by decide) (fun c34 => ?_) (fun c34 => ?_)
    · try simp only [bI_0, Decidable.not_not] at c34
      exact absurd c34 (nI_nm1 (by omega))
    · try simp only [bI_0, Decidable.not_not] at c34
      refine m_blk [(.iconst 1, .int (nI 1)), (.goto 4, .retAddr 42), (.iload_n 2, .null), (.iconst (-1), .int (-1))] (Nat.le_of_ble_eq_true rfl) (by decide +kernel) ?_
      refine gx_iconst (gx_goto (gx_iload_n_2 (gx_iconst ((gx_nil ?_)))))
      refine m_icmp_eq (off := 16) (tgt := 60) (by decide +kernel) (by decide) (fun c44 => ?_) (fun c44 => ?_)
      · try simp only [bI_0, Decidable.not_not] at c44
        exact absurd c44 (nI_nm1 (by omega))
      · try simp only [bI_0, Decidable.not_not] at c44
        refine m_blk [(.aload_n 0, .null), (.iload_n 2, .null), (.iload_n 3, .null)] (Nat.le_of_ble_eq_true rfl) (by decide +kernel) ?_
        refine gx_aload_n_0 (gx_iload_n_2 (gx_iload_n_3 ((gx_nil ?_))))
        refine m_call kX10_134 (r_canGo hc h3 p (by omega) (rSrt (F 0) id c t) hg.1 hg.2) (by decide +kernel) rfl rfl (Nat.le_of_ble_eq_true rfl) (Nat.le_of_ble_eq_true rfl) (Nat.le_of_ble_eq_true rfl) rfl ?_
        try simp only [Option.toList_some, Option.toList_none, List.cons_append, List.nil_append, bI_0, n1_0, n0_0, Decidable.not_not, not_true_eq_false, not_false_eq_true, nI_add, pk_mul, Nat.add_zero, Nat.zero_add, Nat.reduceAdd, Nat.reduceMul]
        refine m_if_eq (off := 7) (tgt := 60) (by decide +kernel) (by decide) (fun c53 => ?_) (fun c53 => ?_)
        · try simp only [bI_0, Decidable.not_not] at c53
          refine m_blk [(.iconst 0, .int (nI 0)), (.iconst 1, .int (nI 1))] (Nat.le_of_ble_eq_true rfl) (by decide +kernel) ?_
          refine gx_iconst (gx_iconst ((gx_nil ?_)))
          refine m_call kX10_48 (r_holds _ _ _) (by decide +kernel) rfl rfl (Nat.le_of_ble_eq_true rfl) (Nat.le_of_ble_eq_true rfl) (Nat.le_of_ble_eq_true rfl) rfl ?_
          rw [show bI (¬ nI 1 = 0 ∧ ¬ nI 0 = 0 ∧ ¬ nI 1 = 0) = nI 0 from by decide]
          simp only [Option.toList_some, List.cons_append, List.nil_append]
          refine m_if_ne (off := 5) (tgt := 70) (by decide +kernel) (by decide) (fun c65 => ?_) (fun c65 => ?_)
          · exact absurd (by decide) c65
          · try simp only [bI_0, Decidable.not_not] at c65
            refine m_blk [(.iconst 0, .int (nI 0))] (Nat.le_of_ble_eq_true rfl) (by decide +kernel) ?_
            refine gx_iconst ((gx_nil ?_))
            rw [bI_t (p := ¬ rPlace (F 0) id c = -1) c8, bI_f (p := ¬ rPlace (F 0) id c = -1 ∧ rGo (F 0) (rIdx (F 0) id c) (rSrt (F 0) id c t) c (rOp (F 0) (rSrt (F 0) id c t)) = true) (fun z => c53 (by rw [← hix]; exact z.2))]
            have hτ : ¬ rT (nI 1) (nI 0) (nI 1) = 0 := by decide
            refine m_end (some (.int _)) rfl ⟨by decide +kernel, _, rfl, rfl⟩ ?_ ?_ ?_
            · rw [if_neg hτ]
            · rfl
            · rw [if_neg hτ, fR_self]
        · try simp only [bI_0, Decidable.not_not] at c53
          refine m_blk [(.iconst 1, .int (nI 1)), (.goto 4, .retAddr 61), (.iconst 1, .int (nI 1))] (Nat.le_of_ble_eq_true rfl) (by decide +kernel) ?_
          refine gx_iconst (gx_goto (gx_iconst ((gx_nil ?_))))
          refine m_call kX10_48 (r_holds _ _ _) (by decide +kernel) rfl rfl (Nat.le_of_ble_eq_true rfl) (Nat.le_of_ble_eq_true rfl) (Nat.le_of_ble_eq_true rfl) rfl ?_
          rw [show bI (¬ nI 1 = 0 ∧ ¬ nI 1 = 0 ∧ ¬ nI 1 = 0) = nI 1 from by decide]
          simp only [Option.toList_some, List.cons_append, List.nil_append]
          refine m_if_ne (off := 5) (tgt := 70) (by decide +kernel) (by decide) (fun c65 => ?_) (fun c65 => ?_)
          · try simp only [bI_0, Decidable.not_not] at c65
            refine m_blk [(.aload_n 0, .null), (.iload_n 2, .null), (.iload_n 3, .null)] (Nat.le_of_ble_eq_true rfl) (by decide +kernel) ?_
            refine gx_aload_n_0 (gx_iload_n_2 (gx_iload_n_3 ((gx_nil ?_))))
            refine m_call kX10_137 (r_goesInto hc h3 p (by omega) (rSrt (F 0) id c t) hg.1 hg.2) (by decide +kernel) rfl rfl (Nat.le_of_ble_eq_true rfl) (Nat.le_of_ble_eq_true rfl) (Nat.le_of_ble_eq_true rfl) rfl ?_
            try simp only [Option.toList_some, Option.toList_none, List.cons_append, List.nil_append, bI_0, n1_0, n0_0, Decidable.not_not, not_true_eq_false, not_false_eq_true, nI_add, pk_mul, Nat.add_zero, Nat.zero_add, Nat.reduceAdd, Nat.reduceMul]
            rw [bI_t (p := ¬ rPlace (F 0) id c = -1) c8, bI_t (p := ¬ rPlace (F 0) id c = -1 ∧ rGo (F 0) (rIdx (F 0) id c) (rSrt (F 0) id c t) c (rOp (F 0) (rSrt (F 0) id c t)) = true) ⟨c8, by rw [hix]; exact c53⟩]
            have hτ : rT (nI 1) (nI 1) (nI 1) = 0 := by decide
            refine m_end (some (.int _)) rfl ⟨by decide +kernel, _, rfl, rfl⟩ ?_ ?_ ?_
            · rw [if_pos hτ]
              try first | done | (rw [hix])
            · rfl
            · rw [if_pos hτ]
              try first | done | (rw [hix])
          · exact absurd c65 (by decide)
  · try simp only [bI_0, Decidable.not_not] at c8
    refine m_blk [(.iconst (-1), .int (-1)), (.goto 18, .retAddr 30), (.istore_n 3, .null), (.aload_n 0, .null), (.iload_n 2, .null), (.iconst (-1), .int (-1))] (Nat.le_of_ble_eq_true rfl) (by decide +kernel) ?_
    refine gx_iconst (gx_goto (gx_istore_n_3 rfl (gx_aload_n_0 (gx_iload_n_2 (gx_iconst ((gx_nil ?_)))))))
    refine m_icmp_eq (off := 7) (tgt := 41) (by decide +kernel) (by decide) (fun c34 => ?_) (fun c34 => ?_)
    · try simp only [bI_0, Decidable.not_not] at c34
      refine m_blk [(.iconst 0, .int (nI 0)), (.iload_n 2, .null), (.iconst (-1), .int (-1))] (Nat.le_of_ble_eq_true rfl) (by decide +kernel) ?_
      refine gx_iconst (gx_iload_n_2 (gx_iconst ((gx_nil ?_))))
      refine m_icmp_eq (off := 16) (tgt := 60) (by decide +kernel) (by decide) (fun c44 => ?_) (fun c44 => ?_)
      · try simp only [bI_0, Decidable.not_not] at c44
        refine m_blk [(.iconst 0, .int (nI 0)), (.iconst 1, .int (nI 1))] (Nat.le_of_ble_eq_true rfl) (by decide +kernel) ?_
        refine gx_iconst (gx_iconst ((gx_nil ?_)))
        refine m_call kX10_48 (r_holds _ _ _) (by decide +kernel) rfl rfl (Nat.le_of_ble_eq_true rfl) (Nat.le_of_ble_eq_true rfl) (Nat.le_of_ble_eq_true rfl) rfl ?_
        rw [show bI (¬ nI 0 = 0 ∧ ¬ nI 0 = 0 ∧ ¬ nI 1 = 0) = nI 0 from by decide]
        simp only [Option.toList_some, List.cons_append, List.nil_append]
        refine m_if_ne (off := 5) (tgt := 70) (by decide +kernel) (by decide) (fun c65 => ?_) (fun c65 => ?_)
        · exact absurd (by decide) c65
        · try simp only [bI_0, Decidable.not_not] at c65
          refine m_blk [(.iconst 0, .int (nI 0))] (Nat.le_of_ble_eq_true rfl) (by decide +kernel) ?_
          refine gx_iconst ((gx_nil ?_))
          rw [bI_f (p := ¬ rPlace (F 0) id c = -1) (fun z => z c8), bI_f (p := ¬ rPlace (F 0) id c = -1 ∧ rGo (F 0) (rIdx (F 0) id c) (rSrt (F 0) id c t) c (rOp (F 0) (rSrt (F 0) id c t)) = true) (fun z => z.1 c8)]
          have hτ : ¬ rT (nI 0) (nI 0) (nI 1) = 0 := by decide
          refine m_end (some (.int _)) rfl ⟨by decide +kernel, _, rfl, rfl⟩ ?_ ?_ ?_
          · rw [if_neg hτ]
          · rfl
          · rw [if_neg hτ, fR_self]
      · try simp only [bI_0, Decidable.not_not] at c44
        exact absurd c8 c44
    · try simp only [bI_0, Decidable.not_not] at c34
      exact absurd c8 c34
theorem r_places {c : Nat} (hc : c ≤ 20) (h3 : F 0 3 = nI c) (hOK : rOK (F 0)) (id rt : Int32) : mC Γ o ad M_X10_places [.int id, .int rt] V F 5 (some (.int (if rT (bI (¬ rPlace (F 0) id c = -1)) (bI (nI 0 ≤ rt ∧ rt ≤ nI 5)) (bI (¬ rPlace (F 0) id c = -1 ∧ rGo (F 0) (rIdx (F 0) id c) rt c (rOp (F 0) rt) = true)) = 0 then rBag (F 0) rt (F 0 (62 + 7 * rIdx (F 0) id c + 2)) c (rOp (F 0) rt) else nI 0))) (vU V 13 (rT (bI (¬ rPlace (F 0) id c = -1)) (bI (nI 0 ≤ rt ∧ rt ≤ nI 5)) (bI (¬ rPlace (F 0) id c = -1 ∧ rGo (F 0) (rIdx (F 0) id c) rt c (rOp (F 0) rt) = true)))) (fR F 0 (if rT (bI (¬ rPlace (F 0) id c = -1)) (bI (nI 0 ≤ rt ∧ rt ≤ nI 5)) (bI (¬ rPlace (F 0) id c = -1 ∧ rGo (F 0) (rIdx (F 0) id c) rt c (rOp (F 0) rt) = true)) = 0 then rInto (F 0) (rIdx (F 0) id c) rt c (rOp (F 0) rt) else F 0)) := by
  refine mC_of (by decide) rfl (Nat.le_of_ble_eq_true rfl) [some (.ref o), some (.int id), some (.int rt), none] rfl ?_
  refine m_blk [(.aload_n 0, .null), (.iload_n 1, .null)] (Nat.le_of_ble_eq_true rfl) (by decide +kernel) ?_
  refine gx_aload_n_0 (gx_iload_n_1 ((gx_nil ?_)))
  refine m_call kX10_97 (r_placeOf hc h3 _) (by decide +kernel) rfl rfl (Nat.le_of_ble_eq_true rfl) (Nat.le_of_ble_eq_true rfl) (Nat.le_of_ble_eq_true rfl) rfl ?_
  try simp only [Option.toList_some, Option.toList_none, List.cons_append, List.nil_append, bI_0, n1_0, n0_0, Decidable.not_not, not_true_eq_false, not_false_eq_true, nI_add, pk_mul, Nat.add_zero, Nat.zero_add, Nat.reduceAdd, Nat.reduceMul]
  refine m_blk [(.istore_n 3, .null), (.aload_n 0, .null), (.iload_n 3, .null), (.iconst (-1), .int (-1))] (Nat.le_of_ble_eq_true rfl) (by decide +kernel) ?_
  refine gx_istore_n_3 rfl (gx_aload_n_0 (gx_iload_n_3 (gx_iconst ((gx_nil ?_)))))
  refine m_icmp_eq (off := 7) (tgt := 16) (by decide +kernel) (by decide) (fun c9 => ?_) (fun c9 => ?_)
  · try simp only [bI_0, Decidable.not_not] at c9
    refine m_blk [(.iconst 0, .int (nI 0)), (.iload_n 2, .null)] (Nat.le_of_ble_eq_true rfl) (by decide +kernel) ?_
    refine gx_iconst (gx_iload_n_2 ((gx_nil ?_)))
    refine m_callS kX10_74 (r_isRoute _) (by decide +kernel) rfl rfl (Nat.le_of_ble_eq_true rfl) (Nat.le_of_ble_eq_true rfl) (Nat.le_of_ble_eq_true rfl) rfl ?_
    try simp only [Option.toList_some, Option.toList_none, List.cons_append, List.nil_append, bI_0, n1_0, n0_0, Decidable.not_not, not_true_eq_false, not_false_eq_true, nI_add, pk_mul, Nat.add_zero, Nat.zero_add, Nat.reduceAdd, Nat.reduceMul]
    refine m_blk [(.iload_n 3, .null), (.iconst (-1), .int (-1))] (Nat.le_of_ble_eq_true rfl) (by decide +kernel) ?_
    refine gx_iload_n_3 (gx_iconst ((gx_nil ?_)))
    refine m_icmp_eq (off := 16) (tgt := 39) (by decide +kernel) (by decide) (fun c23 => ?_) (fun c23 => ?_)
    · try simp only [bI_0, Decidable.not_not] at c23
      refine m_blk [(.iconst 0, .int (nI 0))] (Nat.le_of_ble_eq_true rfl) (by decide +kernel) ?_
      refine gx_iconst ((gx_nil ?_))
      refine m_call kX10_48 (r_holds _ _ _) (by decide +kernel) rfl rfl (Nat.le_of_ble_eq_true rfl) (Nat.le_of_ble_eq_true rfl) (Nat.le_of_ble_eq_true rfl) rfl ?_
      try simp only [Option.toList_some, Option.toList_none, List.cons_append, List.nil_append, bI_0, n1_0, n0_0, Decidable.not_not, not_true_eq_false, not_false_eq_true, nI_add, pk_mul, Nat.add_zero, Nat.zero_add, Nat.reduceAdd, Nat.reduceMul]
      refine m_if_ne (off := 5) (tgt := 48) (by decide +kernel) (by decide) (fun c43 => ?_) (fun c43 => ?_)
      · try simp only [bI_0, Decidable.not_not] at c43
        exact c43.1.elim
      · try simp only [bI_0, Decidable.not_not] at c43
        refine m_blk [(.iconst 0, .int (nI 0))] (Nat.le_of_ble_eq_true rfl) (by decide +kernel) ?_
        refine gx_iconst ((gx_nil ?_))
        rw [bI_f (p := ¬ rPlace (F 0) id c = -1) (fun z => z c9), bI_f (p := ¬ rPlace (F 0) id c = -1 ∧ rGo (F 0) (rIdx (F 0) id c) rt c (rOp (F 0) rt) = true) (fun z => z.1 c9)]
        have hτ : ¬ rT (nI 0) (bI (nI 0 ≤ rt ∧ rt ≤ nI 5)) (nI 0) = 0 := fun z => c43 (by simpa only [bI_0, n1_0, n0_0, Decidable.not_not, not_true_eq_false, not_false_eq_true] using (rT_iff _ _ _).mp z)
        refine m_end (some (.int _)) rfl ⟨by decide +kernel, _, rfl, rfl⟩ ?_ ?_ ?_
        · rw [if_neg hτ]
        · rfl
        · rw [if_neg hτ, fR_self]
    · try simp only [bI_0, Decidable.not_not] at c23
      exact absurd c9 c23
  · try simp only [bI_0, Decidable.not_not] at c9
    obtain ⟨p, hp, ep⟩ := rPlace_in.resolve_left c9
    have hix := rIdx_of (by omega) ep
    have hg := hOK.get rt
    refine m_lcl (L' := [some (.ref o), some (.int id), some (.int rt), some (.int (nI p))]) (by rw [ep]) ?_
    refine m_blk [(.iconst 1, .int (nI 1)), (.goto 4, .retAddr 17), (.iload_n 2, .null)] (Nat.le_of_ble_eq_true rfl) (by decide +kernel) ?_
    refine gx_iconst (gx_goto (gx_iload_n_2 ((gx_nil ?_))))
    refine m_callS kX10_74 (r_isRoute _) (by decide +kernel) rfl rfl (Nat.le_of_ble_eq_true rfl) (Nat.le_of_ble_eq_true rfl) (Nat.le_of_ble_eq_true rfl) rfl ?_
    try simp only [Option.toList_some, Option.toList_none, List.cons_append, List.nil_append, bI_0, n1_0, n0_0, Decidable.not_not, not_true_eq_false, not_false_eq_true, nI_add, pk_mul, Nat.add_zero, Nat.zero_add, Nat.reduceAdd, Nat.reduceMul]
    refine m_blk [(.iload_n 3, .null), (.iconst (-1), .int (-1))] (Nat.le_of_ble_eq_true rfl) (by decide +kernel) ?_
    refine gx_iload_n_3 (gx_iconst ((gx_nil ?_)))
    refine m_icmp_eq (off := 16) (tgt := 39) (by decide +kernel) (by decide) (fun c23 => ?_) (fun c23 => ?_)
    · try simp only [bI_0, Decidable.not_not] at c23
      exact absurd c23 (nI_nm1 (by omega))
    · try simp only [bI_0, Decidable.not_not] at c23
      refine m_blk [(.aload_n 0, .null), (.iload_n 3, .null), (.iload_n 2, .null)] (Nat.le_of_ble_eq_true rfl) (by decide +kernel) ?_
      refine gx_aload_n_0 (gx_iload_n_3 (gx_iload_n_2 ((gx_nil ?_))))
      refine m_call kX10_134 (r_canGo hc h3 p (by omega) rt hg.1 hg.2) (by decide +kernel) rfl rfl (Nat.le_of_ble_eq_true rfl) (Nat.le_of_ble_eq_true rfl) (Nat.le_of_ble_eq_true rfl) rfl ?_
      try simp only [Option.toList_some, Option.toList_none, List.cons_append, List.nil_append, bI_0, n1_0, n0_0, Decidable.not_not, not_true_eq_false, not_false_eq_true, nI_add, pk_mul, Nat.add_zero, Nat.zero_add, Nat.reduceAdd, Nat.reduceMul]
      refine m_if_eq (off := 7) (tgt := 39) (by decide +kernel) (by decide) (fun c32 => ?_) (fun c32 => ?_)
      · try simp only [bI_0, Decidable.not_not] at c32
        refine m_blk [(.iconst 0, .int (nI 0))] (Nat.le_of_ble_eq_true rfl) (by decide +kernel) ?_
        refine gx_iconst ((gx_nil ?_))
        refine m_call kX10_48 (r_holds _ _ _) (by decide +kernel) rfl rfl (Nat.le_of_ble_eq_true rfl) (Nat.le_of_ble_eq_true rfl) (Nat.le_of_ble_eq_true rfl) rfl ?_
        try simp only [Option.toList_some, Option.toList_none, List.cons_append, List.nil_append, bI_0, n1_0, n0_0, Decidable.not_not, not_true_eq_false, not_false_eq_true, nI_add, pk_mul, Nat.add_zero, Nat.zero_add, Nat.reduceAdd, Nat.reduceMul]
        refine m_if_ne (off := 5) (tgt := 48) (by decide +kernel) (by decide) (fun c43 => ?_) (fun c43 => ?_)
        · try simp only [bI_0, Decidable.not_not] at c43
          exact c43.2.2.elim
        · try simp only [bI_0, Decidable.not_not] at c43
          refine m_blk [(.iconst 0, .int (nI 0))] (Nat.le_of_ble_eq_true rfl) (by decide +kernel) ?_
          refine gx_iconst ((gx_nil ?_))
          rw [bI_t (p := ¬ rPlace (F 0) id c = -1) c9, bI_f (p := ¬ rPlace (F 0) id c = -1 ∧ rGo (F 0) (rIdx (F 0) id c) rt c (rOp (F 0) rt) = true) (fun z => c32 (by rw [← hix]; exact z.2))]
          have hτ : ¬ rT (nI 1) (bI (nI 0 ≤ rt ∧ rt ≤ nI 5)) (nI 0) = 0 := fun z => c43 (by simpa only [bI_0, n1_0, n0_0, Decidable.not_not, not_true_eq_false, not_false_eq_true] using (rT_iff _ _ _).mp z)
          refine m_end (some (.int _)) rfl ⟨by decide +kernel, _, rfl, rfl⟩ ?_ ?_ ?_
          · rw [if_neg hτ]
          · rfl
          · rw [if_neg hτ, fR_self]
      · try simp only [bI_0, Decidable.not_not] at c32
        refine m_blk [(.iconst 1, .int (nI 1)), (.goto 4, .retAddr 40)] (Nat.le_of_ble_eq_true rfl) (by decide +kernel) ?_
        refine gx_iconst (gx_goto ((gx_nil ?_)))
        refine m_call kX10_48 (r_holds _ _ _) (by decide +kernel) rfl rfl (Nat.le_of_ble_eq_true rfl) (Nat.le_of_ble_eq_true rfl) (Nat.le_of_ble_eq_true rfl) rfl ?_
        try simp only [Option.toList_some, Option.toList_none, List.cons_append, List.nil_append, bI_0, n1_0, n0_0, Decidable.not_not, not_true_eq_false, not_false_eq_true, nI_add, pk_mul, Nat.add_zero, Nat.zero_add, Nat.reduceAdd, Nat.reduceMul]
        refine m_if_ne (off := 5) (tgt := 48) (by decide +kernel) (by decide) (fun c43 => ?_) (fun c43 => ?_)
        · try simp only [bI_0, Decidable.not_not] at c43
          refine m_blk [(.aload_n 0, .null), (.iload_n 3, .null), (.iload_n 2, .null)] (Nat.le_of_ble_eq_true rfl) (by decide +kernel) ?_
          refine gx_aload_n_0 (gx_iload_n_3 (gx_iload_n_2 ((gx_nil ?_))))
          refine m_call kX10_137 (r_goesInto hc h3 p (by omega) rt hg.1 hg.2) (by decide +kernel) rfl rfl (Nat.le_of_ble_eq_true rfl) (Nat.le_of_ble_eq_true rfl) (Nat.le_of_ble_eq_true rfl) rfl ?_
          try simp only [Option.toList_some, Option.toList_none, List.cons_append, List.nil_append, bI_0, n1_0, n0_0, Decidable.not_not, not_true_eq_false, not_false_eq_true, nI_add, pk_mul, Nat.add_zero, Nat.zero_add, Nat.reduceAdd, Nat.reduceMul]
          rw [bI_t (p := ¬ rPlace (F 0) id c = -1) c9, bI_t (p := ¬ rPlace (F 0) id c = -1 ∧ rGo (F 0) (rIdx (F 0) id c) rt c (rOp (F 0) rt) = true) ⟨c9, by rw [hix]; exact c32⟩]
          have hτ : rT (nI 1) (bI (nI 0 ≤ rt ∧ rt ≤ nI 5)) (nI 1) = 0 := (rT_iff _ _ _).mpr (by simpa only [bI_0, n1_0, n0_0, Decidable.not_not, not_true_eq_false, not_false_eq_true] using c43)
          refine m_end (some (.int _)) rfl ⟨by decide +kernel, _, rfl, rfl⟩ ?_ ?_ ?_
          · rw [if_pos hτ]
            try first | done | (rw [hix])
          · rfl
          · rw [if_pos hτ]
            try first | done | (rw [hix])
        · try simp only [bI_0, Decidable.not_not] at c43
          refine m_blk [(.iconst 0, .int (nI 0))] (Nat.le_of_ble_eq_true rfl) (by decide +kernel) ?_
          refine gx_iconst ((gx_nil ?_))
          rw [bI_t (p := ¬ rPlace (F 0) id c = -1) c9, bI_t (p := ¬ rPlace (F 0) id c = -1 ∧ rGo (F 0) (rIdx (F 0) id c) rt c (rOp (F 0) rt) = true) ⟨c9, by rw [hix]; exact c32⟩]
          have hτ : ¬ rT (nI 1) (bI (nI 0 ≤ rt ∧ rt ≤ nI 5)) (nI 1) = 0 := fun z => c43 (by simpa only [bI_0, n1_0, n0_0, Decidable.not_not, not_true_eq_false, not_false_eq_true] using (rT_iff _ _ _).mp z)
          refine m_end (some (.int _)) rfl ⟨by decide +kernel, _, rfl, rfl⟩ ?_ ?_ ?_
          · rw [if_neg hτ]
          · rfl
          · rw [if_neg hτ, fR_self]
end S17ref8leantxt
