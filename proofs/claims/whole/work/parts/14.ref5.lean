section S14ref5leantxt
variable {Γ : gE} {o : Nat} {ad : Nat → Nat} {V : Nat → Int32} {F : Nat → Nat → Int32}
def rCp (f g : Nat → Int32) (a b n : Nat) : Nat → Int32 := fun q => if b ≤ q ∧ q < b + n then f (a + (q - b)) else g q
theorem rCp_0 {f g : Nat → Int32} {a b : Nat} : rCp f g a b 0 = g := by
  funext q
  unfold rCp
  exact if_neg (by omega)
theorem rCp_s {f g : Nat → Int32} {a b n : Nat} : upd (rCp f g a b n) (b + n) (f (a + n)) = rCp f g a b (n + 1) := by
  funext q
  unfold upd rCp
  by_cases e : q = b + n
  · rw [if_pos e, if_pos (by omega)]
    congr 1
    omega
  · rw [if_neg e]
    by_cases h : b ≤ q ∧ q < b + n
    · rw [if_pos h, if_pos (by omega)]
    · rw [if_neg h, if_neg (by omega)]
theorem r_copies {i j : Nat} (hi : mIs i = true) (hj : mIs j = true) (hne : i ≠ j) (a b : Nat) (hb1 : mLen i ≤ 1616 ∧ mLen j ≤ 1616) (ha : a + 202 ≤ mLen i) (hbb : b + 202 ≤ mLen j) : mCS Γ o ad M_X10_copies [.ref (ad i), .int (nI a), .ref (ad j), .int (nI b)] V F 0 none V (fR F j (rCp (F i) (F j) a b 202)) := by
  have loop : ∀ n k, k ≤ 202 → 202 < k + n → mG Γ o ad M_X10_copies 0 none V (fR F j (rCp (F i) (F j) a b 202)) 3 [some (.ref (ad i)), some (.int (nI a)), some (.ref (ad j)), some (.int (nI b)), some (.int (nI k))] [] V (fR F j (rCp (F i) (F j) a b k)) := by
    intro n
    induction n with
    | zero => intro k h1 h2; omega
    | succ n ih =>
      intro k hk hn
      refine m_blk [(.iload 4, .null), (.sipush 202, .int (nI 202))] (Nat.le_of_ble_eq_true rfl) (by decide +kernel) ?_
      refine gx_iload_4 (gx_sipush ((gx_nil ?_)))
      refine m_icmp_ge (off := 21) (tgt := 29) (by decide +kernel) (by decide) (fun c8 => ?_) (fun c8 => ?_)
      · try simp only [bI_0, Decidable.not_not] at c8
        have hic : k = 202 := by
          have := (nI_leI (by omega) (by omega)).mp c8
          omega
        subst hic
        refine m_end none rfl ⟨by decide +kernel, rfl⟩ ?_ ?_ ?_
        all_goals first | rfl | simp_all
      · try simp only [bI_0, Decidable.not_not] at c8
        have hic : k < 202 := by
          rcases Nat.lt_or_ge k 202 with q | q
          · exact q
          · exact absurd (nI_le q (by omega)) c8
        refine m_blk [(.aload_n 2, .null), (.iload_n 3, .null), (.iload 4, .null), (.iadd, .null), (.aload_n 0, .null), (.iload_n 1, .null), (.iload 4, .null), (.iadd, .null)] (Nat.le_of_ble_eq_true rfl) (by decide +kernel) ?_
        refine gx_aload_n_2 (gx_iload_n_3 (gx_iload_4 (gx_iadd (gx_aload_n_0 (gx_iload_n_1 (gx_iload_4 (gx_iadd ((gx_nil ?_)))))))))
        try simp only [nI_add, pk_mul, Nat.add_zero, Nat.zero_add, Nat.reduceAdd, Nat.reduceMul]
        refine m_al (j := i) hi (by decide +kernel) (by omega) ?_
        refine m_as (j := j) hj (by decide +kernel) (by omega) ?_
        refine m_blk [(.iinc 4 1, .int (nI 1)), (.goto (-23), .retAddr 3)] (Nat.le_of_ble_eq_true rfl) (by decide +kernel) ?_
        refine gx_iinc_4 rfl (gx_goto ((gx_nil ?_)))
        try simp only [nI_add, pk_mul, Nat.add_zero, Nat.zero_add, Nat.reduceAdd, Nat.reduceMul]
        simp only [fU_row, fR_fR, fR_s, fR_n hne, rCp_s]
        exact ih (k + 1) (by omega) (by omega)
  refine mCS_of (by decide) rfl (Nat.le_of_ble_eq_true rfl) [some (.ref (ad i)), some (.int (nI a)), some (.ref (ad j)), some (.int (nI b)), none] rfl ?_
  refine m_blk [(.iconst 0, .int (nI 0)), (.istore 4, .null)] (Nat.le_of_ble_eq_true rfl) (by decide +kernel) ?_
  refine gx_iconst (gx_istore_4 rfl ((gx_nil ?_)))
  have e9 := loop 203 0 (by omega) (by omega)
  rw [rCp_0, fR_self] at e9
  exact e9
theorem mCS_to {av : List Value} {M : gM} {d : Nat} {v : Option Value} {V' V1 : Nat → Int32} {F' F1 : Nat → Nat → Int32} (c : mCS Γ o ad M av V F d v V' F') (e : mFs ad V' = mFs ad V1) (f : ∀ j q, mIs j = true → q < mLen j → F' j q = F1 j q) : mCS Γ o ad M av V F d v V1 F1 := by
  intro h hM
  exact gC_post (c h hM) (fun v' h' q => ⟨q.1, q.2.1.eqv e f, q.2.2⟩) (fun _ _ q => q)
theorem r_copies0 {i j : Nat} (hi : mIs i = true) (hj : mIs j = true) (hne : i ≠ j) (h1 : mLen i = 202) (h2 : mLen j = 202) : mCS Γ o ad M_X10_copies [.ref (ad i), .int (nI 0), .ref (ad j), .int (nI 0)] V F 0 none V (fR F j (F i)) := by
  refine mCS_to (r_copies hi hj hne 0 0 (by omega) (by omega) (by omega)) rfl (fun k q hk hq => ?_)
  by_cases e : k = j
  · subst e
    rw [fR_s, fR_s]
    unfold rCp
    rw [if_pos (by omega)]
    congr 1
    omega
  · rw [fR_n e, fR_n e]
/-- one remembered row to the front of the next: the rows one place down -/
def rSh (f : Nat → Int32) (k : Nat) : Nat → Int32 := fun q => if q < k then f (q + 202) else f q
theorem rSh_s {f : Nat → Int32} {k : Nat} : upd (rSh f k) k (rSh f k (k + 202)) = rSh f (k + 1) := by
  funext q
  unfold upd rSh
  by_cases e : q = k
  · rw [if_pos e, if_neg (by omega), if_pos (by omega), e]
  · rw [if_neg e]
    by_cases h : q < k
    · rw [if_pos h, if_pos (by omega)]
    · rw [if_neg h, if_neg (by omega)]
theorem rSh_0 {f : Nat → Int32} : rSh f 0 = f := by
  funext q
  unfold rSh
  exact if_neg (by omega)
def rMem (h b : Nat → Int32) (r : Nat) : Nat → Int32 := if r = 8 then rCp b (rSh h 1414) 0 1414 202 else rCp b h 0 (r * 202) 202
def rMr (r : Nat) : Nat := if r = 8 then 8 else r + 1
theorem r_begins  : mC Γ o ad M_X10_begins [] V F 1 (none) (V) (fR F 1 (F 0)) := by
  refine mC_of (by decide) rfl (Nat.le_of_ble_eq_true rfl) [some (.ref o)] rfl ?_
  refine m_blk [(.aload_n 0, .null)] (Nat.le_of_ble_eq_true rfl) (by decide +kernel) ?_
  refine gx_aload_n_0 ((gx_nil ?_))
  refine m_getR fX10_9 (by decide +kernel) rfl ?_
  refine m_blk [(.iconst 0, .int (nI 0)), (.aload_n 0, .null)] (Nat.le_of_ble_eq_true rfl) (by decide +kernel) ?_
  refine gx_iconst (gx_aload_n_0 ((gx_nil ?_)))
  refine m_getR fX10_13 (by decide +kernel) rfl ?_
  refine m_blk [(.iconst 0, .int (nI 0))] (Nat.le_of_ble_eq_true rfl) (by decide +kernel) ?_
  refine gx_iconst ((gx_nil ?_))
  refine m_callR kX10_52 (r_copies0 rfl rfl (by decide) rfl rfl) (by decide +kernel) rfl rfl (Nat.le_of_ble_eq_true rfl) (Nat.le_of_ble_eq_true rfl) (Nat.le_of_ble_eq_true rfl) rfl ?_
  try simp only [Option.toList_some, Option.toList_none, List.cons_append, List.nil_append, bI_0, n1_0, n0_0, Decidable.not_not, not_true_eq_false, not_false_eq_true, nI_add, pk_mul, Nat.add_zero, Nat.zero_add, Nat.reduceAdd, Nat.reduceMul]
  refine m_end none rfl ⟨by decide +kernel, rfl⟩ ?_ ?_ ?_
  all_goals first | rfl | (simp_all [rThr, bI, bI_0, bI_n]; done) | (simp only [Option.some.injEq, Value.int.injEq, bI, Int32.lt_iff_toInt_lt, Int32.le_iff_toInt_le, Int32.not_lt, Int32.not_le] at *; split <;> first | rfl | omega)
theorem r_remembers {r : Nat} (hr : r ≤ 8) (h6 : V 6 = nI r) : mC Γ o ad M_X10_remembers [] V F 1 none (vU V 6 (nI (rMr r))) (fR F 4 (rMem (F 4) (F 1) r)) := by
  have loop : r = 8 → ∀ n k, k ≤ 1414 → 1414 < k + n → mG Γ o ad M_X10_remembers 1 none (vU V 6 (nI (rMr r))) (fR F 4 (rMem (F 4) (F 1) r)) 11 [some (.ref o), some (.int (nI k))] [] V (fR F 4 (rSh (F 4) k)) := by
    intro hr8 n
    induction n with
    | zero => intro k h1 h2; omega
    | succ n ih =>
      intro k hk hn
      refine m_blk [(.iload_n 1, .null), (.sipush 1414, .int (nI 1414))] (Nat.le_of_ble_eq_true rfl) (by decide +kernel) ?_
      refine gx_iload_n_1 (gx_sipush ((gx_nil ?_)))
      refine m_icmp_ge (off := 25) (tgt := 40) (by decide +kernel) (by decide) (fun c15 => ?_) (fun c15 => ?_)
      · try simp only [bI_0, Decidable.not_not] at c15
        have hic : k = 1414 := by
          have := (nI_leI (by omega) (by omega)).mp c15
          omega
        subst hic
        refine m_blk [(.aload_n 0, .null), (.dup, .null)] (Nat.le_of_ble_eq_true rfl) (by decide +kernel) ?_
        refine gx_aload_n_0 (gx_dupr ((gx_nil ?_)))
        refine m_getI fX10_56 (by decide +kernel) rfl ?_
        rw [h6, hr8]
        refine m_blk [(.iconst 1, .int (nI 1)), (.isub, .null)] (Nat.le_of_ble_eq_true rfl) (by decide +kernel) ?_
        refine gx_iconst (gx_isub ((gx_nil ?_)))
        simp only [show nI 8 - nI 1 = nI 7 from by decide]
        refine m_putI fX10_56 (by decide +kernel) rfl (by decide) rfl rfl ?_
        refine m_blk [(.aload_n 0, .null)] (Nat.le_of_ble_eq_true rfl) (by decide +kernel) ?_
        refine gx_aload_n_0 ((gx_nil ?_))
        refine m_getR fX10_13 (by decide +kernel) rfl ?_
        refine m_blk [(.iconst 0, .int (nI 0)), (.aload_n 0, .null)] (Nat.le_of_ble_eq_true rfl) (by decide +kernel) ?_
        refine gx_iconst (gx_aload_n_0 ((gx_nil ?_)))
        refine m_getR fX10_22 (by decide +kernel) rfl ?_
        refine m_blk [(.aload_n 0, .null)] (Nat.le_of_ble_eq_true rfl) (by decide +kernel) ?_
        refine gx_aload_n_0 ((gx_nil ?_))
        refine m_getI fX10_56 (by decide +kernel) rfl ?_
        try simp only [vU_s, vU_n, ne_eq, Nat.reduceEqDiff, not_false_eq_true, nI_add, pk_mul, Nat.add_zero, Nat.zero_add, Nat.reduceAdd, Nat.reduceMul]
        refine m_blk [(.sipush 202, .int (nI 202)), (.imul, .null)] (Nat.le_of_ble_eq_true rfl) (by decide +kernel) ?_
        refine gx_sipush (gx_imul ((gx_nil ?_)))
        try simp only [nI_add, pk_mul, Nat.add_zero, Nat.zero_add, Nat.reduceAdd, Nat.reduceMul]
        refine m_callR kX10_52 (r_copies (i := 1) (j := 4) rfl rfl (by decide) 0 1414 (by decide) (by decide) (by decide)) (by decide +kernel) rfl rfl (Nat.le_of_ble_eq_true rfl) (Nat.le_of_ble_eq_true rfl) (Nat.le_of_ble_eq_true rfl) rfl ?_
        try simp only [Option.toList_some, Option.toList_none, List.cons_append, List.nil_append, bI_0, n1_0, n0_0, Decidable.not_not, not_true_eq_false, not_false_eq_true, nI_add, pk_mul, Nat.add_zero, Nat.zero_add, Nat.reduceAdd, Nat.reduceMul]
        refine m_blk [(.aload_n 0, .null), (.dup, .null)] (Nat.le_of_ble_eq_true rfl) (by decide +kernel) ?_
        refine gx_aload_n_0 (gx_dupr ((gx_nil ?_)))
        refine m_getI fX10_56 (by decide +kernel) rfl ?_
        try simp only [vU_s, vU_n, ne_eq, Nat.reduceEqDiff, not_false_eq_true, nI_add, pk_mul, Nat.add_zero, Nat.zero_add, Nat.reduceAdd, Nat.reduceMul]
        refine m_blk [(.iconst 1, .int (nI 1)), (.iadd, .null)] (Nat.le_of_ble_eq_true rfl) (by decide +kernel) ?_
        refine gx_iconst (gx_iadd ((gx_nil ?_)))
        try simp only [nI_add, pk_mul, Nat.add_zero, Nat.zero_add, Nat.reduceAdd, Nat.reduceMul]
        refine m_putI fX10_56 (by decide +kernel) rfl (by decide) rfl rfl ?_
        refine m_end none rfl ⟨by decide +kernel, rfl⟩ ?_ ?_ ?_
        all_goals first | rfl | (rw [vU_vU]; rfl) | (simp only [fR_fR, fR_s]; rw [fR_n (by decide)]; rfl)
      · try simp only [bI_0, Decidable.not_not] at c15
        have hic : k < 1414 := by
          rcases Nat.lt_or_ge k 1414 with q | q
          · exact q
          · exact absurd (nI_le q (by omega)) c15
        refine m_blk [(.aload_n 0, .null)] (Nat.le_of_ble_eq_true rfl) (by decide +kernel) ?_
        refine gx_aload_n_0 ((gx_nil ?_))
        refine m_getR fX10_22 (by decide +kernel) rfl ?_
        refine m_blk [(.iload_n 1, .null), (.aload_n 0, .null)] (Nat.le_of_ble_eq_true rfl) (by decide +kernel) ?_
        refine gx_iload_n_1 (gx_aload_n_0 ((gx_nil ?_)))
        refine m_getR fX10_22 (by decide +kernel) rfl ?_
        refine m_blk [(.iload_n 1, .null), (.sipush 202, .int (nI 202)), (.iadd, .null)] (Nat.le_of_ble_eq_true rfl) (by decide +kernel) ?_
        refine gx_iload_n_1 (gx_sipush (gx_iadd ((gx_nil ?_))))
        try simp only [nI_add, pk_mul, Nat.add_zero, Nat.zero_add, Nat.reduceAdd, Nat.reduceMul]
        refine m_al (j := 4) rfl (by decide +kernel) (show _ < 1616 from by omega) ?_
        refine m_as (j := 4) rfl (by decide +kernel) (show _ < 1616 from by omega) ?_
        refine m_blk [(.iinc 1 1, .int (nI 1)), (.goto (-26), .retAddr 11)] (Nat.le_of_ble_eq_true rfl) (by decide +kernel) ?_
        refine gx_iinc_1 rfl (gx_goto ((gx_nil ?_)))
        try simp only [nI_add, pk_mul, Nat.add_zero, Nat.zero_add, Nat.reduceAdd, Nat.reduceMul]
        simp only [fU_row, fR_fR, fR_s, rSh_s]
        exact ih (k + 1) (by omega) (by omega)
  refine mC_of (by decide) rfl (Nat.le_of_ble_eq_true rfl) [some (.ref o), none] rfl ?_
  refine m_blk [(.aload_n 0, .null)] (Nat.le_of_ble_eq_true rfl) (by decide +kernel) ?_
  refine gx_aload_n_0 ((gx_nil ?_))
  refine m_getI fX10_56 (by decide +kernel) rfl ?_
  refine m_blk [(.bipush 8, .int (nI 8))] (Nat.le_of_ble_eq_true rfl) (by decide +kernel) ?_
  refine gx_bipush ((gx_nil ?_))
  refine m_icmp_ne (off := 44) (tgt := 50) (by decide +kernel) (by decide) (fun c6 => ?_) (fun c6 => ?_)
  · try simp only [bI_0, Decidable.not_not] at c6
    have hr8 : ¬ r = 8 := fun q => c6 (by rw [h6, q])
    refine m_blk [(.aload_n 0, .null)] (Nat.le_of_ble_eq_true rfl) (by decide +kernel) ?_
    refine gx_aload_n_0 ((gx_nil ?_))
    refine m_getR fX10_13 (by decide +kernel) rfl ?_
    refine m_blk [(.iconst 0, .int (nI 0)), (.aload_n 0, .null)] (Nat.le_of_ble_eq_true rfl) (by decide +kernel) ?_
    refine gx_iconst (gx_aload_n_0 ((gx_nil ?_)))
    refine m_getR fX10_22 (by decide +kernel) rfl ?_
    refine m_blk [(.aload_n 0, .null)] (Nat.le_of_ble_eq_true rfl) (by decide +kernel) ?_
    refine gx_aload_n_0 ((gx_nil ?_))
    refine m_getI fX10_56 (by decide +kernel) rfl ?_
    rw [h6]
    refine m_blk [(.sipush 202, .int (nI 202)), (.imul, .null)] (Nat.le_of_ble_eq_true rfl) (by decide +kernel) ?_
    refine gx_sipush (gx_imul ((gx_nil ?_)))
    try simp only [nI_add, pk_mul, Nat.add_zero, Nat.zero_add, Nat.reduceAdd, Nat.reduceMul]
    refine m_callR kX10_52 (r_copies (i := 1) (j := 4) rfl rfl (by decide) 0 (r * 202) (by decide) (by decide) (by show r * 202 + 202 ≤ 1616; omega)) (by decide +kernel) rfl rfl (Nat.le_of_ble_eq_true rfl) (Nat.le_of_ble_eq_true rfl) (Nat.le_of_ble_eq_true rfl) rfl ?_
    try simp only [Option.toList_some, Option.toList_none, List.cons_append, List.nil_append, bI_0, n1_0, n0_0, Decidable.not_not, not_true_eq_false, not_false_eq_true, nI_add, pk_mul, Nat.add_zero, Nat.zero_add, Nat.reduceAdd, Nat.reduceMul]
    refine m_blk [(.aload_n 0, .null), (.dup, .null)] (Nat.le_of_ble_eq_true rfl) (by decide +kernel) ?_
    refine gx_aload_n_0 (gx_dupr ((gx_nil ?_)))
    refine m_getI fX10_56 (by decide +kernel) rfl ?_
    try simp only [vU_s, vU_n, ne_eq, Nat.reduceEqDiff, not_false_eq_true, nI_add, pk_mul, Nat.add_zero, Nat.zero_add, Nat.reduceAdd, Nat.reduceMul]
    rw [h6]
    refine m_blk [(.iconst 1, .int (nI 1)), (.iadd, .null)] (Nat.le_of_ble_eq_true rfl) (by decide +kernel) ?_
    refine gx_iconst (gx_iadd ((gx_nil ?_)))
    try simp only [nI_add, pk_mul, Nat.add_zero, Nat.zero_add, Nat.reduceAdd, Nat.reduceMul]
    refine m_putI fX10_56 (by decide +kernel) rfl (by decide) rfl rfl ?_
    refine m_end none rfl ⟨by decide +kernel, rfl⟩ ?_ ?_ ?_
    all_goals first | rfl | (unfold rMr; rw [if_neg hr8]) | (unfold rMem; rw [if_neg hr8])
  · try simp only [bI_0, Decidable.not_not] at c6
    refine m_blk [(.iconst 0, .int (nI 0)), (.istore_n 1, .null)] (Nat.le_of_ble_eq_true rfl) (by decide +kernel) ?_
    refine gx_iconst (gx_istore_n_1 rfl ((gx_nil ?_)))
    have hr8 : r = 8 := by
      rw [h6] at c6
      exact (nI_eq (by omega) (by omega)).mp c6
    have e9 := loop hr8 1415 0 (by omega) (by omega)
    rw [rSh_0, fR_self] at e9
    exact e9
theorem r_ends (x : Int32) {r : Nat} (hr : r ≤ 8) (h6 : V 6 = nI r) : mC Γ o ad M_X10_ends [.int x] V F 2 (some (.int (if V 13 = 0 then x else nI 0))) (if V 13 = 0 then vU V 6 (nI (rMr r)) else V) (if V 13 = 0 then fR F 4 (rMem (F 4) (F 1) r) else fR F 0 (F 1)) := by
  refine mC_of (by decide) rfl (Nat.le_of_ble_eq_true rfl) [some (.ref o), some (.int x)] rfl ?_
  refine m_blk [(.aload_n 0, .null)] (Nat.le_of_ble_eq_true rfl) (by decide +kernel) ?_
  refine gx_aload_n_0 ((gx_nil ?_))
  refine m_getI fX10_45 (by decide +kernel) rfl ?_
  refine m_if_eq (off := 18) (tgt := 22) (by decide +kernel) (by decide) (fun c4 => ?_) (fun c4 => ?_)
  · try simp only [bI_0, Decidable.not_not] at c4
    refine m_blk [(.aload_n 0, .null)] (Nat.le_of_ble_eq_true rfl) (by decide +kernel) ?_
    refine gx_aload_n_0 ((gx_nil ?_))
    refine m_call kX10_59 (r_remembers hr h6) (by decide +kernel) rfl rfl (Nat.le_of_ble_eq_true rfl) (Nat.le_of_ble_eq_true rfl) (Nat.le_of_ble_eq_true rfl) rfl ?_
    try simp only [Option.toList_some, Option.toList_none, List.cons_append, List.nil_append, bI_0, n1_0, n0_0, Decidable.not_not, not_true_eq_false, not_false_eq_true, nI_add, pk_mul, Nat.add_zero, Nat.zero_add, Nat.reduceAdd, Nat.reduceMul]
    refine m_blk [(.iload_n 1, .null)] (Nat.le_of_ble_eq_true rfl) (by decide +kernel) ?_
    refine gx_iload_n_1 ((gx_nil ?_))
    refine m_end (some (.int _)) rfl ⟨by decide +kernel, _, rfl, rfl⟩ ?_ ?_ ?_
    all_goals first | (rw [if_pos c4]) | (rw [if_neg c4])
  · try simp only [bI_0, Decidable.not_not] at c4
    refine m_blk [(.aload_n 0, .null)] (Nat.le_of_ble_eq_true rfl) (by decide +kernel) ?_
    refine gx_aload_n_0 ((gx_nil ?_))
    refine m_getR fX10_13 (by decide +kernel) rfl ?_
    refine m_blk [(.iconst 0, .int (nI 0)), (.aload_n 0, .null)] (Nat.le_of_ble_eq_true rfl) (by decide +kernel) ?_
    refine gx_iconst (gx_aload_n_0 ((gx_nil ?_)))
    refine m_getR fX10_9 (by decide +kernel) rfl ?_
    refine m_blk [(.iconst 0, .int (nI 0))] (Nat.le_of_ble_eq_true rfl) (by decide +kernel) ?_
    refine gx_iconst ((gx_nil ?_))
    refine m_callR kX10_52 (r_copies0 rfl rfl (by decide) rfl rfl) (by decide +kernel) rfl rfl (Nat.le_of_ble_eq_true rfl) (Nat.le_of_ble_eq_true rfl) (Nat.le_of_ble_eq_true rfl) rfl ?_
    try simp only [Option.toList_some, Option.toList_none, List.cons_append, List.nil_append, bI_0, n1_0, n0_0, Decidable.not_not, not_true_eq_false, not_false_eq_true, nI_add, pk_mul, Nat.add_zero, Nat.zero_add, Nat.reduceAdd, Nat.reduceMul]
    refine m_blk [(.iconst 0, .int (nI 0))] (Nat.le_of_ble_eq_true rfl) (by decide +kernel) ?_
    refine gx_iconst ((gx_nil ?_))
    refine m_end (some (.int _)) rfl ⟨by decide +kernel, _, rfl, rfl⟩ ?_ ?_ ?_
    all_goals first | (rw [if_pos c4]) | (rw [if_neg c4])
end S14ref5leantxt
