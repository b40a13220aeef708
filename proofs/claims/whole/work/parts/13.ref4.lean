section S13ref4leantxt
variable {Γ : gE} {o : Nat} {ad : Nat → Nat} {V : Nat → Int32} {F : Nat → Nat → Int32}
theorem fR_s {F : Nat → Nat → Int32} {j : Nat} {g : Nat → Int32} : fR F j g j = g := if_pos rfl
theorem fR_n {F : Nat → Nat → Int32} {j i : Nat} {g : Nat → Int32} (h : i ≠ j) : fR F j g i = F i := if_neg h
theorem fR_fR {F : Nat → Nat → Int32} {j : Nat} {g g' : Nat → Int32} : fR (fR F j g) j g' = fR F j g' := by
  funext i
  unfold fR
  split <;> rfl
theorem fR_self {F : Nat → Nat → Int32} {j : Nat} : fR F j (F j) = F := by
  funext i
  unfold fR
  split
  · next h => rw [h]
  · rfl
def rRoute (N : Nat → Int32) (code : Int32) (t : Nat) : Int32 := if rMatch N code (nI 4) (nI 4) t = -1 then -1 else N (26 + 3 * (rMatch N code (nI 4) (nI 4) t).toNatClampNeg + 2)
def rIdx (N : Nat → Int32) (id : Int32) (c : Nat) : Nat := (rPlace N id c).toNatClampNeg
theorem rIdx_le {N : Nat → Int32} {id : Int32} {c : Nat} (hc : c ≤ 20) : rIdx N id c < 20 := by
  unfold rIdx
  rcases rPlace_in (N := N) (id := id) (c := c) with h | ⟨k, h1, h2⟩
  · rw [h]; decide
  · rw [h2, nI_clamp (by omega)]; omega
theorem rMax_place {N : Nat → Int32} {id : Int32} {c : Nat} (hc : c ≤ 20) : rMax (nI 0) (rPlace N id c) = nI (rIdx N id c) := by
  unfold rIdx rMax
  rcases rPlace_in (N := N) (id := id) (c := c) with h | ⟨k, h1, h2⟩
  · rw [h]; decide
  · rw [h2, nI_clamp (by omega)]
    split
    · rfl
    · next h =>
      have : ¬ 0 < k := fun z => h (nI_lt z (by omega))
      have : k = 0 := by omega
      rw [this]
def rFst (p : Nat → Bool) : Nat → Option Nat
  | 0 => none
  | i + 1 => match rFst p i with
    | some k => some k
    | none => if p i = true then some i else none
theorem rFst_mono {p : Nat → Bool} {i k : Nat} (h : rFst p i = some k) : ∀ j, i ≤ j → rFst p j = some k := by
  intro j hj
  induction j with
  | zero =>
    have : i = 0 := by omega
    subst this
    exact h
  | succ j ih =>
    rcases Nat.lt_or_ge i (j + 1) with q | q
    · unfold rFst
      rw [ih (by omega)]
    · have : i = j + 1 := by omega
      subst this
      exact h
theorem rFst_t {p : Nat → Bool} {i b : Nat} (h : rFst p i = none) (hp : p i = true) (hb : i < b) : rFst p b = some i := by
  refine rFst_mono (i := i + 1) ?_ b hb
  unfold rFst
  rw [h]
  exact if_pos hp
theorem rFst_f {p : Nat → Bool} {i : Nat} (h : rFst p i = none) (hp : ¬ p i = true) : rFst p (i + 1) = none := by
  unfold rFst
  rw [h]
  exact if_neg hp
def rWt (N : Nat → Int32) (rt bg : Int32) : Nat → Int32
  | 0 => nI 0
  | i + 1 => rWt N rt bg i + (if N (62 + 7 * i + 5) = rt ∧ (bg = -1 ∨ N (62 + 7 * i + 6) = bg) then N (62 + 7 * i + 2) else nI 0)
def rLn (N : Nat → Int32) (rt bg : Int32) : Nat → Int32
  | 0 => nI 0
  | i + 1 => rLn N rt bg i + (if N (62 + 7 * i + 5) = rt ∧ (rt = -1 ∨ N (62 + 7 * i + 6) = bg) then nI 1 else nI 0)
def rFits (N : Nat → Int32) (rt w : Int32) (c : Nat) (i : Nat) : Bool := decide (rWt N rt (nI i) c + w ≤ nI 150)
def rBag (N : Nat → Int32) (rt w : Int32) (c b : Nat) : Int32 := match rFst (rFits N rt w c) b with
  | some i => nI i
  | none => if b < 3 then nI b else -1
def rGo (N : Nat → Int32) (k : Nat) (rt : Int32) (c b : Nat) : Bool := decide (N (62 + 7 * k + 5) = -1 ∧ (nI 0 ≤ rt ∧ rt ≤ nI 5) ∧ (N (62 + 7 * k + 3) = nI 1 ∨ N 0 < N (8 + 3 * rIx rt)) ∧ ¬ rBag N rt (N (62 + 7 * k + 2)) c b = -1)
def rInto (N : Nat → Int32) (k : Nat) (rt : Int32) (c b : Nat) : Nat → Int32 := upd (upd (upd N (62 + 7 * k + 5) rt) (62 + 7 * k + 6) (rBag N rt (N (62 + 7 * k + 2)) c b)) (8 + 3 * rIx rt + 2) (rMax (N (8 + 3 * rIx rt + 2)) (rBag N rt (N (62 + 7 * k + 2)) c b + nI 1))
theorem r_routed {t : Nat} (ht : t ≤ 12) (h4 : F 0 4 = nI t) (code : Int32) : mC Γ o ad M_X10_routed [.int code] V F 2 (some (.int (rRoute (F 0) code t))) (V) (F) := by
  refine mC_of (by decide) rfl (Nat.le_of_ble_eq_true rfl) [some (.ref o), some (.int code), none] rfl ?_
  refine m_blk [(.aload_n 0, .null), (.iload_n 1, .null), (.iconst 4, .int (nI 4)), (.iconst 4, .int (nI 4))] (Nat.le_of_ble_eq_true rfl) (by decide +kernel) ?_
  refine gx_aload_n_0 (gx_iload_n_1 (gx_iconst (gx_iconst ((gx_nil ?_)))))
  refine m_call kX10_90 (r_matching ht h4 _ _ _) (by decide +kernel) rfl rfl (Nat.le_of_ble_eq_true rfl) (Nat.le_of_ble_eq_true rfl) (Nat.le_of_ble_eq_true rfl) rfl ?_
  try simp only [Option.toList_some, Option.toList_none, List.cons_append, List.nil_append, bI_0, n1_0, n0_0, Decidable.not_not, not_true_eq_false, not_false_eq_true, nI_add, pk_mul, Nat.add_zero, Nat.zero_add, Nat.reduceAdd, Nat.reduceMul]
  refine m_blk [(.istore_n 2, .null), (.iload_n 2, .null), (.iconst (-1), .int (-1))] (Nat.le_of_ble_eq_true rfl) (by decide +kernel) ?_
  refine gx_istore_n_2 rfl (gx_iload_n_2 (gx_iconst ((gx_nil ?_))))
  refine m_icmp_ne (off := 7) (tgt := 17) (by decide +kernel) (by decide) (fun c10 => ?_) (fun c10 => ?_)
  · try simp only [bI_0, Decidable.not_not] at c10
    obtain ⟨p, hp, ep⟩ := (rMatch_in (N := F 0) (dg := code) (ln := nI 4) (most := nI 4) (c := t)).resolve_left c10
    rw [ep]
    refine m_blk [(.aload_n 0, .null), (.iload_n 2, .null), (.iconst 2, .int (nI 2))] (Nat.le_of_ble_eq_true rfl) (by decide +kernel) ?_
    refine gx_aload_n_0 (gx_iload_n_2 (gx_iconst ((gx_nil ?_))))
    refine m_call kX10_81 (r_ofPrefix p 2 (by omega) (by omega)) (by decide +kernel) rfl rfl (Nat.le_of_ble_eq_true rfl) (Nat.le_of_ble_eq_true rfl) (Nat.le_of_ble_eq_true rfl) rfl ?_
    try simp only [Option.toList_some, Option.toList_none, List.cons_append, List.nil_append, bI_0, n1_0, n0_0, Decidable.not_not, not_true_eq_false, not_false_eq_true, nI_add, pk_mul, Nat.add_zero, Nat.zero_add, Nat.reduceAdd, Nat.reduceMul]
    refine m_end (some (.int _)) rfl ⟨by decide +kernel, _, rfl, rfl⟩ ?_ ?_ ?_
    all_goals first | rfl | (unfold rRoute; rw [if_pos c10]) | (unfold rRoute; rw [if_neg c10, ep, nI_clamp (by omega)])
  · try simp only [bI_0, Decidable.not_not] at c10
    refine m_blk [(.iconst (-1), .int (-1)), (.goto 9, .retAddr 23)] (Nat.le_of_ble_eq_true rfl) (by decide +kernel) ?_
    refine gx_iconst (gx_goto ((gx_nil ?_)))
    refine m_end (some (.int _)) rfl ⟨by decide +kernel, _, rfl, rfl⟩ ?_ ?_ ?_
    all_goals first | rfl | (unfold rRoute; rw [if_pos c10]) | (unfold rRoute; rw [if_neg c10, ep, nI_clamp (by omega)])
theorem r_of {c : Nat} (hc : c ≤ 20) (h3 : F 0 3 = nI c) (id : Int32) (k : Nat) (hk : k < 7) : mC Γ o ad M_X10_of [.int id, .int (nI k)] V F 2 (some (.int (F 0 (62 + 7 * rIdx (F 0) id c + k)))) (V) (F) := by
  refine mC_of (by decide) rfl (Nat.le_of_ble_eq_true rfl) [some (.ref o), some (.int id), some (.int (nI k))] rfl ?_
  refine m_blk [(.aload_n 0, .null)] (Nat.le_of_ble_eq_true rfl) (by decide +kernel) ?_
  refine gx_aload_n_0 ((gx_nil ?_))
  refine m_getR fX10_9 (by decide +kernel) rfl ?_
  refine m_blk [(.iconst 0, .int (nI 0)), (.aload_n 0, .null), (.iload_n 1, .null)] (Nat.le_of_ble_eq_true rfl) (by decide +kernel) ?_
  refine gx_iconst (gx_aload_n_0 (gx_iload_n_1 ((gx_nil ?_))))
  refine m_call kX10_97 (r_placeOf hc h3 _) (by decide +kernel) rfl rfl (Nat.le_of_ble_eq_true rfl) (Nat.le_of_ble_eq_true rfl) (Nat.le_of_ble_eq_true rfl) rfl ?_
  try simp only [Option.toList_some, Option.toList_none, List.cons_append, List.nil_append, bI_0, n1_0, n0_0, Decidable.not_not, not_true_eq_false, not_false_eq_true, nI_add, pk_mul, Nat.add_zero, Nat.zero_add, Nat.reduceAdd, Nat.reduceMul]
  refine m_mmax kMX10_85 (by decide +kernel) (by decide) (Nat.le_of_ble_eq_true rfl) ?_
  rw [rMax_place hc]
  have hix := rIdx_le (N := F 0) (id := id) hc
  refine m_callS kX10_94 (r_letterAt _) (by decide +kernel) rfl rfl (Nat.le_of_ble_eq_true rfl) (Nat.le_of_ble_eq_true rfl) (Nat.le_of_ble_eq_true rfl) rfl ?_
  try simp only [Option.toList_some, Option.toList_none, List.cons_append, List.nil_append, bI_0, n1_0, n0_0, Decidable.not_not, not_true_eq_false, not_false_eq_true, nI_add, pk_mul, Nat.add_zero, Nat.zero_add, Nat.reduceAdd, Nat.reduceMul]
  refine m_blk [(.iload_n 2, .null), (.iadd, .null)] (Nat.le_of_ble_eq_true rfl) (by decide +kernel) ?_
  refine gx_iload_n_2 (gx_iadd ((gx_nil ?_)))
  try simp only [nI_add, pk_mul, Nat.add_zero, Nat.zero_add, Nat.reduceAdd, Nat.reduceMul]
  refine m_al (j := 0) rfl (by decide +kernel) (show _ < 202 from by omega) ?_
  refine m_end (some (.int _)) rfl ⟨by decide +kernel, _, rfl, rfl⟩ ?_ ?_ ?_
  all_goals first | rfl | (simp_all [rThr, bI, bI_0, bI_n]; done) | (simp only [Option.some.injEq, Value.int.injEq, bI, Int32.lt_iff_toInt_lt, Int32.le_iff_toInt_le, Int32.not_lt, Int32.not_le] at *; split <;> first | rfl | omega)
theorem r_isHere {c : Nat} (hc : c ≤ 20) (h3 : F 0 3 = nI c) (id : Int32) : mC Γ o ad M_X10_isHere [.int id] V F 2 (some (.int (bI (¬ rPlace (F 0) id c = -1)))) (V) (F) := by
  refine mC_of (by decide) rfl (Nat.le_of_ble_eq_true rfl) [some (.ref o), some (.int id)] rfl ?_
  refine m_blk [(.aload_n 0, .null), (.iload_n 1, .null)] (Nat.le_of_ble_eq_true rfl) (by decide +kernel) ?_
  refine gx_aload_n_0 (gx_iload_n_1 ((gx_nil ?_)))
  refine m_call kX10_97 (r_placeOf hc h3 _) (by decide +kernel) rfl rfl (Nat.le_of_ble_eq_true rfl) (Nat.le_of_ble_eq_true rfl) (Nat.le_of_ble_eq_true rfl) rfl ?_
  try simp only [Option.toList_some, Option.toList_none, List.cons_append, List.nil_append, bI_0, n1_0, n0_0, Decidable.not_not, not_true_eq_false, not_false_eq_true, nI_add, pk_mul, Nat.add_zero, Nat.zero_add, Nat.reduceAdd, Nat.reduceMul]
  refine m_blk [(.iconst (-1), .int (-1))] (Nat.le_of_ble_eq_true rfl) (by decide +kernel) ?_
  refine gx_iconst ((gx_nil ?_))
  refine m_icmp_eq (off := 7) (tgt := 13) (by decide +kernel) (by decide) (fun c6 => ?_) (fun c6 => ?_)
  · try simp only [bI_0, Decidable.not_not] at c6
    refine m_blk [(.iconst 0, .int (nI 0))] (Nat.le_of_ble_eq_true rfl) (by decide +kernel) ?_
    refine gx_iconst ((gx_nil ?_))
    refine m_end (some (.int _)) rfl ⟨by decide +kernel, _, rfl, by first | rfl | (unfold bI; split <;> rfl)⟩ ?_ ?_ ?_
    all_goals first | rfl | (simp_all [rThr, bI, bI_0, bI_n]; done) | (simp only [Option.some.injEq, Value.int.injEq, bI, Int32.lt_iff_toInt_lt, Int32.le_iff_toInt_le, Int32.not_lt, Int32.not_le] at *; split <;> first | rfl | omega)
  · try simp only [bI_0, Decidable.not_not] at c6
    refine m_blk [(.iconst 1, .int (nI 1)), (.goto 4, .retAddr 14)] (Nat.le_of_ble_eq_true rfl) (by decide +kernel) ?_
    refine gx_iconst (gx_goto ((gx_nil ?_)))
    refine m_end (some (.int _)) rfl ⟨by decide +kernel, _, rfl, by first | rfl | (unfold bI; split <;> rfl)⟩ ?_ ?_ ?_
    all_goals first | rfl | (simp_all [rThr, bI, bI_0, bI_n]; done) | (simp only [Option.some.injEq, Value.int.injEq, bI, Int32.lt_iff_toInt_lt, Int32.le_iff_toInt_le, Int32.not_lt, Int32.not_le] at *; split <;> first | rfl | omega)
theorem r_weightIn {c : Nat} (hc : c ≤ 20) (h3 : F 0 3 = nI c) (rt bg : Int32) : mC Γ o ad M_X10_weightIn [.int rt, .int bg] V F 1 (some (.int (rWt (F 0) rt bg c))) (V) (F) := by
  have loop : ∀ n i, i ≤ c → c < i + n → mG Γ o ad M_X10_weightIn 1 (some (.int (rWt (F 0) rt bg c))) (V) (F) 5 [some (.ref o), some (.int rt), some (.int bg), some (.int (rWt (F 0) rt bg i)), some (.int (nI i)), none] [] (V) (F) := by
    intro n
    induction n with
    | zero => intro i h1 h2; omega
    | succ n ih =>
      intro i hi hn
      refine m_blk [(.iload 4, .null), (.aload_n 0, .null)] (Nat.le_of_ble_eq_true rfl) (by decide +kernel) ?_
      refine gx_iload_4 (gx_aload_n_0 ((gx_nil ?_)))
      refine m_getR fX10_9 (by decide +kernel) rfl ?_
      refine m_blk [(.iconst 3, .int (nI 3))] (Nat.le_of_ble_eq_true rfl) (by decide +kernel) ?_
      refine gx_iconst ((gx_nil ?_))
      refine m_al (j := 0) rfl (by decide +kernel) (show _ < 202 from by omega) ?_
      refine m_icmp_ge (off := 78) (tgt := 91) (by decide +kernel) (by decide) (fun c13 => ?_) (fun c13 => ?_)
      · try simp only [bI_0, Decidable.not_not] at c13
        have hic : i = c := by
          rw [h3] at c13
          have := (nI_leI (by omega) (by omega)).mp c13
          omega
        subst hic
        refine m_blk [(.iload_n 3, .null)] (Nat.le_of_ble_eq_true rfl) (by decide +kernel) ?_
        refine gx_iload_n_3 ((gx_nil ?_))
        refine m_end (some (.int _)) rfl ⟨by decide +kernel, _, rfl, rfl⟩ ?_ ?_ ?_
        all_goals first | rfl | (simp_all [rThr, bI, bI_0, bI_n]; done) | (simp only [Option.some.injEq, Value.int.injEq, bI, Int32.lt_iff_toInt_lt, Int32.le_iff_toInt_le, Int32.not_lt, Int32.not_le] at *; split <;> first | rfl | omega)
      · try simp only [bI_0, Decidable.not_not] at c13
        have hic : i < c := by
          rcases Nat.lt_or_ge i c with q | q
          · exact q
          · exact absurd (by rw [h3]; exact nI_le q (by omega)) c13
        refine m_blk [(.aload_n 0, .null)] (Nat.le_of_ble_eq_true rfl) (by decide +kernel) ?_
        refine gx_aload_n_0 ((gx_nil ?_))
        refine m_getR fX10_9 (by decide +kernel) rfl ?_
        refine m_blk [(.iload 4, .null)] (Nat.le_of_ble_eq_true rfl) (by decide +kernel) ?_
        refine gx_iload_4 ((gx_nil ?_))
        refine m_callS kX10_94 (r_letterAt _) (by decide +kernel) rfl rfl (Nat.le_of_ble_eq_true rfl) (Nat.le_of_ble_eq_true rfl) (Nat.le_of_ble_eq_true rfl) rfl ?_
        try simp only [Option.toList_some, Option.toList_none, List.cons_append, List.nil_append, bI_0, n1_0, n0_0, Decidable.not_not, not_true_eq_false, not_false_eq_true, nI_add, pk_mul, Nat.add_zero, Nat.zero_add, Nat.reduceAdd, Nat.reduceMul]
        refine m_blk [(.iconst 5, .int (nI 5)), (.iadd, .null)] (Nat.le_of_ble_eq_true rfl) (by decide +kernel) ?_
        refine gx_iconst (gx_iadd ((gx_nil ?_)))
        try simp only [nI_add, pk_mul, Nat.add_zero, Nat.zero_add, Nat.reduceAdd, Nat.reduceMul]
        refine m_al (j := 0) rfl (by decide +kernel) (show _ < 202 from by omega) ?_
        refine m_blk [(.iload_n 1, .null)] (Nat.le_of_ble_eq_true rfl) (by decide +kernel) ?_
        refine gx_iload_n_1 ((gx_nil ?_))
        refine m_icmp_ne (off := 29) (tgt := 58) (by decide +kernel) (by decide) (fun c29 => ?_) (fun c29 => ?_)
        · try simp only [bI_0, Decidable.not_not] at c29
          refine m_blk [(.iconst 0, .int (nI 0)), (.istore 5, .null), (.iload_n 3, .null), (.iload 5, .null)] (Nat.le_of_ble_eq_true rfl) (by decide +kernel) ?_
          refine gx_iconst (gx_istore_5 rfl (gx_iload_n_3 (gx_iload_5 ((gx_nil ?_)))))
          refine m_if_eq (off := 18) (tgt := 82) (by decide +kernel) (by decide) (fun c64 => ?_) (fun c64 => ?_)
          · try simp only [bI_0, Decidable.not_not] at c64
            refine m_blk [(.iconst 0, .int (nI 0)), (.iadd, .null), (.istore_n 3, .null), (.iinc 4 1, .int (nI 1)), (.goto (-83), .retAddr 5)] (Nat.le_of_ble_eq_true rfl) (by decide +kernel) ?_
            refine gx_iconst (gx_iadd (gx_istore_n_3 rfl (gx_iinc_4 rfl (gx_goto ((gx_nil ?_))))))
            try simp only [nI_add, pk_mul, Nat.add_zero, Nat.zero_add, Nat.reduceAdd, Nat.reduceMul]
            refine m_weak ?_ (ih (i + 1) (by omega) (by omega))
            simp only [gLe, and_true, true_and, Option.some.injEq, Value.int.injEq]
            rw [rWt]
            rw [if_neg (fun z => c29 z.1)]
          · exact absurd (by decide) c64
        · try simp only [bI_0, Decidable.not_not] at c29
          refine m_blk [(.iload_n 2, .null), (.iconst (-1), .int (-1))] (Nat.le_of_ble_eq_true rfl) (by decide +kernel) ?_
          refine gx_iload_n_2 (gx_iconst ((gx_nil ?_)))
          refine m_icmp_eq (off := 20) (tgt := 54) (by decide +kernel) (by decide) (fun c34 => ?_) (fun c34 => ?_)
          · try simp only [bI_0, Decidable.not_not] at c34
            refine m_blk [(.iconst 1, .int (nI 1)), (.goto 4, .retAddr 59), (.istore 5, .null), (.iload_n 3, .null), (.iload 5, .null)] (Nat.le_of_ble_eq_true rfl) (by decide +kernel) ?_
            refine gx_iconst (gx_goto (gx_istore_5 rfl (gx_iload_n_3 (gx_iload_5 ((gx_nil ?_))))))
            refine m_if_eq (off := 18) (tgt := 82) (by decide +kernel) (by decide) (fun c64 => ?_) (fun c64 => ?_)
            · exact absurd c64 (by decide)
            · try simp only [bI_0, Decidable.not_not] at c64
              refine m_blk [(.aload_n 0, .null)] (Nat.le_of_ble_eq_true rfl) (by decide +kernel) ?_
              refine gx_aload_n_0 ((gx_nil ?_))
              refine m_getR fX10_9 (by decide +kernel) rfl ?_
              refine m_blk [(.iload 4, .null)] (Nat.le_of_ble_eq_true rfl) (by decide +kernel) ?_
              refine gx_iload_4 ((gx_nil ?_))
              refine m_callS kX10_94 (r_letterAt _) (by decide +kernel) rfl rfl (Nat.le_of_ble_eq_true rfl) (Nat.le_of_ble_eq_true rfl) (Nat.le_of_ble_eq_true rfl) rfl ?_
              try simp only [Option.toList_some, Option.toList_none, List.cons_append, List.nil_append, bI_0, n1_0, n0_0, Decidable.not_not, not_true_eq_false, not_false_eq_true, nI_add, pk_mul, Nat.add_zero, Nat.zero_add, Nat.reduceAdd, Nat.reduceMul]
              refine m_blk [(.iconst 2, .int (nI 2)), (.iadd, .null)] (Nat.le_of_ble_eq_true rfl) (by decide +kernel) ?_
              refine gx_iconst (gx_iadd ((gx_nil ?_)))
              try simp only [nI_add, pk_mul, Nat.add_zero, Nat.zero_add, Nat.reduceAdd, Nat.reduceMul]
              refine m_al (j := 0) rfl (by decide +kernel) (show _ < 202 from by omega) ?_
              refine m_blk [(.goto 4, .retAddr 83), (.iadd, .null), (.istore_n 3, .null), (.iinc 4 1, .int (nI 1)), (.goto (-83), .retAddr 5)] (Nat.le_of_ble_eq_true rfl) (by decide +kernel) ?_
              refine gx_goto (gx_iadd (gx_istore_n_3 rfl (gx_iinc_4 rfl (gx_goto ((gx_nil ?_))))))
              try simp only [nI_add, pk_mul, Nat.add_zero, Nat.zero_add, Nat.reduceAdd, Nat.reduceMul]
              refine m_weak ?_ (ih (i + 1) (by omega) (by omega))
              simp only [gLe, and_true, true_and, Option.some.injEq, Value.int.injEq]
              rw [rWt]
              rw [if_pos ⟨c29, Or.inl c34⟩]
          · try simp only [bI_0, Decidable.not_not] at c34
            refine m_blk [(.aload_n 0, .null)] (Nat.le_of_ble_eq_true rfl) (by decide +kernel) ?_
            refine gx_aload_n_0 ((gx_nil ?_))
            refine m_getR fX10_9 (by decide +kernel) rfl ?_
            refine m_blk [(.iload 4, .null)] (Nat.le_of_ble_eq_true rfl) (by decide +kernel) ?_
            refine gx_iload_4 ((gx_nil ?_))
            refine m_callS kX10_94 (r_letterAt _) (by decide +kernel) rfl rfl (Nat.le_of_ble_eq_true rfl) (Nat.le_of_ble_eq_true rfl) (Nat.le_of_ble_eq_true rfl) rfl ?_
            try simp only [Option.toList_some, Option.toList_none, List.cons_append, List.nil_append, bI_0, n1_0, n0_0, Decidable.not_not, not_true_eq_false, not_false_eq_true, nI_add, pk_mul, Nat.add_zero, Nat.zero_add, Nat.reduceAdd, Nat.reduceMul]
            refine m_blk [(.bipush 6, .int (nI 6)), (.iadd, .null)] (Nat.le_of_ble_eq_true rfl) (by decide +kernel) ?_
            refine gx_bipush (gx_iadd ((gx_nil ?_)))
            try simp only [nI_add, pk_mul, Nat.add_zero, Nat.zero_add, Nat.reduceAdd, Nat.reduceMul]
            refine m_al (j := 0) rfl (by decide +kernel) (show _ < 202 from by omega) ?_
            refine m_blk [(.iload_n 2, .null)] (Nat.le_of_ble_eq_true rfl) (by decide +kernel) ?_
            refine gx_iload_n_2 ((gx_nil ?_))
            refine m_icmp_ne (off := 7) (tgt := 58) (by decide +kernel) (by decide) (fun c51 => ?_) (fun c51 => ?_)
            · try simp only [bI_0, Decidable.not_not] at c51
              refine m_blk [(.iconst 0, .int (nI 0)), (.istore 5, .null), (.iload_n 3, .null), (.iload 5, .null)] (Nat.le_of_ble_eq_true rfl) (by decide +kernel) ?_
              refine gx_iconst (gx_istore_5 rfl (gx_iload_n_3 (gx_iload_5 ((gx_nil ?_)))))
              refine m_if_eq (off := 18) (tgt := 82) (by decide +kernel) (by decide) (fun c64 => ?_) (fun c64 => ?_)
              · try simp only [bI_0, Decidable.not_not] at c64
                refine m_blk [(.iconst 0, .int (nI 0)), (.iadd, .null), (.istore_n 3, .null), (.iinc 4 1, .int (nI 1)), (.goto (-83), .retAddr 5)] (Nat.le_of_ble_eq_true rfl) (by decide +kernel) ?_
                refine gx_iconst (gx_iadd (gx_istore_n_3 rfl (gx_iinc_4 rfl (gx_goto ((gx_nil ?_))))))
                try simp only [nI_add, pk_mul, Nat.add_zero, Nat.zero_add, Nat.reduceAdd, Nat.reduceMul]
                refine m_weak ?_ (ih (i + 1) (by omega) (by omega))
                simp only [gLe, and_true, true_and, Option.some.injEq, Value.int.injEq]
                rw [rWt]
                rw [if_neg (fun z => z.2.elim c34 c51)]
              · exact absurd (by decide) c64
            · try simp only [bI_0, Decidable.not_not] at c51
              refine m_blk [(.iconst 1, .int (nI 1)), (.goto 4, .retAddr 59), (.istore 5, .null), (.iload_n 3, .null), (.iload 5, .null)] (Nat.le_of_ble_eq_true rfl) (by decide +kernel) ?_
              refine gx_iconst (gx_goto (gx_istore_5 rfl (gx_iload_n_3 (gx_iload_5 ((gx_nil ?_))))))
              refine m_if_eq (off := 18) (tgt := 82) (by decide +kernel) (by decide) (fun c64 => ?_) (fun c64 => ?_)
              · exact absurd c64 (by decide)
              · try simp only [bI_0, Decidable.not_not] at c64
                refine m_blk [(.aload_n 0, .null)] (Nat.le_of_ble_eq_true rfl) (by decide +kernel) ?_
                refine gx_aload_n_0 ((gx_nil ?_))
                refine m_getR fX10_9 (by decide +kernel) rfl ?_
                refine m_blk [(.iload 4, .null)] (Nat.le_of_ble_eq_true rfl) (by decide +kernel) ?_
                refine gx_iload_4 ((gx_nil ?_))
                refine m_callS kX10_94 (r_letterAt _) (by decide +kernel) rfl rfl (Nat.le_of_ble_eq_true rfl) (Nat.le_of_ble_eq_true rfl) (Nat.le_of_ble_eq_true rfl) rfl ?_
                try simp only [Option.toList_some, Option.toList_none, List.cons_append, List.nil_append, bI_0, n1_0, n0_0, Decidable.not_not, not_true_eq_false, not_false_eq_true, nI_add, pk_mul, Nat.add_zero, Nat.zero_add, Nat.reduceAdd, Nat.reduceMul]
                refine m_blk [(.iconst 2, .int (nI 2)), (.iadd, .null)] (Nat.le_of_ble_eq_true rfl) (by decide +kernel) ?_
                refine gx_iconst (gx_iadd ((gx_nil ?_)))
                try simp only [nI_add, pk_mul, Nat.add_zero, Nat.zero_add, Nat.reduceAdd, Nat.reduceMul]
                refine m_al (j := 0) rfl (by decide +kernel) (show _ < 202 from by omega) ?_
                refine m_blk [(.goto 4, .retAddr 83), (.iadd, .null), (.istore_n 3, .null), (.iinc 4 1, .int (nI 1)), (.goto (-83), .retAddr 5)] (Nat.le_of_ble_eq_true rfl) (by decide +kernel) ?_
                refine gx_goto (gx_iadd (gx_istore_n_3 rfl (gx_iinc_4 rfl (gx_goto ((gx_nil ?_))))))
                try simp only [nI_add, pk_mul, Nat.add_zero, Nat.zero_add, Nat.reduceAdd, Nat.reduceMul]
                refine m_weak ?_ (ih (i + 1) (by omega) (by omega))
                simp only [gLe, and_true, true_and, Option.some.injEq, Value.int.injEq]
                rw [rWt]
                rw [if_pos ⟨c29, Or.inr c51⟩]
  refine mC_of (by decide) rfl (Nat.le_of_ble_eq_true rfl) [some (.ref o), some (.int rt), some (.int bg), none, none, none] rfl ?_
  refine m_blk [(.iconst 0, .int (nI 0)), (.istore_n 3, .null), (.iconst 0, .int (nI 0)), (.istore 4, .null)] (Nat.le_of_ble_eq_true rfl) (by decide +kernel) ?_
  refine gx_iconst (gx_istore_n_3 rfl (gx_iconst (gx_istore_4 rfl ((gx_nil ?_)))))
  exact loop (c + 1) 0 (Nat.zero_le _) (by omega)
theorem r_lettersIn {c : Nat} (hc : c ≤ 20) (h3 : F 0 3 = nI c) (rt bg : Int32) : mC Γ o ad M_X10_lettersIn [.int rt, .int bg] V F 1 (some (.int (rLn (F 0) rt bg c))) (V) (F) := by
  have loop : ∀ n i, i ≤ c → c < i + n → mG Γ o ad M_X10_lettersIn 1 (some (.int (rLn (F 0) rt bg c))) (V) (F) 5 [some (.ref o), some (.int rt), some (.int bg), some (.int (rLn (F 0) rt bg i)), some (.int (nI i))] [] (V) (F) := by
    intro n
    induction n with
    | zero => intro i h1 h2; omega
    | succ n ih =>
      intro i hi hn
      refine m_blk [(.iload 4, .null), (.aload_n 0, .null)] (Nat.le_of_ble_eq_true rfl) (by decide +kernel) ?_
      refine gx_iload_4 (gx_aload_n_0 ((gx_nil ?_)))
      refine m_getR fX10_9 (by decide +kernel) rfl ?_
      refine m_blk [(.iconst 3, .int (nI 3))] (Nat.le_of_ble_eq_true rfl) (by decide +kernel) ?_
      refine gx_iconst ((gx_nil ?_))
      refine m_al (j := 0) rfl (by decide +kernel) (show _ < 202 from by omega) ?_
      refine m_icmp_ge (off := 55) (tgt := 68) (by decide +kernel) (by decide) (fun c13 => ?_) (fun c13 => ?_)
      · try simp only [bI_0, Decidable.not_not] at c13
        have hic : i = c := by
          rw [h3] at c13
          have := (nI_leI (by omega) (by omega)).mp c13
          omega
        subst hic
        refine m_blk [(.iload_n 3, .null)] (Nat.le_of_ble_eq_true rfl) (by decide +kernel) ?_
        refine gx_iload_n_3 ((gx_nil ?_))
        refine m_end (some (.int _)) rfl ⟨by decide +kernel, _, rfl, rfl⟩ ?_ ?_ ?_
        all_goals first | rfl | (simp_all [rThr, bI, bI_0, bI_n]; done) | (simp only [Option.some.injEq, Value.int.injEq, bI, Int32.lt_iff_toInt_lt, Int32.le_iff_toInt_le, Int32.not_lt, Int32.not_le] at *; split <;> first | rfl | omega)
      · try simp only [bI_0, Decidable.not_not] at c13
        have hic : i < c := by
          rcases Nat.lt_or_ge i c with q | q
          · exact q
          · exact absurd (by rw [h3]; exact nI_le q (by omega)) c13
        refine m_blk [(.iload_n 3, .null), (.aload_n 0, .null)] (Nat.le_of_ble_eq_true rfl) (by decide +kernel) ?_
        refine gx_iload_n_3 (gx_aload_n_0 ((gx_nil ?_)))
        refine m_getR fX10_9 (by decide +kernel) rfl ?_
        refine m_blk [(.iload 4, .null)] (Nat.le_of_ble_eq_true rfl) (by decide +kernel) ?_
        refine gx_iload_4 ((gx_nil ?_))
        refine m_callS kX10_94 (r_letterAt _) (by decide +kernel) rfl rfl (Nat.le_of_ble_eq_true rfl) (Nat.le_of_ble_eq_true rfl) (Nat.le_of_ble_eq_true rfl) rfl ?_
        try simp only [Option.toList_some, Option.toList_none, List.cons_append, List.nil_append, bI_0, n1_0, n0_0, Decidable.not_not, not_true_eq_false, not_false_eq_true, nI_add, pk_mul, Nat.add_zero, Nat.zero_add, Nat.reduceAdd, Nat.reduceMul]
        refine m_blk [(.iconst 5, .int (nI 5)), (.iadd, .null)] (Nat.le_of_ble_eq_true rfl) (by decide +kernel) ?_
        refine gx_iconst (gx_iadd ((gx_nil ?_)))
        try simp only [nI_add, pk_mul, Nat.add_zero, Nat.zero_add, Nat.reduceAdd, Nat.reduceMul]
        refine m_al (j := 0) rfl (by decide +kernel) (show _ < 202 from by omega) ?_
        refine m_blk [(.iload_n 1, .null)] (Nat.le_of_ble_eq_true rfl) (by decide +kernel) ?_
        refine gx_iload_n_1 ((gx_nil ?_))
        refine m_icmp_ne (off := 29) (tgt := 59) (by decide +kernel) (by decide) (fun c30 => ?_) (fun c30 => ?_)
        · try simp only [bI_0, Decidable.not_not] at c30
          refine m_blk [(.iconst 0, .int (nI 0)), (.iadd, .null), (.istore_n 3, .null), (.iinc 4 1, .int (nI 1)), (.goto (-60), .retAddr 5)] (Nat.le_of_ble_eq_true rfl) (by decide +kernel) ?_
          refine gx_iconst (gx_iadd (gx_istore_n_3 rfl (gx_iinc_4 rfl (gx_goto ((gx_nil ?_))))))
          try simp only [nI_add, pk_mul, Nat.add_zero, Nat.zero_add, Nat.reduceAdd, Nat.reduceMul]
          refine m_weak ?_ (ih (i + 1) (by omega) (by omega))
          simp only [gLe, and_true, true_and, Option.some.injEq, Value.int.injEq]
          rw [rLn]
          rw [if_neg (fun z => c30 z.1)]
        · try simp only [bI_0, Decidable.not_not] at c30
          refine m_blk [(.iload_n 1, .null), (.iconst (-1), .int (-1))] (Nat.le_of_ble_eq_true rfl) (by decide +kernel) ?_
          refine gx_iload_n_1 (gx_iconst ((gx_nil ?_)))
          refine m_icmp_eq (off := 20) (tgt := 55) (by decide +kernel) (by decide) (fun c35 => ?_) (fun c35 => ?_)
          · try simp only [bI_0, Decidable.not_not] at c35
            refine m_blk [(.iconst 1, .int (nI 1)), (.goto 4, .retAddr 60), (.iadd, .null), (.istore_n 3, .null), (.iinc 4 1, .int (nI 1)), (.goto (-60), .retAddr 5)] (Nat.le_of_ble_eq_true rfl) (by decide +kernel) ?_
            refine gx_iconst (gx_goto (gx_iadd (gx_istore_n_3 rfl (gx_iinc_4 rfl (gx_goto ((gx_nil ?_)))))))
            try simp only [nI_add, pk_mul, Nat.add_zero, Nat.zero_add, Nat.reduceAdd, Nat.reduceMul]
            refine m_weak ?_ (ih (i + 1) (by omega) (by omega))
            simp only [gLe, and_true, true_and, Option.some.injEq, Value.int.injEq]
            rw [rLn]
            rw [if_pos ⟨c30, Or.inl c35⟩]
          · try simp only [bI_0, Decidable.not_not] at c35
            refine m_blk [(.aload_n 0, .null)] (Nat.le_of_ble_eq_true rfl) (by decide +kernel) ?_
            refine gx_aload_n_0 ((gx_nil ?_))
            refine m_getR fX10_9 (by decide +kernel) rfl ?_
            refine m_blk [(.iload 4, .null)] (Nat.le_of_ble_eq_true rfl) (by decide +kernel) ?_
            refine gx_iload_4 ((gx_nil ?_))
            refine m_callS kX10_94 (r_letterAt _) (by decide +kernel) rfl rfl (Nat.le_of_ble_eq_true rfl) (Nat.le_of_ble_eq_true rfl) (Nat.le_of_ble_eq_true rfl) rfl ?_
            try simp only [Option.toList_some, Option.toList_none, List.cons_append, List.nil_append, bI_0, n1_0, n0_0, Decidable.not_not, not_true_eq_false, not_false_eq_true, nI_add, pk_mul, Nat.add_zero, Nat.zero_add, Nat.reduceAdd, Nat.reduceMul]
            refine m_blk [(.bipush 6, .int (nI 6)), (.iadd, .null)] (Nat.le_of_ble_eq_true rfl) (by decide +kernel) ?_
            refine gx_bipush (gx_iadd ((gx_nil ?_)))
            try simp only [nI_add, pk_mul, Nat.add_zero, Nat.zero_add, Nat.reduceAdd, Nat.reduceMul]
            refine m_al (j := 0) rfl (by decide +kernel) (show _ < 202 from by omega) ?_
            refine m_blk [(.iload_n 2, .null)] (Nat.le_of_ble_eq_true rfl) (by decide +kernel) ?_
            refine gx_iload_n_2 ((gx_nil ?_))
            refine m_icmp_ne (off := 7) (tgt := 59) (by decide +kernel) (by decide) (fun c52 => ?_) (fun c52 => ?_)
            · try simp only [bI_0, Decidable.not_not] at c52
              refine m_blk [(.iconst 0, .int (nI 0)), (.iadd, .null), (.istore_n 3, .null), (.iinc 4 1, .int (nI 1)), (.goto (-60), .retAddr 5)] (Nat.le_of_ble_eq_true rfl) (by decide +kernel) ?_
              refine gx_iconst (gx_iadd (gx_istore_n_3 rfl (gx_iinc_4 rfl (gx_goto ((gx_nil ?_))))))
              try simp only [nI_add, pk_mul, Nat.add_zero, Nat.zero_add, Nat.reduceAdd, Nat.reduceMul]
              refine m_weak ?_ (ih (i + 1) (by omega) (by omega))
              simp only [gLe, and_true, true_and, Option.some.injEq, Value.int.injEq]
              rw [rLn]
              rw [if_neg (fun z => z.2.elim c35 c52)]
            · try simp only [bI_0, Decidable.not_not] at c52
              refine m_blk [(.iconst 1, .int (nI 1)), (.goto 4, .retAddr 60), (.iadd, .null), (.istore_n 3, .null), (.iinc 4 1, .int (nI 1)), (.goto (-60), .retAddr 5)] (Nat.le_of_ble_eq_true rfl) (by decide +kernel) ?_
              refine gx_iconst (gx_goto (gx_iadd (gx_istore_n_3 rfl (gx_iinc_4 rfl (gx_goto ((gx_nil ?_)))))))
              try simp only [nI_add, pk_mul, Nat.add_zero, Nat.zero_add, Nat.reduceAdd, Nat.reduceMul]
              refine m_weak ?_ (ih (i + 1) (by omega) (by omega))
              simp only [gLe, and_true, true_and, Option.some.injEq, Value.int.injEq]
              rw [rLn]
              rw [if_pos ⟨c30, Or.inr c52⟩]
  refine mC_of (by decide) rfl (Nat.le_of_ble_eq_true rfl) [some (.ref o), some (.int rt), some (.int bg), none, none] rfl ?_
  refine m_blk [(.iconst 0, .int (nI 0)), (.istore_n 3, .null), (.iconst 0, .int (nI 0)), (.istore 4, .null)] (Nat.le_of_ble_eq_true rfl) (by decide +kernel) ?_
  refine gx_iconst (gx_istore_n_3 rfl (gx_iconst (gx_istore_4 rfl ((gx_nil ?_)))))
  exact loop (c + 1) 0 (Nat.zero_le _) (by omega)
theorem r_bagFor {c : Nat} (hc : c ≤ 20) (h3 : F 0 3 = nI c) (rt w : Int32) {b : Nat} (hb : b ≤ 3) (hO : F 0 (8 + 3 * rIx rt + 2) = nI b) : mC Γ o ad M_X10_bagFor [.int rt, .int w] V F 3 (some (.int (rBag (F 0) rt w c b))) V F := by
  have hx5 := rIx_le rt
  have loop : ∀ n i, i ≤ b → b < i + n → rFst (rFits (F 0) rt w c) i = none → mG Γ o ad M_X10_bagFor 3 (some (.int (rBag (F 0) rt w c b))) V F 15 [some (.ref o), some (.int rt), some (.int w), some (.int (nI b)), some (.int (nI i))] [] V F := by
    intro n
    induction n with
    | zero => intro i h1 h2; omega
    | succ n ih =>
      intro i hi hn hf
      refine m_blk [(.iload 4, .null), (.iload_n 3, .null)] (Nat.le_of_ble_eq_true rfl) (by decide +kernel) ?_
      refine gx_iload_4 (gx_iload_n_3 ((gx_nil ?_)))
      refine m_icmp_ge (off := 27) (tgt := 45) (by decide +kernel) (by decide) (fun c18 => ?_) (fun c18 => ?_)
      · try simp only [bI_0, Decidable.not_not] at c18
        have hic : i = b := by
          have := (nI_leI (by omega) (by omega)).mp c18
          omega
        subst hic
        refine m_blk [(.iload_n 3, .null), (.iconst 3, .int (nI 3))] (Nat.le_of_ble_eq_true rfl) (by decide +kernel) ?_
        refine gx_iload_n_3 (gx_iconst ((gx_nil ?_)))
        refine m_icmp_ge (off := 7) (tgt := 54) (by decide +kernel) (by decide) (fun c47 => ?_) (fun c47 => ?_)
        · try simp only [bI_0, Decidable.not_not] at c47
          refine m_blk [(.iconst (-1), .int (-1))] (Nat.le_of_ble_eq_true rfl) (by decide +kernel) ?_
          refine gx_iconst ((gx_nil ?_))
          refine m_end (some (.int _)) rfl ⟨by decide +kernel, _, rfl, rfl⟩ ?_ rfl rfl
          have hb3 : ¬ i < 3 := fun q => by
            have := (nI_leI (by omega) (by omega)).mp c47
            omega
          unfold rBag
          rw [hf]
          dsimp only
          rw [if_neg hb3]
        · try simp only [bI_0, Decidable.not_not] at c47
          refine m_blk [(.iload_n 3, .null), (.goto 4, .retAddr 55)] (Nat.le_of_ble_eq_true rfl) (by decide +kernel) ?_
          refine gx_iload_n_3 (gx_goto ((gx_nil ?_)))
          refine m_end (some (.int _)) rfl ⟨by decide +kernel, _, rfl, rfl⟩ ?_ rfl rfl
          have hb3 : i < 3 := by
            rcases Nat.lt_or_ge i 3 with q | q
            · exact q
            · exact absurd (nI_le q (by omega)) c47
          unfold rBag
          rw [hf]
          dsimp only
          rw [if_pos hb3]
      · try simp only [bI_0, Decidable.not_not] at c18
        have hic : i < b := by
          rcases Nat.lt_or_ge i b with q | q
          · exact q
          · exact absurd (nI_le q (by omega)) c18
        refine m_blk [(.aload_n 0, .null), (.iload_n 1, .null), (.iload 4, .null)] (Nat.le_of_ble_eq_true rfl) (by decide +kernel) ?_
        refine gx_aload_n_0 (gx_iload_n_1 (gx_iload_4 ((gx_nil ?_))))
        refine m_call kX10_100 (r_weightIn hc h3 _ _) (by decide +kernel) rfl rfl (Nat.le_of_ble_eq_true rfl) (Nat.le_of_ble_eq_true rfl) (Nat.le_of_ble_eq_true rfl) rfl ?_
        try simp only [Option.toList_some, Option.toList_none, List.cons_append, List.nil_append, bI_0, n1_0, n0_0, Decidable.not_not, not_true_eq_false, not_false_eq_true, nI_add, pk_mul, Nat.add_zero, Nat.zero_add, Nat.reduceAdd, Nat.reduceMul]
        refine m_blk [(.iload_n 2, .null), (.iadd, .null), (.sipush 150, .int (nI 150))] (Nat.le_of_ble_eq_true rfl) (by decide +kernel) ?_
        refine gx_iload_n_2 (gx_iadd (gx_sipush ((gx_nil ?_))))
        try simp only [nI_add, pk_mul, Nat.add_zero, Nat.zero_add, Nat.reduceAdd, Nat.reduceMul]
        refine m_icmp_gt (off := 6) (tgt := 39) (by decide +kernel) (by decide) (fun c33 => ?_) (fun c33 => ?_)
        · try simp only [bI_0, Decidable.not_not] at c33
          refine m_blk [(.iinc 4 1, .int (nI 1)), (.goto (-27), .retAddr 15)] (Nat.le_of_ble_eq_true rfl) (by decide +kernel) ?_
          refine gx_iinc_4 rfl (gx_goto ((gx_nil ?_)))
          try simp only [nI_add, pk_mul, Nat.add_zero, Nat.zero_add, Nat.reduceAdd, Nat.reduceMul]
          exact ih (i + 1) (by omega) (by omega) (rFst_f hf (fun z => absurd (of_decide_eq_true z) (Int32.not_le.mpr c33)))
        · try simp only [bI_0, Decidable.not_not] at c33
          refine m_blk [(.iload 4, .null)] (Nat.le_of_ble_eq_true rfl) (by decide +kernel) ?_
          refine gx_iload_4 ((gx_nil ?_))
          refine m_end (some (.int _)) rfl ⟨by decide +kernel, _, rfl, rfl⟩ ?_ rfl rfl
          unfold rBag
          rw [rFst_t hf (decide_eq_true (Int32.not_lt.mp c33)) hic]
  refine mC_of (by decide) rfl (Nat.le_of_ble_eq_true rfl) [some (.ref o), some (.int rt), some (.int w), none, none] rfl ?_
  refine m_blk [(.aload_n 0, .null)] (Nat.le_of_ble_eq_true rfl) (by decide +kernel) ?_
  refine gx_aload_n_0 ((gx_nil ?_))
  refine m_getR fX10_9 (by decide +kernel) rfl ?_
  refine m_blk [(.iload_n 1, .null)] (Nat.le_of_ble_eq_true rfl) (by decide +kernel) ?_
  refine gx_iload_n_1 ((gx_nil ?_))
  refine m_callS kX10_41 (r_routeAt _) (by decide +kernel) rfl rfl (Nat.le_of_ble_eq_true rfl) (Nat.le_of_ble_eq_true rfl) (Nat.le_of_ble_eq_true rfl) rfl ?_
  try simp only [Option.toList_some, Option.toList_none, List.cons_append, List.nil_append, bI_0, n1_0, n0_0, Decidable.not_not, not_true_eq_false, not_false_eq_true, nI_add, pk_mul, Nat.add_zero, Nat.zero_add, Nat.reduceAdd, Nat.reduceMul]
  refine m_blk [(.iconst 2, .int (nI 2)), (.iadd, .null)] (Nat.le_of_ble_eq_true rfl) (by decide +kernel) ?_
  refine gx_iconst (gx_iadd ((gx_nil ?_)))
  try simp only [nI_add, pk_mul, Nat.add_zero, Nat.zero_add, Nat.reduceAdd, Nat.reduceMul]
  refine m_al (j := 0) rfl (by decide +kernel) (show _ < 202 from by omega) ?_
  rw [hO]
  refine m_blk [(.istore_n 3, .null), (.iconst 0, .int (nI 0)), (.istore 4, .null)] (Nat.le_of_ble_eq_true rfl) (by decide +kernel) ?_
  refine gx_istore_n_3 rfl (gx_iconst (gx_istore_4 rfl ((gx_nil ?_))))
  exact loop (b + 1) 0 (Nat.zero_le _) (by omega) rfl
theorem r_canGo {c : Nat} (hc : c ≤ 20) (h3 : F 0 3 = nI c) (k : Nat) (hk : k < 20) (rt : Int32) {b : Nat} (hb : b ≤ 3) (hO : F 0 (8 + 3 * rIx rt + 2) = nI b) : mC Γ o ad M_X10_canGo [.int (nI k), .int rt] V F 4 (some (.int (bI (rGo (F 0) k rt c b = true)))) (V) (F) := by
  have hx5 := rIx_le rt
  refine mC_of (by decide) rfl (Nat.le_of_ble_eq_true rfl) [some (.ref o), some (.int (nI k)), some (.int rt), none, none] rfl ?_
  refine m_blk [(.iload_n 1, .null)] (Nat.le_of_ble_eq_true rfl) (by decide +kernel) ?_
  refine gx_iload_n_1 ((gx_nil ?_))
  refine m_callS kX10_94 (r_letterAt _) (by decide +kernel) rfl rfl (Nat.le_of_ble_eq_true rfl) (Nat.le_of_ble_eq_true rfl) (Nat.le_of_ble_eq_true rfl) rfl ?_
  try simp only [Option.toList_some, Option.toList_none, List.cons_append, List.nil_append, bI_0, n1_0, n0_0, Decidable.not_not, not_true_eq_false, not_false_eq_true, nI_add, pk_mul, Nat.add_zero, Nat.zero_add, Nat.reduceAdd, Nat.reduceMul]
  refine m_blk [(.istore_n 3, .null), (.aload_n 0, .null)] (Nat.le_of_ble_eq_true rfl) (by decide +kernel) ?_
  refine gx_istore_n_3 rfl (gx_aload_n_0 ((gx_nil ?_)))
  refine m_getR fX10_9 (by decide +kernel) rfl ?_
  refine m_blk [(.iload_n 3, .null), (.iconst 5, .int (nI 5)), (.iadd, .null)] (Nat.le_of_ble_eq_true rfl) (by decide +kernel) ?_
  refine gx_iload_n_3 (gx_iconst (gx_iadd ((gx_nil ?_))))
  try simp only [nI_add, pk_mul, Nat.add_zero, Nat.zero_add, Nat.reduceAdd, Nat.reduceMul]
  refine m_al (j := 0) rfl (by decide +kernel) (show _ < 202 from by omega) ?_
  refine m_blk [(.iconst (-1), .int (-1))] (Nat.le_of_ble_eq_true rfl) (by decide +kernel) ?_
  refine gx_iconst ((gx_nil ?_))
  refine m_icmp_ne (off := 10) (tgt := 24) (by decide +kernel) (by decide) (fun c14 => ?_) (fun c14 => ?_)
  · try simp only [bI_0, Decidable.not_not] at c14
    refine m_blk [(.iconst 0, .int (nI 0))] (Nat.le_of_ble_eq_true rfl) (by decide +kernel) ?_
    refine gx_iconst ((gx_nil ?_))
    refine m_end (some (.int _)) rfl ⟨by decide +kernel, _, rfl, by first | rfl | (unfold bI; split <;> rfl)⟩ ?_ ?_ ?_
    all_goals first | rfl | skip
    all_goals first
      | (rw [bI_f]; intro z; have z9 := of_decide_eq_true z; exact absurd z9.1 c14)
      | (rw [bI_f]; intro z; have z9 := of_decide_eq_true z; exact absurd z9.2.1 c21)
      | (rw [bI_f]; intro z; have z9 := of_decide_eq_true z; exact z9.2.2.1.elim c35 (fun q => absurd q (Int32.not_lt.mpr c55)))
      | (rw [bI_f]; intro z; have z9 := of_decide_eq_true z; exact absurd c84 z9.2.2.2)
      | (rw [bI_t]; exact decide_eq_true ⟨c14, c21, Or.inl c35, c84⟩)
      | (rw [bI_t]; exact decide_eq_true ⟨c14, c21, Or.inr (Int32.not_le.mp c55), c84⟩)
  · try simp only [bI_0, Decidable.not_not] at c14
    refine m_blk [(.iload_n 2, .null)] (Nat.le_of_ble_eq_true rfl) (by decide +kernel) ?_
    refine gx_iload_n_2 ((gx_nil ?_))
    refine m_callS kX10_74 (r_isRoute _) (by decide +kernel) rfl rfl (Nat.le_of_ble_eq_true rfl) (Nat.le_of_ble_eq_true rfl) (Nat.le_of_ble_eq_true rfl) rfl ?_
    try simp only [Option.toList_some, Option.toList_none, List.cons_append, List.nil_append, bI_0, n1_0, n0_0, Decidable.not_not, not_true_eq_false, not_false_eq_true, nI_add, pk_mul, Nat.add_zero, Nat.zero_add, Nat.reduceAdd, Nat.reduceMul]
    refine m_if_ne (off := 5) (tgt := 26) (by decide +kernel) (by decide) (fun c21 => ?_) (fun c21 => ?_)
    · try simp only [bI_0, Decidable.not_not] at c21
      refine m_blk [(.aload_n 0, .null)] (Nat.le_of_ble_eq_true rfl) (by decide +kernel) ?_
      refine gx_aload_n_0 ((gx_nil ?_))
      refine m_getR fX10_9 (by decide +kernel) rfl ?_
      refine m_blk [(.iload_n 3, .null), (.iconst 3, .int (nI 3)), (.iadd, .null)] (Nat.le_of_ble_eq_true rfl) (by decide +kernel) ?_
      refine gx_iload_n_3 (gx_iconst (gx_iadd ((gx_nil ?_))))
      try simp only [nI_add, pk_mul, Nat.add_zero, Nat.zero_add, Nat.reduceAdd, Nat.reduceMul]
      refine m_al (j := 0) rfl (by decide +kernel) (show _ < 202 from by omega) ?_
      refine m_blk [(.iconst 1, .int (nI 1))] (Nat.le_of_ble_eq_true rfl) (by decide +kernel) ?_
      refine gx_iconst ((gx_nil ?_))
      refine m_icmp_eq (off := 23) (tgt := 58) (by decide +kernel) (by decide) (fun c35 => ?_) (fun c35 => ?_)
      · try simp only [bI_0, Decidable.not_not] at c35
        refine m_blk [(.iconst 1, .int (nI 1)), (.goto 4, .retAddr 63), (.istore 4, .null), (.iload 4, .null)] (Nat.le_of_ble_eq_true rfl) (by decide +kernel) ?_
        refine gx_iconst (gx_goto (gx_istore_4 rfl (gx_iload_4 ((gx_nil ?_)))))
        refine m_if_eq (off := 24) (tgt := 91) (by decide +kernel) (by decide) (fun c67 => ?_) (fun c67 => ?_)
        · exact absurd c67 (by decide)
        · try simp only [bI_0, Decidable.not_not] at c67
          refine m_blk [(.aload_n 0, .null), (.iload_n 2, .null), (.aload_n 0, .null)] (Nat.le_of_ble_eq_true rfl) (by decide +kernel) ?_
          refine gx_aload_n_0 (gx_iload_n_2 (gx_aload_n_0 ((gx_nil ?_))))
          refine m_getR fX10_9 (by decide +kernel) rfl ?_
          refine m_blk [(.iload_n 3, .null), (.iconst 2, .int (nI 2)), (.iadd, .null)] (Nat.le_of_ble_eq_true rfl) (by decide +kernel) ?_
          refine gx_iload_n_3 (gx_iconst (gx_iadd ((gx_nil ?_))))
          try simp only [nI_add, pk_mul, Nat.add_zero, Nat.zero_add, Nat.reduceAdd, Nat.reduceMul]
          refine m_al (j := 0) rfl (by decide +kernel) (show _ < 202 from by omega) ?_
          refine m_call kX10_103 (r_bagFor hc h3 _ _ hb hO) (by decide +kernel) rfl rfl (Nat.le_of_ble_eq_true rfl) (Nat.le_of_ble_eq_true rfl) (Nat.le_of_ble_eq_true rfl) rfl ?_
          try simp only [Option.toList_some, Option.toList_none, List.cons_append, List.nil_append, bI_0, n1_0, n0_0, Decidable.not_not, not_true_eq_false, not_false_eq_true, nI_add, pk_mul, Nat.add_zero, Nat.zero_add, Nat.reduceAdd, Nat.reduceMul]
          refine m_blk [(.iconst (-1), .int (-1))] (Nat.le_of_ble_eq_true rfl) (by decide +kernel) ?_
          refine gx_iconst ((gx_nil ?_))
          refine m_icmp_eq (off := 7) (tgt := 91) (by decide +kernel) (by decide) (fun c84 => ?_) (fun c84 => ?_)
          · try simp only [bI_0, Decidable.not_not] at c84
            refine m_blk [(.iconst 0, .int (nI 0))] (Nat.le_of_ble_eq_true rfl) (by decide +kernel) ?_
            refine gx_iconst ((gx_nil ?_))
            refine m_end (some (.int _)) rfl ⟨by decide +kernel, _, rfl, by first | rfl | (unfold bI; split <;> rfl)⟩ ?_ ?_ ?_
            all_goals first | rfl | skip
            all_goals first
              | (rw [bI_f]; intro z; have z9 := of_decide_eq_true z; exact absurd z9.1 c14)
              | (rw [bI_f]; intro z; have z9 := of_decide_eq_true z; exact absurd z9.2.1 c21)
              | (rw [bI_f]; intro z; have z9 := of_decide_eq_true z; exact z9.2.2.1.elim c35 (fun q => absurd q (Int32.not_lt.mpr c55)))
              | (rw [bI_f]; intro z; have z9 := of_decide_eq_true z; exact absurd c84 z9.2.2.2)
              | (rw [bI_t]; exact decide_eq_true ⟨c14, c21, Or.inl c35, c84⟩)
              | (rw [bI_t]; exact decide_eq_true ⟨c14, c21, Or.inr (Int32.not_le.mp c55), c84⟩)
          · try simp only [bI_0, Decidable.not_not] at c84
            refine m_blk [(.iconst 1, .int (nI 1)), (.goto 4, .retAddr 92)] (Nat.le_of_ble_eq_true rfl) (by decide +kernel) ?_
            refine gx_iconst (gx_goto ((gx_nil ?_)))
            refine m_end (some (.int _)) rfl ⟨by decide +kernel, _, rfl, by first | rfl | (unfold bI; split <;> rfl)⟩ ?_ ?_ ?_
            all_goals first | rfl | skip
            all_goals first
              | (rw [bI_f]; intro z; have z9 := of_decide_eq_true z; exact absurd z9.1 c14)
              | (rw [bI_f]; intro z; have z9 := of_decide_eq_true z; exact absurd z9.2.1 c21)
              | (rw [bI_f]; intro z; have z9 := of_decide_eq_true z; exact z9.2.2.1.elim c35 (fun q => absurd q (Int32.not_lt.mpr c55)))
              | (rw [bI_f]; intro z; have z9 := of_decide_eq_true z; exact absurd c84 z9.2.2.2)
              | (rw [bI_t]; exact decide_eq_true ⟨c14, c21, Or.inl c35, c84⟩)
              | (rw [bI_t]; exact decide_eq_true ⟨c14, c21, Or.inr (Int32.not_le.mp c55), c84⟩)
      · try simp only [bI_0, Decidable.not_not] at c35
        refine m_blk [(.aload_n 0, .null)] (Nat.le_of_ble_eq_true rfl) (by decide +kernel) ?_
        refine gx_aload_n_0 ((gx_nil ?_))
        refine m_getR fX10_9 (by decide +kernel) rfl ?_
        refine m_blk [(.iconst 0, .int (nI 0))] (Nat.le_of_ble_eq_true rfl) (by decide +kernel) ?_
        refine gx_iconst ((gx_nil ?_))
        refine m_al (j := 0) rfl (by decide +kernel) (show _ < 202 from by omega) ?_
        refine m_blk [(.aload_n 0, .null)] (Nat.le_of_ble_eq_true rfl) (by decide +kernel) ?_
        refine gx_aload_n_0 ((gx_nil ?_))
        refine m_getR fX10_9 (by decide +kernel) rfl ?_
        refine m_blk [(.iload_n 2, .null)] (Nat.le_of_ble_eq_true rfl) (by decide +kernel) ?_
        refine gx_iload_n_2 ((gx_nil ?_))
        refine m_callS kX10_41 (r_routeAt _) (by decide +kernel) rfl rfl (Nat.le_of_ble_eq_true rfl) (Nat.le_of_ble_eq_true rfl) (Nat.le_of_ble_eq_true rfl) rfl ?_
        try simp only [Option.toList_some, Option.toList_none, List.cons_append, List.nil_append, bI_0, n1_0, n0_0, Decidable.not_not, not_true_eq_false, not_false_eq_true, nI_add, pk_mul, Nat.add_zero, Nat.zero_add, Nat.reduceAdd, Nat.reduceMul]
        refine m_blk [(.iconst 0, .int (nI 0)), (.iadd, .null)] (Nat.le_of_ble_eq_true rfl) (by decide +kernel) ?_
        refine gx_iconst (gx_iadd ((gx_nil ?_)))
        try simp only [nI_add, pk_mul, Nat.add_zero, Nat.zero_add, Nat.reduceAdd, Nat.reduceMul]
        refine m_al (j := 0) rfl (by decide +kernel) (show _ < 202 from by omega) ?_
        refine m_icmp_ge (off := 7) (tgt := 62) (by decide +kernel) (by decide) (fun c55 => ?_) (fun c55 => ?_)
        · try simp only [bI_0, Decidable.not_not] at c55
          refine m_blk [(.iconst 0, .int (nI 0)), (.istore 4, .null), (.iload 4, .null)] (Nat.le_of_ble_eq_true rfl) (by decide +kernel) ?_
          refine gx_iconst (gx_istore_4 rfl (gx_iload_4 ((gx_nil ?_))))
          refine m_if_eq (off := 24) (tgt := 91) (by decide +kernel) (by decide) (fun c67 => ?_) (fun c67 => ?_)
          · try simp only [bI_0, Decidable.not_not] at c67
            refine m_blk [(.iconst 0, .int (nI 0))] (Nat.le_of_ble_eq_true rfl) (by decide +kernel) ?_
            refine gx_iconst ((gx_nil ?_))
            refine m_end (some (.int _)) rfl ⟨by decide +kernel, _, rfl, by first | rfl | (unfold bI; split <;> rfl)⟩ ?_ ?_ ?_
            all_goals first | rfl | skip
            all_goals first
              | (rw [bI_f]; intro z; have z9 := of_decide_eq_true z; exact absurd z9.1 c14)
              | (rw [bI_f]; intro z; have z9 := of_decide_eq_true z; exact absurd z9.2.1 c21)
              | (rw [bI_f]; intro z; have z9 := of_decide_eq_true z; exact z9.2.2.1.elim c35 (fun q => absurd q (Int32.not_lt.mpr c55)))
              | (rw [bI_f]; intro z; have z9 := of_decide_eq_true z; exact absurd c84 z9.2.2.2)
              | (rw [bI_t]; exact decide_eq_true ⟨c14, c21, Or.inl c35, c84⟩)
              | (rw [bI_t]; exact decide_eq_true ⟨c14, c21, Or.inr (Int32.not_le.mp c55), c84⟩)
          · exact absurd (by decide) c67
        · try simp only [bI_0, Decidable.not_not] at c55
          refine m_blk [(.iconst 1, .int (nI 1)), (.goto 4, .retAddr 63), (.istore 4, .null), (.iload 4, .null)] (Nat.le_of_ble_eq_true rfl) (by decide +kernel) ?_
          refine gx_iconst (gx_goto (gx_istore_4 rfl (gx_iload_4 ((gx_nil ?_)))))
          refine m_if_eq (off := 24) (tgt := 91) (by decide +kernel) (by decide) (fun c67 => ?_) (fun c67 => ?_)
          · exact absurd c67 (by decide)
          · try simp only [bI_0, Decidable.not_not] at c67
            refine m_blk [(.aload_n 0, .null), (.iload_n 2, .null), (.aload_n 0, .null)] (Nat.le_of_ble_eq_true rfl) (by decide +kernel) ?_
            refine gx_aload_n_0 (gx_iload_n_2 (gx_aload_n_0 ((gx_nil ?_))))
            refine m_getR fX10_9 (by decide +kernel) rfl ?_
            refine m_blk [(.iload_n 3, .null), (.iconst 2, .int (nI 2)), (.iadd, .null)] (Nat.le_of_ble_eq_true rfl) (by decide +kernel) ?_
            refine gx_iload_n_3 (gx_iconst (gx_iadd ((gx_nil ?_))))
            try simp only [nI_add, pk_mul, Nat.add_zero, Nat.zero_add, Nat.reduceAdd, Nat.reduceMul]
            refine m_al (j := 0) rfl (by decide +kernel) (show _ < 202 from by omega) ?_
            refine m_call kX10_103 (r_bagFor hc h3 _ _ hb hO) (by decide +kernel) rfl rfl (Nat.le_of_ble_eq_true rfl) (Nat.le_of_ble_eq_true rfl) (Nat.le_of_ble_eq_true rfl) rfl ?_
            try simp only [Option.toList_some, Option.toList_none, List.cons_append, List.nil_append, bI_0, n1_0, n0_0, Decidable.not_not, not_true_eq_false, not_false_eq_true, nI_add, pk_mul, Nat.add_zero, Nat.zero_add, Nat.reduceAdd, Nat.reduceMul]
            refine m_blk [(.iconst (-1), .int (-1))] (Nat.le_of_ble_eq_true rfl) (by decide +kernel) ?_
            refine gx_iconst ((gx_nil ?_))
            refine m_icmp_eq (off := 7) (tgt := 91) (by decide +kernel) (by decide) (fun c84 => ?_) (fun c84 => ?_)
            · try simp only [bI_0, Decidable.not_not] at c84
              refine m_blk [(.iconst 0, .int (nI 0))] (Nat.le_of_ble_eq_true rfl) (by decide +kernel) ?_
              refine gx_iconst ((gx_nil ?_))
              refine m_end (some (.int _)) rfl ⟨by decide +kernel, _, rfl, by first | rfl | (unfold bI; split <;> rfl)⟩ ?_ ?_ ?_
              all_goals first | rfl | skip
              all_goals first
                | (rw [bI_f]; intro z; have z9 := of_decide_eq_true z; exact absurd z9.1 c14)
                | (rw [bI_f]; intro z; have z9 := of_decide_eq_true z; exact absurd z9.2.1 c21)
                | (rw [bI_f]; intro z; have z9 := of_decide_eq_true z; exact z9.2.2.1.elim c35 (fun q => absurd q (Int32.not_lt.mpr c55)))
                | (rw [bI_f]; intro z; have z9 := of_decide_eq_true z; exact absurd c84 z9.2.2.2)
                | (rw [bI_t]; exact decide_eq_true ⟨c14, c21, Or.inl c35, c84⟩)
                | (rw [bI_t]; exact decide_eq_true ⟨c14, c21, Or.inr (Int32.not_le.mp c55), c84⟩)
            · try simp only [bI_0, Decidable.not_not] at c84
              refine m_blk [(.iconst 1, .int (nI 1)), (.goto 4, .retAddr 92)] (Nat.le_of_ble_eq_true rfl) (by decide +kernel) ?_
              refine gx_iconst (gx_goto ((gx_nil ?_)))
              refine m_end (some (.int _)) rfl ⟨by decide +kernel, _, rfl, by first | rfl | (unfold bI; split <;> rfl)⟩ ?_ ?_ ?_
              all_goals first | rfl | skip
              all_goals first
                | (rw [bI_f]; intro z; have z9 := of_decide_eq_true z; exact absurd z9.1 c14)
                | (rw [bI_f]; intro z; have z9 := of_decide_eq_true z; exact absurd z9.2.1 c21)
                | (rw [bI_f]; intro z; have z9 := of_decide_eq_true z; exact z9.2.2.1.elim c35 (fun q => absurd q (Int32.not_lt.mpr c55)))
                | (rw [bI_f]; intro z; have z9 := of_decide_eq_true z; exact absurd c84 z9.2.2.2)
                | (rw [bI_t]; exact decide_eq_true ⟨c14, c21, Or.inl c35, c84⟩)
                | (rw [bI_t]; exact decide_eq_true ⟨c14, c21, Or.inr (Int32.not_le.mp c55), c84⟩)
    · try simp only [bI_0, Decidable.not_not] at c21
      refine m_blk [(.iconst 0, .int (nI 0))] (Nat.le_of_ble_eq_true rfl) (by decide +kernel) ?_
      refine gx_iconst ((gx_nil ?_))
      refine m_end (some (.int _)) rfl ⟨by decide +kernel, _, rfl, by first | rfl | (unfold bI; split <;> rfl)⟩ ?_ ?_ ?_
      all_goals first | rfl | skip
      all_goals first
        | (rw [bI_f]; intro z; have z9 := of_decide_eq_true z; exact absurd z9.1 c14)
        | (rw [bI_f]; intro z; have z9 := of_decide_eq_true z; exact absurd z9.2.1 c21)
        | (rw [bI_f]; intro z; have z9 := of_decide_eq_true z; exact z9.2.2.1.elim c35 (fun q => absurd q (Int32.not_lt.mpr c55)))
        | (rw [bI_f]; intro z; have z9 := of_decide_eq_true z; exact absurd c84 z9.2.2.2)
        | (rw [bI_t]; exact decide_eq_true ⟨c14, c21, Or.inl c35, c84⟩)
        | (rw [bI_t]; exact decide_eq_true ⟨c14, c21, Or.inr (Int32.not_le.mp c55), c84⟩)
theorem r_goesInto {c : Nat} (hc : c ≤ 20) (h3 : F 0 3 = nI c) (k : Nat) (hk : k < 20) (rt : Int32) {b : Nat} (hb : b ≤ 3) (hO : F 0 (8 + 3 * rIx rt + 2) = nI b) : mC Γ o ad M_X10_goesInto [.int (nI k), .int rt] V F 4 (some (.int (rBag (F 0) rt (F 0 (62 + 7 * k + 2)) c b))) (V) (fR F 0 (rInto (F 0) k rt c b)) := by
  have hx5 := rIx_le rt
  refine mC_of (by decide) rfl (Nat.le_of_ble_eq_true rfl) [some (.ref o), some (.int (nI k)), some (.int rt), none, none] rfl ?_
  refine m_blk [(.iload_n 1, .null)] (Nat.le_of_ble_eq_true rfl) (by decide +kernel) ?_
  refine gx_iload_n_1 ((gx_nil ?_))
  refine m_callS kX10_94 (r_letterAt _) (by decide +kernel) rfl rfl (Nat.le_of_ble_eq_true rfl) (Nat.le_of_ble_eq_true rfl) (Nat.le_of_ble_eq_true rfl) rfl ?_
  try simp only [Option.toList_some, Option.toList_none, List.cons_append, List.nil_append, bI_0, n1_0, n0_0, Decidable.not_not, not_true_eq_false, not_false_eq_true, nI_add, pk_mul, Nat.add_zero, Nat.zero_add, Nat.reduceAdd, Nat.reduceMul]
  refine m_blk [(.istore_n 3, .null), (.aload_n 0, .null), (.iload_n 2, .null), (.aload_n 0, .null)] (Nat.le_of_ble_eq_true rfl) (by decide +kernel) ?_
  refine gx_istore_n_3 rfl (gx_aload_n_0 (gx_iload_n_2 (gx_aload_n_0 ((gx_nil ?_)))))
  refine m_getR fX10_9 (by decide +kernel) rfl ?_
  refine m_blk [(.iload_n 3, .null), (.iconst 2, .int (nI 2)), (.iadd, .null)] (Nat.le_of_ble_eq_true rfl) (by decide +kernel) ?_
  refine gx_iload_n_3 (gx_iconst (gx_iadd ((gx_nil ?_))))
  try simp only [nI_add, pk_mul, Nat.add_zero, Nat.zero_add, Nat.reduceAdd, Nat.reduceMul]
  refine m_al (j := 0) rfl (by decide +kernel) (show _ < 202 from by omega) ?_
  refine m_call kX10_103 (r_bagFor hc h3 _ _ hb hO) (by decide +kernel) rfl rfl (Nat.le_of_ble_eq_true rfl) (Nat.le_of_ble_eq_true rfl) (Nat.le_of_ble_eq_true rfl) rfl ?_
  try simp only [Option.toList_some, Option.toList_none, List.cons_append, List.nil_append, bI_0, n1_0, n0_0, Decidable.not_not, not_true_eq_false, not_false_eq_true, nI_add, pk_mul, Nat.add_zero, Nat.zero_add, Nat.reduceAdd, Nat.reduceMul]
  refine m_blk [(.istore 4, .null), (.aload_n 0, .null)] (Nat.le_of_ble_eq_true rfl) (by decide +kernel) ?_
  refine gx_istore_4 rfl (gx_aload_n_0 ((gx_nil ?_)))
  refine m_getR fX10_9 (by decide +kernel) rfl ?_
  refine m_blk [(.iload_n 3, .null), (.iconst 5, .int (nI 5)), (.iadd, .null), (.iload_n 2, .null)] (Nat.le_of_ble_eq_true rfl) (by decide +kernel) ?_
  refine gx_iload_n_3 (gx_iconst (gx_iadd (gx_iload_n_2 ((gx_nil ?_)))))
  try simp only [nI_add, pk_mul, Nat.add_zero, Nat.zero_add, Nat.reduceAdd, Nat.reduceMul]
  refine m_as (j := 0) rfl (by decide +kernel) (show _ < 202 from by omega) ?_
  refine m_blk [(.aload_n 0, .null)] (Nat.le_of_ble_eq_true rfl) (by decide +kernel) ?_
  refine gx_aload_n_0 ((gx_nil ?_))
  refine m_getR fX10_9 (by decide +kernel) rfl ?_
  refine m_blk [(.iload_n 3, .null), (.bipush 6, .int (nI 6)), (.iadd, .null), (.iload 4, .null)] (Nat.le_of_ble_eq_true rfl) (by decide +kernel) ?_
  refine gx_iload_n_3 (gx_bipush (gx_iadd (gx_iload_4 ((gx_nil ?_)))))
  try simp only [nI_add, pk_mul, Nat.add_zero, Nat.zero_add, Nat.reduceAdd, Nat.reduceMul]
  refine m_as (j := 0) rfl (by decide +kernel) (show _ < 202 from by omega) ?_
  refine m_blk [(.aload_n 0, .null)] (Nat.le_of_ble_eq_true rfl) (by decide +kernel) ?_
  refine gx_aload_n_0 ((gx_nil ?_))
  refine m_getR fX10_9 (by decide +kernel) rfl ?_
  refine m_blk [(.iload_n 2, .null)] (Nat.le_of_ble_eq_true rfl) (by decide +kernel) ?_
  refine gx_iload_n_2 ((gx_nil ?_))
  refine m_callS kX10_41 (r_routeAt _) (by decide +kernel) rfl rfl (Nat.le_of_ble_eq_true rfl) (Nat.le_of_ble_eq_true rfl) (Nat.le_of_ble_eq_true rfl) rfl ?_
  try simp only [Option.toList_some, Option.toList_none, List.cons_append, List.nil_append, bI_0, n1_0, n0_0, Decidable.not_not, not_true_eq_false, not_false_eq_true, nI_add, pk_mul, Nat.add_zero, Nat.zero_add, Nat.reduceAdd, Nat.reduceMul]
  refine m_blk [(.iconst 2, .int (nI 2)), (.iadd, .null), (.aload_n 0, .null)] (Nat.le_of_ble_eq_true rfl) (by decide +kernel) ?_
  refine gx_iconst (gx_iadd (gx_aload_n_0 ((gx_nil ?_))))
  try simp only [nI_add, pk_mul, Nat.add_zero, Nat.zero_add, Nat.reduceAdd, Nat.reduceMul]
  refine m_getR fX10_9 (by decide +kernel) rfl ?_
  refine m_blk [(.iload_n 2, .null)] (Nat.le_of_ble_eq_true rfl) (by decide +kernel) ?_
  refine gx_iload_n_2 ((gx_nil ?_))
  refine m_callS kX10_41 (r_routeAt _) (by decide +kernel) rfl rfl (Nat.le_of_ble_eq_true rfl) (Nat.le_of_ble_eq_true rfl) (Nat.le_of_ble_eq_true rfl) rfl ?_
  try simp only [Option.toList_some, Option.toList_none, List.cons_append, List.nil_append, bI_0, n1_0, n0_0, Decidable.not_not, not_true_eq_false, not_false_eq_true, nI_add, pk_mul, Nat.add_zero, Nat.zero_add, Nat.reduceAdd, Nat.reduceMul]
  refine m_blk [(.iconst 2, .int (nI 2)), (.iadd, .null)] (Nat.le_of_ble_eq_true rfl) (by decide +kernel) ?_
  refine gx_iconst (gx_iadd ((gx_nil ?_)))
  try simp only [nI_add, pk_mul, Nat.add_zero, Nat.zero_add, Nat.reduceAdd, Nat.reduceMul]
  refine m_al (j := 0) rfl (by decide +kernel) (show _ < 202 from by omega) ?_
  simp only [fU_row, fR_fR, fR_s]
  rw [pk_un (by omega), pk_un (by omega)]
  refine m_blk [(.iload 4, .null), (.iconst 1, .int (nI 1)), (.iadd, .null)] (Nat.le_of_ble_eq_true rfl) (by decide +kernel) ?_
  refine gx_iload_4 (gx_iconst (gx_iadd ((gx_nil ?_))))
  try simp only [nI_add, pk_mul, Nat.add_zero, Nat.zero_add, Nat.reduceAdd, Nat.reduceMul]
  refine m_mmax kMX10_85 (by decide +kernel) (by decide) (Nat.le_of_ble_eq_true rfl) ?_
  refine m_as (j := 0) rfl (by decide +kernel) (show _ < 202 from by omega) ?_
  refine m_blk [(.iload 4, .null)] (Nat.le_of_ble_eq_true rfl) (by decide +kernel) ?_
  refine gx_iload_4 ((gx_nil ?_))
  refine m_end (some (.int _)) rfl ⟨by decide +kernel, _, rfl, rfl⟩ ?_ ?_ ?_
  all_goals first | rfl | (simp only [fU_row, fR_fR, fR_s]; rfl)
end S13ref4leantxt
