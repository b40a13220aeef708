section S10ref1leantxt
variable {Γ : gE} {o : Nat} {ad : Nat → Nat} {V : Nat → Int32} {F : Nat → Nat → Int32}
def bI (p : Prop) [Decidable p] : Int32 := if p then nI 1 else nI 0
theorem bI_t {p : Prop} [Decidable p] (h : p) : bI p = nI 1 := if_pos h
theorem bI_f {p : Prop} [Decidable p] (h : ¬ p) : bI p = nI 0 := if_neg h
theorem bI_0 {p : Prop} [Decidable p] : bI p = 0 ↔ ¬ p := by
  unfold bI
  by_cases h : p
  · rw [if_pos h]; exact ⟨fun z => absurd z (by decide), fun z => absurd h z⟩
  · rw [if_neg h]; exact ⟨fun _ => h, fun _ => rfl⟩
theorem bI_n {p : Prop} [Decidable p] : ¬ bI p = 0 ↔ p := by rw [bI_0, Decidable.not_not]
theorem n0n1 : ¬ nI 0 = nI 1 := by decide
theorem vU_s {V : Nat → Int32} {k : Nat} {x : Int32} : vU V k x k = x := if_pos rfl
theorem vU_n {V : Nat → Int32} {k j : Nat} {x : Int32} (h : j ≠ k) : vU V k x j = V j := if_neg h
theorem vU_vU {V : Nat → Int32} {k : Nat} {x y : Int32} : vU (vU V k x) k y = vU V k y := by
  funext j
  unfold vU
  split <;> rfl
def rThr (p q r : Prop) [Decidable p] [Decidable q] [Decidable r] : Int32 := if p then (if q then (if r then nI 0 else nI 3) else nI 2) else nI 1
def rIx (x : Int32) : Nat := if nI 0 ≤ x ∧ x ≤ nI 5 then x.toNatClampNeg else 0
theorem rIx_le (x : Int32) : rIx x ≤ 5 := by
  unfold rIx
  split
  · next h =>
    have h1 := Int32.le_iff_toInt_le.mp h.1
    have h2 := Int32.le_iff_toInt_le.mp h.2
    have e : (nI 5).toInt = 5 := by decide
    have e0 : (nI 0).toInt = 0 := by decide
    have : x.toNatClampNeg = x.toInt.toNat := rfl
    omega
  · omega
theorem rIx_eq {x : Int32} (h : nI 0 ≤ x ∧ x ≤ nI 5) : x = nI (rIx x) := by
  have h1 := Int32.le_iff_toInt_le.mp h.1
  have h2 := Int32.le_iff_toInt_le.mp h.2
  have e : (nI 5).toInt = 5 := by decide
  have e0 : (nI 0).toInt = 0 := by decide
  unfold rIx
  rw [if_pos h]
  apply Int32.toInt_inj.mp
  have : x.toNatClampNeg = x.toInt.toNat := rfl
  rw [nI_toInt (by omega)]
  omega
theorem rIx_n {x : Int32} (h : ¬ (nI 0 ≤ x ∧ x ≤ nI 5)) : rIx x = 0 := if_neg h
def rTens (x : Int32) : Int32 := if x = 0 then nI 1 else if x = nI 1 then nI 10 else if x = nI 2 then nI 100 else if x = nI 3 then nI 1000 else nI 10000
theorem rTens_ne (x : Int32) : ¬ rTens x = 0 := by
  unfold rTens
  split <;> (try split) <;> (try split) <;> (try split) <;> decide
def rPfx (dg ln : Int32) : Prop := (nI 1 ≤ ln ∧ ln ≤ nI 4) ∧ (nI 0 ≤ dg ∧ dg ≤ rTens ln - nI 1)

theorem r_isIn (x lo hi : Int32) : sC Γ M_X10_isIn [(.int x), (.int lo), (.int hi)] 0 (some (.int (bI (lo ≤ x ∧ x ≤ hi)))) := by
  intro h
  refine gC_of (by decide) rfl (Nat.le_of_ble_eq_true rfl) [some (.int x), some (.int lo), some (.int hi)] rfl ?_
  refine g_blk [(.iload_n 0, .null), (.iload_n 1, .null)] (Nat.le_of_ble_eq_true rfl) (by decide +kernel) ?_
  refine gx_iload_n_0 (gx_iload_n_1 ((gx_nil ?_)))
  refine g_icmp_lt (off := 12) (tgt := 14) (by decide +kernel) (by decide) (fun c2 => ?_) (fun c2 => ?_)
  · try simp only [bI_0, Decidable.not_not] at c2
    refine g_blk [(.iconst 0, .int (nI 0))] (Nat.le_of_ble_eq_true rfl) (by decide +kernel) ?_
    refine gx_iconst ((gx_nil ?_))
    refine g_end (some (.int _)) rfl ⟨by decide +kernel, _, rfl, by first | rfl | (unfold bI; split <;> rfl)⟩ ⟨?_, rfl⟩
    all_goals first | rfl | (simp_all [rThr, bI, bI_0, bI_n]; done) | (simp only [Option.some.injEq, Value.int.injEq, bI, Int32.lt_iff_toInt_lt, Int32.le_iff_toInt_le, Int32.not_lt, Int32.not_le] at *; split <;> first | rfl | omega)
  · try simp only [bI_0, Decidable.not_not] at c2
    refine g_blk [(.iload_n 0, .null), (.iload_n 2, .null)] (Nat.le_of_ble_eq_true rfl) (by decide +kernel) ?_
    refine gx_iload_n_0 (gx_iload_n_2 ((gx_nil ?_)))
    refine g_icmp_gt (off := 7) (tgt := 14) (by decide +kernel) (by decide) (fun c7 => ?_) (fun c7 => ?_)
    · try simp only [bI_0, Decidable.not_not] at c7
      refine g_blk [(.iconst 0, .int (nI 0))] (Nat.le_of_ble_eq_true rfl) (by decide +kernel) ?_
      refine gx_iconst ((gx_nil ?_))
      refine g_end (some (.int _)) rfl ⟨by decide +kernel, _, rfl, by first | rfl | (unfold bI; split <;> rfl)⟩ ⟨?_, rfl⟩
      all_goals first | rfl | (simp_all [rThr, bI, bI_0, bI_n]; done) | (simp only [Option.some.injEq, Value.int.injEq, bI, Int32.lt_iff_toInt_lt, Int32.le_iff_toInt_le, Int32.not_lt, Int32.not_le] at *; split <;> first | rfl | omega)
    · try simp only [bI_0, Decidable.not_not] at c7
      refine g_blk [(.iconst 1, .int (nI 1)), (.goto 4, .retAddr 15)] (Nat.le_of_ble_eq_true rfl) (by decide +kernel) ?_
      refine gx_iconst (gx_goto ((gx_nil ?_)))
      refine g_end (some (.int _)) rfl ⟨by decide +kernel, _, rfl, by first | rfl | (unfold bI; split <;> rfl)⟩ ⟨?_, rfl⟩
      all_goals first | rfl | (simp_all [rThr, bI, bI_0, bI_n]; done) | (simp only [Option.some.injEq, Value.int.injEq, bI, Int32.lt_iff_toInt_lt, Int32.le_iff_toInt_le, Int32.not_lt, Int32.not_le] at *; split <;> first | rfl | omega)
theorem r_letterAt (k : Nat) : sC Γ M_X10_letterAt [(.int (nI k))] 0 (some (.int (nI (62 + 7 * k)))) := by
  intro h
  refine gC_of (by decide) rfl (Nat.le_of_ble_eq_true rfl) [some (.int (nI k))] rfl ?_
  refine g_blk [(.bipush 62, .int (nI 62)), (.bipush 7, .int (nI 7)), (.iload_n 0, .null), (.imul, .null), (.iadd, .null)] (Nat.le_of_ble_eq_true rfl) (by decide +kernel) ?_
  refine gx_bipush (gx_bipush (gx_iload_n_0 (gx_imul (gx_iadd ((gx_nil ?_))))))
  try simp only [nI_add, pk_mul, Nat.add_zero, Nat.zero_add, Nat.reduceAdd, Nat.reduceMul]
  refine g_end (some (.int _)) rfl ⟨by decide +kernel, _, rfl, rfl⟩ ⟨?_, rfl⟩
  all_goals first | rfl | (simp_all [rThr, bI, bI_0, bI_n]; done) | (simp only [Option.some.injEq, Value.int.injEq, bI, Int32.lt_iff_toInt_lt, Int32.le_iff_toInt_le, Int32.not_lt, Int32.not_le] at *; split <;> first | rfl | omega)
theorem r_isRoute (x : Int32) : sC Γ M_X10_isRoute [(.int x)] 1 (some (.int (bI (nI 0 ≤ x ∧ x ≤ nI 5)))) := by
  intro h
  refine gC_of (by decide) rfl (Nat.le_of_ble_eq_true rfl) [some (.int x)] rfl ?_
  refine g_blk [(.iload_n 0, .null), (.iconst 0, .int (nI 0)), (.iconst 5, .int (nI 5))] (Nat.le_of_ble_eq_true rfl) (by decide +kernel) ?_
  refine gx_iload_n_0 (gx_iconst (gx_iconst ((gx_nil ?_))))
  refine g_callS (rc' := 0) (rs' := 0) kX10_70 (r_isIn _ _ _ h) (by decide +kernel) rfl rfl (Nat.le_of_ble_eq_true rfl) (Nat.le_of_ble_eq_true rfl) (Nat.le_of_ble_eq_true rfl) (Nat.le_refl _) (Nat.le_refl _) rfl (fun _ _ z => z.elim) (fun w9 h9 q9 => ?_)
  obtain ⟨rfl, e9⟩ := q9
  rw [e9]
  clear e9
  try simp only [Option.toList_some, List.cons_append, List.nil_append, nI_add, pk_mul, Nat.add_zero, Nat.zero_add, Nat.reduceAdd, Nat.reduceMul]
  refine g_end (some (.int _)) rfl ⟨by decide +kernel, _, rfl, by first | rfl | (unfold bI; split <;> rfl)⟩ ⟨?_, rfl⟩
  all_goals first | rfl | (simp_all [rThr, bI, bI_0, bI_n]; done) | (simp only [Option.some.injEq, Value.int.injEq, bI, Int32.lt_iff_toInt_lt, Int32.le_iff_toInt_le, Int32.not_lt, Int32.not_le] at *; split <;> first | rfl | omega)
theorem r_isCode (x : Int32) : sC Γ M_X10_isCode [(.int x)] 1 (some (.int (bI (nI 0 ≤ x ∧ x ≤ nI 9999)))) := by
  intro h
  refine gC_of (by decide) rfl (Nat.le_of_ble_eq_true rfl) [some (.int x)] rfl ?_
  refine g_blk [(.iload_n 0, .null), (.iconst 0, .int (nI 0)), (.sipush 9999, .int (nI 9999))] (Nat.le_of_ble_eq_true rfl) (by decide +kernel) ?_
  refine gx_iload_n_0 (gx_iconst (gx_sipush ((gx_nil ?_))))
  refine g_callS (rc' := 0) (rs' := 0) kX10_70 (r_isIn _ _ _ h) (by decide +kernel) rfl rfl (Nat.le_of_ble_eq_true rfl) (Nat.le_of_ble_eq_true rfl) (Nat.le_of_ble_eq_true rfl) (Nat.le_refl _) (Nat.le_refl _) rfl (fun _ _ z => z.elim) (fun w9 h9 q9 => ?_)
  obtain ⟨rfl, e9⟩ := q9
  rw [e9]
  clear e9
  try simp only [Option.toList_some, List.cons_append, List.nil_append, nI_add, pk_mul, Nat.add_zero, Nat.zero_add, Nat.reduceAdd, Nat.reduceMul]
  refine g_end (some (.int _)) rfl ⟨by decide +kernel, _, rfl, by first | rfl | (unfold bI; split <;> rfl)⟩ ⟨?_, rfl⟩
  all_goals first | rfl | (simp_all [rThr, bI, bI_0, bI_n]; done) | (simp only [Option.some.injEq, Value.int.injEq, bI, Int32.lt_iff_toInt_lt, Int32.le_iff_toInt_le, Int32.not_lt, Int32.not_le] at *; split <;> first | rfl | omega)
theorem r_tens (x : Int32) : sC Γ M_X10_tens [(.int x)] 0 (some (.int (rTens x))) := by
  intro h
  refine gC_of (by decide) rfl (Nat.le_of_ble_eq_true rfl) [some (.int x)] rfl ?_
  refine g_blk [(.iload_n 0, .null)] (Nat.le_of_ble_eq_true rfl) (by decide +kernel) ?_
  refine gx_iload_n_0 ((gx_nil ?_))
  refine g_if_ne (off := 7) (tgt := 8) (by decide +kernel) (by decide) (fun c1 => ?_) (fun c1 => ?_)
  · try simp only [bI_0, Decidable.not_not] at c1
    refine g_blk [(.iload_n 0, .null), (.iconst 1, .int (nI 1))] (Nat.le_of_ble_eq_true rfl) (by decide +kernel) ?_
    refine gx_iload_n_0 (gx_iconst ((gx_nil ?_)))
    refine g_icmp_ne (off := 8) (tgt := 18) (by decide +kernel) (by decide) (fun c10 => ?_) (fun c10 => ?_)
    · try simp only [bI_0, Decidable.not_not] at c10
      refine g_blk [(.iload_n 0, .null), (.iconst 2, .int (nI 2))] (Nat.le_of_ble_eq_true rfl) (by decide +kernel) ?_
      refine gx_iload_n_0 (gx_iconst ((gx_nil ?_)))
      refine g_icmp_ne (off := 8) (tgt := 28) (by decide +kernel) (by decide) (fun c20 => ?_) (fun c20 => ?_)
      · try simp only [bI_0, Decidable.not_not] at c20
        refine g_blk [(.iload_n 0, .null), (.iconst 3, .int (nI 3))] (Nat.le_of_ble_eq_true rfl) (by decide +kernel) ?_
        refine gx_iload_n_0 (gx_iconst ((gx_nil ?_)))
        refine g_icmp_ne (off := 9) (tgt := 39) (by decide +kernel) (by decide) (fun c30 => ?_) (fun c30 => ?_)
        · try simp only [bI_0, Decidable.not_not] at c30
          refine g_blk [(.sipush 10000, .int (nI 10000))] (Nat.le_of_ble_eq_true rfl) (by decide +kernel) ?_
          refine gx_sipush ((gx_nil ?_))
          refine g_end (some (.int _)) rfl ⟨by decide +kernel, _, rfl, rfl⟩ ⟨?_, rfl⟩
          all_goals first | rfl | (simp_all [rTens]; done) | (simp only [Option.some.injEq, Value.int.injEq, bI, Int32.lt_iff_toInt_lt, Int32.le_iff_toInt_le, Int32.not_lt, Int32.not_le] at *; split <;> first | rfl | omega)
        · try simp only [bI_0, Decidable.not_not] at c30
          refine g_blk [(.sipush 1000, .int (nI 1000)), (.goto 6, .retAddr 42)] (Nat.le_of_ble_eq_true rfl) (by decide +kernel) ?_
          refine gx_sipush (gx_goto ((gx_nil ?_)))
          refine g_end (some (.int _)) rfl ⟨by decide +kernel, _, rfl, rfl⟩ ⟨?_, rfl⟩
          all_goals first | rfl | (simp_all [rTens]; done) | (simp only [Option.some.injEq, Value.int.injEq, bI, Int32.lt_iff_toInt_lt, Int32.le_iff_toInt_le, Int32.not_lt, Int32.not_le] at *; split <;> first | rfl | omega)
      · try simp only [bI_0, Decidable.not_not] at c20
        refine g_blk [(.bipush 100, .int (nI 100)), (.goto 17, .retAddr 42)] (Nat.le_of_ble_eq_true rfl) (by decide +kernel) ?_
        refine gx_bipush (gx_goto ((gx_nil ?_)))
        refine g_end (some (.int _)) rfl ⟨by decide +kernel, _, rfl, rfl⟩ ⟨?_, rfl⟩
        all_goals first | rfl | (simp_all [rTens]; done) | (simp only [Option.some.injEq, Value.int.injEq, bI, Int32.lt_iff_toInt_lt, Int32.le_iff_toInt_le, Int32.not_lt, Int32.not_le] at *; split <;> first | rfl | omega)
    · try simp only [bI_0, Decidable.not_not] at c10
      refine g_blk [(.bipush 10, .int (nI 10)), (.goto 27, .retAddr 42)] (Nat.le_of_ble_eq_true rfl) (by decide +kernel) ?_
      refine gx_bipush (gx_goto ((gx_nil ?_)))
      refine g_end (some (.int _)) rfl ⟨by decide +kernel, _, rfl, rfl⟩ ⟨?_, rfl⟩
      all_goals first | rfl | (simp_all [rTens]; done) | (simp only [Option.some.injEq, Value.int.injEq, bI, Int32.lt_iff_toInt_lt, Int32.le_iff_toInt_le, Int32.not_lt, Int32.not_le] at *; split <;> first | rfl | omega)
  · try simp only [bI_0, Decidable.not_not] at c1
    refine g_blk [(.iconst 1, .int (nI 1)), (.goto 37, .retAddr 42)] (Nat.le_of_ble_eq_true rfl) (by decide +kernel) ?_
    refine gx_iconst (gx_goto ((gx_nil ?_)))
    refine g_end (some (.int _)) rfl ⟨by decide +kernel, _, rfl, rfl⟩ ⟨?_, rfl⟩
    all_goals first | rfl | (simp_all [rTens]; done) | (simp only [Option.some.injEq, Value.int.injEq, bI, Int32.lt_iff_toInt_lt, Int32.le_iff_toInt_le, Int32.not_lt, Int32.not_le] at *; split <;> first | rfl | omega)
def rPx (dg ln : Int32) : Bool := decide ((nI 1 ≤ ln ∧ ln ≤ nI 4) ∧ (nI 0 ≤ dg ∧ dg ≤ rTens ln - nI 1))
theorem r_isPrefix (dg ln : Int32) : sC Γ M_X10_isPrefix [(.int dg), (.int ln)] 1 (some (.int (bI (rPx dg ln = true)))) := by
  intro h
  refine gC_of (by decide) rfl (Nat.le_of_ble_eq_true rfl) [some (.int dg), some (.int ln)] rfl ?_
  refine g_blk [(.iload_n 1, .null), (.iconst 1, .int (nI 1)), (.iconst 4, .int (nI 4))] (Nat.le_of_ble_eq_true rfl) (by decide +kernel) ?_
  refine gx_iload_n_1 (gx_iconst (gx_iconst ((gx_nil ?_))))
  refine g_callS (rc' := 0) (rs' := 0) kX10_70 (r_isIn _ _ _ h) (by decide +kernel) rfl rfl (Nat.le_of_ble_eq_true rfl) (Nat.le_of_ble_eq_true rfl) (Nat.le_of_ble_eq_true rfl) (Nat.le_refl _) (Nat.le_refl _) rfl (fun _ _ z => z.elim) (fun w9 h9 q9 => ?_)
  obtain ⟨rfl, e9⟩ := q9
  rw [e9]
  clear e9
  try simp only [Option.toList_some, List.cons_append, List.nil_append, nI_add, pk_mul, Nat.add_zero, Nat.zero_add, Nat.reduceAdd, Nat.reduceMul]
  refine g_if_eq (off := 21) (tgt := 27) (by decide +kernel) (by decide) (fun c6 => ?_) (fun c6 => ?_)
  · try simp only [bI_0, Decidable.not_not] at c6
    refine g_blk [(.iconst 0, .int (nI 0))] (Nat.le_of_ble_eq_true rfl) (by decide +kernel) ?_
    refine gx_iconst ((gx_nil ?_))
    refine g_end (some (.int _)) rfl ⟨by decide +kernel, _, rfl, by first | rfl | (unfold bI; split <;> rfl)⟩ ⟨?_, rfl⟩
    first
      | (rw [bI_t (by unfold rPx; exact decide_eq_true ⟨c6, c20⟩)]; done)
      | (rw [bI_f (by unfold rPx; intro z; exact c6 (of_decide_eq_true z).1)]; done)
      | (rw [bI_f (by unfold rPx; intro z; exact c20 (of_decide_eq_true z).2)]; done)
  · try simp only [bI_0, Decidable.not_not] at c6
    refine g_blk [(.iload_n 0, .null), (.iconst 0, .int (nI 0)), (.iload_n 1, .null)] (Nat.le_of_ble_eq_true rfl) (by decide +kernel) ?_
    refine gx_iload_n_0 (gx_iconst (gx_iload_n_1 ((gx_nil ?_))))
    refine g_callS (rc' := 0) (rs' := 0) kX10_78 (r_tens _ h) (by decide +kernel) rfl rfl (Nat.le_of_ble_eq_true rfl) (Nat.le_of_ble_eq_true rfl) (Nat.le_of_ble_eq_true rfl) (Nat.le_refl _) (Nat.le_refl _) rfl (fun _ _ z => z.elim) (fun w9 h9 q9 => ?_)
    obtain ⟨rfl, e9⟩ := q9
    rw [e9]
    clear e9
    try simp only [Option.toList_some, List.cons_append, List.nil_append, nI_add, pk_mul, Nat.add_zero, Nat.zero_add, Nat.reduceAdd, Nat.reduceMul]
    refine g_blk [(.iconst 1, .int (nI 1)), (.isub, .null)] (Nat.le_of_ble_eq_true rfl) (by decide +kernel) ?_
    refine gx_iconst (gx_isub ((gx_nil ?_)))
    refine g_callS (rc' := 0) (rs' := 0) kX10_70 (r_isIn _ _ _ h) (by decide +kernel) rfl rfl (Nat.le_of_ble_eq_true rfl) (Nat.le_of_ble_eq_true rfl) (Nat.le_of_ble_eq_true rfl) (Nat.le_refl _) (Nat.le_refl _) rfl (fun _ _ z => z.elim) (fun w9 h9 q9 => ?_)
    obtain ⟨rfl, e9⟩ := q9
    rw [e9]
    clear e9
    try simp only [Option.toList_some, List.cons_append, List.nil_append, nI_add, pk_mul, Nat.add_zero, Nat.zero_add, Nat.reduceAdd, Nat.reduceMul]
    refine g_if_eq (off := 7) (tgt := 27) (by decide +kernel) (by decide) (fun c20 => ?_) (fun c20 => ?_)
    · try simp only [bI_0, Decidable.not_not] at c20
      refine g_blk [(.iconst 0, .int (nI 0))] (Nat.le_of_ble_eq_true rfl) (by decide +kernel) ?_
      refine gx_iconst ((gx_nil ?_))
      refine g_end (some (.int _)) rfl ⟨by decide +kernel, _, rfl, by first | rfl | (unfold bI; split <;> rfl)⟩ ⟨?_, rfl⟩
      first
        | (rw [bI_t (by unfold rPx; exact decide_eq_true ⟨c6, c20⟩)]; done)
        | (rw [bI_f (by unfold rPx; intro z; exact c6 (of_decide_eq_true z).1)]; done)
        | (rw [bI_f (by unfold rPx; intro z; exact c20 (of_decide_eq_true z).2)]; done)
    · try simp only [bI_0, Decidable.not_not] at c20
      refine g_blk [(.iconst 1, .int (nI 1)), (.goto 4, .retAddr 28)] (Nat.le_of_ble_eq_true rfl) (by decide +kernel) ?_
      refine gx_iconst (gx_goto ((gx_nil ?_)))
      refine g_end (some (.int _)) rfl ⟨by decide +kernel, _, rfl, by first | rfl | (unfold bI; split <;> rfl)⟩ ⟨?_, rfl⟩
      first
        | (rw [bI_t (by unfold rPx; exact decide_eq_true ⟨c6, c20⟩)]; done)
        | (rw [bI_f (by unfold rPx; intro z; exact c6 (of_decide_eq_true z).1)]; done)
        | (rw [bI_f (by unfold rPx; intro z; exact c20 (of_decide_eq_true z).2)]; done)
theorem r_routeAt (x : Int32) : sC Γ M_X10_routeAt [(.int x)] 2 (some (.int (nI (8 + 3 * rIx x)))) := by
  intro h
  refine gC_of (by decide) rfl (Nat.le_of_ble_eq_true rfl) [some (.int x)] rfl ?_
  refine g_blk [(.bipush 8, .int (nI 8)), (.iconst 3, .int (nI 3)), (.iload_n 0, .null)] (Nat.le_of_ble_eq_true rfl) (by decide +kernel) ?_
  refine gx_bipush (gx_iconst (gx_iload_n_0 ((gx_nil ?_))))
  refine g_callS (rc' := 0) (rs' := 0) kX10_74 (r_isRoute _ h) (by decide +kernel) rfl rfl (Nat.le_of_ble_eq_true rfl) (Nat.le_of_ble_eq_true rfl) (Nat.le_of_ble_eq_true rfl) (Nat.le_refl _) (Nat.le_refl _) rfl (fun _ _ z => z.elim) (fun w9 h9 q9 => ?_)
  obtain ⟨rfl, e9⟩ := q9
  rw [e9]
  clear e9
  try simp only [Option.toList_some, List.cons_append, List.nil_append, nI_add, pk_mul, Nat.add_zero, Nat.zero_add, Nat.reduceAdd, Nat.reduceMul]
  refine g_if_eq (off := 7) (tgt := 14) (by decide +kernel) (by decide) (fun c7 => ?_) (fun c7 => ?_)
  · try simp only [bI_0, Decidable.not_not] at c7
    rw [rIx_n c7]
    refine g_blk [(.iconst 0, .int (nI 0)), (.imul, .null), (.iadd, .null)] (Nat.le_of_ble_eq_true rfl) (by decide +kernel) ?_
    refine gx_iconst (gx_imul (gx_iadd ((gx_nil ?_))))
    try simp only [nI_add, pk_mul, Nat.add_zero, Nat.zero_add, Nat.reduceAdd, Nat.reduceMul]
    refine g_end (some (.int _)) rfl ⟨by decide +kernel, _, rfl, rfl⟩ ⟨?_, rfl⟩
    all_goals first | rfl | (simp_all [rThr, bI, bI_0, bI_n]; done) | (simp only [Option.some.injEq, Value.int.injEq, bI, Int32.lt_iff_toInt_lt, Int32.le_iff_toInt_le, Int32.not_lt, Int32.not_le] at *; split <;> first | rfl | omega)
  · try simp only [bI_0, Decidable.not_not] at c7
    have e9 := rIx_eq c7
    generalize rIx x = j at e9 ⊢
    subst e9
    refine g_blk [(.iload_n 0, .null), (.goto 4, .retAddr 15), (.imul, .null), (.iadd, .null)] (Nat.le_of_ble_eq_true rfl) (by decide +kernel) ?_
    refine gx_iload_n_0 (gx_goto (gx_imul (gx_iadd ((gx_nil ?_)))))
    try simp only [nI_add, pk_mul, Nat.add_zero, Nat.zero_add, Nat.reduceAdd, Nat.reduceMul]
    refine g_end (some (.int _)) rfl ⟨by decide +kernel, _, rfl, rfl⟩ ⟨?_, rfl⟩
    all_goals first | rfl | (simp_all [rThr, bI, bI_0, bI_n]; done) | (simp only [Option.some.injEq, Value.int.injEq, bI, Int32.lt_iff_toInt_lt, Int32.le_iff_toInt_le, Int32.not_lt, Int32.not_le] at *; split <;> first | rfl | omega)
theorem r_thrown  : mC Γ o ad M_X10_thrown [] V F 0 (some (.int (V 13))) (V) (F) := by
  refine mC_of (by decide) rfl (Nat.le_of_ble_eq_true rfl) [some (.ref o)] rfl ?_
  refine m_blk [(.aload_n 0, .null)] (Nat.le_of_ble_eq_true rfl) (by decide +kernel) ?_
  refine gx_aload_n_0 ((gx_nil ?_))
  refine m_getI fX10_45 (by decide +kernel) rfl ?_
  refine m_end (some (.int _)) rfl ⟨by decide +kernel, _, rfl, rfl⟩ ?_ ?_ ?_
  all_goals first | rfl | (simp_all [rThr, bI, bI_0, bI_n]; done) | (simp only [Option.some.injEq, Value.int.injEq, bI, Int32.lt_iff_toInt_lt, Int32.le_iff_toInt_le, Int32.not_lt, Int32.not_le] at *; split <;> first | rfl | omega)
end S10ref1leantxt
