/-! THE CLASS: the office as the reference's row, what reads it -/
section GOf
variable {Γ : gE} {de : Nat} {h : gHp}
def gBg (N : Nat → Int32) (i : Nat) : Int32 := if N (62 + 7 * i + 5) = -1 then -1 else N (62 + 7 * i + 6)
def gLet (h : gHp) (N : Nat → Int32) (i a : Nat) : Prop := h a = some (gJ 6 [.int (N (62 + 7 * i)), .int (N (62 + 7 * i + 1)), .int (N (62 + 7 * i + 2)), .int (N (62 + 7 * i + 3)), .int (N (62 + 7 * i + 4)), .int (N (62 + 7 * i + 5)), .int (gBg N i)])
def gSpan (N : Nat → Int32) (j : Nat) : Int32 := rTens (nI 4 - N (26 + 3 * j + 1))
def gPre (h : gHp) (N : Nat → Int32) (j p : Nat) : Prop := h p = some (gJ 9 [.int (N (26 + 3 * j)), .int (N (26 + 3 * j + 1)), .int (N (26 + 3 * j + 2)), .int (gSpan N j), .int (N (26 + 3 * j) * gSpan N j)])
def gOx (Γ : gE) (de : Nat) (h : gHp) (o : Nat) (N : Nat → Int32) (c t la ta ca da ba pa ep : Nat) (fl fq ls ps : List Nat) : Prop :=
  h o = some (gJ 7 [.ref la, .ref ta, .ref ca, .ref da, .ref ba, .int (N 0), .int (N 1), .int (N 2), .int (N 5), .int (N 6), .int (N 7)]) ∧ gAL Γ de h la fl ls ∧ ls.length = c ∧ (∀ i a, ls[i]? = some a → gLet h N i a) ∧ h ta = some (gJ 11 [.ref pa, .ref ep]) ∧ gAL Γ de h pa fq ps ∧ ps.length = t ∧ (∀ j p, ps[j]? = some p → gPre h N j p) ∧ h ep = some (gJ 9 [.int 0, .int 0, .int (-1), .int (nI 10000), .int 0]) ∧ (∃ f, h ca = some (gI Γ 6 f) ∧ ∀ r, r < 6 → f r = N (8 + 3 * r)) ∧ (∃ f, h da = some (gI Γ 6 f) ∧ ∀ r, r < 6 → f r = N (8 + 3 * r + 1)) ∧ ∃ f, h ba = some (gI Γ 6 f) ∧ ∀ r, r < 6 → f r = N (8 + 3 * r + 2)
theorem al_cell {a : Nat} {fp xs : List Nat} (H : gAL Γ de h a fp xs) : h a = some (.inr (4, (Classical.choose (show ∃ fs, h a = some (gJ 4 fs) from by obtain ⟨_, _, _, _, ⟨z, -⟩, -⟩ := H; exact ⟨_, z⟩)))) := Classical.choose_spec (show ∃ fs, h a = some (gJ 4 fs) from by obtain ⟨_, _, _, _, ⟨z, -⟩, -⟩ := H; exact ⟨_, z⟩)
theorem pc_isRoute (x : Int32) : pC Γ M_X9_isRoute [.int x] h 0 (some (.int (bI (nI 0 ≤ x ∧ x ≤ nI 5)))) := by
  refine pC_of (by decide) rfl (Nat.le_of_ble_eq_true rfl) [some (.int x)] rfl ?_
  have hz0 : nI 0 = (0 : Int32) := by decide
  have e6 : x < nI 6 ↔ x ≤ nI 5 := by
    have e1 : (nI 6).toInt = 6 := by decide
    have e2 : (nI 5).toInt = 5 := by decide
    rw [Int32.lt_iff_toInt_lt, Int32.le_iff_toInt_le]
    omega
  refine g_blk [(.iload_n 0, .null)] (Nat.le_of_ble_eq_true rfl) (by decide +kernel) ?_
  refine gx_iload_n_0 ((gx_nil ?_))
  refine g_if_lt (off := 13) (tgt := 14) (by decide +kernel) (by decide) (fun c1 => ?_) (fun c1 => ?_)
  · try simp only [bI_0, Decidable.not_not] at c1
    refine g_blk [(.iconst 0, .int (nI 0))] (Nat.le_of_ble_eq_true rfl) (by decide +kernel) ?_
    refine gx_iconst ((gx_nil ?_))
    refine g_end (some (.int _)) rfl ⟨by decide +kernel, _, rfl, by first | rfl | exact bI_nar _⟩ ⟨?_, rfl⟩
    first | rw [bI_t (p := nI 0 ≤ x ∧ x ≤ nI 5) ⟨by rw [hz0]; exact Int32.not_lt.mp c1, e6.mp (Int32.not_le.mp c7)⟩] | rw [bI_f (p := nI 0 ≤ x ∧ x ≤ nI 5) (fun z => absurd c1 (Int32.not_lt.mpr (by rw [← hz0]; exact z.1)))] | rw [bI_f (p := nI 0 ≤ x ∧ x ≤ nI 5) (fun z => absurd (e6.mpr z.2) (Int32.not_lt.mpr c7))]
  · try simp only [bI_0, Decidable.not_not] at c1
    refine g_blk [(.iload_n 0, .null), (.bipush 6, .int (nI 6))] (Nat.le_of_ble_eq_true rfl) (by decide +kernel) ?_
    refine gx_iload_n_0 (gx_bipush ((gx_nil ?_)))
    refine g_icmp_ge (off := 7) (tgt := 14) (by decide +kernel) (by decide) (fun c7 => ?_) (fun c7 => ?_)
    · try simp only [bI_0, Decidable.not_not] at c7
      refine g_blk [(.iconst 0, .int (nI 0))] (Nat.le_of_ble_eq_true rfl) (by decide +kernel) ?_
      refine gx_iconst ((gx_nil ?_))
      refine g_end (some (.int _)) rfl ⟨by decide +kernel, _, rfl, by first | rfl | exact bI_nar _⟩ ⟨?_, rfl⟩
      first | rw [bI_t (p := nI 0 ≤ x ∧ x ≤ nI 5) ⟨by rw [hz0]; exact Int32.not_lt.mp c1, e6.mp (Int32.not_le.mp c7)⟩] | rw [bI_f (p := nI 0 ≤ x ∧ x ≤ nI 5) (fun z => absurd c1 (Int32.not_lt.mpr (by rw [← hz0]; exact z.1)))] | rw [bI_f (p := nI 0 ≤ x ∧ x ≤ nI 5) (fun z => absurd (e6.mpr z.2) (Int32.not_lt.mpr c7))]
    · try simp only [bI_0, Decidable.not_not] at c7
      refine g_blk [(.iconst 1, .int (nI 1)), (.goto 4, .retAddr 15)] (Nat.le_of_ble_eq_true rfl) (by decide +kernel) ?_
      refine gx_iconst (gx_goto ((gx_nil ?_)))
      refine g_end (some (.int _)) rfl ⟨by decide +kernel, _, rfl, by first | rfl | exact bI_nar _⟩ ⟨?_, rfl⟩
      first | rw [bI_t (p := nI 0 ≤ x ∧ x ≤ nI 5) ⟨by rw [hz0]; exact Int32.not_lt.mp c1, e6.mp (Int32.not_le.mp c7)⟩] | rw [bI_f (p := nI 0 ≤ x ∧ x ≤ nI 5) (fun z => absurd c1 (Int32.not_lt.mpr (by rw [← hz0]; exact z.1)))] | rw [bI_f (p := nI 0 ≤ x ∧ x ≤ nI 5) (fun z => absurd (e6.mpr z.2) (Int32.not_lt.mpr c7))]
theorem le_inTray {a : Nat} {N : Nat → Int32} {i : Nat} (hl9 : gLet h N i a) : pC Γ M_X3_inTray [.ref a] h 0 (some (.int (bI (N (62 + 7 * i + 5) = -1)))) := by
  refine pC_of (by decide) rfl (Nat.le_of_ble_eq_true rfl) [some (.ref a)] rfl ?_
  refine g_blk [(.aload_n 0, .null)] (Nat.le_of_ble_eq_true rfl) (by decide +kernel) ?_
  refine gx_aload_n_0 ((gx_nil ?_))
  refine g_getf fX3_15 (by decide +kernel) hl9 rfl ?_
  refine g_blk [(.iconst (-1), .int (-1))] (Nat.le_of_ble_eq_true rfl) (by decide +kernel) ?_
  refine gx_iconst ((gx_nil ?_))
  refine g_icmp_ne (off := 7) (tgt := 12) (by decide +kernel) (by decide) (fun c5 => ?_) (fun c5 => ?_)
  · try simp only [bI_0, Decidable.not_not] at c5
    refine g_blk [(.iconst 0, .int (nI 0))] (Nat.le_of_ble_eq_true rfl) (by decide +kernel) ?_
    refine gx_iconst ((gx_nil ?_))
    refine g_end (some (.int _)) rfl ⟨by decide +kernel, _, rfl, by first | rfl | exact bI_nar _⟩ ⟨?_, rfl⟩
    first | rw [bI_t c5] | rw [bI_f c5]
  · try simp only [bI_0, Decidable.not_not] at c5
    refine g_blk [(.iconst 1, .int (nI 1)), (.goto 4, .retAddr 13)] (Nat.le_of_ble_eq_true rfl) (by decide +kernel) ?_
    refine gx_iconst (gx_goto ((gx_nil ?_)))
    refine g_end (some (.int _)) rfl ⟨by decide +kernel, _, rfl, by first | rfl | exact bI_nar _⟩ ⟨?_, rfl⟩
    first | rw [bI_t c5] | rw [bI_f c5]
theorem le_isIn {a : Nat} {N : Nat → Int32} {i : Nat} (hl9 : gLet h N i a) (r b : Int32) : pC Γ M_X3_isIn [.ref a, .int r, .int b] h 0 (some (.int (bI (N (62 + 7 * i + 5) = r ∧ gBg N i = b)))) := by
  refine pC_of (by decide) rfl (Nat.le_of_ble_eq_true rfl) [some (.ref a), some (.int r), some (.int b)] rfl ?_
  refine g_blk [(.aload_n 0, .null)] (Nat.le_of_ble_eq_true rfl) (by decide +kernel) ?_
  refine gx_aload_n_0 ((gx_nil ?_))
  refine g_getf fX3_15 (by decide +kernel) hl9 rfl ?_
  refine g_blk [(.iload_n 1, .null)] (Nat.le_of_ble_eq_true rfl) (by decide +kernel) ?_
  refine gx_iload_n_1 ((gx_nil ?_))
  refine g_icmp_ne (off := 15) (tgt := 20) (by decide +kernel) (by decide) (fun c5 => ?_) (fun c5 => ?_)
  · try simp only [bI_0, Decidable.not_not] at c5
    refine g_blk [(.iconst 0, .int (nI 0))] (Nat.le_of_ble_eq_true rfl) (by decide +kernel) ?_
    refine gx_iconst ((gx_nil ?_))
    refine g_end (some (.int _)) rfl ⟨by decide +kernel, _, rfl, by first | rfl | exact bI_nar _⟩ ⟨?_, rfl⟩
    first | rw [bI_t (p := N (62 + 7 * i + 5) = r ∧ gBg N i = b) ⟨c5, c13⟩] | rw [bI_f (p := N (62 + 7 * i + 5) = r ∧ gBg N i = b) (fun z => c5 z.1)] | rw [bI_f (p := N (62 + 7 * i + 5) = r ∧ gBg N i = b) (fun z => c13 z.2)]
  · try simp only [bI_0, Decidable.not_not] at c5
    refine g_blk [(.aload_n 0, .null)] (Nat.le_of_ble_eq_true rfl) (by decide +kernel) ?_
    refine gx_aload_n_0 ((gx_nil ?_))
    refine g_getf fX3_18 (by decide +kernel) hl9 rfl ?_
    refine g_blk [(.iload_n 2, .null)] (Nat.le_of_ble_eq_true rfl) (by decide +kernel) ?_
    refine gx_iload_n_2 ((gx_nil ?_))
    refine g_icmp_ne (off := 7) (tgt := 20) (by decide +kernel) (by decide) (fun c13 => ?_) (fun c13 => ?_)
    · try simp only [bI_0, Decidable.not_not] at c13
      refine g_blk [(.iconst 0, .int (nI 0))] (Nat.le_of_ble_eq_true rfl) (by decide +kernel) ?_
      refine gx_iconst ((gx_nil ?_))
      refine g_end (some (.int _)) rfl ⟨by decide +kernel, _, rfl, by first | rfl | exact bI_nar _⟩ ⟨?_, rfl⟩
      first | rw [bI_t (p := N (62 + 7 * i + 5) = r ∧ gBg N i = b) ⟨c5, c13⟩] | rw [bI_f (p := N (62 + 7 * i + 5) = r ∧ gBg N i = b) (fun z => c5 z.1)] | rw [bI_f (p := N (62 + 7 * i + 5) = r ∧ gBg N i = b) (fun z => c13 z.2)]
    · try simp only [bI_0, Decidable.not_not] at c13
      refine g_blk [(.iconst 1, .int (nI 1)), (.goto 4, .retAddr 21)] (Nat.le_of_ble_eq_true rfl) (by decide +kernel) ?_
      refine gx_iconst (gx_goto ((gx_nil ?_)))
      refine g_end (some (.int _)) rfl ⟨by decide +kernel, _, rfl, by first | rfl | exact bI_nar _⟩ ⟨?_, rfl⟩
      first | rw [bI_t (p := N (62 + 7 * i + 5) = r ∧ gBg N i = b) ⟨c5, c13⟩] | rw [bI_f (p := N (62 + 7 * i + 5) = r ∧ gBg N i = b) (fun z => c5 z.1)] | rw [bI_f (p := N (62 + 7 * i + 5) = r ∧ gBg N i = b) (fun z => c13 z.2)]
def rUq (N : Nat → Int32) (c : Nat) : Prop := ∀ i j, i < j → j < c → ¬ N (62 + 7 * i) = N (62 + 7 * j)
def rUp (N : Nat → Int32) (t : Nat) : Prop := ∀ i j, i < j → j < t → ¬ (N (26 + 3 * i) = N (26 + 3 * j) ∧ N (26 + 3 * i + 1) = N (26 + 3 * j + 1))
theorem rPlace_no {N : Nat → Int32} {id : Int32} : ∀ {c : Nat}, (∀ j, j < c → ¬ N (62 + 7 * j) = id) → rPlace N id c = -1
  | 0, _ => rfl
  | c + 1, h => by
    show (if N (62 + 7 * c) = id then nI c else rPlace N id c) = -1
    rw [if_neg (h c (Nat.lt_succ_self _))]
    exact rPlace_no (fun j hj => h j (Nat.lt_succ_of_lt hj))
theorem rPlace_at {N : Nat → Int32} {id : Int32} {i : Nat} (e : N (62 + 7 * i) = id) : ∀ {c : Nat}, i < c → (∀ j, i < j → j < c → ¬ N (62 + 7 * j) = id) → rPlace N id c = nI i
  | 0, h, _ => absurd h (Nat.not_lt_zero _)
  | c + 1, h, u => by
    show (if N (62 + 7 * c) = id then nI c else rPlace N id c) = nI i
    by_cases z : i = c
    · subst z; rw [if_pos e]
    · rw [if_neg (u c (by omega) (Nat.lt_succ_self _))]
      exact rPlace_at e (by omega) (fun j h1 h2 => u j h1 (Nat.lt_succ_of_lt h2))
theorem rFind_no {N : Nat → Int32} {dg ln : Int32} : ∀ {c : Nat}, (∀ j, j < c → ¬ (N (26 + 3 * j) = dg ∧ N (26 + 3 * j + 1) = ln)) → rFind N dg ln c = -1
  | 0, _ => rfl
  | c + 1, h => by
    show (if N (26 + 3 * c) = dg ∧ N (26 + 3 * c + 1) = ln then nI c else rFind N dg ln c) = -1
    rw [if_neg (h c (Nat.lt_succ_self _))]
    exact rFind_no (fun j hj => h j (Nat.lt_succ_of_lt hj))
theorem rFind_at {N : Nat → Int32} {dg ln : Int32} {i : Nat} (e : N (26 + 3 * i) = dg ∧ N (26 + 3 * i + 1) = ln) : ∀ {c : Nat}, i < c → (∀ j, i < j → j < c → ¬ (N (26 + 3 * j) = dg ∧ N (26 + 3 * j + 1) = ln)) → rFind N dg ln c = nI i
  | 0, h, _ => absurd h (Nat.not_lt_zero _)
  | c + 1, h, u => by
    show (if N (26 + 3 * c) = dg ∧ N (26 + 3 * c + 1) = ln then nI c else rFind N dg ln c) = nI i
    by_cases z : i = c
    · subst z; rw [if_pos e]
    · rw [if_neg (u c (by omega) (Nat.lt_succ_self _))]
      exact rFind_at e (by omega) (fun j h1 h2 => u j h1 (Nat.lt_succ_of_lt h2))
/-- the letter with an id, or null -/
def gLw (N : Nat → Int32) (id : Int32) (c : Nat) (ls : List Nat) : Value := if rPlace N id c = -1 then .null else .ref ((ls[(rPlace N id c).toNatClampNeg]?).getD 0)
theorem gLw_no {N : Nat → Int32} {id : Int32} {c : Nat} {ls : List Nat} (h : rPlace N id c = -1) : gLw N id c ls = .null := if_pos h
theorem gLw_at {N : Nat → Int32} {id : Int32} {c i a : Nat} {ls : List Nat} (h : rPlace N id c = nI i) (hi : i < 2 ^ 31) (ha : ls[i]? = some a) : gLw N id c ls = .ref a := by
  unfold gLw
  rw [h, if_neg (nI_nm1 hi), nI_clamp hi, ha]
  rfl
theorem of_letterWith {o c t la ta ca da ba pa ep : Nat} {fl fq ls ps : List Nat} {N : Nat → Int32} (H : gOx Γ de h o N c t la ta ca da ba pa ep fl fq ls ps) (hc : c ≤ 20) (hu : rUq N c) (id : Int32) : pC Γ M_X4_letterWith [.ref o, .int id] h 3 (some (gLw N id c ls)) := by
  have H0 := H
  obtain ⟨ho, HL, hlc, hls, hta, HP, hpc, hps, hep, ⟨fc, hca, hfc⟩, ⟨fd, hda, hfd⟩, ⟨fb, hba, hfb⟩⟩ := H0
  have loop : ∀ n i, i ≤ c → c < i + n → (∀ j, j < i → ¬ N (62 + 7 * j) = id) → pG Γ M_X4_letterWith 3 (some (gLw N id c ls)) h 2 [some (.ref o), some (.int id), some (.int (nI i))] [] := by
    intro n
    induction n with
    | zero => intro i h1 h2; omega
    | succ n ih =>
      intro i hi hn hno
      refine g_blk [(.iload_n 2, .null), (.aload_n 0, .null)] (Nat.le_of_ble_eq_true rfl) (by decide +kernel) ?_
      refine gx_iload_n_2 (gx_aload_n_0 ((gx_nil ?_)))
      refine g_getf fX4_12 (by decide +kernel) ho rfl ?_
      refine g_pV kX4_55 (al_size HL) (by decide +kernel) rfl rfl (al_cell HL) rfl (Nat.le_of_ble_eq_true rfl) (Nat.le_of_ble_eq_true rfl) (Nat.le_of_ble_eq_true rfl) rfl ?_
      simp only [Option.toList_some, List.cons_append, List.nil_append]
      rw [hlc]
      refine g_icmp_ge (off := 39) (tgt := 49) (by decide +kernel) (by decide) (fun c10 => ?_) (fun c10 => ?_)
      · try simp only [bI_0, Decidable.not_not] at c10
        have hic : c = i := by
          have := (nI_leI (by omega) (by omega)).mp c10
          omega
        subst hic
        refine g_blk [(.aconst_null, .null)] (Nat.le_of_ble_eq_true rfl) (by decide +kernel) ?_
        refine gx_aconst_null ((gx_nil ?_))
        refine g_end (some .null) rfl ⟨by decide +kernel, _, rfl, Or.inl ⟨_, rfl⟩⟩ ⟨?_, rfl⟩
        rw [gLw_no (rPlace_no hno)]
      · try simp only [bI_0, Decidable.not_not] at c10
        have hic : i < c := by
          rcases Nat.lt_or_ge i c with q | q
          · exact q
          · exact absurd (nI_le q (by omega)) c10
        obtain ⟨a9, hx9⟩ : ∃ z, ls[i]? = some z := ⟨_, List.getElem?_eq_getElem (by omega)⟩
        have hl9 := hls i a9 hx9
        refine g_blk [(.aload_n 0, .null)] (Nat.le_of_ble_eq_true rfl) (by decide +kernel) ?_
        refine gx_aload_n_0 ((gx_nil ?_))
        refine g_getf fX4_12 (by decide +kernel) ho rfl ?_
        refine g_blk [(.iload_n 2, .null)] (Nat.le_of_ble_eq_true rfl) (by decide +kernel) ?_
        refine gx_iload_n_2 ((gx_nil ?_))
        refine g_pV kX4_59 (al_get HL hx9) (by decide +kernel) rfl rfl (al_cell HL) rfl (Nat.le_of_ble_eq_true rfl) (Nat.le_of_ble_eq_true rfl) (Nat.le_of_ble_eq_true rfl) rfl ?_
        try simp only [Option.toList_some, Option.toList_none, List.cons_append, List.nil_append, bI_0, n1_0, n0_0, Decidable.not_not, not_true_eq_false, not_false_eq_true, nI_add, Nat.add_zero, Nat.zero_add, Nat.reduceAdd]
        refine g_castO hl9 rfl rfl (clX4_63) (by decide +kernel) ?_
        refine g_getf fX4_84 (by decide +kernel) hl9 rfl ?_
        refine g_blk [(.iload_n 1, .null)] (Nat.le_of_ble_eq_true rfl) (by decide +kernel) ?_
        refine gx_iload_n_1 ((gx_nil ?_))
        refine g_icmp_ne (off := 15) (tgt := 43) (by decide +kernel) (by decide) (fun c28 => ?_) (fun c28 => ?_)
        · try simp only [bI_0, Decidable.not_not] at c28
          refine g_blk [(.iinc 2 1, .int (nI 1)), (.goto (-44), .retAddr 2)] (Nat.le_of_ble_eq_true rfl) (by decide +kernel) ?_
          refine gx_iinc_2 rfl (gx_goto ((gx_nil ?_)))
          try simp only [nI_add, Nat.add_zero, Nat.zero_add, Nat.reduceAdd]
          refine ih (i + 1) (by omega) (by omega) (fun j hj => ?_)
          rcases Nat.lt_or_ge j i with q | q
          · exact hno j q
          · obtain rfl : j = i := by omega
            exact c28
        · try simp only [bI_0, Decidable.not_not] at c28
          refine g_blk [(.aload_n 0, .null)] (Nat.le_of_ble_eq_true rfl) (by decide +kernel) ?_
          refine gx_aload_n_0 ((gx_nil ?_))
          refine g_getf fX4_12 (by decide +kernel) ho rfl ?_
          refine g_blk [(.iload_n 2, .null)] (Nat.le_of_ble_eq_true rfl) (by decide +kernel) ?_
          refine gx_iload_n_2 ((gx_nil ?_))
          refine g_pV kX4_59 (al_get HL hx9) (by decide +kernel) rfl rfl (al_cell HL) rfl (Nat.le_of_ble_eq_true rfl) (Nat.le_of_ble_eq_true rfl) (Nat.le_of_ble_eq_true rfl) rfl ?_
          try simp only [Option.toList_some, Option.toList_none, List.cons_append, List.nil_append, bI_0, n1_0, n0_0, Decidable.not_not, not_true_eq_false, not_false_eq_true, nI_add, Nat.add_zero, Nat.zero_add, Nat.reduceAdd]
          refine g_castO hl9 rfl rfl (clX4_63) (by decide +kernel) ?_
          refine g_end (some (.ref _)) rfl ⟨by decide +kernel, _, rfl, Or.inl ⟨_, rfl⟩⟩ ⟨?_, rfl⟩
          rw [gLw_at (rPlace_at c28 hic (fun j h1 h2 z => hu i j h1 h2 (c28.trans z.symm))) (by omega) hx9]
  refine pC_of (by decide) rfl (Nat.le_of_ble_eq_true rfl) [some (.ref o), some (.int id), none] rfl ?_
  refine g_blk [(.iconst 0, .int (nI 0)), (.istore_n 2, .null)] (Nat.le_of_ble_eq_true rfl) (by decide +kernel) ?_
  refine gx_iconst (gx_istore_n_2 rfl ((gx_nil ?_)))
  exact loop (c + 1) 0 (Nat.zero_le _) (by omega) (fun j hj => absurd hj (Nat.not_lt_zero _))
theorem tb_positionOf {t ta pa ep : Nat} {fq ps : List Nat} {N : Nat → Int32} (hta : h ta = some (gJ 11 [.ref pa, .ref ep])) (HP : gAL Γ de h pa fq ps) (hpc : ps.length = t) (hps : ∀ j p, ps[j]? = some p → gPre h N j p) (ht : t ≤ 12) (hu : rUp N t) (dg ln : Int32) : pC Γ M_X8_positionOf [.ref ta, .int dg, .int ln] h 3 (some (.int (rFind N dg ln t))) := by
  have loop : ∀ n i, i ≤ t → t < i + n → (∀ j, j < i → ¬ (N (26 + 3 * j) = dg ∧ N (26 + 3 * j + 1) = ln)) → pG Γ M_X8_positionOf 3 (some (.int (rFind N dg ln t))) h 2 [some (.ref ta), some (.int dg), some (.int ln), some (.int (nI i)), none] [] := by
    intro n
    induction n with
    | zero => intro i h1 h2; omega
    | succ n ih =>
      intro i hi hn hno
      refine g_blk [(.iload_n 3, .null), (.aload_n 0, .null)] (Nat.le_of_ble_eq_true rfl) (by decide +kernel) ?_
      refine gx_iload_n_3 (gx_aload_n_0 ((gx_nil ?_)))
      refine g_getf fX8_12 (by decide +kernel) hta rfl ?_
      refine g_pV kX8_27 (al_size HP) (by decide +kernel) rfl rfl (al_cell HP) rfl (Nat.le_of_ble_eq_true rfl) (Nat.le_of_ble_eq_true rfl) (Nat.le_of_ble_eq_true rfl) rfl ?_
      simp only [Option.toList_some, List.cons_append, List.nil_append]
      rw [hpc]
      refine g_icmp_ge (off := 42) (tgt := 52) (by decide +kernel) (by decide) (fun c10 => ?_) (fun c10 => ?_)
      · try simp only [bI_0, Decidable.not_not] at c10
        have hic : t = i := by
          have := (nI_leI (by omega) (by omega)).mp c10
          omega
        subst hic
        refine g_blk [(.iconst (-1), .int (-1))] (Nat.le_of_ble_eq_true rfl) (by decide +kernel) ?_
        refine gx_iconst ((gx_nil ?_))
        refine g_end (some (.int _)) rfl ⟨by decide +kernel, _, rfl, rfl⟩ ⟨?_, rfl⟩
        rw [rFind_no hno]
      · try simp only [bI_0, Decidable.not_not] at c10
        have hic : i < t := by
          rcases Nat.lt_or_ge i t with q | q
          · exact q
          · exact absurd (nI_le q (by omega)) c10
        obtain ⟨p9, hx9⟩ : ∃ z, ps[i]? = some z := ⟨_, List.getElem?_eq_getElem (by omega)⟩
        have hp9 := hps i p9 hx9
        refine g_blk [(.aload_n 0, .null)] (Nat.le_of_ble_eq_true rfl) (by decide +kernel) ?_
        refine gx_aload_n_0 ((gx_nil ?_))
        refine g_getf fX8_12 (by decide +kernel) hta rfl ?_
        refine g_blk [(.iload_n 3, .null)] (Nat.le_of_ble_eq_true rfl) (by decide +kernel) ?_
        refine gx_iload_n_3 ((gx_nil ?_))
        refine g_pV kX8_31 (al_get HP hx9) (by decide +kernel) rfl rfl (al_cell HP) rfl (Nat.le_of_ble_eq_true rfl) (Nat.le_of_ble_eq_true rfl) (Nat.le_of_ble_eq_true rfl) rfl ?_
        try simp only [Option.toList_some, Option.toList_none, List.cons_append, List.nil_append, bI_0, n1_0, n0_0, Decidable.not_not, not_true_eq_false, not_false_eq_true, nI_add, Nat.add_zero, Nat.zero_add, Nat.reduceAdd]
        refine g_castO hp9 rfl rfl (clX8_18) (by decide +kernel) ?_
        refine g_blk [(.astore 4, .null), (.aload 4, .null)] (Nat.le_of_ble_eq_true rfl) (by decide +kernel) ?_
        refine gx_astore_4 rfl (gx_aload_4 ((gx_nil ?_)))
        refine g_getf fX8_58 (by decide +kernel) hp9 rfl ?_
        refine g_blk [(.iload_n 1, .null)] (Nat.le_of_ble_eq_true rfl) (by decide +kernel) ?_
        refine gx_iload_n_1 ((gx_nil ?_))
        refine g_icmp_ne (off := 14) (tgt := 46) (by decide +kernel) (by decide) (fun c32 => ?_) (fun c32 => ?_)
        · try simp only [bI_0, Decidable.not_not] at c32
          refine g_blk [(.iinc 3 1, .int (nI 1)), (.goto (-47), .retAddr 2)] (Nat.le_of_ble_eq_true rfl) (by decide +kernel) ?_
          refine gx_iinc_3 rfl (gx_goto ((gx_nil ?_)))
          try simp only [nI_add, Nat.add_zero, Nat.zero_add, Nat.reduceAdd]
          refine g_wk (by simp [gLe]) (ih (i + 1) (by omega) (by omega) (fun j hj => ?_))
          rcases Nat.lt_or_ge j i with q | q
          · exact hno j q
          · obtain rfl : j = i := by omega
            exact fun z => c32 z.1
        · try simp only [bI_0, Decidable.not_not] at c32
          refine g_blk [(.aload 4, .null)] (Nat.le_of_ble_eq_true rfl) (by decide +kernel) ?_
          refine gx_aload_4 ((gx_nil ?_))
          refine g_getf fX8_61 (by decide +kernel) hp9 rfl ?_
          refine g_blk [(.iload_n 2, .null)] (Nat.le_of_ble_eq_true rfl) (by decide +kernel) ?_
          refine gx_iload_n_2 ((gx_nil ?_))
          refine g_icmp_ne (off := 5) (tgt := 46) (by decide +kernel) (by decide) (fun c41 => ?_) (fun c41 => ?_)
          · try simp only [bI_0, Decidable.not_not] at c41
            refine g_blk [(.iinc 3 1, .int (nI 1)), (.goto (-47), .retAddr 2)] (Nat.le_of_ble_eq_true rfl) (by decide +kernel) ?_
            refine gx_iinc_3 rfl (gx_goto ((gx_nil ?_)))
            try simp only [nI_add, Nat.add_zero, Nat.zero_add, Nat.reduceAdd]
            refine g_wk (by simp [gLe]) (ih (i + 1) (by omega) (by omega) (fun j hj => ?_))
            rcases Nat.lt_or_ge j i with q | q
            · exact hno j q
            · obtain rfl : j = i := by omega
              exact fun z => c41 z.2
          · try simp only [bI_0, Decidable.not_not] at c41
            refine g_blk [(.iload_n 3, .null)] (Nat.le_of_ble_eq_true rfl) (by decide +kernel) ?_
            refine gx_iload_n_3 ((gx_nil ?_))
            refine g_end (some (.int _)) rfl ⟨by decide +kernel, _, rfl, rfl⟩ ⟨?_, rfl⟩
            rw [rFind_at ⟨c32, c41⟩ hic (fun j h1 h2 z => hu i j h1 h2 ⟨c32.trans z.1.symm, c41.trans z.2.symm⟩)]
  refine pC_of (by decide) rfl (Nat.le_of_ble_eq_true rfl) [some (.ref ta), some (.int dg), some (.int ln), none, none] rfl ?_
  refine g_blk [(.iconst 0, .int (nI 0)), (.istore_n 3, .null)] (Nat.le_of_ble_eq_true rfl) (by decide +kernel) ?_
  refine gx_iconst (gx_istore_n_3 rfl ((gx_nil ?_)))
  exact loop (t + 1) 0 (Nat.zero_le _) (by omega) (fun j hj => absurd hj (Nat.not_lt_zero _))
end GOf
