/-! CONSTRUCTORS -/
section GCo
variable {Γ : gE} {de : Nat} {h : gHp}
theorem le_init {a : Nat} {y0 y1 y2 y3 y4 y5 y6 : Int32} (ha : h a = some (gJ 6 [.int y0, .int y1, .int y2, .int y3, .int y4, .int y5, .int y6])) (id cd w pr : Int32) (hpr : narrow FieldType.boolean (.int pr) = .int pr) (hpf : fits FieldType.boolean (.int pr) = true) : gC Γ M_X3_init [.ref a, .int id, .int cd, .int w, .int pr] h 1 0 0 (fun v h' => v = none ∧ h' = gUp h a (gJ 6 [.int id, .int cd, .int w, .int pr, .int 0, .int (-1), .int (-1)])) (fun _ _ => False) := by
  refine gC_of (by decide) rfl (Nat.le_of_ble_eq_true rfl) [some (.ref a), some (.int id), some (.int cd), some (.int w), some (.int pr)] rfl ?_
  refine g_blk [(.aload_n 0, .null)] (Nat.le_of_ble_eq_true rfl) (by decide +kernel) ?_
  refine gx_aload_n_0 ((gx_nil ?_))
  refine g_objInit wOIRX3 wOI1 wOI2 (by decide +kernel) (by omega) (Nat.le_of_ble_eq_true rfl) ?_
  refine g_blk [(.aload_n 0, .null), (.iconst 0, .int (nI 0))] (Nat.le_of_ble_eq_true rfl) (by decide +kernel) ?_
  refine gx_aload_n_0 (gx_iconst ((gx_nil ?_)))
  refine g_putf fX3_9 (by decide +kernel) ha (by simp) rfl rfl ?_
  refine g_blk [(.aload_n 0, .null), (.iconst (-1), .int (-1))] (Nat.le_of_ble_eq_true rfl) (by decide +kernel) ?_
  refine gx_aload_n_0 (gx_iconst ((gx_nil ?_)))
  refine g_putf fX3_15 (by decide +kernel) (gUp_s _ _ _) (by simp) rfl rfl ?_
  refine g_blk [(.aload_n 0, .null), (.iconst (-1), .int (-1))] (Nat.le_of_ble_eq_true rfl) (by decide +kernel) ?_
  refine gx_aload_n_0 (gx_iconst ((gx_nil ?_)))
  refine g_putf fX3_18 (by decide +kernel) (gUp_s _ _ _) (by simp) rfl rfl ?_
  refine g_blk [(.aload_n 0, .null), (.iload_n 1, .null)] (Nat.le_of_ble_eq_true rfl) (by decide +kernel) ?_
  refine gx_aload_n_0 (gx_iload_n_1 ((gx_nil ?_)))
  refine g_putfF fX3_21 fin6_0 rfl (by decide +kernel) (gUp_s _ _ _) (by simp) rfl rfl ?_
  refine g_blk [(.aload_n 0, .null), (.iload_n 2, .null)] (Nat.le_of_ble_eq_true rfl) (by decide +kernel) ?_
  refine gx_aload_n_0 (gx_iload_n_2 ((gx_nil ?_)))
  refine g_putfF fX3_24 fin6_1 rfl (by decide +kernel) (gUp_s _ _ _) (by simp) rfl rfl ?_
  refine g_blk [(.aload_n 0, .null), (.iload_n 3, .null)] (Nat.le_of_ble_eq_true rfl) (by decide +kernel) ?_
  refine gx_aload_n_0 (gx_iload_n_3 ((gx_nil ?_)))
  refine g_putfF fX3_27 fin6_2 rfl (by decide +kernel) (gUp_s _ _ _) (by simp) rfl rfl ?_
  refine g_blk [(.aload_n 0, .null), (.iload 4, .null)] (Nat.le_of_ble_eq_true rfl) (by decide +kernel) ?_
  refine gx_aload_n_0 (gx_iload_4 ((gx_nil ?_)))
  refine g_putfF fX3_30 fin6_3 rfl (by decide +kernel) (gUp_s _ _ _) (by simp) hpr hpf ?_
  refine g_end none rfl ⟨by decide +kernel, rfl⟩ ?_
  refine ⟨rfl, ?_⟩
  simp only [gUp_gUp]
  rfl
theorem pc_pow {k : Nat} (hk : k ≤ 4) : pC Γ M_X9_powerOfTen [.int (nI k)] h 0 (some (.int (nI (10 ^ k)))) := by
  refine pC_of (by decide) rfl (Nat.le_of_ble_eq_true rfl) [some (.int (nI k))] rfl ?_
  have e : k = 0 ∨ k = 1 ∨ k = 2 ∨ k = 3 ∨ k = 4 := by omega
  rcases e with rfl | rfl | rfl | rfl | rfl
  · skip
    refine g_blk [(.iload_n 0, .null)] (Nat.le_of_ble_eq_true rfl) (by decide +kernel) ?_
    refine gx_iload_n_0 ((gx_nil ?_))
    refine g_tableOut (dflt := 45) (lo := 1) (hi := 4) (offs := #[31, 34, 37, 41]) (len := 31) (tgt := 46) (by decide +kernel) (by decide) (by decide) ?_
    refine g_blk [(.iconst 1, .int (nI 1))] (Nat.le_of_ble_eq_true rfl) (by decide +kernel) ?_
    refine gx_iconst ((gx_nil ?_))
    refine g_end (some (.int _)) rfl ⟨by decide +kernel, _, rfl, rfl⟩ ⟨?_, rfl⟩
    rfl
  · skip
    refine g_blk [(.iload_n 0, .null)] (Nat.le_of_ble_eq_true rfl) (by decide +kernel) ?_
    refine gx_iload_n_0 ((gx_nil ?_))
    refine g_tableIn (dflt := 45) (lo := 1) (hi := 4) (offs := #[31, 34, 37, 41]) (len := 31) (off := 31) (tgt := 32) (by decide +kernel) (by decide) (by decide) (by decide) (by decide) ?_
    refine g_blk [(.bipush 10, .int (nI 10))] (Nat.le_of_ble_eq_true rfl) (by decide +kernel) ?_
    refine gx_bipush ((gx_nil ?_))
    refine g_end (some (.int _)) rfl ⟨by decide +kernel, _, rfl, rfl⟩ ⟨?_, rfl⟩
    rfl
  · skip
    refine g_blk [(.iload_n 0, .null)] (Nat.le_of_ble_eq_true rfl) (by decide +kernel) ?_
    refine gx_iload_n_0 ((gx_nil ?_))
    refine g_tableIn (dflt := 45) (lo := 1) (hi := 4) (offs := #[31, 34, 37, 41]) (len := 31) (off := 34) (tgt := 35) (by decide +kernel) (by decide) (by decide) (by decide) (by decide) ?_
    refine g_blk [(.bipush 100, .int (nI 100))] (Nat.le_of_ble_eq_true rfl) (by decide +kernel) ?_
    refine gx_bipush ((gx_nil ?_))
    refine g_end (some (.int _)) rfl ⟨by decide +kernel, _, rfl, rfl⟩ ⟨?_, rfl⟩
    rfl
  · skip
    refine g_blk [(.iload_n 0, .null)] (Nat.le_of_ble_eq_true rfl) (by decide +kernel) ?_
    refine gx_iload_n_0 ((gx_nil ?_))
    refine g_tableIn (dflt := 45) (lo := 1) (hi := 4) (offs := #[31, 34, 37, 41]) (len := 31) (off := 37) (tgt := 38) (by decide +kernel) (by decide) (by decide) (by decide) (by decide) ?_
    refine g_blk [(.sipush 1000, .int (nI 1000))] (Nat.le_of_ble_eq_true rfl) (by decide +kernel) ?_
    refine gx_sipush ((gx_nil ?_))
    refine g_end (some (.int _)) rfl ⟨by decide +kernel, _, rfl, rfl⟩ ⟨?_, rfl⟩
    rfl
  · skip
    refine g_blk [(.iload_n 0, .null)] (Nat.le_of_ble_eq_true rfl) (by decide +kernel) ?_
    refine gx_iload_n_0 ((gx_nil ?_))
    refine g_tableIn (dflt := 45) (lo := 1) (hi := 4) (offs := #[31, 34, 37, 41]) (len := 31) (off := 41) (tgt := 42) (by decide +kernel) (by decide) (by decide) (by decide) (by decide) ?_
    refine g_blk [(.sipush 10000, .int (nI 10000))] (Nat.le_of_ble_eq_true rfl) (by decide +kernel) ?_
    refine gx_sipush ((gx_nil ?_))
    refine g_end (some (.int _)) rfl ⟨by decide +kernel, _, rfl, rfl⟩ ⟨?_, rfl⟩
    rfl
theorem le_lt {x : Int32} {a : Nat} (h : a + 1 < 2 ^ 31) : x < nI (a + 1) ↔ x ≤ nI a := by
  rw [Int32.lt_iff_toInt_lt, Int32.le_iff_toInt_le, nI_toInt (by omega), nI_toInt (by omega)]
  omega
theorem z0 : nI 0 = (0 : Int32) := by decide
theorem pc_isCode (x : Int32) : pC Γ M_X9_isCode [.int x] h 0 (some (.int (bI (nI 0 ≤ x ∧ x ≤ nI 9999)))) := by
  refine pC_of (by decide) rfl (Nat.le_of_ble_eq_true rfl) [some (.int x)] rfl ?_
  refine g_blk [(.iload_n 0, .null)] (Nat.le_of_ble_eq_true rfl) (by decide +kernel) ?_
  refine gx_iload_n_0 ((gx_nil ?_))
  refine g_if_lt (off := 14) (tgt := 15) (by decide +kernel) (by decide) (fun c1 => ?_) (fun c1 => ?_)
  · try simp only [bI_0, Decidable.not_not] at c1
    refine g_blk [(.iconst 0, .int (nI 0))] (Nat.le_of_ble_eq_true rfl) (by decide +kernel) ?_
    refine gx_iconst ((gx_nil ?_))
    refine g_end (some (.int _)) rfl ⟨by decide +kernel, _, rfl, by first | rfl | exact bI_nar _⟩ ⟨?_, rfl⟩
    first | rw [bI_t (p := nI 0 ≤ x ∧ x ≤ nI 9999) ⟨by rw [z0]; exact Int32.not_lt.mp c1, Int32.not_lt.mp c8⟩] | rw [bI_f (p := nI 0 ≤ x ∧ x ≤ nI 9999) (fun z => absurd c1 (Int32.not_lt.mpr (by rw [← z0]; exact z.1)))] | rw [bI_f (p := nI 0 ≤ x ∧ x ≤ nI 9999) (fun z => absurd c8 (Int32.not_lt.mpr z.2))]
  · try simp only [bI_0, Decidable.not_not] at c1
    refine g_blk [(.iload_n 0, .null), (.sipush 9999, .int (nI 9999))] (Nat.le_of_ble_eq_true rfl) (by decide +kernel) ?_
    refine gx_iload_n_0 (gx_sipush ((gx_nil ?_)))
    refine g_icmp_gt (off := 7) (tgt := 15) (by decide +kernel) (by decide) (fun c8 => ?_) (fun c8 => ?_)
    · try simp only [bI_0, Decidable.not_not] at c8
      refine g_blk [(.iconst 0, .int (nI 0))] (Nat.le_of_ble_eq_true rfl) (by decide +kernel) ?_
      refine gx_iconst ((gx_nil ?_))
      refine g_end (some (.int _)) rfl ⟨by decide +kernel, _, rfl, by first | rfl | exact bI_nar _⟩ ⟨?_, rfl⟩
      first | rw [bI_t (p := nI 0 ≤ x ∧ x ≤ nI 9999) ⟨by rw [z0]; exact Int32.not_lt.mp c1, Int32.not_lt.mp c8⟩] | rw [bI_f (p := nI 0 ≤ x ∧ x ≤ nI 9999) (fun z => absurd c1 (Int32.not_lt.mpr (by rw [← z0]; exact z.1)))] | rw [bI_f (p := nI 0 ≤ x ∧ x ≤ nI 9999) (fun z => absurd c8 (Int32.not_lt.mpr z.2))]
    · try simp only [bI_0, Decidable.not_not] at c8
      refine g_blk [(.iconst 1, .int (nI 1)), (.goto 4, .retAddr 16)] (Nat.le_of_ble_eq_true rfl) (by decide +kernel) ?_
      refine gx_iconst (gx_goto ((gx_nil ?_)))
      refine g_end (some (.int _)) rfl ⟨by decide +kernel, _, rfl, by first | rfl | exact bI_nar _⟩ ⟨?_, rfl⟩
      first | rw [bI_t (p := nI 0 ≤ x ∧ x ≤ nI 9999) ⟨by rw [z0]; exact Int32.not_lt.mp c1, Int32.not_lt.mp c8⟩] | rw [bI_f (p := nI 0 ≤ x ∧ x ≤ nI 9999) (fun z => absurd c1 (Int32.not_lt.mpr (by rw [← z0]; exact z.1)))] | rw [bI_f (p := nI 0 ≤ x ∧ x ≤ nI 9999) (fun z => absurd c8 (Int32.not_lt.mpr z.2))]
theorem rPx_at {dg : Int32} {k : Nat} (h1 : 1 ≤ k) (h2 : k ≤ 4) : rPx dg (nI k) = true ↔ (¬ dg < 0 ∧ dg < nI (10 ^ k)) := by
  obtain ⟨b, hb⟩ : ∃ b, 10 ^ k = b + 1 := ⟨10 ^ k - 1, by have := Nat.pow_pos (n := k) (show 0 < 10 by decide); omega⟩
  have hk : 10 ^ k ≤ 10 ^ 4 := Nat.pow_le_pow_right (by decide) h2
  unfold rPx
  rw [decide_eq_true_eq, rTens_n h2, hb, n1_1, nI_pred, le_lt (by omega), Int32.not_lt, z0]
  exact ⟨fun z => z.2, fun z => ⟨⟨by rw [← n1_1]; exact nI_le h1 (by omega), nI_le h2 (by omega)⟩, z⟩⟩
theorem pc_isPrefix (dg ln : Int32) : pC Γ M_X9_isPrefix [.int dg, .int ln] h 1 (some (.int (bI (rPx dg ln = true)))) := by
  refine pC_of (by decide) rfl (Nat.le_of_ble_eq_true rfl) [some (.int dg), some (.int ln)] rfl ?_
  refine g_blk [(.iload_n 1, .null), (.iconst 1, .int (nI 1))] (Nat.le_of_ble_eq_true rfl) (by decide +kernel) ?_
  refine gx_iload_n_1 (gx_iconst ((gx_nil ?_)))
  refine g_icmp_lt (off := 24) (tgt := 26) (by decide +kernel) (by decide) (fun c2 => ?_) (fun c2 => ?_)
  · try simp only [bI_0, Decidable.not_not] at c2
    refine g_blk [(.iconst 0, .int (nI 0))] (Nat.le_of_ble_eq_true rfl) (by decide +kernel) ?_
    refine gx_iconst ((gx_nil ?_))
    refine g_end (some (.int _)) rfl ⟨by decide +kernel, _, rfl, by first | rfl | exact bI_nar _⟩ ⟨?_, rfl⟩
    first | rw [bI_t (p := rPx dg (nI k) = true) ((rPx_at hk1 hk4).mpr ⟨c11, Int32.not_le.mp c19⟩)] | rw [bI_f (p := rPx dg (nI k) = true) (fun z => ((rPx_at hk1 hk4).mp z).1 c11)] | rw [bI_f (p := rPx dg (nI k) = true) (fun z => absurd ((rPx_at hk1 hk4).mp z).2 (Int32.not_lt.mpr c19))] | rw [bI_f (p := rPx dg ln = true) (fun z => absurd c2 (Int32.not_lt.mpr (of_decide_eq_true z).1.1))] | rw [bI_f (p := rPx dg ln = true) (fun z => absurd c7 (Int32.not_lt.mpr (of_decide_eq_true z).1.2))]
  · try simp only [bI_0, Decidable.not_not] at c2
    refine g_blk [(.iload_n 1, .null), (.iconst 4, .int (nI 4))] (Nat.le_of_ble_eq_true rfl) (by decide +kernel) ?_
    refine gx_iload_n_1 (gx_iconst ((gx_nil ?_)))
    refine g_icmp_gt (off := 19) (tgt := 26) (by decide +kernel) (by decide) (fun c7 => ?_) (fun c7 => ?_)
    · try simp only [bI_0, Decidable.not_not] at c7
      refine g_blk [(.iconst 0, .int (nI 0))] (Nat.le_of_ble_eq_true rfl) (by decide +kernel) ?_
      refine gx_iconst ((gx_nil ?_))
      refine g_end (some (.int _)) rfl ⟨by decide +kernel, _, rfl, by first | rfl | exact bI_nar _⟩ ⟨?_, rfl⟩
      first | rw [bI_t (p := rPx dg (nI k) = true) ((rPx_at hk1 hk4).mpr ⟨c11, Int32.not_le.mp c19⟩)] | rw [bI_f (p := rPx dg (nI k) = true) (fun z => ((rPx_at hk1 hk4).mp z).1 c11)] | rw [bI_f (p := rPx dg (nI k) = true) (fun z => absurd ((rPx_at hk1 hk4).mp z).2 (Int32.not_lt.mpr c19))] | rw [bI_f (p := rPx dg ln = true) (fun z => absurd c2 (Int32.not_lt.mpr (of_decide_eq_true z).1.1))] | rw [bI_f (p := rPx dg ln = true) (fun z => absurd c7 (Int32.not_lt.mpr (of_decide_eq_true z).1.2))]
    · try simp only [bI_0, Decidable.not_not] at c7
      obtain ⟨k, hk4, rfl⟩ := nI_of2 (M := nI 4) (n := 4) (by decide) (fun z => c2 (Int32.lt_of_lt_of_le z (by decide))) (Int32.not_lt.mp c7)
      have hk1 : 1 ≤ k := by
        rcases Nat.eq_zero_or_pos k with z | z
        · subst z; exact absurd (show nI 0 < nI 1 by decide) c2
        · exact z
      refine g_blk [(.iload_n 0, .null)] (Nat.le_of_ble_eq_true rfl) (by decide +kernel) ?_
      refine gx_iload_n_0 ((gx_nil ?_))
      refine g_if_lt (off := 15) (tgt := 26) (by decide +kernel) (by decide) (fun c11 => ?_) (fun c11 => ?_)
      · try simp only [bI_0, Decidable.not_not] at c11
        refine g_blk [(.iconst 0, .int (nI 0))] (Nat.le_of_ble_eq_true rfl) (by decide +kernel) ?_
        refine gx_iconst ((gx_nil ?_))
        refine g_end (some (.int _)) rfl ⟨by decide +kernel, _, rfl, by first | rfl | exact bI_nar _⟩ ⟨?_, rfl⟩
        first | rw [bI_t (p := rPx dg (nI k) = true) ((rPx_at hk1 hk4).mpr ⟨c11, Int32.not_le.mp c19⟩)] | rw [bI_f (p := rPx dg (nI k) = true) (fun z => ((rPx_at hk1 hk4).mp z).1 c11)] | rw [bI_f (p := rPx dg (nI k) = true) (fun z => absurd ((rPx_at hk1 hk4).mp z).2 (Int32.not_lt.mpr c19))] | rw [bI_f (p := rPx dg ln = true) (fun z => absurd c2 (Int32.not_lt.mpr (of_decide_eq_true z).1.1))] | rw [bI_f (p := rPx dg ln = true) (fun z => absurd c7 (Int32.not_lt.mpr (of_decide_eq_true z).1.2))]
      · try simp only [bI_0, Decidable.not_not] at c11
        refine g_blk [(.iload_n 0, .null), (.iload_n 1, .null)] (Nat.le_of_ble_eq_true rfl) (by decide +kernel) ?_
        refine gx_iload_n_0 (gx_iload_n_1 ((gx_nil ?_)))
        refine g_pS kX9_404 (pc_pow hk4) (by decide +kernel) rfl rfl (Nat.le_of_ble_eq_true rfl) (Nat.le_of_ble_eq_true rfl) (Nat.le_of_ble_eq_true rfl) rfl ?_
        try simp only [Option.toList_some, Option.toList_none, List.cons_append, List.nil_append, bI_0, n1_0, n0_0, Decidable.not_not, not_true_eq_false, not_false_eq_true, nI_add, Nat.add_zero, Nat.zero_add, Nat.reduceAdd]
        refine g_icmp_ge (off := 7) (tgt := 26) (by decide +kernel) (by decide) (fun c19 => ?_) (fun c19 => ?_)
        · try simp only [bI_0, Decidable.not_not] at c19
          refine g_blk [(.iconst 0, .int (nI 0))] (Nat.le_of_ble_eq_true rfl) (by decide +kernel) ?_
          refine gx_iconst ((gx_nil ?_))
          refine g_end (some (.int _)) rfl ⟨by decide +kernel, _, rfl, by first | rfl | exact bI_nar _⟩ ⟨?_, rfl⟩
          first | rw [bI_t (p := rPx dg (nI k) = true) ((rPx_at hk1 hk4).mpr ⟨c11, Int32.not_le.mp c19⟩)] | rw [bI_f (p := rPx dg (nI k) = true) (fun z => ((rPx_at hk1 hk4).mp z).1 c11)] | rw [bI_f (p := rPx dg (nI k) = true) (fun z => absurd ((rPx_at hk1 hk4).mp z).2 (Int32.not_lt.mpr c19))] | rw [bI_f (p := rPx dg ln = true) (fun z => absurd c2 (Int32.not_lt.mpr (of_decide_eq_true z).1.1))] | rw [bI_f (p := rPx dg ln = true) (fun z => absurd c7 (Int32.not_lt.mpr (of_decide_eq_true z).1.2))]
        · try simp only [bI_0, Decidable.not_not] at c19
          refine g_blk [(.iconst 1, .int (nI 1)), (.goto 4, .retAddr 27)] (Nat.le_of_ble_eq_true rfl) (by decide +kernel) ?_
          refine gx_iconst (gx_goto ((gx_nil ?_)))
          refine g_end (some (.int _)) rfl ⟨by decide +kernel, _, rfl, by first | rfl | exact bI_nar _⟩ ⟨?_, rfl⟩
          first | rw [bI_t (p := rPx dg (nI k) = true) ((rPx_at hk1 hk4).mpr ⟨c11, Int32.not_le.mp c19⟩)] | rw [bI_f (p := rPx dg (nI k) = true) (fun z => ((rPx_at hk1 hk4).mp z).1 c11)] | rw [bI_f (p := rPx dg (nI k) = true) (fun z => absurd ((rPx_at hk1 hk4).mp z).2 (Int32.not_lt.mpr c19))] | rw [bI_f (p := rPx dg ln = true) (fun z => absurd c2 (Int32.not_lt.mpr (of_decide_eq_true z).1.1))] | rw [bI_f (p := rPx dg ln = true) (fun z => absurd c7 (Int32.not_lt.mpr (of_decide_eq_true z).1.2))]
theorem pr_init {a ln : Nat} {y0 y1 y2 y3 y4 : Int32} (ha : h a = some (gJ 9 [.int y0, .int y1, .int y2, .int y3, .int y4])) (dg rt : Int32) (hl : ln ≤ 4) : gC Γ M_X6_init [.ref a, .int dg, .int (nI ln), .int rt] h 1 0 0 (fun v h' => v = none ∧ h' = gUp h a (gJ 9 [.int dg, .int (nI ln), .int rt, .int (nI (10 ^ (4 - ln))), .int (dg * nI (10 ^ (4 - ln)))])) (fun _ _ => False) := by
  refine gC_of (by decide) rfl (Nat.le_of_ble_eq_true rfl) [some (.ref a), some (.int dg), some (.int (nI ln)), some (.int rt)] rfl ?_
  refine g_blk [(.aload_n 0, .null)] (Nat.le_of_ble_eq_true rfl) (by decide +kernel) ?_
  refine gx_aload_n_0 ((gx_nil ?_))
  refine g_objInit wOIRX6 wOI1 wOI2 (by decide +kernel) (by omega) (Nat.le_of_ble_eq_true rfl) ?_
  refine g_blk [(.aload_n 0, .null), (.iload_n 1, .null)] (Nat.le_of_ble_eq_true rfl) (by decide +kernel) ?_
  refine gx_aload_n_0 (gx_iload_n_1 ((gx_nil ?_)))
  refine g_putfF fX6_9 fin9_0 rfl (by decide +kernel) ha (by simp) rfl rfl ?_
  refine g_blk [(.aload_n 0, .null), (.iload_n 2, .null)] (Nat.le_of_ble_eq_true rfl) (by decide +kernel) ?_
  refine gx_aload_n_0 (gx_iload_n_2 ((gx_nil ?_)))
  refine g_putfF fX6_15 fin9_1 rfl (by decide +kernel) (gUp_s _ _ _) (by simp) rfl rfl ?_
  refine g_blk [(.aload_n 0, .null), (.iload_n 3, .null)] (Nat.le_of_ble_eq_true rfl) (by decide +kernel) ?_
  refine gx_aload_n_0 (gx_iload_n_3 ((gx_nil ?_)))
  refine g_putfF fX6_18 fin9_2 rfl (by decide +kernel) (gUp_s _ _ _) (by simp) rfl rfl ?_
  refine g_blk [(.aload_n 0, .null), (.iconst 4, .int (nI 4)), (.iload_n 2, .null), (.isub, .null)] (Nat.le_of_ble_eq_true rfl) (by decide +kernel) ?_
  refine gx_aload_n_0 (gx_iconst (gx_iload_n_2 (gx_isub ((gx_nil ?_)))))
  rw [nI_subN hl]
  refine g_pSN kX6_21 (pc_pow (k := 4 - ln) (by omega)) (by decide +kernel) rfl rfl (Nat.le_of_ble_eq_true rfl) (Nat.le_of_ble_eq_true rfl) (Nat.le_of_ble_eq_true rfl) rfl ?_
  try simp only [Option.toList_some, Option.toList_none, List.cons_append, List.nil_append, bI_0, n1_0, n0_0, Decidable.not_not, not_true_eq_false, not_false_eq_true]
  refine g_putfF fX6_25 fin9_3 rfl (by decide +kernel) (gUp_s _ _ _) (by simp) rfl rfl ?_
  refine g_blk [(.aload_n 0, .null), (.iload_n 1, .null), (.aload_n 0, .null)] (Nat.le_of_ble_eq_true rfl) (by decide +kernel) ?_
  refine gx_aload_n_0 (gx_iload_n_1 (gx_aload_n_0 ((gx_nil ?_))))
  refine g_getf fX6_25 (by decide +kernel) (gUp_s _ _ _) rfl ?_
  refine g_blk [(.imul, .null)] (Nat.le_of_ble_eq_true rfl) (by decide +kernel) ?_
  refine gx_imul ((gx_nil ?_))
  refine g_putfF fX6_28 fin9_4 rfl (by decide +kernel) (gUp_s _ _ _) (by simp) rfl rfl ?_
  refine g_end none rfl ⟨by decide +kernel, rfl⟩ ?_
  refine ⟨rfl, ?_⟩
  simp only [gUp_gUp]
  rfl
theorem tb_init {a : Nat} {y0 y1 : Value} (hp : gPal Γ de) (ha : h a = some (gJ 11 [y0, y1])) : gC Γ M_X8_init [.ref a] h 4 2 8 (fun v h' => v = none ∧ ∃ pa ep, h pa = none ∧ h ep = none ∧ pa ≠ ep ∧ h' a = some (gJ 11 [.ref pa, .ref ep]) ∧ gAL Γ de h' pa [pa] [] ∧ h' ep = some (gJ 9 [.int 0, .int 0, .int (-1), .int (nI 10000), .int 0]) ∧ gKeep (fun z => z = a) h h') (fun _ _ => False) := by
  refine gC_of (by decide) rfl (Nat.le_of_ble_eq_true rfl) [some (.ref a)] rfl ?_
  refine g_blk [(.aload_n 0, .null)] (Nat.le_of_ble_eq_true rfl) (by decide +kernel) ?_
  refine gx_aload_n_0 ((gx_nil ?_))
  refine g_objInit wOIRX8 wOI1 wOI2 (by decide +kernel) (by omega) (Nat.le_of_ble_eq_true rfl) ?_
  refine g_blk [(.aload_n 0, .null)] (Nat.le_of_ble_eq_true rfl) (by decide +kernel) ?_
  refine gx_aload_n_0 ((gx_nil ?_))
  refine g_new nX8_9 (rc' := 1) (rs' := 5) (by decide +kernel) (by omega) (by simp) (fun pa hpa => ?_)
  have hpaa : pa ≠ a := fun z => by rw [z, ha] at hpa; cases hpa
  refine g_blk [(.dup, .null)] (Nat.le_of_ble_eq_true rfl) (by decide +kernel) ?_
  refine gx_dupr ((gx_nil ?_))
  refine g_callI (rc' := 1) (rs' := 5) kX8_11 (al_init hp (gUp_s _ _ _)) (by decide +kernel) rfl rfl rfl (Nat.le_of_ble_eq_true rfl) (Nat.le_of_ble_eq_true rfl) (Nat.le_of_ble_eq_true rfl) (by omega) (by omega) rfl (fun _ _ z => z.elim) (fun v9 h5 hz => ?_)
  obtain ⟨rfl, HA, hk5⟩ := hz
  have ha5 : h5 a = some (gJ 11 [y0, y1]) := hk5 a _ hpaa.symm (by rw [gUp_n _ _ hpaa.symm]; exact ha)
  have hk50 : gKeep (fun z => z = pa) h h5 := fun z e9 z1 z2 => hk5 z e9 z1 (by rw [gUp_n _ _ z1]; exact z2)
  simp only [Option.toList_some, Option.toList_none, List.cons_append, List.nil_append]
  refine g_putfF fX8_12 fin11_0 rfl (by decide +kernel) ha5 (by simp) rfl rfl ?_
  refine g_blk [(.aload_n 0, .null)] (Nat.le_of_ble_eq_true rfl) (by decide +kernel) ?_
  refine gx_aload_n_0 ((gx_nil ?_))
  refine g_new nX8_18 (rc' := 0) (rs' := 0) (by decide +kernel) (by omega) (by simp) (fun ep hep => ?_)
  have hepa : ep ≠ a := fun z => by rw [z, gUp_s] at hep; cases hep
  have hep5 : h5 ep = none := by rw [gUp_n _ _ hepa] at hep; exact hep
  have hpe : pa ≠ ep := fun z => by
    obtain ⟨_, _, _, _, ⟨y9, -⟩, -⟩ := HA
    rw [← z, y9] at hep5; cases hep5
  have heph : h ep = none := by
    cases e9 : h ep with
    | none => rfl
    | some x => rw [hk50 ep x hpe.symm e9] at hep5; cases hep5
  refine g_blk [(.dup, .null), (.iconst 0, .int (nI 0)), (.iconst 0, .int (nI 0)), (.iconst (-1), .int (-1))] (Nat.le_of_ble_eq_true rfl) (by decide +kernel) ?_
  refine gx_dupr (gx_iconst (gx_iconst (gx_iconst ((gx_nil ?_)))))
  refine g_callI (rc' := 0) (rs' := 0) kX8_20 (pr_init (ln := 0) (gUp_s _ _ _) (nI 0) (-1) (by omega)) (by decide +kernel) rfl rfl rfl (Nat.le_of_ble_eq_true rfl) (Nat.le_of_ble_eq_true rfl) (Nat.le_of_ble_eq_true rfl) (by omega) (by omega) rfl (fun _ _ z => z.elim) (fun v9 h5 hz => ?_)
  obtain ⟨rfl, rfl⟩ := hz
  simp only [Option.toList_some, Option.toList_none, List.cons_append, List.nil_append]
  refine g_putfF fX8_23 fin11_1 rfl (by decide +kernel) ((gUp_n _ _ hepa.symm).trans ((gUp_n _ _ hepa.symm).trans (gUp_s _ _ _))) (by simp) rfl rfl ?_
  refine g_end none rfl ⟨by decide +kernel, rfl⟩ ?_
  refine ⟨rfl, pa, ep, hpa, heph, hpe, ?_, ?_, ?_, fun z e9 z1 z2 => ?_⟩
  · rw [gUp_s]
    rfl
  · refine gAL_kp HA (S := fun z => z = a ∨ z = ep) (fun z e9 z1 z2 => ?_) (fun q hq => ?_)
    · rw [gUp_n _ _ (fun y => z1 (Or.inl y)), gUp_n _ _ (fun y => z1 (Or.inr y)), gUp_n _ _ (fun y => z1 (Or.inr y)), gUp_n _ _ (fun y => z1 (Or.inl y))]; exact z2
    · rw [List.mem_singleton.mp hq]
      exact fun y => y.elim hpaa hpe
  · rw [gUp_n _ _ hepa, gUp_s, show nI 0 * nI (10 ^ (4 - 0)) = 0 by decide, show nI 0 = (0 : Int32) by decide]
  · have zpa : z ≠ pa := fun y => by rw [y, hpa] at z2; cases z2
    have zep : z ≠ ep := fun y => by rw [y, heph] at z2; cases z2
    rw [gUp_n _ _ z1, gUp_n _ _ zep, gUp_n _ _ zep, gUp_n _ _ z1]
    exact hk50 z e9 zpa z2
/-- what makes an office's cells be apart -/
def gNd (ca da ba : Nat) (fl fq ls : List Nat) : Prop := ls.Nodup ∧ ca ≠ da ∧ ca ≠ ba ∧ da ≠ ba ∧ ∀ q ∈ fl, q ∉ fq
theorem fpL_nd {a e n : Nat} (h : n = 0 ∨ a ≠ e) : (fpL a e n).Nodup := by
  unfold fpL
  split
  · simp
  · rcases h with h | h
    · contradiction
    · simp [h]
theorem gAL_nd {h : gHp} {a : Nat} {fp xs : List Nat} (H : gAL Γ de h a fp xs) : fp.Nodup := by
  obtain ⟨mc, e, n, f, ⟨h1, h2, h3, h4, h5⟩, rfl⟩ := H
  exact fpL_nd (h5.imp (fun z => z.1) (fun z => z.2.2))
theorem gNd_to {o c t la ta ca da ba pa ep : Nat} {fl fq ls ps : List Nat} {N : Nat → Int32} (H : gOx Γ de h o N c t la ta ca da ba pa ep fl fq ls ps) (g : gNd ca da ba fl fq ls) : (gFp o ta ca da ba fl fq ls).Nodup := by
  obtain ⟨ho, HL, hlc, hls, hta, HP, hpc, hps, hep, ⟨fc, hca, hfc⟩, ⟨fd, hda, hfd⟩, ⟨fb, hba, hfb⟩⟩ := H
  obtain ⟨g1, g2, g3, g4, g5⟩ := g
  have kL := gAL_nk HL
  have kP := gAL_nk HP
  have kls : ∀ q ∈ ls, ∃ fs, h q = some (gJ 6 fs) := fun q hq => by
    obtain ⟨i, hi⟩ := List.getElem?_of_mem hq
    exact ⟨_, hls i q hi⟩
  have x1 : ∀ {q : Nat} {e : va_E}, h q = some e → (∀ fs, e ≠ gJ 4 fs) → (∀ n f, e ≠ gO Γ n f) → (∀ fs, e ≠ gJ 6 fs) → q ∉ fl ++ (fq ++ ls) := by
    intro q e hq e4 eO e6 hm
    simp only [List.mem_append] at hm
    rcases hm with z | z | z
    · rcases kL q z with ⟨fs, y⟩ | ⟨n, f, y⟩
      · rw [hq] at y; exact e4 _ (Option.some.inj y)
      · rw [hq] at y; exact eO _ _ (Option.some.inj y)
    · rcases kP q z with ⟨fs, y⟩ | ⟨n, f, y⟩
      · rw [hq] at y; exact e4 _ (Option.some.inj y)
      · rw [hq] at y; exact eO _ _ (Option.some.inj y)
    · obtain ⟨fs, y⟩ := kls q z
      rw [hq] at y; exact e6 _ (Option.some.inj y)
  have iO : ∀ {n n' : Nat} {f : Nat → Int32} {f' : Nat → Option Nat}, gI Γ n f ≠ gO Γ n' f' := fun z => by
    have z2 := congrArg (fun x : va_E => match x with | .inl (_, _, .inl _) => true | _ => false) z
    cases z2
  have ne : ∀ {a b : Nat} {x y : va_E}, h a = some x → h b = some y → x ≠ y → a ≠ b := fun h1 h2 h3 z => h3 (by rw [z, h2] at h1; exact (Option.some.inj h1).symm)
  unfold gFp
  simp only [List.nodup_cons, List.mem_cons, not_or]
  refine ⟨⟨ne ho hta (fun z => by cases z), ne ho hca (fun z => by cases z), ne ho hda (fun z => by cases z), ne ho hba (fun z => by cases z), x1 ho (fun fs z => by cases z) (fun n f z => by cases z) (fun fs z => by cases z)⟩, ⟨ne hta hca (fun z => by cases z), ne hta hda (fun z => by cases z), ne hta hba (fun z => by cases z), x1 hta (fun fs z => by cases z) (fun n f z => by cases z) (fun fs z => by cases z)⟩, ⟨g2, g3, x1 hca (fun fs z => by cases z) (fun n f z => iO z) (fun fs z => by cases z)⟩, ⟨g4, x1 hda (fun fs z => by cases z) (fun n f z => iO z) (fun fs z => by cases z)⟩, x1 hba (fun fs z => by cases z) (fun n f z => iO z) (fun fs z => by cases z), ?_⟩
  rw [List.nodup_append]
  refine ⟨gAL_nd HL, ?_, fun a ha b hb z => ?_⟩
  · rw [List.nodup_append]
    refine ⟨gAL_nd HP, g1, fun a ha b hb z => ?_⟩
    subst z
    obtain ⟨fs, y⟩ := kls a hb
    rcases kP a ha with ⟨fs', y'⟩ | ⟨n, f, y'⟩ <;> (rw [y] at y'; cases y')
  · subst z
    rcases List.mem_append.mp hb with w | w
    · exact g5 a ha w
    · obtain ⟨fs, y⟩ := kls a w
      rcases kL a ha with ⟨fs', y'⟩ | ⟨n, f, y'⟩ <;> (rw [y] at y'; cases y')
theorem gNd_of {o ta ca da ba : Nat} {fl fq ls : List Nat} (nd : (gFp o ta ca da ba fl fq ls).Nodup) : gNd ca da ba fl fq ls := by
  have n1 := gFp_ls nd
  unfold gFp at nd
  simp only [List.nodup_cons, List.mem_cons, not_or, List.nodup_append, List.mem_append] at nd
  exact ⟨n1, nd.2.2.1.1, nd.2.2.1.2.1, nd.2.2.2.1.1, fun q hq hq2 => nd.2.2.2.2.2.2.2 q hq q (Or.inl hq2) rfl⟩
end GCo
