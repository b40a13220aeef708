/-! THE LAW: routes are right -/
section GLf
variable {Γ : gE} {bm de mi : Nat} {h : gHp} {m : Nat} {N : Nat → Int32} {c t nx : Nat} {sc L : Nat} {xs : Nat → Int32}
theorem ro_n4 (I : rIV N c t nx) {cd : Nat} (hcd : cd < 10000) : (if lnt N t cd = 0 then (-2004) else rRoute N (nI cd) t) = (-2004) ↔ lnt N t cd = 0 := by
  constructor
  · intro z
    by_cases y : lnt N t cd = 0
    · exact y
    · rw [if_neg y] at z
      have hr := (not_congr (ml_lnt I.ht I.pv I.up hcd).2).mpr y
      unfold rRoute at hr z
      rcases pto_bst I.ht I.pv I.up hcd (M := 4) (Nat.le_refl _) with ⟨w, -⟩ | ⟨w, w2⟩
      · rw [if_pos w] at hr
        exact absurd rfl hr
      · rw [if_neg w] at z
        rcases rMatch_in (N := N) (dg := nI cd) (ln := nI 4) (most := nI 4) (c := t) with e | ⟨k, hk, e⟩
        · exact absurd e w
        · have ht := I.ht
          obtain ⟨-, -, -, -, -, r, hr5, er⟩ := pv_at I.pv hk
          rw [e, nI_clamp (by omega), er] at z
          have := Int32.lt_iff_toInt_lt.mpr (show ((-2004 : Int32)).toInt < (nI r).toInt by rw [nI_toInt (by omega)]; show (-2004 : Int) < _; omega)
          rw [z] at this
          have := Int32.lt_iff_toInt_lt.mp this
          omega
  · intro z
    rw [if_pos z]
theorem lnt_z {cd : Nat} : nI (lnt N t cd) = 0 ↔ lnt N t cd = 0 := ⟨fun z => nI_z (by have := lnt_le (N := N) (t := t) (cd := cd); omega) z, fun z => by rw [z]; decide⟩
theorem la_areRoutesRight (hp : gPxs Γ) (hnc : gPnc Γ) (hsa : gPa Γ .int sc L (fun j => .int (xs j))) (hL : L ≤ 260) {k : Nat} (hk : k < 5000) (H : lP bm Γ de h m N c t nx) : gC Γ M_L_areRoutesRight [.ref m, .ref sc, .int (nI k)] h 40 40 240 (fun v h' => v = some (.int (nI 1)) ∧ lP bm Γ de h' m N c t nx) (fun _ _ => False) := by
  have I := H.iv.1
  have loop : ∀ n i (h : gHp), lP bm Γ de h m N c t nx → i + n = 12 → G Γ M_L_areRoutesRight 40 40 240 (fun v h' => v = some (.int (nI 1)) ∧ lP bm Γ de h' m N c t nx) (fun _ _ => False) (2 * n + 0) (12 * n + 0) 98 [some (.ref m), some (.ref sc), some (.int (nI k)), some (.int (nI 1)), some (.int (nI i)), none, none, none] [] h := by
    intro n
    induction n with
    | zero =>
      intro i h H hi
      obtain ⟨fs, hm⟩ := H.at12
      refine g_blk [(.iload 4, .null), (.bipush 12, .int (nI 12))] (Nat.le_of_ble_eq_true rfl) (by decide +kernel) ?_
      refine gx_iload_4 (gx_bipush ((gx_nil ?_)))
      refine g_icmp_ge (off := 100) (tgt := 202) (by decide +kernel) (by decide) (fun c102 => ?_) (fun c102 => ?_)
      · try simp only [bI_0, Decidable.not_not] at c102
        refine g_blk [(.iload_n 3, .null)] (Nat.le_of_ble_eq_true rfl) (by decide +kernel) ?_
        refine gx_iload_n_3 ((gx_nil ?_))
        refine g_end (some (.int _)) rfl ⟨by decide +kernel, _, rfl, (by first | rfl | exact bI_nar _)⟩ ?_
        exact ⟨rfl, H⟩
      · try simp only [bI_0, Decidable.not_not] at c102
        exact absurd (nI_le (by omega) (by omega)) c102
    | succ n ih =>
      intro i h H hi
      obtain ⟨fs, hm⟩ := H.at12
      refine g_blk [(.iload 4, .null), (.bipush 12, .int (nI 12))] (Nat.le_of_ble_eq_true rfl) (by decide +kernel) ?_
      refine gx_iload_4 (gx_bipush ((gx_nil ?_)))
      refine g_icmp_ge (off := 100) (tgt := 202) (by decide +kernel) (by decide) (fun c102 => ?_) (fun c102 => ?_)
      · try simp only [bI_0, Decidable.not_not] at c102
        exact absurd ((nI_leI (by omega) (by omega)).mp c102) (by omega)
      · try simp only [bI_0, Decidable.not_not] at c102
        refine g_blk [(.aload_n 1, .null), (.iload_n 2, .null), (.iconst 5, .int (nI 5)), (.iload 4, .null), (.imul, .null), (.iadd, .null)] (Nat.le_of_ble_eq_true rfl) (by decide +kernel) ?_
        refine gx_aload_n_1 (gx_iload_n_2 (gx_iconst (gx_iload_4 (gx_imul (gx_iadd ((gx_nil ?_)))))))
        try simp only [nI_add, pk_mul, Nat.add_zero, Nat.zero_add, Nat.reduceAdd, Nat.reduceMul]
        refine g_pS kL_134 (la_code hsa hL (k := k + 5 * i) (by omega)) (by decide +kernel) rfl rfl (Nat.le_of_ble_eq_true rfl) (Nat.le_of_ble_eq_true rfl) (Nat.le_of_ble_eq_true rfl) rfl ?_
        simp only [Option.toList_some, Option.toList_none, List.cons_append, List.nil_append]
        refine g_blk [(.istore 5, .null), (.aload_n 0, .null), (.iload 5, .null)] (Nat.le_of_ble_eq_true rfl) (by decide +kernel) ?_
        refine gx_istore_5 rfl (gx_aload_n_0 (gx_iload_5 ((gx_nil ?_))))
        refine g_pS kL_204 (la_longest hp H hm coN_lt) (by decide +kernel) rfl rfl (Nat.le_of_ble_eq_true rfl) (Nat.le_of_ble_eq_true rfl) (Nat.le_of_ble_eq_true rfl) rfl ?_
        simp only [Option.toList_some, Option.toList_none, List.cons_append, List.nil_append]
        refine g_blk [(.istore 6, .null), (.aload_n 0, .null), (.iconst 5, .int (nI 5)), (.iload 5, .null), (.iconst 0, .int (nI 0))] (Nat.le_of_ble_eq_true rfl) (by decide +kernel) ?_
        refine gx_istore_6 rfl (gx_aload_n_0 (gx_iconst (gx_iload_5 (gx_iconst ((gx_nil ?_))))))
        refine g_callSH (rc' := 2 * n + 1) (rs' := 12 * n + 6) kL_166 (aq_5 hp hnc H coN_lt) (by decide +kernel) rfl rfl (Nat.le_of_ble_eq_true rfl) (Nat.le_of_ble_eq_true rfl) (Nat.le_of_ble_eq_true rfl) (by omega) (by omega) rfl (fun _ _ z => z.elim) (fun v9 k5 hz => ?_)
        obtain ⟨rfl, rfl⟩ := hz
        simp only [Option.toList_some, Option.toList_none, List.cons_append, List.nil_append]
        refine g_blk [(.istore 7, .null), (.iload_n 3, .null)] (Nat.le_of_ble_eq_true rfl) (by decide +kernel) ?_
        refine gx_istore_7 rfl (gx_iload_n_3 ((gx_nil ?_)))
        refine g_if_eq (off := 58) (tgt := 194) (by decide +kernel) (by decide) (fun c136 => ?_) (fun c136 => ?_)
        · exact absurd c136 (by decide)
        · try simp only [bI_0, Decidable.not_not] at c136
          refine g_blk [(.aload_n 0, .null), (.iload 5, .null)] (Nat.le_of_ble_eq_true rfl) (by decide +kernel) ?_
          refine gx_aload_n_0 (gx_iload_5 ((gx_nil ?_)))
          refine g_pV kL_88 (lr_matchLength hp H coN_lt) (by decide +kernel) rfl rfl hm rfl (Nat.le_of_ble_eq_true rfl) (Nat.le_of_ble_eq_true rfl) (Nat.le_of_ble_eq_true rfl) rfl ?_
          simp only [Option.toList_some, Option.toList_none, List.cons_append, List.nil_append]
          refine g_blk [(.iload 6, .null)] (Nat.le_of_ble_eq_true rfl) (by decide +kernel) ?_
          refine gx_iload_6 ((gx_nil ?_))
          refine g_icmp_ne (off := 47) (tgt := 194) (by decide +kernel) (by decide) (fun c147 => ?_) (fun c147 => ?_)
          · try simp only [bI_0, Decidable.not_not] at c147
            exact absurd (by first | rfl | trivial) c147
          · try simp only [bI_0, Decidable.not_not] at c147
            refine g_blk [(.iload 7, .null), (.sipush (-2004), .int (-2004))] (Nat.le_of_ble_eq_true rfl) (by decide +kernel) ?_
            refine gx_iload_7 (gx_sipush ((gx_nil ?_)))
            refine g_icmp_ne (off := 7) (tgt := 162) (by decide +kernel) (by decide) (fun c155 => ?_) (fun c155 => ?_)
            · try simp only [bI_0, Decidable.not_not] at c155
              refine g_blk [(.iconst 0, .int (nI 0)), (.iload 6, .null)] (Nat.le_of_ble_eq_true rfl) (by decide +kernel) ?_
              refine gx_iconst (gx_iload_6 ((gx_nil ?_)))
              refine g_if_ne (off := 7) (tgt := 172) (by decide +kernel) (by decide) (fun c165 => ?_) (fun c165 => ?_)
              · try simp only [bI_0, Decidable.not_not] at c165
                refine g_blk [(.iconst 0, .int (nI 0))] (Nat.le_of_ble_eq_true rfl) (by decide +kernel) ?_
                refine gx_iconst ((gx_nil ?_))
                refine g_icmp_ne (off := 21) (tgt := 194) (by decide +kernel) (by decide) (fun c173 => ?_) (fun c173 => ?_)
                · exact absurd (by decide) c173
                · try simp only [bI_0, Decidable.not_not] at c173
                  refine g_blk [(.aload_n 0, .null), (.bipush 6, .int (nI 6)), (.iload 5, .null), (.iconst 0, .int (nI 0))] (Nat.le_of_ble_eq_true rfl) (by decide +kernel) ?_
                  refine gx_aload_n_0 (gx_bipush (gx_iload_5 (gx_iconst ((gx_nil ?_)))))
                  refine g_callSH (rc' := 2 * n + 0) (rs' := 12 * n + 0) kL_166 (aq_6 hp hnc H coN_lt) (by decide +kernel) rfl rfl (Nat.le_of_ble_eq_true rfl) (Nat.le_of_ble_eq_true rfl) (Nat.le_of_ble_eq_true rfl) (by omega) (by omega) rfl (fun _ _ z => z.elim) (fun v9 k6 hz => ?_)
                  obtain ⟨rfl, Hk6⟩ := hz
                  obtain ⟨fsk6, hmk6⟩ := Hk6.at12
                  simp only [Option.toList_some, Option.toList_none, List.cons_append, List.nil_append]
                  refine g_blk [(.iload 7, .null)] (Nat.le_of_ble_eq_true rfl) (by decide +kernel) ?_
                  refine gx_iload_7 ((gx_nil ?_))
                  refine g_icmp_ne (off := 7) (tgt := 194) (by decide +kernel) (by decide) (fun c187 => ?_) (fun c187 => ?_)
                  · try simp only [bI_0, Decidable.not_not] at c187
                    exact absurd (by first | rfl | trivial) c187
                  · try simp only [bI_0, Decidable.not_not] at c187
                    refine g_blk [(.iconst 1, .int (nI 1)), (.goto 4, .retAddr 195), (.istore_n 3, .null), (.iinc 4 1, .int (nI 1)), (.goto (-101), .retAddr 98)] (Nat.le_of_ble_eq_true rfl) (by decide +kernel) ?_
                    refine gx_iconst (gx_goto (gx_istore_n_3 rfl (gx_iinc_4 rfl (gx_goto ((gx_nil ?_))))))
                    try simp only [nI_add, pk_mul, Nat.add_zero, Nat.zero_add, Nat.reduceAdd, Nat.reduceMul]
                    refine g_weak (rc' := 2 * n + 0) (rs' := 12 * n + 0) (L' := [some (.ref m), some (.ref sc), some (.int (nI k)), some (.int (nI 1)), some (.int (nI (i + 1))), none, none, none]) ⟨rfl, rfl, rfl, rfl, rfl, True.intro⟩ (by omega) (by omega) ?_
                    exact ih (i + 1) _ Hk6 (by omega)
              · try simp only [bI_0, Decidable.not_not] at c165
                exact absurd ((ro_n4 I coN_lt).mpr (lnt_z.mp c165)) c155
            · try simp only [bI_0, Decidable.not_not] at c155
              refine g_blk [(.iconst 1, .int (nI 1)), (.goto 4, .retAddr 163), (.iload 6, .null)] (Nat.le_of_ble_eq_true rfl) (by decide +kernel) ?_
              refine gx_iconst (gx_goto (gx_iload_6 ((gx_nil ?_))))
              refine g_if_ne (off := 7) (tgt := 172) (by decide +kernel) (by decide) (fun c165 => ?_) (fun c165 => ?_)
              · try simp only [bI_0, Decidable.not_not] at c165
                exact absurd (lnt_z.mpr ((ro_n4 I coN_lt).mp c155)) c165
              · try simp only [bI_0, Decidable.not_not] at c165
                refine g_blk [(.iconst 1, .int (nI 1)), (.goto 4, .retAddr 173)] (Nat.le_of_ble_eq_true rfl) (by decide +kernel) ?_
                refine gx_iconst (gx_goto ((gx_nil ?_)))
                refine g_icmp_ne (off := 21) (tgt := 194) (by decide +kernel) (by decide) (fun c173 => ?_) (fun c173 => ?_)
                · exact absurd (by decide) c173
                · try simp only [bI_0, Decidable.not_not] at c173
                  refine g_blk [(.aload_n 0, .null), (.bipush 6, .int (nI 6)), (.iload 5, .null), (.iconst 0, .int (nI 0))] (Nat.le_of_ble_eq_true rfl) (by decide +kernel) ?_
                  refine gx_aload_n_0 (gx_bipush (gx_iload_5 (gx_iconst ((gx_nil ?_)))))
                  refine g_callSH (rc' := 2 * n + 0) (rs' := 12 * n + 0) kL_166 (aq_6 hp hnc H coN_lt) (by decide +kernel) rfl rfl (Nat.le_of_ble_eq_true rfl) (Nat.le_of_ble_eq_true rfl) (Nat.le_of_ble_eq_true rfl) (by omega) (by omega) rfl (fun _ _ z => z.elim) (fun v9 k7 hz => ?_)
                  obtain ⟨rfl, Hk7⟩ := hz
                  obtain ⟨fsk7, hmk7⟩ := Hk7.at12
                  simp only [Option.toList_some, Option.toList_none, List.cons_append, List.nil_append]
                  refine g_blk [(.iload 7, .null)] (Nat.le_of_ble_eq_true rfl) (by decide +kernel) ?_
                  refine gx_iload_7 ((gx_nil ?_))
                  refine g_icmp_ne (off := 7) (tgt := 194) (by decide +kernel) (by decide) (fun c187 => ?_) (fun c187 => ?_)
                  · try simp only [bI_0, Decidable.not_not] at c187
                    exact absurd (by first | rfl | trivial) c187
                  · try simp only [bI_0, Decidable.not_not] at c187
                    refine g_blk [(.iconst 1, .int (nI 1)), (.goto 4, .retAddr 195), (.istore_n 3, .null), (.iinc 4 1, .int (nI 1)), (.goto (-101), .retAddr 98)] (Nat.le_of_ble_eq_true rfl) (by decide +kernel) ?_
                    refine gx_iconst (gx_goto (gx_istore_n_3 rfl (gx_iinc_4 rfl (gx_goto ((gx_nil ?_))))))
                    try simp only [nI_add, pk_mul, Nat.add_zero, Nat.zero_add, Nat.reduceAdd, Nat.reduceMul]
                    refine g_weak (rc' := 2 * n + 0) (rs' := 12 * n + 0) (L' := [some (.ref m), some (.ref sc), some (.int (nI k)), some (.int (nI 1)), some (.int (nI (i + 1))), none, none, none]) ⟨rfl, rfl, rfl, rfl, rfl, True.intro⟩ (by omega) (by omega) ?_
                    exact ih (i + 1) _ Hk7 (by omega)
  obtain ⟨fs, hm⟩ := H.at12
  refine gC_of (by decide) rfl (Nat.le_of_ble_eq_true rfl) [some (.ref m), some (.ref sc), some (.int (nI k)), none, none, none, none, none] rfl ?_
  refine g_blk [(.aload_n 0, .null), (.iconst 5, .int (nI 5)), (.sipush 10000, .int (nI 10000)), (.iconst 0, .int (nI 0))] (Nat.le_of_ble_eq_true rfl) (by decide +kernel) ?_
  refine gx_aload_n_0 (gx_iconst (gx_sipush (gx_iconst ((gx_nil ?_)))))
  refine g_callSH (rc' := 39) (rs' := 234) kL_166 (aq_5x hp hnc H) (by decide +kernel) rfl rfl (Nat.le_of_ble_eq_true rfl) (Nat.le_of_ble_eq_true rfl) (Nat.le_of_ble_eq_true rfl) (by omega) (by omega) rfl (fun _ _ z => z.elim) (fun v9 k5 hz => ?_)
  obtain ⟨rfl, rfl⟩ := hz
  simp only [Option.toList_some, Option.toList_none, List.cons_append, List.nil_append]
  refine g_blk [(.sipush (-2003), .int (-2003))] (Nat.le_of_ble_eq_true rfl) (by decide +kernel) ?_
  refine gx_sipush ((gx_nil ?_))
  refine g_icmp_ne (off := 81) (tgt := 93) (by decide +kernel) (by decide) (fun c12 => ?_) (fun c12 => ?_)
  · exact absurd (by decide) c12
  · try simp only [bI_0, Decidable.not_not] at c12
    refine g_blk [(.aload_n 0, .null), (.bipush 6, .int (nI 6)), (.iconst (-1), .int (-1)), (.iconst 0, .int (nI 0))] (Nat.le_of_ble_eq_true rfl) (by decide +kernel) ?_
    refine gx_aload_n_0 (gx_bipush (gx_iconst (gx_iconst ((gx_nil ?_)))))
    refine g_callSH (rc' := 38) (rs' := 228) kL_166 (aq_6x hp hnc H) (by decide +kernel) rfl rfl (Nat.le_of_ble_eq_true rfl) (Nat.le_of_ble_eq_true rfl) (Nat.le_of_ble_eq_true rfl) (by omega) (by omega) rfl (fun _ _ z => z.elim) (fun v9 k6 hz => ?_)
    obtain ⟨rfl, Hk6⟩ := hz
    obtain ⟨fsk6, hmk6⟩ := Hk6.at12
    simp only [Option.toList_some, Option.toList_none, List.cons_append, List.nil_append]
    refine g_blk [(.sipush (-2003), .int (-2003))] (Nat.le_of_ble_eq_true rfl) (by decide +kernel) ?_
    refine gx_sipush ((gx_nil ?_))
    refine g_icmp_ne (off := 67) (tgt := 93) (by decide +kernel) (by decide) (fun c26 => ?_) (fun c26 => ?_)
    · exact absurd (by decide) c26
    · try simp only [bI_0, Decidable.not_not] at c26
      refine g_blk [(.aload_n 0, .null), (.bipush 7, .int (nI 7)), (.sipush 10000, .int (nI 10000)), (.iconst 0, .int (nI 0))] (Nat.le_of_ble_eq_true rfl) (by decide +kernel) ?_
      refine gx_aload_n_0 (gx_bipush (gx_sipush (gx_iconst ((gx_nil ?_)))))
      refine g_callSH (rc' := 37) (rs' := 222) kL_166 (aq_7x hp hnc Hk6) (by decide +kernel) rfl rfl (Nat.le_of_ble_eq_true rfl) (Nat.le_of_ble_eq_true rfl) (Nat.le_of_ble_eq_true rfl) (by omega) (by omega) rfl (fun _ _ z => z.elim) (fun v9 k7 hz => ?_)
      obtain ⟨rfl, rfl⟩ := hz
      simp only [Option.toList_some, Option.toList_none, List.cons_append, List.nil_append]
      refine g_blk [(.sipush (-2003), .int (-2003))] (Nat.le_of_ble_eq_true rfl) (by decide +kernel) ?_
      refine gx_sipush ((gx_nil ?_))
      refine g_icmp_ne (off := 51) (tgt := 93) (by decide +kernel) (by decide) (fun c42 => ?_) (fun c42 => ?_)
      · exact absurd (by decide) c42
      · try simp only [bI_0, Decidable.not_not] at c42
        refine g_blk [(.aload_n 0, .null), (.bipush 16, .int (nI 16)), (.bipush 10, .int (nI 10)), (.iconst 1, .int (nI 1))] (Nat.le_of_ble_eq_true rfl) (by decide +kernel) ?_
        refine gx_aload_n_0 (gx_bipush (gx_bipush (gx_iconst ((gx_nil ?_)))))
        refine g_callSH (rc' := 36) (rs' := 216) kL_166 (aq_16x hp hnc Hk6) (by decide +kernel) rfl rfl (Nat.le_of_ble_eq_true rfl) (Nat.le_of_ble_eq_true rfl) (Nat.le_of_ble_eq_true rfl) (by omega) (by omega) rfl (fun _ _ z => z.elim) (fun v9 k8 hz => ?_)
        obtain ⟨rfl, rfl⟩ := hz
        simp only [Option.toList_some, Option.toList_none, List.cons_append, List.nil_append]
        refine g_blk [(.sipush (-2003), .int (-2003))] (Nat.le_of_ble_eq_true rfl) (by decide +kernel) ?_
        refine gx_sipush ((gx_nil ?_))
        refine g_icmp_ne (off := 36) (tgt := 93) (by decide +kernel) (by decide) (fun c57 => ?_) (fun c57 => ?_)
        · exact absurd (by decide) c57
        · try simp only [bI_0, Decidable.not_not] at c57
          refine g_blk [(.aload_n 0, .null), (.bipush 16, .int (nI 16)), (.iconst 0, .int (nI 0)), (.iconst 5, .int (nI 5))] (Nat.le_of_ble_eq_true rfl) (by decide +kernel) ?_
          refine gx_aload_n_0 (gx_bipush (gx_iconst (gx_iconst ((gx_nil ?_)))))
          refine g_callSH (rc' := 35) (rs' := 210) kL_166 (aq_16y hp hnc Hk6) (by decide +kernel) rfl rfl (Nat.le_of_ble_eq_true rfl) (Nat.le_of_ble_eq_true rfl) (Nat.le_of_ble_eq_true rfl) (by omega) (by omega) rfl (fun _ _ z => z.elim) (fun v9 k9 hz => ?_)
          obtain ⟨rfl, rfl⟩ := hz
          simp only [Option.toList_some, Option.toList_none, List.cons_append, List.nil_append]
          refine g_blk [(.sipush (-2003), .int (-2003))] (Nat.le_of_ble_eq_true rfl) (by decide +kernel) ?_
          refine gx_sipush ((gx_nil ?_))
          refine g_icmp_ne (off := 22) (tgt := 93) (by decide +kernel) (by decide) (fun c71 => ?_) (fun c71 => ?_)
          · exact absurd (by decide) c71
          · try simp only [bI_0, Decidable.not_not] at c71
            refine g_blk [(.aload_n 0, .null), (.bipush 17, .int (nI 17)), (.bipush 6, .int (nI 6)), (.iconst 0, .int (nI 0))] (Nat.le_of_ble_eq_true rfl) (by decide +kernel) ?_
            refine gx_aload_n_0 (gx_bipush (gx_bipush (gx_iconst ((gx_nil ?_)))))
            refine g_callSH (rc' := 34) (rs' := 204) kL_166 (aq_17x hp hnc Hk6) (by decide +kernel) rfl rfl (Nat.le_of_ble_eq_true rfl) (Nat.le_of_ble_eq_true rfl) (Nat.le_of_ble_eq_true rfl) (by omega) (by omega) rfl (fun _ _ z => z.elim) (fun v9 k10 hz => ?_)
            obtain ⟨rfl, rfl⟩ := hz
            simp only [Option.toList_some, Option.toList_none, List.cons_append, List.nil_append]
            refine g_blk [(.sipush (-2002), .int (-2002))] (Nat.le_of_ble_eq_true rfl) (by decide +kernel) ?_
            refine gx_sipush ((gx_nil ?_))
            refine g_icmp_ne (off := 7) (tgt := 93) (by decide +kernel) (by decide) (fun c86 => ?_) (fun c86 => ?_)
            · exact absurd (by decide) c86
            · try simp only [bI_0, Decidable.not_not] at c86
              refine g_blk [(.iconst 1, .int (nI 1)), (.goto 4, .retAddr 94), (.istore_n 3, .null), (.iconst 0, .int (nI 0)), (.istore 4, .null)] (Nat.le_of_ble_eq_true rfl) (by decide +kernel) ?_
              refine gx_iconst (gx_goto (gx_istore_n_3 rfl (gx_iconst (gx_istore_4 rfl ((gx_nil ?_))))))
              refine g_weak (rc' := 2 * 12 + 0) (rs' := 12 * 12 + 0) (L' := [some (.ref m), some (.ref sc), some (.int (nI k)), some (.int (nI 1)), some (.int (nI 0)), none, none, none]) ⟨rfl, rfl, rfl, rfl, rfl, True.intro⟩ (by omega) (by omega) ?_
              exact loop 12 0 _ Hk6 (by omega)
end GLf
