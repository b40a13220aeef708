/-! THE LAW: a letter is right -/
section GLl
variable {Γ : gE} {bm de mi : Nat} {h h0 : gHp} {m : Nat} {N : Nat → Int32} {c t nx : Nat} {p i cd w pr q : Nat} {A : Option (Nat × Nat)} {at9 wr du rt9 : Int32} {d1 d10 sr ss : Nat} {vf : Value} {mc ms rc rs : Nat}
theorem tp_3 {i : Nat} (h : i < 10000) : tpd i ≤ 3 := by
  have := tpd_c i
  omega
theorem n4_r {r : Nat} (hr : r < 6) : ¬ (-2004 : Int32) = nI r := fun z => by
  have := congrArg Int32.toInt z
  rw [nI_toInt (by omega)] at this
  have : (-2004 : Int) = _ := this
  omega
theorem lxF.A3 (X : lxF N c t p i cd w pr q A at9 wr du) : ∀ a b, A = some (a, b) → a < 6 ∧ b < 3 := fun a b e => by
  obtain ⟨-, -, -, -, -, y3, -⟩ := X
  rcases y3 with z | ⟨a', b', z1, z2, z3, -⟩
  · rw [z.1] at e; cases e
  · rw [z3] at e; cases e; exact ⟨z1, z2⟩
theorem lxF.lt (X : lxF N c t p i cd w pr q A at9 wr du) (h9 : ¬ 0 ≤ at9) : A = none ∧ N (62 + 7 * p + 5) = -1 := by
  obtain ⟨-, -, -, -, -, y3, -⟩ := X
  rcases y3 with z | ⟨a', b', z1, z2, z3, -, -, z4⟩
  · exact ⟨z.1, z.2.1⟩
  · rw [z4, ← z0] at h9
    exact absurd (nI_le (Nat.zero_le _) (by omega)) h9
theorem lxF.ge (X : lxF N c t p i cd w pr q A at9 wr du) (h9 : 0 ≤ at9) : ∃ a b, a < 6 ∧ b < 3 ∧ A = some (a, b) ∧ N (62 + 7 * p + 5) = nI a ∧ N (62 + 7 * p + 6) = nI b ∧ at9 = nI a ∧ ¬ N (62 + 7 * p + 5) = -1 := by
  obtain ⟨-, -, -, -, -, y3, -⟩ := X
  rcases y3 with z | ⟨a', b', z1, z2, z3, z4, z5, z6⟩
  · rw [z.2.2] at h9
    exact absurd h9 (by decide)
  · exact ⟨a', b', z1, z2, z3, z4, z5, z6, by rw [z4]; exact nI_nm1 (by omega)⟩
theorem il_tail (hd : gDi Γ) (hpl : gPall Γ de mi) (hp : gPxs Γ) (hnc : gPnc Γ) (hps : gPsb Γ d1 d10 vf) (hpt : gPtx Γ sr ss) (hpw : gPlw Γ) (X : lxF N c t p i cd w pr q A at9 wr du) (H0 : lP bm Γ de h0 m N c t nx) (k0 : gAll h0 h) {s r : Nat} (hs : gSX Γ h s r (fmt pr i cd w A q)) (hs0 : h0 s = none) (hr0 : h0 r = none) (hrc : 85 ≤ rc) (hrs : 3016 ≤ rs) : G Γ M_L_isLetterRight 40 mc ms (fun v h' => v = some (.int (nI 1)) ∧ lP bm Γ de h' m N c t nx) (fun _ _ => False) rc rs 236 [some (.ref m), some (.int (N (62 + 7 * p))), some (.int at9), some (.int (nI cd)), some (.int rt9), some (.int wr), some (.int du), some (.ref s)] [] h := by
  have X0 := X
  obtain ⟨⟨hpc, x2, x3⟩, ⟨x4, x5⟩, ⟨x6, x7⟩, ⟨x8, x9⟩, ⟨y1, y2⟩, y3, ewr, edu⟩ := X0
  have hfl := fmt_len (pr := pr) (cd := cd) x3 x7 y2 X.A3
  have H := H0.all hd k0
  obtain ⟨fs, hm⟩ := H.at12
  refine g_blk [(.aload_n 0, .null), (.iload_n 1, .null)] (Nat.le_of_ble_eq_true rfl) (by decide +kernel) ?_
  refine gx_aload_n_0 (gx_iload_n_1 ((gx_nil ?_)))
  refine g_pV kL_191 (lr_isInTray hp H hpc) (by decide +kernel) rfl rfl hm rfl (Nat.le_of_ble_eq_true rfl) (Nat.le_of_ble_eq_true rfl) (Nat.le_of_ble_eq_true rfl) rfl ?_
  simp only [Option.toList_some, Option.toList_none, List.cons_append, List.nil_append]
  refine g_blk [(.iload_n 2, .null)] (Nat.le_of_ble_eq_true rfl) (by decide +kernel) ?_
  refine gx_iload_n_2 ((gx_nil ?_))
  refine g_if_ge (off := 7) (tgt := 249) (by decide +kernel) (by decide) (fun c242 => ?_) (fun c242 => ?_)
  · try simp only [bI_0, Decidable.not_not] at c242
    have e5 := (X.ge c242).choose_spec.choose_spec.2.2.2.2.2.2
    refine g_blk [(.iconst 0, .int (nI 0))] (Nat.le_of_ble_eq_true rfl) (by decide +kernel) ?_
    refine gx_iconst ((gx_nil ?_))
    refine g_icmp_ne (off := 95) (tgt := 345) (by decide +kernel) (by decide) (fun c250 => ?_) (fun c250 => ?_)
    · try simp only [bI_0, Decidable.not_not] at c250
      exact absurd (by first | exact bI_t e5 | exact bI_f e5) c250
    · try simp only [bI_0, Decidable.not_not] at c250
      refine g_blk [(.aload_n 0, .null), (.iload_n 1, .null)] (Nat.le_of_ble_eq_true rfl) (by decide +kernel) ?_
      refine gx_aload_n_0 (gx_iload_n_1 ((gx_nil ?_)))
      refine g_pV kL_263 (lr_isMissorted hp H hpc) (by decide +kernel) rfl rfl hm rfl (Nat.le_of_ble_eq_true rfl) (Nat.le_of_ble_eq_true rfl) (Nat.le_of_ble_eq_true rfl) rfl ?_
      simp only [Option.toList_some, Option.toList_none, List.cons_append, List.nil_append]
      refine g_blk [(.iload 5, .null)] (Nat.le_of_ble_eq_true rfl) (by decide +kernel) ?_
      refine gx_iload_5 ((gx_nil ?_))
      refine g_icmp_ne (off := 85) (tgt := 345) (by decide +kernel) (by decide) (fun c260 => ?_) (fun c260 => ?_)
      · try simp only [bI_0, Decidable.not_not] at c260
        exact absurd ewr.symm c260
      · try simp only [bI_0, Decidable.not_not] at c260
        refine g_blk [(.aload_n 0, .null), (.bipush 10, .int (nI 10)), (.iload_n 1, .null), (.iconst 0, .int (nI 0))] (Nat.le_of_ble_eq_true rfl) (by decide +kernel) ?_
        refine gx_aload_n_0 (gx_bipush (gx_iload_n_1 (gx_iconst ((gx_nil ?_)))))
        refine g_callSH (rc' := 84) (rs' := 3010) kL_166 (aq_10 hp hnc H hpc) (by decide +kernel) rfl rfl (Nat.le_of_ble_eq_true rfl) (Nat.le_of_ble_eq_true rfl) (Nat.le_of_ble_eq_true rfl) (by omega) (by omega) rfl (fun _ _ z => z.elim) (fun v9 k5 hz => ?_)
        obtain ⟨rfl, rfl⟩ := hz
        simp only [Option.toList_some, Option.toList_none, List.cons_append, List.nil_append]
        refine g_blk [(.iload 6, .null)] (Nat.le_of_ble_eq_true rfl) (by decide +kernel) ?_
        refine gx_iload_6 ((gx_nil ?_))
        refine g_icmp_ne (off := 72) (tgt := 345) (by decide +kernel) (by decide) (fun c273 => ?_) (fun c273 => ?_)
        · try simp only [bI_0, Decidable.not_not] at c273
          exact absurd edu.symm c273
        · try simp only [bI_0, Decidable.not_not] at c273
          refine g_blk [(.aload_n 0, .null), (.bipush 11, .int (nI 11)), (.iload_n 1, .null), (.iconst 0, .int (nI 0))] (Nat.le_of_ble_eq_true rfl) (by decide +kernel) ?_
          refine gx_aload_n_0 (gx_bipush (gx_iload_n_1 (gx_iconst ((gx_nil ?_)))))
          refine g_callSH (rc' := 22) (rs' := 780) kL_166 (aq_11 hd hpl hp hnc H hpc) (by decide +kernel) rfl rfl (Nat.le_of_ble_eq_true rfl) (Nat.le_of_ble_eq_true rfl) (Nat.le_of_ble_eq_true rfl) (by omega) (by omega) rfl (fun _ _ z => z.elim) (fun v9 k6 hz => ?_)
          obtain ⟨rfl, H11, k11⟩ := hz
          obtain ⟨fs11, hm11⟩ := H11.at12
          have hs11 := hs.all k11
          have k01 : gAll h0 k6 := gAll_tr k0 k11 (fun _ y => y.elim)
          simp only [Option.toList_some, Option.toList_none, List.cons_append, List.nil_append]
          refine g_blk [(.iload 6, .null)] (Nat.le_of_ble_eq_true rfl) (by decide +kernel) ?_
          refine gx_iload_6 ((gx_nil ?_))
          refine g_icmp_ne (off := 59) (tgt := 345) (by decide +kernel) (by decide) (fun c286 => ?_) (fun c286 => ?_)
          · try simp only [bI_0, Decidable.not_not] at c286
            exact absurd edu.symm c286
          · try simp only [bI_0, Decidable.not_not] at c286
            refine g_blk [(.aload_n 0, .null), (.iload_n 1, .null)] (Nat.le_of_ble_eq_true rfl) (by decide +kernel) ?_
            refine gx_aload_n_0 (gx_iload_n_1 ((gx_nil ?_)))
            refine g_pV kL_266 (lr_canSort hp H11 hpc) (by decide +kernel) rfl rfl hm11 rfl (Nat.le_of_ble_eq_true rfl) (Nat.le_of_ble_eq_true rfl) (Nat.le_of_ble_eq_true rfl) rfl ?_
            simp only [Option.toList_some, Option.toList_none, List.cons_append, List.nil_append]
            refine g_blk [(.aload_n 0, .null), (.iload_n 1, .null)] (Nat.le_of_ble_eq_true rfl) (by decide +kernel) ?_
            refine gx_aload_n_0 (gx_iload_n_1 ((gx_nil ?_)))
            obtain ⟨x9, hx9, hgo⟩ := so_any hp H11 hm11 hpc
            refine g_pS kL_269 (hx9) (by decide +kernel) rfl rfl (Nat.le_of_ble_eq_true rfl) (Nat.le_of_ble_eq_true rfl) (Nat.le_of_ble_eq_true rfl) rfl ?_
            simp only [Option.toList_some, Option.toList_none, List.cons_append, List.nil_append]
            refine g_if_lt (off := 7) (tgt := 306) (by decide +kernel) (by decide) (fun c299 => ?_) (fun c299 => ?_)
            · try simp only [bI_0, Decidable.not_not] at c299
              have g9 : ¬ rGo N p (rLR N p t) c (rOp N (rLR N p t)) = true := fun z => absurd c299 (Int32.not_lt.mpr (hgo.mp z))
              refine g_blk [(.iconst 0, .int (nI 0))] (Nat.le_of_ble_eq_true rfl) (by decide +kernel) ?_
              refine gx_iconst ((gx_nil ?_))
              refine g_icmp_ne (off := 38) (tgt := 345) (by decide +kernel) (by decide) (fun c307 => ?_) (fun c307 => ?_)
              · try simp only [bI_0, Decidable.not_not] at c307
                exact absurd (by first | exact bI_t g9 | exact bI_f g9) c307
              · try simp only [bI_0, Decidable.not_not] at c307
                refine g_blk [(.aload_n 0, .null), (.aload_n 0, .null), (.iload_n 1, .null)] (Nat.le_of_ble_eq_true rfl) (by decide +kernel) ?_
                refine gx_aload_n_0 (gx_aload_n_0 (gx_iload_n_1 ((gx_nil ?_))))
                refine g_callV (rc' := 0) (rs' := 0) kL_272 (lr_format hps hpt H11 X) (by decide +kernel) rfl rfl hm11 rfl (Nat.le_of_ble_eq_true rfl) (Nat.le_of_ble_eq_true rfl) (Nat.le_of_ble_eq_true rfl) (by omega) (by omega) rfl (fun _ _ z => z.elim) (fun v9 k7 hz => ?_)
                obtain ⟨rfl, H12, k12⟩ := hz
                obtain ⟨fs12, hm12⟩ := H12.lp.at12
                have hs12 := hs11.keep k12 (lnC_no H0 k01 hs0) (lnC_no H0 k01 hr0)
                simp only [Option.toList_some, Option.toList_none, List.cons_append, List.nil_append]
                refine g_blk [(.aload 7, .null)] (Nat.le_of_ble_eq_true rfl) (by decide +kernel) ?_
                refine gx_aload_7 ((gx_nil ?_))
                refine g_pS kL_275 (la_isLine hps hp H12 (by omega) hs12) (by decide +kernel) rfl rfl (Nat.le_of_ble_eq_true rfl) (Nat.le_of_ble_eq_true rfl) (Nat.le_of_ble_eq_true rfl) rfl ?_
                simp only [Option.toList_some, Option.toList_none, List.cons_append, List.nil_append]
                refine g_if_eq (off := 24) (tgt := 345) (by decide +kernel) (by decide) (fun c321 => ?_) (fun c321 => ?_)
                · exact absurd c321 (by decide)
                · try simp only [bI_0, Decidable.not_not] at c321
                  refine g_blk [(.aload_n 0, .null), (.iload_n 1, .null)] (Nat.le_of_ble_eq_true rfl) (by decide +kernel) ?_
                  refine gx_aload_n_0 (gx_iload_n_1 ((gx_nil ?_)))
                  refine g_pV kL_279 (lr_isPresent H12.lp hpc) (by decide +kernel) rfl rfl hm12 rfl (Nat.le_of_ble_eq_true rfl) (Nat.le_of_ble_eq_true rfl) (Nat.le_of_ble_eq_true rfl) rfl ?_
                  simp only [Option.toList_some, Option.toList_none, List.cons_append, List.nil_append]
                  refine g_if_eq (off := 16) (tgt := 345) (by decide +kernel) (by decide) (fun c329 => ?_) (fun c329 => ?_)
                  · exact absurd c329 (by decide)
                  · try simp only [bI_0, Decidable.not_not] at c329
                    refine g_blk [(.aload_n 0, .null), (.iload_n 1, .null)] (Nat.le_of_ble_eq_true rfl) (by decide +kernel) ?_
                    refine gx_aload_n_0 (gx_iload_n_1 ((gx_nil ?_)))
                    refine g_pV kL_185 (lr_returnsOf hp H12.lp hpc) (by decide +kernel) rfl rfl hm12 rfl (Nat.le_of_ble_eq_true rfl) (Nat.le_of_ble_eq_true rfl) (Nat.le_of_ble_eq_true rfl) rfl ?_
                    simp only [Option.toList_some, Option.toList_none, List.cons_append, List.nil_append]
                    refine g_blk [(.iconst 3, .int (nI 3))] (Nat.le_of_ble_eq_true rfl) (by decide +kernel) ?_
                    refine gx_iconst ((gx_nil ?_))
                    refine g_icmp_ge (off := 7) (tgt := 345) (by decide +kernel) (by decide) (fun c338 => ?_) (fun c338 => ?_)
                    · try simp only [bI_0, Decidable.not_not] at c338
                      rw [y1] at c338
                      exact absurd ((nI_leI (by omega) (by omega)).mp c338) (by omega)
                    · try simp only [bI_0, Decidable.not_not] at c338
                      refine g_blk [(.iconst 1, .int (nI 1)), (.goto 4, .retAddr 346)] (Nat.le_of_ble_eq_true rfl) (by decide +kernel) ?_
                      refine gx_iconst (gx_goto ((gx_nil ?_)))
                      refine g_end (some (.int _)) rfl ⟨by decide +kernel, _, rfl, (by first | rfl | exact bI_nar _)⟩ ?_
                      exact ⟨rfl, H12.lp⟩
            · try simp only [bI_0, Decidable.not_not] at c299
              have g9 : rGo N p (rLR N p t) c (rOp N (rLR N p t)) = true := hgo.mpr (Int32.not_lt.mp c299)
              refine g_blk [(.iconst 1, .int (nI 1)), (.goto 4, .retAddr 307)] (Nat.le_of_ble_eq_true rfl) (by decide +kernel) ?_
              refine gx_iconst (gx_goto ((gx_nil ?_)))
              refine g_icmp_ne (off := 38) (tgt := 345) (by decide +kernel) (by decide) (fun c307 => ?_) (fun c307 => ?_)
              · try simp only [bI_0, Decidable.not_not] at c307
                exact absurd (by first | exact bI_t g9 | exact bI_f g9) c307
              · try simp only [bI_0, Decidable.not_not] at c307
                refine g_blk [(.aload_n 0, .null), (.aload_n 0, .null), (.iload_n 1, .null)] (Nat.le_of_ble_eq_true rfl) (by decide +kernel) ?_
                refine gx_aload_n_0 (gx_aload_n_0 (gx_iload_n_1 ((gx_nil ?_))))
                refine g_callV (rc' := 0) (rs' := 0) kL_272 (lr_format hps hpt H11 X) (by decide +kernel) rfl rfl hm11 rfl (Nat.le_of_ble_eq_true rfl) (Nat.le_of_ble_eq_true rfl) (Nat.le_of_ble_eq_true rfl) (by omega) (by omega) rfl (fun _ _ z => z.elim) (fun v9 k8 hz => ?_)
                obtain ⟨rfl, H12, k12⟩ := hz
                obtain ⟨fs12, hm12⟩ := H12.lp.at12
                have hs12 := hs11.keep k12 (lnC_no H0 k01 hs0) (lnC_no H0 k01 hr0)
                simp only [Option.toList_some, Option.toList_none, List.cons_append, List.nil_append]
                refine g_blk [(.aload 7, .null)] (Nat.le_of_ble_eq_true rfl) (by decide +kernel) ?_
                refine gx_aload_7 ((gx_nil ?_))
                refine g_pS kL_275 (la_isLine hps hp H12 (by omega) hs12) (by decide +kernel) rfl rfl (Nat.le_of_ble_eq_true rfl) (Nat.le_of_ble_eq_true rfl) (Nat.le_of_ble_eq_true rfl) rfl ?_
                simp only [Option.toList_some, Option.toList_none, List.cons_append, List.nil_append]
                refine g_if_eq (off := 24) (tgt := 345) (by decide +kernel) (by decide) (fun c321 => ?_) (fun c321 => ?_)
                · exact absurd c321 (by decide)
                · try simp only [bI_0, Decidable.not_not] at c321
                  refine g_blk [(.aload_n 0, .null), (.iload_n 1, .null)] (Nat.le_of_ble_eq_true rfl) (by decide +kernel) ?_
                  refine gx_aload_n_0 (gx_iload_n_1 ((gx_nil ?_)))
                  refine g_pV kL_279 (lr_isPresent H12.lp hpc) (by decide +kernel) rfl rfl hm12 rfl (Nat.le_of_ble_eq_true rfl) (Nat.le_of_ble_eq_true rfl) (Nat.le_of_ble_eq_true rfl) rfl ?_
                  simp only [Option.toList_some, Option.toList_none, List.cons_append, List.nil_append]
                  refine g_if_eq (off := 16) (tgt := 345) (by decide +kernel) (by decide) (fun c329 => ?_) (fun c329 => ?_)
                  · exact absurd c329 (by decide)
                  · try simp only [bI_0, Decidable.not_not] at c329
                    refine g_blk [(.aload_n 0, .null), (.iload_n 1, .null)] (Nat.le_of_ble_eq_true rfl) (by decide +kernel) ?_
                    refine gx_aload_n_0 (gx_iload_n_1 ((gx_nil ?_)))
                    refine g_pV kL_185 (lr_returnsOf hp H12.lp hpc) (by decide +kernel) rfl rfl hm12 rfl (Nat.le_of_ble_eq_true rfl) (Nat.le_of_ble_eq_true rfl) (Nat.le_of_ble_eq_true rfl) rfl ?_
                    simp only [Option.toList_some, Option.toList_none, List.cons_append, List.nil_append]
                    refine g_blk [(.iconst 3, .int (nI 3))] (Nat.le_of_ble_eq_true rfl) (by decide +kernel) ?_
                    refine gx_iconst ((gx_nil ?_))
                    refine g_icmp_ge (off := 7) (tgt := 345) (by decide +kernel) (by decide) (fun c338 => ?_) (fun c338 => ?_)
                    · try simp only [bI_0, Decidable.not_not] at c338
                      rw [y1] at c338
                      exact absurd ((nI_leI (by omega) (by omega)).mp c338) (by omega)
                    · try simp only [bI_0, Decidable.not_not] at c338
                      refine g_blk [(.iconst 1, .int (nI 1)), (.goto 4, .retAddr 346)] (Nat.le_of_ble_eq_true rfl) (by decide +kernel) ?_
                      refine gx_iconst (gx_goto ((gx_nil ?_)))
                      refine g_end (some (.int _)) rfl ⟨by decide +kernel, _, rfl, (by first | rfl | exact bI_nar _)⟩ ?_
                      exact ⟨rfl, H12.lp⟩
  · try simp only [bI_0, Decidable.not_not] at c242
    have e5 := (X.lt c242).2
    refine g_blk [(.iconst 1, .int (nI 1)), (.goto 4, .retAddr 250)] (Nat.le_of_ble_eq_true rfl) (by decide +kernel) ?_
    refine gx_iconst (gx_goto ((gx_nil ?_)))
    refine g_icmp_ne (off := 95) (tgt := 345) (by decide +kernel) (by decide) (fun c250 => ?_) (fun c250 => ?_)
    · try simp only [bI_0, Decidable.not_not] at c250
      exact absurd (by first | exact bI_t e5 | exact bI_f e5) c250
    · try simp only [bI_0, Decidable.not_not] at c250
      refine g_blk [(.aload_n 0, .null), (.iload_n 1, .null)] (Nat.le_of_ble_eq_true rfl) (by decide +kernel) ?_
      refine gx_aload_n_0 (gx_iload_n_1 ((gx_nil ?_)))
      refine g_pV kL_263 (lr_isMissorted hp H hpc) (by decide +kernel) rfl rfl hm rfl (Nat.le_of_ble_eq_true rfl) (Nat.le_of_ble_eq_true rfl) (Nat.le_of_ble_eq_true rfl) rfl ?_
      simp only [Option.toList_some, Option.toList_none, List.cons_append, List.nil_append]
      refine g_blk [(.iload 5, .null)] (Nat.le_of_ble_eq_true rfl) (by decide +kernel) ?_
      refine gx_iload_5 ((gx_nil ?_))
      refine g_icmp_ne (off := 85) (tgt := 345) (by decide +kernel) (by decide) (fun c260 => ?_) (fun c260 => ?_)
      · try simp only [bI_0, Decidable.not_not] at c260
        exact absurd ewr.symm c260
      · try simp only [bI_0, Decidable.not_not] at c260
        refine g_blk [(.aload_n 0, .null), (.bipush 10, .int (nI 10)), (.iload_n 1, .null), (.iconst 0, .int (nI 0))] (Nat.le_of_ble_eq_true rfl) (by decide +kernel) ?_
        refine gx_aload_n_0 (gx_bipush (gx_iload_n_1 (gx_iconst ((gx_nil ?_)))))
        refine g_callSH (rc' := 84) (rs' := 3010) kL_166 (aq_10 hp hnc H hpc) (by decide +kernel) rfl rfl (Nat.le_of_ble_eq_true rfl) (Nat.le_of_ble_eq_true rfl) (Nat.le_of_ble_eq_true rfl) (by omega) (by omega) rfl (fun _ _ z => z.elim) (fun v9 k9 hz => ?_)
        obtain ⟨rfl, rfl⟩ := hz
        simp only [Option.toList_some, Option.toList_none, List.cons_append, List.nil_append]
        refine g_blk [(.iload 6, .null)] (Nat.le_of_ble_eq_true rfl) (by decide +kernel) ?_
        refine gx_iload_6 ((gx_nil ?_))
        refine g_icmp_ne (off := 72) (tgt := 345) (by decide +kernel) (by decide) (fun c273 => ?_) (fun c273 => ?_)
        · try simp only [bI_0, Decidable.not_not] at c273
          exact absurd edu.symm c273
        · try simp only [bI_0, Decidable.not_not] at c273
          refine g_blk [(.aload_n 0, .null), (.bipush 11, .int (nI 11)), (.iload_n 1, .null), (.iconst 0, .int (nI 0))] (Nat.le_of_ble_eq_true rfl) (by decide +kernel) ?_
          refine gx_aload_n_0 (gx_bipush (gx_iload_n_1 (gx_iconst ((gx_nil ?_)))))
          refine g_callSH (rc' := 22) (rs' := 780) kL_166 (aq_11 hd hpl hp hnc H hpc) (by decide +kernel) rfl rfl (Nat.le_of_ble_eq_true rfl) (Nat.le_of_ble_eq_true rfl) (Nat.le_of_ble_eq_true rfl) (by omega) (by omega) rfl (fun _ _ z => z.elim) (fun v9 k10 hz => ?_)
          obtain ⟨rfl, H11, k11⟩ := hz
          obtain ⟨fs11, hm11⟩ := H11.at12
          have hs11 := hs.all k11
          have k01 : gAll h0 k10 := gAll_tr k0 k11 (fun _ y => y.elim)
          simp only [Option.toList_some, Option.toList_none, List.cons_append, List.nil_append]
          refine g_blk [(.iload 6, .null)] (Nat.le_of_ble_eq_true rfl) (by decide +kernel) ?_
          refine gx_iload_6 ((gx_nil ?_))
          refine g_icmp_ne (off := 59) (tgt := 345) (by decide +kernel) (by decide) (fun c286 => ?_) (fun c286 => ?_)
          · try simp only [bI_0, Decidable.not_not] at c286
            exact absurd edu.symm c286
          · try simp only [bI_0, Decidable.not_not] at c286
            refine g_blk [(.aload_n 0, .null), (.iload_n 1, .null)] (Nat.le_of_ble_eq_true rfl) (by decide +kernel) ?_
            refine gx_aload_n_0 (gx_iload_n_1 ((gx_nil ?_)))
            refine g_pV kL_266 (lr_canSort hp H11 hpc) (by decide +kernel) rfl rfl hm11 rfl (Nat.le_of_ble_eq_true rfl) (Nat.le_of_ble_eq_true rfl) (Nat.le_of_ble_eq_true rfl) rfl ?_
            simp only [Option.toList_some, Option.toList_none, List.cons_append, List.nil_append]
            refine g_blk [(.aload_n 0, .null), (.iload_n 1, .null)] (Nat.le_of_ble_eq_true rfl) (by decide +kernel) ?_
            refine gx_aload_n_0 (gx_iload_n_1 ((gx_nil ?_)))
            obtain ⟨x9, hx9, hgo⟩ := so_any hp H11 hm11 hpc
            refine g_pS kL_269 (hx9) (by decide +kernel) rfl rfl (Nat.le_of_ble_eq_true rfl) (Nat.le_of_ble_eq_true rfl) (Nat.le_of_ble_eq_true rfl) rfl ?_
            simp only [Option.toList_some, Option.toList_none, List.cons_append, List.nil_append]
            refine g_if_lt (off := 7) (tgt := 306) (by decide +kernel) (by decide) (fun c299 => ?_) (fun c299 => ?_)
            · try simp only [bI_0, Decidable.not_not] at c299
              have g9 : ¬ rGo N p (rLR N p t) c (rOp N (rLR N p t)) = true := fun z => absurd c299 (Int32.not_lt.mpr (hgo.mp z))
              refine g_blk [(.iconst 0, .int (nI 0))] (Nat.le_of_ble_eq_true rfl) (by decide +kernel) ?_
              refine gx_iconst ((gx_nil ?_))
              refine g_icmp_ne (off := 38) (tgt := 345) (by decide +kernel) (by decide) (fun c307 => ?_) (fun c307 => ?_)
              · try simp only [bI_0, Decidable.not_not] at c307
                exact absurd (by first | exact bI_t g9 | exact bI_f g9) c307
              · try simp only [bI_0, Decidable.not_not] at c307
                refine g_blk [(.aload_n 0, .null), (.aload_n 0, .null), (.iload_n 1, .null)] (Nat.le_of_ble_eq_true rfl) (by decide +kernel) ?_
                refine gx_aload_n_0 (gx_aload_n_0 (gx_iload_n_1 ((gx_nil ?_))))
                refine g_callV (rc' := 0) (rs' := 0) kL_272 (lr_format hps hpt H11 X) (by decide +kernel) rfl rfl hm11 rfl (Nat.le_of_ble_eq_true rfl) (Nat.le_of_ble_eq_true rfl) (Nat.le_of_ble_eq_true rfl) (by omega) (by omega) rfl (fun _ _ z => z.elim) (fun v9 k11 hz => ?_)
                obtain ⟨rfl, H12, k12⟩ := hz
                obtain ⟨fs12, hm12⟩ := H12.lp.at12
                have hs12 := hs11.keep k12 (lnC_no H0 k01 hs0) (lnC_no H0 k01 hr0)
                simp only [Option.toList_some, Option.toList_none, List.cons_append, List.nil_append]
                refine g_blk [(.aload 7, .null)] (Nat.le_of_ble_eq_true rfl) (by decide +kernel) ?_
                refine gx_aload_7 ((gx_nil ?_))
                refine g_pS kL_275 (la_isLine hps hp H12 (by omega) hs12) (by decide +kernel) rfl rfl (Nat.le_of_ble_eq_true rfl) (Nat.le_of_ble_eq_true rfl) (Nat.le_of_ble_eq_true rfl) rfl ?_
                simp only [Option.toList_some, Option.toList_none, List.cons_append, List.nil_append]
                refine g_if_eq (off := 24) (tgt := 345) (by decide +kernel) (by decide) (fun c321 => ?_) (fun c321 => ?_)
                · exact absurd c321 (by decide)
                · try simp only [bI_0, Decidable.not_not] at c321
                  refine g_blk [(.aload_n 0, .null), (.iload_n 1, .null)] (Nat.le_of_ble_eq_true rfl) (by decide +kernel) ?_
                  refine gx_aload_n_0 (gx_iload_n_1 ((gx_nil ?_)))
                  refine g_pV kL_279 (lr_isPresent H12.lp hpc) (by decide +kernel) rfl rfl hm12 rfl (Nat.le_of_ble_eq_true rfl) (Nat.le_of_ble_eq_true rfl) (Nat.le_of_ble_eq_true rfl) rfl ?_
                  simp only [Option.toList_some, Option.toList_none, List.cons_append, List.nil_append]
                  refine g_if_eq (off := 16) (tgt := 345) (by decide +kernel) (by decide) (fun c329 => ?_) (fun c329 => ?_)
                  · exact absurd c329 (by decide)
                  · try simp only [bI_0, Decidable.not_not] at c329
                    refine g_blk [(.aload_n 0, .null), (.iload_n 1, .null)] (Nat.le_of_ble_eq_true rfl) (by decide +kernel) ?_
                    refine gx_aload_n_0 (gx_iload_n_1 ((gx_nil ?_)))
                    refine g_pV kL_185 (lr_returnsOf hp H12.lp hpc) (by decide +kernel) rfl rfl hm12 rfl (Nat.le_of_ble_eq_true rfl) (Nat.le_of_ble_eq_true rfl) (Nat.le_of_ble_eq_true rfl) rfl ?_
                    simp only [Option.toList_some, Option.toList_none, List.cons_append, List.nil_append]
                    refine g_blk [(.iconst 3, .int (nI 3))] (Nat.le_of_ble_eq_true rfl) (by decide +kernel) ?_
                    refine gx_iconst ((gx_nil ?_))
                    refine g_icmp_ge (off := 7) (tgt := 345) (by decide +kernel) (by decide) (fun c338 => ?_) (fun c338 => ?_)
                    · try simp only [bI_0, Decidable.not_not] at c338
                      rw [y1] at c338
                      exact absurd ((nI_leI (by omega) (by omega)).mp c338) (by omega)
                    · try simp only [bI_0, Decidable.not_not] at c338
                      refine g_blk [(.iconst 1, .int (nI 1)), (.goto 4, .retAddr 346)] (Nat.le_of_ble_eq_true rfl) (by decide +kernel) ?_
                      refine gx_iconst (gx_goto ((gx_nil ?_)))
                      refine g_end (some (.int _)) rfl ⟨by decide +kernel, _, rfl, (by first | rfl | exact bI_nar _)⟩ ?_
                      exact ⟨rfl, H12.lp⟩
            · try simp only [bI_0, Decidable.not_not] at c299
              have g9 : rGo N p (rLR N p t) c (rOp N (rLR N p t)) = true := hgo.mpr (Int32.not_lt.mp c299)
              refine g_blk [(.iconst 1, .int (nI 1)), (.goto 4, .retAddr 307)] (Nat.le_of_ble_eq_true rfl) (by decide +kernel) ?_
              refine gx_iconst (gx_goto ((gx_nil ?_)))
              refine g_icmp_ne (off := 38) (tgt := 345) (by decide +kernel) (by decide) (fun c307 => ?_) (fun c307 => ?_)
              · try simp only [bI_0, Decidable.not_not] at c307
                exact absurd (by first | exact bI_t g9 | exact bI_f g9) c307
              · try simp only [bI_0, Decidable.not_not] at c307
                refine g_blk [(.aload_n 0, .null), (.aload_n 0, .null), (.iload_n 1, .null)] (Nat.le_of_ble_eq_true rfl) (by decide +kernel) ?_
                refine gx_aload_n_0 (gx_aload_n_0 (gx_iload_n_1 ((gx_nil ?_))))
                refine g_callV (rc' := 0) (rs' := 0) kL_272 (lr_format hps hpt H11 X) (by decide +kernel) rfl rfl hm11 rfl (Nat.le_of_ble_eq_true rfl) (Nat.le_of_ble_eq_true rfl) (Nat.le_of_ble_eq_true rfl) (by omega) (by omega) rfl (fun _ _ z => z.elim) (fun v9 k12 hz => ?_)
                obtain ⟨rfl, H12, k12⟩ := hz
                obtain ⟨fs12, hm12⟩ := H12.lp.at12
                have hs12 := hs11.keep k12 (lnC_no H0 k01 hs0) (lnC_no H0 k01 hr0)
                simp only [Option.toList_some, Option.toList_none, List.cons_append, List.nil_append]
                refine g_blk [(.aload 7, .null)] (Nat.le_of_ble_eq_true rfl) (by decide +kernel) ?_
                refine gx_aload_7 ((gx_nil ?_))
                refine g_pS kL_275 (la_isLine hps hp H12 (by omega) hs12) (by decide +kernel) rfl rfl (Nat.le_of_ble_eq_true rfl) (Nat.le_of_ble_eq_true rfl) (Nat.le_of_ble_eq_true rfl) rfl ?_
                simp only [Option.toList_some, Option.toList_none, List.cons_append, List.nil_append]
                refine g_if_eq (off := 24) (tgt := 345) (by decide +kernel) (by decide) (fun c321 => ?_) (fun c321 => ?_)
                · exact absurd c321 (by decide)
                · try simp only [bI_0, Decidable.not_not] at c321
                  refine g_blk [(.aload_n 0, .null), (.iload_n 1, .null)] (Nat.le_of_ble_eq_true rfl) (by decide +kernel) ?_
                  refine gx_aload_n_0 (gx_iload_n_1 ((gx_nil ?_)))
                  refine g_pV kL_279 (lr_isPresent H12.lp hpc) (by decide +kernel) rfl rfl hm12 rfl (Nat.le_of_ble_eq_true rfl) (Nat.le_of_ble_eq_true rfl) (Nat.le_of_ble_eq_true rfl) rfl ?_
                  simp only [Option.toList_some, Option.toList_none, List.cons_append, List.nil_append]
                  refine g_if_eq (off := 16) (tgt := 345) (by decide +kernel) (by decide) (fun c329 => ?_) (fun c329 => ?_)
                  · exact absurd c329 (by decide)
                  · try simp only [bI_0, Decidable.not_not] at c329
                    refine g_blk [(.aload_n 0, .null), (.iload_n 1, .null)] (Nat.le_of_ble_eq_true rfl) (by decide +kernel) ?_
                    refine gx_aload_n_0 (gx_iload_n_1 ((gx_nil ?_)))
                    refine g_pV kL_185 (lr_returnsOf hp H12.lp hpc) (by decide +kernel) rfl rfl hm12 rfl (Nat.le_of_ble_eq_true rfl) (Nat.le_of_ble_eq_true rfl) (Nat.le_of_ble_eq_true rfl) rfl ?_
                    simp only [Option.toList_some, Option.toList_none, List.cons_append, List.nil_append]
                    refine g_blk [(.iconst 3, .int (nI 3))] (Nat.le_of_ble_eq_true rfl) (by decide +kernel) ?_
                    refine gx_iconst ((gx_nil ?_))
                    refine g_icmp_ge (off := 7) (tgt := 345) (by decide +kernel) (by decide) (fun c338 => ?_) (fun c338 => ?_)
                    · try simp only [bI_0, Decidable.not_not] at c338
                      rw [y1] at c338
                      exact absurd ((nI_leI (by omega) (by omega)).mp c338) (by omega)
                    · try simp only [bI_0, Decidable.not_not] at c338
                      refine g_blk [(.iconst 1, .int (nI 1)), (.goto 4, .retAddr 346)] (Nat.le_of_ble_eq_true rfl) (by decide +kernel) ?_
                      refine gx_iconst (gx_goto ((gx_nil ?_)))
                      refine g_end (some (.int _)) rfl ⟨by decide +kernel, _, rfl, (by first | rfl | exact bI_nar _)⟩ ?_
                      exact ⟨rfl, H12.lp⟩
theorem il_231 (hd : gDi Γ) (hpl : gPall Γ de mi) (hp : gPxs Γ) (hnc : gPnc Γ) (hps : gPsb Γ d1 d10 vf) (hpt : gPtx Γ sr ss) (hpw : gPlw Γ) (X : lxF N c t p i cd w pr q A at9 wr du) (H0 : lP bm Γ de h0 m N c t nx) {a K : Nat} {xs : List Nat} (I : sbN Γ h0 a xs h K) (exs : xs = fmt pr i cd w A q) (hrc : 87 ≤ rc) (hrs : 3054 ≤ rs) : G Γ M_L_isLetterRight 40 mc ms (fun v h' => v = some (.int (nI 1)) ∧ lP bm Γ de h' m N c t nx) (fun _ _ => False) rc rs 231 [some (.ref m), some (.int (N (62 + 7 * p))), some (.int at9), some (.int (nI cd)), some (.int rt9), some (.int wr), some (.int du), none] [.ref a] h := by
  have X0 := X
  obtain ⟨⟨hpc, x2, x3⟩, ⟨x4, x5⟩, ⟨x6, x7⟩, ⟨x8, x9⟩, ⟨y1, y2⟩, y3, ewr, edu⟩ := X0
  have H := H0.all hd I.2.1
  obtain ⟨fs, hm⟩ := H.at12
  subst exs
  obtain ⟨gs21, hB21⟩ := I.cell
  refine g_callV (rc' := 85) (rs' := 3016) kL_257 (sbN_Z hps I fmt_128) (by decide +kernel) rfl rfl hB21 rfl (Nat.le_of_ble_eq_true rfl) (Nat.le_of_ble_eq_true rfl) (Nat.le_of_ble_eq_true rfl) (by omega) (by omega) rfl (fun _ _ z => z.elim) (fun v9 k21 hz => ?_)
  obtain ⟨s9, r9, rfl, hs9, hs90, hr90, k90, k91⟩ := hz
  simp only [Option.toList_some, Option.toList_none, List.cons_append, List.nil_append]
  refine g_blk [(.astore 7, .null)] (Nat.le_of_ble_eq_true rfl) (by decide +kernel) ?_
  refine gx_astore_7 rfl ((gx_nil ?_))
  exact il_tail hd hpl hp hnc hps hpt hpw X H0 k90 hs9 hs90 hr90 (by omega) (by omega)
theorem il_191 (hd : gDi Γ) (hpl : gPall Γ de mi) (hp : gPxs Γ) (hnc : gPnc Γ) (hps : gPsb Γ d1 d10 vf) (hpt : gPtx Γ sr ss) (hpw : gPlw Γ) (X : lxF N c t p i cd w pr q A at9 wr du) (H0 : lP bm Γ de h0 m N c t nx) {a K : Nat} {xs : List Nat} (I : sbN Γ h0 a xs h K) (hK : K ≤ 31) (exs : xs ++ fmQ q = fmt pr i cd w A q) (hrc : 94 ≤ rc) (hrs : 3214 ≤ rs) : G Γ M_L_isLetterRight 40 mc ms (fun v h' => v = some (.int (nI 1)) ∧ lP bm Γ de h' m N c t nx) (fun _ _ => False) rc rs 191 [some (.ref m), some (.int (N (62 + 7 * p))), some (.int at9), some (.int (nI cd)), some (.int rt9), some (.int wr), some (.int du), none] [.ref a] h := by
  have X0 := X
  obtain ⟨⟨hpc, x2, x3⟩, ⟨x4, x5⟩, ⟨x6, x7⟩, ⟨x8, x9⟩, ⟨y1, y2⟩, y3, ewr, edu⟩ := X0
  have H := H0.all hd I.2.1
  obtain ⟨fs, hm⟩ := H.at12
  refine g_blk [(.aload_n 0, .null), (.iload_n 1, .null)] (Nat.le_of_ble_eq_true rfl) (by decide +kernel) ?_
  refine gx_aload_n_0 (gx_iload_n_1 ((gx_nil ?_)))
  refine g_pV kL_185 (lr_returnsOf hp H hpc) (by decide +kernel) rfl rfl hm rfl (Nat.le_of_ble_eq_true rfl) (Nat.le_of_ble_eq_true rfl) (Nat.le_of_ble_eq_true rfl) rfl ?_
  simp only [Option.toList_some, Option.toList_none, List.cons_append, List.nil_append]
  refine g_topi y1 ?_
  refine g_if_ne (off := 8) (tgt := 204) (by decide +kernel) (by decide) (fun c196 => ?_) (fun c196 => ?_)
  · try simp only [bI_0, Decidable.not_not] at c196
    have hq0 : ¬ q = 0 := fun z => c196 (by rw [z]; decide)
    have hl9 : (([] ++ [32, 42]) ++ dgt q).length ≤ 3 := by
      rw [dgt_1 (by omega)]
      exact Nat.le_refl _
    have h89 : ∀ x ∈ ([] ++ [32, 42]) ++ dgt q, x < 128 := fun x hx => fmt_128 (pr := 0) (m := 0) (cd := 0) (w := 0) (A := none) (q := q) x (List.mem_append_right _ (by unfold fmQ; rw [if_neg hq0]; exact hx))
    refine g_new nL_231 (rc' := 93) (rs' := 3210) (by decide +kernel) (by omega) (show _ + 4 ≤ _ by omega) (fun b hb => ?_)
    refine g_blk [(.dup, .null)] (Nat.le_of_ble_eq_true rfl) (by decide +kernel) ?_
    refine gx_dupr ((gx_nil ?_))
    refine g_callI (rc' := 92) (rs' := 3194) kL_233 (sb_init hps (gUp_s _ _ _)) (by decide +kernel) rfl rfl rfl (Nat.le_of_ble_eq_true rfl) (Nat.le_of_ble_eq_true rfl) (Nat.le_of_ble_eq_true rfl) (by omega) (by omega) rfl (fun _ _ z => z.elim) (fun v9 k21 hz => ?_)
    obtain ⟨rfl, hz⟩ := hz
    have I21 := sbN_0 hb hz
    simp only [Option.toList_some, Option.toList_none, List.cons_append, List.nil_append]
    have H21 := H.all hd I21.2.1
    obtain ⟨fs21, hm21⟩ := H21.at12
    obtain ⟨s261, q261, w261⟩ := hpw (261, " *", [32, 42]) (by simp [lwS])
    refine g_ldcw q261 (by decide +kernel) ?_
    obtain ⟨gs22, hB22⟩ := I21.cell
    refine g_callV (rc' := 91) (rs' := 3160) kL_238 (sbN_S hps w261 I21 (n := 2) (Nat.le_refl _) (by omega)) (by decide +kernel) rfl rfl hB22 rfl (Nat.le_of_ble_eq_true rfl) (Nat.le_of_ble_eq_true rfl) (Nat.le_of_ble_eq_true rfl) (by omega) (by omega) rfl (fun _ _ z => z.elim) (fun v9 k22 hz => ?_)
    obtain ⟨rfl, I22⟩ := hz
    simp only [Option.toList_some, Option.toList_none, List.cons_append, List.nil_append]
    have H22 := H.all hd I22.2.1
    obtain ⟨fs22, hm22⟩ := H22.at12
    refine g_blk [(.aload_n 0, .null), (.iload_n 1, .null)] (Nat.le_of_ble_eq_true rfl) (by decide +kernel) ?_
    refine gx_aload_n_0 (gx_iload_n_1 ((gx_nil ?_)))
    refine g_pV kL_185 (lr_returnsOf hp H22 hpc) (by decide +kernel) rfl rfl hm22 rfl (Nat.le_of_ble_eq_true rfl) (Nat.le_of_ble_eq_true rfl) (Nat.le_of_ble_eq_true rfl) rfl ?_
    simp only [Option.toList_some, Option.toList_none, List.cons_append, List.nil_append]
    refine g_topi y1 ?_
    obtain ⟨gs23, hB23⟩ := I22.cell
    refine g_callV (rc' := 90) (rs' := 3126) kL_242 (sbN_I hps I22 (n := q) (T := 0) (by omega) (Nat.le_of_eq (tpd_9 (by omega))) (by omega)) (by decide +kernel) rfl rfl hB23 rfl (Nat.le_of_ble_eq_true rfl) (Nat.le_of_ble_eq_true rfl) (Nat.le_of_ble_eq_true rfl) (by omega) (by omega) rfl (fun _ _ z => z.elim) (fun v9 k23 hz => ?_)
    obtain ⟨rfl, I23⟩ := hz
    simp only [Option.toList_some, Option.toList_none, List.cons_append, List.nil_append]
    have H23 := H.all hd I23.2.1
    obtain ⟨fs23, hm23⟩ := H23.at12
    obtain ⟨gs24, hB24⟩ := I23.cell
    refine g_callV (rc' := 88) (rs' := 3088) kL_257 (sbN_Z hps I23 h89) (by decide +kernel) rfl rfl hB24 rfl (Nat.le_of_ble_eq_true rfl) (Nat.le_of_ble_eq_true rfl) (Nat.le_of_ble_eq_true rfl) (by omega) (by omega) rfl (fun _ _ z => z.elim) (fun v9 k24 hz => ?_)
    obtain ⟨s9, r9, rfl, hs9, hs90, hr90, k90, k91⟩ := hz
    simp only [Option.toList_some, Option.toList_none, List.cons_append, List.nil_append]
    obtain ⟨gs25, hB25⟩ := I.cell
    have hC25 := k90 _ _ (fun y => y) hB25
    refine g_callV (rc' := 87) (rs' := 3054) kL_238 (sbN_T hps I k90 hs9 hr90 (n := 3) (by first | exact hl9 | omega) (by omega)) (by decide +kernel) rfl rfl hC25 rfl (Nat.le_of_ble_eq_true rfl) (Nat.le_of_ble_eq_true rfl) (Nat.le_of_ble_eq_true rfl) (by omega) (by omega) rfl (fun _ _ z => z.elim) (fun v9 k25 hz => ?_)
    obtain ⟨rfl, I25⟩ := hz
    simp only [Option.toList_some, Option.toList_none, List.cons_append, List.nil_append]
    have H25 := H0.all hd I25.2.1
    obtain ⟨fs25, hm25⟩ := H25.at12
    exact il_231 hd hpl hp hnc hps hpt hpw X H0 I25 (by rw [← exs]; unfold fmQ; rw [if_neg hq0]; rfl) (by omega) (by omega)
  · try simp only [bI_0, Decidable.not_not] at c196
    have hq0 : q = 0 := nI_z (by omega) c196
    obtain ⟨s251, q251, w251⟩ := hpw (251, "", []) (by simp [lwS])
    refine g_ldc q251 (by decide +kernel) ?_
    refine g_blk [(.goto 27, .retAddr 228)] (Nat.le_of_ble_eq_true rfl) (by decide +kernel) ?_
    refine gx_goto ((gx_nil ?_))
    obtain ⟨gs26, hB26⟩ := I.cell
    refine g_callV (rc' := 93) (rs' := 3180) kL_238 (sbN_S hps w251 I (n := 0) (Nat.le_refl _) (by omega)) (by decide +kernel) rfl rfl hB26 rfl (Nat.le_of_ble_eq_true rfl) (Nat.le_of_ble_eq_true rfl) (Nat.le_of_ble_eq_true rfl) (by omega) (by omega) rfl (fun _ _ z => z.elim) (fun v9 k26 hz => ?_)
    obtain ⟨rfl, I26⟩ := hz
    simp only [Option.toList_some, Option.toList_none, List.cons_append, List.nil_append]
    have H26 := H0.all hd I26.2.1
    obtain ⟨fs26, hm26⟩ := H26.at12
    exact il_231 hd hpl hp hnc hps hpt hpw X H0 I26 (by rw [← exs]; unfold fmQ; rw [if_pos hq0]) (by omega) (by omega)
theorem il_147 (hd : gDi Γ) (hpl : gPall Γ de mi) (hp : gPxs Γ) (hnc : gPnc Γ) (hps : gPsb Γ d1 d10 vf) (hpt : gPtx Γ sr ss) (hpw : gPlw Γ) (X : lxF N c t p i cd w pr q A at9 wr du) (H0 : lP bm Γ de h0 m N c t nx) {a K : Nat} {xs : List Nat} (I : sbN Γ h0 a xs h K) (hK : K ≤ 26) (exs : xs ++ fmA A ++ fmQ q = fmt pr i cd w A q) (hrc : 103 ≤ rc) (hrs : 3442 ≤ rs) : G Γ M_L_isLetterRight 40 mc ms (fun v h' => v = some (.int (nI 1)) ∧ lP bm Γ de h' m N c t nx) (fun _ _ => False) rc rs 147 [some (.ref m), some (.int (N (62 + 7 * p))), some (.int at9), some (.int (nI cd)), some (.int rt9), some (.int wr), some (.int du), none] [.ref a] h := by
  have X0 := X
  obtain ⟨⟨hpc, x2, x3⟩, ⟨x4, x5⟩, ⟨x6, x7⟩, ⟨x8, x9⟩, ⟨y1, y2⟩, y3, ewr, edu⟩ := X0
  have H := H0.all hd I.2.1
  obtain ⟨fs, hm⟩ := H.at12
  refine g_blk [(.iload_n 2, .null)] (Nat.le_of_ble_eq_true rfl) (by decide +kernel) ?_
  refine gx_iload_n_2 ((gx_nil ?_))
  refine g_if_ge (off := 8) (tgt := 156) (by decide +kernel) (by decide) (fun c148 => ?_) (fun c148 => ?_)
  · try simp only [bI_0, Decidable.not_not] at c148
    obtain ⟨a9, b9, ha9, hb9, eA, eN5, eN6, eat, hn5⟩ := X.ge c148
    have hl9 : (((([] ++ [32, 114]) ++ dgt a9) ++ [46]) ++ dgt b9).length ≤ 5 := by
      rw [dgt_1 (by omega), dgt_1 (by omega)]
      exact Nat.le_refl _
    have h89 : ∀ x ∈ ((([] ++ [32, 114]) ++ dgt a9) ++ [46]) ++ dgt b9, x < 128 := fun x hx => fmt_128 (pr := 0) (m := 0) (cd := 0) (w := 0) (A := some (a9, b9)) (q := 0) x (List.mem_append_left _ (List.mem_append_right _ hx))
    refine g_new nL_231 (rc' := 102) (rs' := 3438) (by decide +kernel) (by omega) (show _ + 4 ≤ _ by omega) (fun b hb => ?_)
    refine g_blk [(.dup, .null)] (Nat.le_of_ble_eq_true rfl) (by decide +kernel) ?_
    refine gx_dupr ((gx_nil ?_))
    refine g_callI (rc' := 101) (rs' := 3422) kL_233 (sb_init hps (gUp_s _ _ _)) (by decide +kernel) rfl rfl rfl (Nat.le_of_ble_eq_true rfl) (Nat.le_of_ble_eq_true rfl) (Nat.le_of_ble_eq_true rfl) (by omega) (by omega) rfl (fun _ _ z => z.elim) (fun v9 k21 hz => ?_)
    obtain ⟨rfl, hz⟩ := hz
    have I21 := sbN_0 hb hz
    simp only [Option.toList_some, Option.toList_none, List.cons_append, List.nil_append]
    have H21 := H.all hd I21.2.1
    obtain ⟨fs21, hm21⟩ := H21.at12
    obtain ⟨s253, q253, w253⟩ := hpw (253, " r", [32, 114]) (by simp [lwS])
    refine g_ldc q253 (by decide +kernel) ?_
    obtain ⟨gs22, hB22⟩ := I21.cell
    refine g_callV (rc' := 100) (rs' := 3388) kL_238 (sbN_S hps w253 I21 (n := 2) (Nat.le_refl _) (by omega)) (by decide +kernel) rfl rfl hB22 rfl (Nat.le_of_ble_eq_true rfl) (Nat.le_of_ble_eq_true rfl) (Nat.le_of_ble_eq_true rfl) (by omega) (by omega) rfl (fun _ _ z => z.elim) (fun v9 k22 hz => ?_)
    obtain ⟨rfl, I22⟩ := hz
    simp only [Option.toList_some, Option.toList_none, List.cons_append, List.nil_append]
    have H22 := H.all hd I22.2.1
    obtain ⟨fs22, hm22⟩ := H22.at12
    refine g_blk [(.iload_n 2, .null)] (Nat.le_of_ble_eq_true rfl) (by decide +kernel) ?_
    refine gx_iload_n_2 ((gx_nil ?_))
    refine g_topi eat ?_
    obtain ⟨gs23, hB23⟩ := I22.cell
    refine g_callV (rc' := 99) (rs' := 3354) kL_242 (sbN_I hps I22 (n := a9) (T := 0) (by omega) (Nat.le_of_eq (tpd_9 (by omega))) (by omega)) (by decide +kernel) rfl rfl hB23 rfl (Nat.le_of_ble_eq_true rfl) (Nat.le_of_ble_eq_true rfl) (Nat.le_of_ble_eq_true rfl) (by omega) (by omega) rfl (fun _ _ z => z.elim) (fun v9 k23 hz => ?_)
    obtain ⟨rfl, I23⟩ := hz
    simp only [Option.toList_some, Option.toList_none, List.cons_append, List.nil_append]
    have H23 := H.all hd I23.2.1
    obtain ⟨fs23, hm23⟩ := H23.at12
    obtain ⟨s255, q255, w255⟩ := hpw (255, ".", [46]) (by simp [lwS])
    refine g_ldc q255 (by decide +kernel) ?_
    obtain ⟨gs24, hB24⟩ := I23.cell
    refine g_callV (rc' := 98) (rs' := 3320) kL_238 (sbN_S hps w255 I23 (n := 1) (Nat.le_refl _) (by omega)) (by decide +kernel) rfl rfl hB24 rfl (Nat.le_of_ble_eq_true rfl) (Nat.le_of_ble_eq_true rfl) (Nat.le_of_ble_eq_true rfl) (by omega) (by omega) rfl (fun _ _ z => z.elim) (fun v9 k24 hz => ?_)
    obtain ⟨rfl, I24⟩ := hz
    simp only [Option.toList_some, Option.toList_none, List.cons_append, List.nil_append]
    have H24 := H.all hd I24.2.1
    obtain ⟨fs24, hm24⟩ := H24.at12
    refine g_blk [(.aload_n 0, .null), (.iload_n 1, .null)] (Nat.le_of_ble_eq_true rfl) (by decide +kernel) ?_
    refine gx_aload_n_0 (gx_iload_n_1 ((gx_nil ?_)))
    refine g_pV kL_76 (lr_bagOf hp H24 hpc hn5) (by decide +kernel) rfl rfl hm24 rfl (Nat.le_of_ble_eq_true rfl) (Nat.le_of_ble_eq_true rfl) (Nat.le_of_ble_eq_true rfl) rfl ?_
    simp only [Option.toList_some, Option.toList_none, List.cons_append, List.nil_append]
    refine g_topi eN6 ?_
    obtain ⟨gs25, hB25⟩ := I24.cell
    refine g_callV (rc' := 97) (rs' := 3286) kL_242 (sbN_I hps I24 (n := b9) (T := 0) (by omega) (Nat.le_of_eq (tpd_9 (by omega))) (by omega)) (by decide +kernel) rfl rfl hB25 rfl (Nat.le_of_ble_eq_true rfl) (Nat.le_of_ble_eq_true rfl) (Nat.le_of_ble_eq_true rfl) (by omega) (by omega) rfl (fun _ _ z => z.elim) (fun v9 k25 hz => ?_)
    obtain ⟨rfl, I25⟩ := hz
    simp only [Option.toList_some, Option.toList_none, List.cons_append, List.nil_append]
    have H25 := H.all hd I25.2.1
    obtain ⟨fs25, hm25⟩ := H25.at12
    obtain ⟨gs26, hB26⟩ := I25.cell
    refine g_callV (rc' := 95) (rs' := 3248) kL_257 (sbN_Z hps I25 h89) (by decide +kernel) rfl rfl hB26 rfl (Nat.le_of_ble_eq_true rfl) (Nat.le_of_ble_eq_true rfl) (Nat.le_of_ble_eq_true rfl) (by omega) (by omega) rfl (fun _ _ z => z.elim) (fun v9 k26 hz => ?_)
    obtain ⟨s9, r9, rfl, hs9, hs90, hr90, k90, k91⟩ := hz
    simp only [Option.toList_some, Option.toList_none, List.cons_append, List.nil_append]
    obtain ⟨gs27, hB27⟩ := I.cell
    have hC27 := k90 _ _ (fun y => y) hB27
    refine g_callV (rc' := 94) (rs' := 3214) kL_238 (sbN_T hps I k90 hs9 hr90 (n := 5) (by first | exact hl9 | omega) (by omega)) (by decide +kernel) rfl rfl hC27 rfl (Nat.le_of_ble_eq_true rfl) (Nat.le_of_ble_eq_true rfl) (Nat.le_of_ble_eq_true rfl) (by omega) (by omega) rfl (fun _ _ z => z.elim) (fun v9 k27 hz => ?_)
    obtain ⟨rfl, I27⟩ := hz
    simp only [Option.toList_some, Option.toList_none, List.cons_append, List.nil_append]
    have H27 := H0.all hd I27.2.1
    obtain ⟨fs27, hm27⟩ := H27.at12
    exact il_191 hd hpl hp hnc hps hpt hpw X H0 I27 (by omega) (by rw [← exs, eA]; rfl) (by omega) (by omega)
  · try simp only [bI_0, Decidable.not_not] at c148
    have eA := (X.lt c148).1
    obtain ⟨s251, q251, w251⟩ := hpw (251, "", []) (by simp [lwS])
    refine g_ldc q251 (by decide +kernel) ?_
    refine g_blk [(.goto 35, .retAddr 188)] (Nat.le_of_ble_eq_true rfl) (by decide +kernel) ?_
    refine gx_goto ((gx_nil ?_))
    obtain ⟨gs28, hB28⟩ := I.cell
    refine g_callV (rc' := 102) (rs' := 3408) kL_238 (sbN_S hps w251 I (n := 0) (Nat.le_refl _) (by omega)) (by decide +kernel) rfl rfl hB28 rfl (Nat.le_of_ble_eq_true rfl) (Nat.le_of_ble_eq_true rfl) (Nat.le_of_ble_eq_true rfl) (by omega) (by omega) rfl (fun _ _ z => z.elim) (fun v9 k28 hz => ?_)
    obtain ⟨rfl, I28⟩ := hz
    simp only [Option.toList_some, Option.toList_none, List.cons_append, List.nil_append]
    have H28 := H0.all hd I28.2.1
    obtain ⟨fs28, hm28⟩ := H28.at12
    exact il_191 hd hpl hp hnc hps hpt hpw X H0 I28 (by omega) (by rw [← exs, eA]; rfl) (by omega) (by omega)
theorem il_82 (hd : gDi Γ) (hpl : gPall Γ de mi) (hp : gPxs Γ) (hnc : gPnc Γ) (hps : gPsb Γ d1 d10 vf) (hpt : gPtx Γ sr ss) (hpw : gPlw Γ) (X : lxF N c t p i cd w pr q A at9 wr du) (H0 : lP bm Γ de h0 m N c t nx) {a sP : Nat} (I : sbN Γ h0 a [] h 0) (hP : gCs Γ sP [if pr = 1 then 80 else 83]) (hrc : 113 ≤ rc) (hrs : 3782 ≤ rs) : G Γ M_L_isLetterRight 40 mc ms (fun v h' => v = some (.int (nI 1)) ∧ lP bm Γ de h' m N c t nx) (fun _ _ => False) rc rs 82 [some (.ref m), some (.int (N (62 + 7 * p))), some (.int at9), some (.int (nI cd)), some (.int rt9), some (.int wr), some (.int du), none] [.ref sP, .ref a] h := by
  have X0 := X
  obtain ⟨⟨hpc, x2, x3⟩, ⟨x4, x5⟩, ⟨x6, x7⟩, ⟨x8, x9⟩, ⟨y1, y2⟩, y3, ewr, edu⟩ := X0
  have H := H0.all hd I.2.1
  obtain ⟨fs, hm⟩ := H.at12
  obtain ⟨gs21, hB21⟩ := I.cell
  refine g_callV (rc' := 112) (rs' := 3748) kL_238 (sbN_S hps hP I (n := 1) (Nat.le_refl _) (by omega)) (by decide +kernel) rfl rfl hB21 rfl (Nat.le_of_ble_eq_true rfl) (Nat.le_of_ble_eq_true rfl) (Nat.le_of_ble_eq_true rfl) (by omega) (by omega) rfl (fun _ _ z => z.elim) (fun v9 k21 hz => ?_)
  obtain ⟨rfl, I21⟩ := hz
  simp only [Option.toList_some, Option.toList_none, List.cons_append, List.nil_append]
  have H21 := H0.all hd I21.2.1
  obtain ⟨fs21, hm21⟩ := H21.at12
  refine g_blk [(.iload_n 1, .null)] (Nat.le_of_ble_eq_true rfl) (by decide +kernel) ?_
  refine gx_iload_n_1 ((gx_nil ?_))
  refine g_topi x2 ?_
  obtain ⟨gs22, hB22⟩ := I21.cell
  refine g_callV (rc' := 111) (rs' := 3714) kL_242 (sbN_I hps I21 (n := i) (T := 3) (by omega) (tp_3 x3) (by omega)) (by decide +kernel) rfl rfl hB22 rfl (Nat.le_of_ble_eq_true rfl) (Nat.le_of_ble_eq_true rfl) (Nat.le_of_ble_eq_true rfl) (by omega) (by omega) rfl (fun _ _ z => z.elim) (fun v9 k22 hz => ?_)
  obtain ⟨rfl, I22⟩ := hz
  simp only [Option.toList_some, Option.toList_none, List.cons_append, List.nil_append]
  have H22 := H0.all hd I22.2.1
  obtain ⟨fs22, hm22⟩ := H22.at12
  obtain ⟨s245, q245, w245⟩ := hpw (245, ":", [58]) (by simp [lwS])
  refine g_ldc q245 (by decide +kernel) ?_
  obtain ⟨gs23, hB23⟩ := I22.cell
  refine g_callV (rc' := 110) (rs' := 3680) kL_238 (sbN_S hps w245 I22 (n := 1) (Nat.le_refl _) (by omega)) (by decide +kernel) rfl rfl hB23 rfl (Nat.le_of_ble_eq_true rfl) (Nat.le_of_ble_eq_true rfl) (Nat.le_of_ble_eq_true rfl) (by omega) (by omega) rfl (fun _ _ z => z.elim) (fun v9 k23 hz => ?_)
  obtain ⟨rfl, I23⟩ := hz
  simp only [Option.toList_some, Option.toList_none, List.cons_append, List.nil_append]
  have H23 := H0.all hd I23.2.1
  obtain ⟨fs23, hm23⟩ := H23.at12
  refine g_blk [(.iload_n 3, .null), (.sipush 1000, .int (nI 1000))] (Nat.le_of_ble_eq_true rfl) (by decide +kernel) ?_
  refine gx_iload_n_3 (gx_sipush ((gx_nil ?_)))
  refine g_idiv (by decide) (by decide +kernel) ?_
  refine g_topi (pk_div (by omega) (by omega) (by omega)) ?_
  obtain ⟨gs24, hB24⟩ := I23.cell
  refine g_callV (rc' := 109) (rs' := 3646) kL_242 (sbN_I hps I23 (n := cd / 1000) (T := 0) (by omega) (Nat.le_of_eq (tpd_9 (by omega))) (by omega)) (by decide +kernel) rfl rfl hB24 rfl (Nat.le_of_ble_eq_true rfl) (Nat.le_of_ble_eq_true rfl) (Nat.le_of_ble_eq_true rfl) (by omega) (by omega) rfl (fun _ _ z => z.elim) (fun v9 k24 hz => ?_)
  obtain ⟨rfl, I24⟩ := hz
  simp only [Option.toList_some, Option.toList_none, List.cons_append, List.nil_append]
  have H24 := H0.all hd I24.2.1
  obtain ⟨fs24, hm24⟩ := H24.at12
  refine g_blk [(.iload_n 3, .null), (.bipush 100, .int (nI 100))] (Nat.le_of_ble_eq_true rfl) (by decide +kernel) ?_
  refine gx_iload_n_3 (gx_bipush ((gx_nil ?_)))
  refine g_idiv (by decide) (by decide +kernel) ?_
  rw [pk_div (by omega) (by omega) (by omega)]
  refine g_blk [(.bipush 10, .int (nI 10))] (Nat.le_of_ble_eq_true rfl) (by decide +kernel) ?_
  refine gx_bipush ((gx_nil ?_))
  refine g_irem (by decide) (by decide +kernel) ?_
  refine g_topi (rm_nI (by omega) (by omega) (by omega)) ?_
  obtain ⟨gs25, hB25⟩ := I24.cell
  refine g_callV (rc' := 108) (rs' := 3612) kL_242 (sbN_I hps I24 (n := cd / 100 % 10) (T := 0) (by omega) (Nat.le_of_eq (tpd_9 (by omega))) (by omega)) (by decide +kernel) rfl rfl hB25 rfl (Nat.le_of_ble_eq_true rfl) (Nat.le_of_ble_eq_true rfl) (Nat.le_of_ble_eq_true rfl) (by omega) (by omega) rfl (fun _ _ z => z.elim) (fun v9 k25 hz => ?_)
  obtain ⟨rfl, I25⟩ := hz
  simp only [Option.toList_some, Option.toList_none, List.cons_append, List.nil_append]
  have H25 := H0.all hd I25.2.1
  obtain ⟨fs25, hm25⟩ := H25.at12
  refine g_blk [(.iload_n 3, .null), (.bipush 10, .int (nI 10))] (Nat.le_of_ble_eq_true rfl) (by decide +kernel) ?_
  refine gx_iload_n_3 (gx_bipush ((gx_nil ?_)))
  refine g_idiv (by decide) (by decide +kernel) ?_
  rw [pk_div (by omega) (by omega) (by omega)]
  refine g_blk [(.bipush 10, .int (nI 10))] (Nat.le_of_ble_eq_true rfl) (by decide +kernel) ?_
  refine gx_bipush ((gx_nil ?_))
  refine g_irem (by decide) (by decide +kernel) ?_
  refine g_topi (rm_nI (by omega) (by omega) (by omega)) ?_
  obtain ⟨gs26, hB26⟩ := I25.cell
  refine g_callV (rc' := 107) (rs' := 3578) kL_242 (sbN_I hps I25 (n := cd / 10 % 10) (T := 0) (by omega) (Nat.le_of_eq (tpd_9 (by omega))) (by omega)) (by decide +kernel) rfl rfl hB26 rfl (Nat.le_of_ble_eq_true rfl) (Nat.le_of_ble_eq_true rfl) (Nat.le_of_ble_eq_true rfl) (by omega) (by omega) rfl (fun _ _ z => z.elim) (fun v9 k26 hz => ?_)
  obtain ⟨rfl, I26⟩ := hz
  simp only [Option.toList_some, Option.toList_none, List.cons_append, List.nil_append]
  have H26 := H0.all hd I26.2.1
  obtain ⟨fs26, hm26⟩ := H26.at12
  refine g_blk [(.iload_n 3, .null), (.bipush 10, .int (nI 10))] (Nat.le_of_ble_eq_true rfl) (by decide +kernel) ?_
  refine gx_iload_n_3 (gx_bipush ((gx_nil ?_)))
  refine g_irem (by decide) (by decide +kernel) ?_
  refine g_topi (rm_nI (by omega) (by omega) (by omega)) ?_
  obtain ⟨gs27, hB27⟩ := I26.cell
  refine g_callV (rc' := 106) (rs' := 3544) kL_242 (sbN_I hps I26 (n := cd % 10) (T := 0) (by omega) (Nat.le_of_eq (tpd_9 (by omega))) (by omega)) (by decide +kernel) rfl rfl hB27 rfl (Nat.le_of_ble_eq_true rfl) (Nat.le_of_ble_eq_true rfl) (Nat.le_of_ble_eq_true rfl) (by omega) (by omega) rfl (fun _ _ z => z.elim) (fun v9 k27 hz => ?_)
  obtain ⟨rfl, I27⟩ := hz
  simp only [Option.toList_some, Option.toList_none, List.cons_append, List.nil_append]
  have H27 := H0.all hd I27.2.1
  obtain ⟨fs27, hm27⟩ := H27.at12
  obtain ⟨s247, q247, w247⟩ := hpw (247, " ", [32]) (by simp [lwS])
  refine g_ldc q247 (by decide +kernel) ?_
  obtain ⟨gs28, hB28⟩ := I27.cell
  refine g_callV (rc' := 105) (rs' := 3510) kL_238 (sbN_S hps w247 I27 (n := 1) (Nat.le_refl _) (by omega)) (by decide +kernel) rfl rfl hB28 rfl (Nat.le_of_ble_eq_true rfl) (Nat.le_of_ble_eq_true rfl) (Nat.le_of_ble_eq_true rfl) (by omega) (by omega) rfl (fun _ _ z => z.elim) (fun v9 k28 hz => ?_)
  obtain ⟨rfl, I28⟩ := hz
  simp only [Option.toList_some, Option.toList_none, List.cons_append, List.nil_append]
  have H28 := H0.all hd I28.2.1
  obtain ⟨fs28, hm28⟩ := H28.at12
  refine g_blk [(.aload_n 0, .null), (.iload_n 1, .null)] (Nat.le_of_ble_eq_true rfl) (by decide +kernel) ?_
  refine gx_aload_n_0 (gx_iload_n_1 ((gx_nil ?_)))
  refine g_pV kL_178 (lr_weightOf hp H28 hpc) (by decide +kernel) rfl rfl hm28 rfl (Nat.le_of_ble_eq_true rfl) (Nat.le_of_ble_eq_true rfl) (Nat.le_of_ble_eq_true rfl) rfl ?_
  simp only [Option.toList_some, Option.toList_none, List.cons_append, List.nil_append]
  refine g_topi x6 ?_
  obtain ⟨gs29, hB29⟩ := I28.cell
  refine g_callV (rc' := 104) (rs' := 3476) kL_242 (sbN_I hps I28 (n := w) (T := 1) (by omega) (tpd_99 x7) (by omega)) (by decide +kernel) rfl rfl hB29 rfl (Nat.le_of_ble_eq_true rfl) (Nat.le_of_ble_eq_true rfl) (Nat.le_of_ble_eq_true rfl) (by omega) (by omega) rfl (fun _ _ z => z.elim) (fun v9 k29 hz => ?_)
  obtain ⟨rfl, I29⟩ := hz
  simp only [Option.toList_some, Option.toList_none, List.cons_append, List.nil_append]
  have H29 := H0.all hd I29.2.1
  obtain ⟨fs29, hm29⟩ := H29.at12
  obtain ⟨s249, q249, w249⟩ := hpw (249, "g", [103]) (by simp [lwS])
  refine g_ldc q249 (by decide +kernel) ?_
  obtain ⟨gs30, hB30⟩ := I29.cell
  refine g_callV (rc' := 103) (rs' := 3442) kL_238 (sbN_S hps w249 I29 (n := 1) (Nat.le_refl _) (by omega)) (by decide +kernel) rfl rfl hB30 rfl (Nat.le_of_ble_eq_true rfl) (Nat.le_of_ble_eq_true rfl) (Nat.le_of_ble_eq_true rfl) (by omega) (by omega) rfl (fun _ _ z => z.elim) (fun v9 k30 hz => ?_)
  obtain ⟨rfl, I30⟩ := hz
  simp only [Option.toList_some, Option.toList_none, List.cons_append, List.nil_append]
  have H30 := H0.all hd I30.2.1
  obtain ⟨fs30, hm30⟩ := H30.at12
  exact il_147 hd hpl hp hnc hps hpt hpw X H0 I30 (by omega) (fmt_law x5) (by omega) (by omega)
theorem la_isLetterRight (hd : gDi Γ) (hpl : gPall Γ de mi) (hp : gPxs Γ) (hnc : gPnc Γ) (hps : gPsb Γ d1 d10 vf) (hpt : gPtx Γ sr ss) (hpw : gPlw Γ) (H : lP bm Γ de h m N c t nx) (hpc : p < c) : gC Γ M_L_isLetterRight [.ref m, .int (N (62 + 7 * p))] h 40 116 3808 (fun v h' => v = some (.int (nI 1)) ∧ lP bm Γ de h' m N c t nx) (fun _ _ => False) := by
  have I := H.iv.1
  have hn := H.iv.2
  obtain ⟨fs, hm⟩ := H.at12
  obtain ⟨i, cd, w, pr, q, x2, x3, x4, x5, x6, x61, x7, x8, x9, y1, y2, y3⟩ := I.let9 hpc
  have hatx : ∃ A at9, (if N (62 + 7 * p + 5) = -1 then (-2005) else N (62 + 7 * p + 5)) = at9 ∧ ((A = none ∧ N (62 + 7 * p + 5) = -1 ∧ at9 = (-2005)) ∨ ∃ a b, a < 6 ∧ b < 3 ∧ A = some (a, b) ∧ N (62 + 7 * p + 5) = nI a ∧ N (62 + 7 * p + 6) = nI b ∧ at9 = nI a) := by
    rcases y3 with z | ⟨a, b, ha, hb, ea, eb⟩
    · exact ⟨none, _, rfl, Or.inl ⟨rfl, z, if_pos z⟩⟩
    · have g3 := (I.g3 (a := a) ha).1
      refine ⟨some (a, b), _, rfl, Or.inr ⟨a, b, by omega, by omega, rfl, ea, eb, ?_⟩⟩
      rw [ea]
      exact if_neg (nI_nm1 (by omega))
  obtain ⟨A, at9, eat9, hA9⟩ := hatx
  have mk : ∀ wr du, wr = bI (rWr N p t = true) → du = (if N (62 + 7 * p + 5) = -1 ∨ rWr N p t = true then (-2005) else rHt N (N (62 + 7 * p + 5))) → lxF N c t p i cd w pr q A at9 wr du := fun wr du e1 e2 => ⟨⟨hpc, x2, by omega⟩, ⟨x4, x5⟩, ⟨x6, by omega⟩, ⟨x8, x9⟩, ⟨y1, y2⟩, hA9, e1, e2⟩
  have ltA : at9 < 0 → N (62 + 7 * p + 5) = -1 := fun z => ((mk _ _ rfl rfl).lt (Int32.not_le.mpr z)).2
  have geA : ¬ at9 < 0 → ∃ a, a < 6 ∧ N (62 + 7 * p + 5) = nI a ∧ at9 = nI a := fun z => by
    obtain ⟨a, b, a1, -, -, a2, -, a3, -⟩ := (mk _ _ rfl rfl).ge (Int32.not_lt.mp z)
    exact ⟨a, a1, a2, a3⟩
  have roW : ∀ a, a < 6 → N (62 + 7 * p + 5) = nI a → (roV N t cd = nI a ↔ ¬ rWr N p t = true) := fun a ha e => by
    have e9 : rWr N p t = true ↔ ¬ rLR N p t = nI a := by
      unfold rWr
      rw [decide_eq_true_iff, e]
      exact ⟨fun z => z.2, fun z => ⟨nI_nm1 (by omega), z⟩⟩
    rw [e9, Decidable.not_not]
    rcases lr_cases I p with y | ⟨r, hr, y⟩
    · rw [ro_0 I x4 x5 y, y]
      exact ⟨fun z => absurd z (n4_r ha), fun z => absurd z.symm (nI_nm1 (by omega))⟩
    · rw [ro_1 I x4 x5 hr y, y]
  refine gC_of (by decide) rfl (Nat.le_of_ble_eq_true rfl) [some (.ref m), some (.int (N (62 + 7 * p))), none, none, none, none, none, none] rfl ?_
  refine g_blk [(.aload_n 0, .null), (.iconst 2, .int (nI 2)), (.iload_n 1, .null), (.iconst 0, .int (nI 0))] (Nat.le_of_ble_eq_true rfl) (by decide +kernel) ?_
  refine gx_aload_n_0 (gx_iconst (gx_iload_n_1 (gx_iconst ((gx_nil ?_)))))
  refine g_callSH (rc' := 115) (rs' := 3802) kL_166 (aq_2 hp hnc H hpc) (by decide +kernel) rfl rfl (Nat.le_of_ble_eq_true rfl) (Nat.le_of_ble_eq_true rfl) (Nat.le_of_ble_eq_true rfl) (by omega) (by omega) rfl (fun _ _ z => z.elim) (fun v9 k5 hz => ?_)
  obtain ⟨rfl, rfl⟩ := hz
  simp only [Option.toList_some, Option.toList_none, List.cons_append, List.nil_append]
  refine g_topi eat9 ?_
  refine g_blk [(.istore_n 2, .null), (.aload_n 0, .null), (.iload_n 1, .null)] (Nat.le_of_ble_eq_true rfl) (by decide +kernel) ?_
  refine gx_istore_n_2 rfl (gx_aload_n_0 (gx_iload_n_1 ((gx_nil ?_))))
  refine g_pV kL_70 (lr_codeOf hp H hpc) (by decide +kernel) rfl rfl hm rfl (Nat.le_of_ble_eq_true rfl) (Nat.le_of_ble_eq_true rfl) (Nat.le_of_ble_eq_true rfl) rfl ?_
  simp only [Option.toList_some, Option.toList_none, List.cons_append, List.nil_append]
  refine g_topi x4 ?_
  refine g_blk [(.istore_n 3, .null), (.aload_n 0, .null), (.iload_n 3, .null)] (Nat.le_of_ble_eq_true rfl) (by decide +kernel) ?_
  refine gx_istore_n_3 rfl (gx_aload_n_0 (gx_iload_n_3 ((gx_nil ?_))))
  refine g_pS kL_198 (la_route hp H hm x5) (by decide +kernel) rfl rfl (Nat.le_of_ble_eq_true rfl) (Nat.le_of_ble_eq_true rfl) (Nat.le_of_ble_eq_true rfl) rfl ?_
  simp only [Option.toList_some, Option.toList_none, List.cons_append, List.nil_append]
  refine g_blk [(.istore 4, .null), (.iload_n 2, .null)] (Nat.le_of_ble_eq_true rfl) (by decide +kernel) ?_
  refine gx_istore_4 rfl (gx_iload_n_2 ((gx_nil ?_)))
  refine g_if_lt (off := 13) (tgt := 35) (by decide +kernel) (by decide) (fun c22 => ?_) (fun c22 => ?_)
  · try simp only [bI_0, Decidable.not_not] at c22
    have h5 := ltA c22
    refine g_blk [(.iconst 0, .int (nI 0)), (.istore 5, .null), (.iload_n 2, .null)] (Nat.le_of_ble_eq_true rfl) (by decide +kernel) ?_
    refine gx_iconst (gx_istore_5 rfl (gx_iload_n_2 ((gx_nil ?_))))
    refine g_if_lt (off := 8) (tgt := 47) (by decide +kernel) (by decide) (fun c39 => ?_) (fun c39 => ?_)
    · try simp only [bI_0, Decidable.not_not] at c39
      refine g_blk [(.sipush (-2005), .int (-2005)), (.goto 8, .retAddr 58), (.istore 6, .null)] (Nat.le_of_ble_eq_true rfl) (by decide +kernel) ?_
      refine gx_sipush (gx_goto (gx_istore_6 rfl ((gx_nil ?_))))
      have X := mk (nI 0) (-2005) (bI_f (fun z => by unfold rWr at z; rw [decide_eq_true_iff] at z; exact z.1 h5)).symm (if_pos (Or.inl h5)).symm
      refine g_new nL_231 (rc' := 114) (rs' := 3798) (by decide +kernel) (by omega) (show _ + 4 ≤ _ by omega) (fun a ha => ?_)
      refine g_blk [(.dup, .null)] (Nat.le_of_ble_eq_true rfl) (by decide +kernel) ?_
      refine gx_dupr ((gx_nil ?_))
      refine g_callI (rc' := 113) (rs' := 3782) kL_233 (sb_init hps (gUp_s _ _ _)) (by decide +kernel) rfl rfl rfl (Nat.le_of_ble_eq_true rfl) (Nat.le_of_ble_eq_true rfl) (Nat.le_of_ble_eq_true rfl) (by omega) (by omega) rfl (fun _ _ z => z.elim) (fun v9 k22 hz => ?_)
      obtain ⟨rfl, hz⟩ := hz
      have I22 := sbN_0 ha hz
      have H22 := H.all hd I22.2.1
      obtain ⟨fs22, hm22⟩ := H22.at12
      simp only [Option.toList_some, Option.toList_none, List.cons_append, List.nil_append]
      refine g_blk [(.aload_n 0, .null), (.iload_n 1, .null)] (Nat.le_of_ble_eq_true rfl) (by decide +kernel) ?_
      refine gx_aload_n_0 (gx_iload_n_1 ((gx_nil ?_)))
      refine g_pV kL_181 (lr_isPriority hp H22 hpc) (by decide +kernel) rfl rfl hm22 rfl (Nat.le_of_ble_eq_true rfl) (Nat.le_of_ble_eq_true rfl) (Nat.le_of_ble_eq_true rfl) rfl ?_
      simp only [Option.toList_some, Option.toList_none, List.cons_append, List.nil_append]
      refine g_if_eq (off := 8) (tgt := 80) (by decide +kernel) (by decide) (fun c72 => ?_) (fun c72 => ?_)
      · try simp only [bI_0, Decidable.not_not] at c72
        have hpr1 : ¬ pr = 1 := fun z => c72 (by rw [x8, z])
        obtain ⟨s236, q236, w236⟩ := hpw (236, "S", [83]) (by simp [lwS])
        refine g_ldc q236 (by decide +kernel) ?_
        exact il_82 hd hpl hp hnc hps hpt hpw X H I22 (by rw [if_neg hpr1]; exact w236) (by omega) (by omega)
      · try simp only [bI_0, Decidable.not_not] at c72
        have hpr1 : pr = 1 := (nI_eqI (by omega) (by omega)).mp (x8.symm.trans c72)
        obtain ⟨s234, q234, w234⟩ := hpw (234, "P", [80]) (by simp [lwS])
        refine g_ldc q234 (by decide +kernel) ?_
        refine g_blk [(.goto 5, .retAddr 82)] (Nat.le_of_ble_eq_true rfl) (by decide +kernel) ?_
        refine gx_goto ((gx_nil ?_))
        exact il_82 hd hpl hp hnc hps hpt hpw X H I22 (by rw [if_pos hpr1]; exact w234) (by omega) (by omega)
    · try simp only [bI_0, Decidable.not_not] at c39
      exact absurd c22 c39
  · try simp only [bI_0, Decidable.not_not] at c22
    obtain ⟨a9, ha9, e5, ea9⟩ := geA c22
    have h5 : ¬ N (62 + 7 * p + 5) = -1 := by rw [e5]; exact nI_nm1 (by omega)
    have nlt : ¬ nI a9 < 0 := nI_pos (by omega)
    refine g_blk [(.iload 4, .null), (.iload_n 2, .null)] (Nat.le_of_ble_eq_true rfl) (by decide +kernel) ?_
    refine gx_iload_4 (gx_iload_n_2 ((gx_nil ?_)))
    refine g_icmp_eq (off := 7) (tgt := 35) (by decide +kernel) (by decide) (fun c28 => ?_) (fun c28 => ?_)
    · try simp only [bI_0, Decidable.not_not] at c28
      have hw := (roW a9 ha9 e5).mp (c28.trans ea9)
      refine g_blk [(.iconst 0, .int (nI 0)), (.istore 5, .null), (.iload_n 2, .null)] (Nat.le_of_ble_eq_true rfl) (by decide +kernel) ?_
      refine gx_iconst (gx_istore_5 rfl (gx_iload_n_2 ((gx_nil ?_))))
      refine g_if_lt (off := 8) (tgt := 47) (by decide +kernel) (by decide) (fun c39 => ?_) (fun c39 => ?_)
      · try simp only [bI_0, Decidable.not_not] at c39
        exact absurd c39 (by rw [ea9]; exact nlt)
      · try simp only [bI_0, Decidable.not_not] at c39
        refine g_blk [(.iload 5, .null)] (Nat.le_of_ble_eq_true rfl) (by decide +kernel) ?_
        refine gx_iload_5 ((gx_nil ?_))
        refine g_if_eq (off := 9) (tgt := 53) (by decide +kernel) (by decide) (fun c44 => ?_) (fun c44 => ?_)
        · try simp only [bI_0, Decidable.not_not] at c44
          refine g_blk [(.aload_n 0, .null), (.iload_n 2, .null)] (Nat.le_of_ble_eq_true rfl) (by decide +kernel) ?_
          refine gx_aload_n_0 (gx_iload_n_2 ((gx_nil ?_)))
          refine g_topi ea9 ?_
          refine g_pV kL_216 (lr_hoursToDeparture hp H ha9) (by decide +kernel) rfl rfl hm rfl (Nat.le_of_ble_eq_true rfl) (Nat.le_of_ble_eq_true rfl) (Nat.le_of_ble_eq_true rfl) rfl ?_
          simp only [Option.toList_some, Option.toList_none, List.cons_append, List.nil_append]
          refine g_blk [(.istore 6, .null)] (Nat.le_of_ble_eq_true rfl) (by decide +kernel) ?_
          refine gx_istore_6 rfl ((gx_nil ?_))
          have X := mk (nI 0) (rHt N (nI a9)) (bI_f hw).symm (by rw [if_neg (fun z => z.elim h5 hw), e5])
          refine g_new nL_231 (rc' := 114) (rs' := 3798) (by decide +kernel) (by omega) (show _ + 4 ≤ _ by omega) (fun a ha => ?_)
          refine g_blk [(.dup, .null)] (Nat.le_of_ble_eq_true rfl) (by decide +kernel) ?_
          refine gx_dupr ((gx_nil ?_))
          refine g_callI (rc' := 113) (rs' := 3782) kL_233 (sb_init hps (gUp_s _ _ _)) (by decide +kernel) rfl rfl rfl (Nat.le_of_ble_eq_true rfl) (Nat.le_of_ble_eq_true rfl) (Nat.le_of_ble_eq_true rfl) (by omega) (by omega) rfl (fun _ _ z => z.elim) (fun v9 k23 hz => ?_)
          obtain ⟨rfl, hz⟩ := hz
          have I23 := sbN_0 ha hz
          have H23 := H.all hd I23.2.1
          obtain ⟨fs23, hm23⟩ := H23.at12
          simp only [Option.toList_some, Option.toList_none, List.cons_append, List.nil_append]
          refine g_blk [(.aload_n 0, .null), (.iload_n 1, .null)] (Nat.le_of_ble_eq_true rfl) (by decide +kernel) ?_
          refine gx_aload_n_0 (gx_iload_n_1 ((gx_nil ?_)))
          refine g_pV kL_181 (lr_isPriority hp H23 hpc) (by decide +kernel) rfl rfl hm23 rfl (Nat.le_of_ble_eq_true rfl) (Nat.le_of_ble_eq_true rfl) (Nat.le_of_ble_eq_true rfl) rfl ?_
          simp only [Option.toList_some, Option.toList_none, List.cons_append, List.nil_append]
          refine g_if_eq (off := 8) (tgt := 80) (by decide +kernel) (by decide) (fun c72 => ?_) (fun c72 => ?_)
          · try simp only [bI_0, Decidable.not_not] at c72
            have hpr1 : ¬ pr = 1 := fun z => c72 (by rw [x8, z])
            obtain ⟨s236, q236, w236⟩ := hpw (236, "S", [83]) (by simp [lwS])
            refine g_ldc q236 (by decide +kernel) ?_
            exact il_82 hd hpl hp hnc hps hpt hpw X H I23 (by rw [if_neg hpr1]; exact w236) (by omega) (by omega)
          · try simp only [bI_0, Decidable.not_not] at c72
            have hpr1 : pr = 1 := (nI_eqI (by omega) (by omega)).mp (x8.symm.trans c72)
            obtain ⟨s234, q234, w234⟩ := hpw (234, "P", [80]) (by simp [lwS])
            refine g_ldc q234 (by decide +kernel) ?_
            refine g_blk [(.goto 5, .retAddr 82)] (Nat.le_of_ble_eq_true rfl) (by decide +kernel) ?_
            refine gx_goto ((gx_nil ?_))
            exact il_82 hd hpl hp hnc hps hpt hpw X H I23 (by rw [if_pos hpr1]; exact w234) (by omega) (by omega)
        · exact absurd (by decide) c44
    · try simp only [bI_0, Decidable.not_not] at c28
      have hw : rWr N p t = true := by
        cases e : rWr N p t with
        | true => rfl
        | false => exact absurd (((roW a9 ha9 e5).mpr (by rw [e]; decide)).trans ea9.symm) c28
      refine g_blk [(.iconst 1, .int (nI 1)), (.goto 4, .retAddr 36), (.istore 5, .null), (.iload_n 2, .null)] (Nat.le_of_ble_eq_true rfl) (by decide +kernel) ?_
      refine gx_iconst (gx_goto (gx_istore_5 rfl (gx_iload_n_2 ((gx_nil ?_)))))
      refine g_if_lt (off := 8) (tgt := 47) (by decide +kernel) (by decide) (fun c39 => ?_) (fun c39 => ?_)
      · try simp only [bI_0, Decidable.not_not] at c39
        exact absurd c39 (by rw [ea9]; exact nlt)
      · try simp only [bI_0, Decidable.not_not] at c39
        refine g_blk [(.iload 5, .null)] (Nat.le_of_ble_eq_true rfl) (by decide +kernel) ?_
        refine gx_iload_5 ((gx_nil ?_))
        refine g_if_eq (off := 9) (tgt := 53) (by decide +kernel) (by decide) (fun c44 => ?_) (fun c44 => ?_)
        · exact absurd c44 (by decide)
        · try simp only [bI_0, Decidable.not_not] at c44
          refine g_blk [(.sipush (-2005), .int (-2005)), (.goto 8, .retAddr 58), (.istore 6, .null)] (Nat.le_of_ble_eq_true rfl) (by decide +kernel) ?_
          refine gx_sipush (gx_goto (gx_istore_6 rfl ((gx_nil ?_))))
          have X := mk (nI 1) (-2005) (bI_t hw).symm (if_pos (Or.inr hw)).symm
          refine g_new nL_231 (rc' := 114) (rs' := 3798) (by decide +kernel) (by omega) (show _ + 4 ≤ _ by omega) (fun a ha => ?_)
          refine g_blk [(.dup, .null)] (Nat.le_of_ble_eq_true rfl) (by decide +kernel) ?_
          refine gx_dupr ((gx_nil ?_))
          refine g_callI (rc' := 113) (rs' := 3782) kL_233 (sb_init hps (gUp_s _ _ _)) (by decide +kernel) rfl rfl rfl (Nat.le_of_ble_eq_true rfl) (Nat.le_of_ble_eq_true rfl) (Nat.le_of_ble_eq_true rfl) (by omega) (by omega) rfl (fun _ _ z => z.elim) (fun v9 k24 hz => ?_)
          obtain ⟨rfl, hz⟩ := hz
          have I24 := sbN_0 ha hz
          have H24 := H.all hd I24.2.1
          obtain ⟨fs24, hm24⟩ := H24.at12
          simp only [Option.toList_some, Option.toList_none, List.cons_append, List.nil_append]
          refine g_blk [(.aload_n 0, .null), (.iload_n 1, .null)] (Nat.le_of_ble_eq_true rfl) (by decide +kernel) ?_
          refine gx_aload_n_0 (gx_iload_n_1 ((gx_nil ?_)))
          refine g_pV kL_181 (lr_isPriority hp H24 hpc) (by decide +kernel) rfl rfl hm24 rfl (Nat.le_of_ble_eq_true rfl) (Nat.le_of_ble_eq_true rfl) (Nat.le_of_ble_eq_true rfl) rfl ?_
          simp only [Option.toList_some, Option.toList_none, List.cons_append, List.nil_append]
          refine g_if_eq (off := 8) (tgt := 80) (by decide +kernel) (by decide) (fun c72 => ?_) (fun c72 => ?_)
          · try simp only [bI_0, Decidable.not_not] at c72
            have hpr1 : ¬ pr = 1 := fun z => c72 (by rw [x8, z])
            obtain ⟨s236, q236, w236⟩ := hpw (236, "S", [83]) (by simp [lwS])
            refine g_ldc q236 (by decide +kernel) ?_
            exact il_82 hd hpl hp hnc hps hpt hpw X H I24 (by rw [if_neg hpr1]; exact w236) (by omega) (by omega)
          · try simp only [bI_0, Decidable.not_not] at c72
            have hpr1 : pr = 1 := (nI_eqI (by omega) (by omega)).mp (x8.symm.trans c72)
            obtain ⟨s234, q234, w234⟩ := hpw (234, "P", [80]) (by simp [lwS])
            refine g_ldc q234 (by decide +kernel) ?_
            refine g_blk [(.goto 5, .retAddr 82)] (Nat.le_of_ble_eq_true rfl) (by decide +kernel) ?_
            refine gx_goto ((gx_nil ?_))
            exact il_82 hd hpl hp hnc hps hpt hpw X H I24 (by rw [if_pos hpr1]; exact w234) (by omega) (by omega)
end GLl
