/-! THE LAW: ranks are right -/
section GLh
variable {Γ : gE} {bm de mi : Nat} {h : gHp} {m : Nat} {N : Nat → Int32} {c t nx : Nat}
theorem fo_self {d : FP.Core.Datum} (hn : d ≠ .nan) : FP.Core.order d d = some .eq := by
  cases d with
  | nan => exact absurd rfl hn
  | inf s => simp [FP.Core.order, compare, compareOfLessAndEq]
  | fin s c q => simp [FP.Core.order, compare, compareOfLessAndEq]
theorem fd_n32 {x : UInt32} (h : vf_n32 x) : FP.Core.decode FP.Core.b32 x.toNat ≠ .nan := by
  unfold vf_n32 at h
  rw [UInt32.le_iff_toNat_le, UInt32.toNat_and, show (0x7fffffff : UInt32).toNat = 2 ^ 31 - 1 by decide, Nat.and_two_pow_sub_one_eq_mod, show (0x7f800000 : UInt32).toNat = 2139095040 by decide] at h
  intro z
  unfold FP.Core.decode FP.Core.fieldE FP.Core.fieldT at z
  rw [show FP.Core.b32.tails = 8388608 by decide +kernel, show FP.Core.b32.exps = 256 by decide +kernel] at z
  split at z
  · split at z
    · cases z
    · omega
  · split at z <;> cases z
theorem fd_n64 {x : UInt64} (h : vf_n64 x) : FP.Core.decode FP.Core.b64 x.toNat ≠ .nan := by
  unfold vf_n64 at h
  rw [UInt64.le_iff_toNat_le, UInt64.toNat_and, show (0x7fffffffffffffff : UInt64).toNat = 2 ^ 63 - 1 by decide, Nat.and_two_pow_sub_one_eq_mod, show (0x7ff0000000000000 : UInt64).toNat = 9218868437227405312 by decide] at h
  intro z
  unfold FP.Core.decode FP.Core.fieldE FP.Core.fieldT at z
  rw [show FP.Core.b64.tails = 4503599627370496 by decide +kernel, show FP.Core.b64.exps = 2048 by decide +kernel] at z
  split at z
  · split at z
    · cases z
    · omega
  · split at z <;> cases z
theorem dcmp_0 {y : UInt64} (h : vf_n64 y) : Op.cmpValue (FP.dcmp y y) .l = 0 := by
  rw [show FP.dcmp y y = FP.Core.order (FP.Core.decode FP.Core.b64 y.toNat) (FP.Core.decode FP.Core.b64 y.toNat) from rfl, fo_self (fd_n64 h)]
  rfl
theorem fcmp_0 {y : UInt32} (h : vf_n32 y) : Op.cmpValue (FP.fcmp y y) .l = 0 := by
  rw [show FP.fcmp y y = FP.Core.order (FP.Core.decode FP.Core.b32 y.toNat) (FP.Core.decode FP.Core.b32 y.toNat) from rfl, fo_self (fd_n32 h)]
  rfl
theorem sh_n (I : rIV N c t nx) (hn : nx ≤ 9000) (h0 : ¬ nx = 0) : vf_n32 (FP.fdiv (FP.i2f (N 5)) (FP.i2f (nI nx))) := by
  have z := rSh2_n I (by omega) h0
  unfold rSh2 at z
  rw [I.n2] at z
  exact z
theorem sh_eq (I : rIV N c t nx) (hn : nx ≤ 9000) (h0 : ¬ nx = 0) : Op.cmpValue (FP.fcmp (rSh2 N) (FP.fdiv (FP.i2f (N 5)) (FP.i2f (nI nx)))) .l = 0 := by
  have e : rSh2 N = FP.fdiv (FP.i2f (N 5)) (FP.i2f (nI nx)) := by unfold rSh2; rw [I.n2]
  rw [e]
  exact fcmp_0 (sh_n I hn h0)
/-- of two ranks one behind the other the first route is ahead -/
theorem rk_ahead (I : rIV N c t nx) (hn : nx ≤ 9000) {a b k : Nat} (ha : a < 6) (hb : b < 6) (ea : cntL (rkK N c) (rkK N c a) 6 = k) (eb : cntL (rkK N c) (rkK N c b) 6 = k + 1) : 0 < rWt N (nI a) (-1) c - rWt N (nI b) (-1) c ∨ (rWt N (nI a) (-1) c - rWt N (nI b) (-1) c = 0 ∧ (0 < nI (rg N a) - nI (rg N b) ∨ (nI (rg N a) - nI (rg N b) = 0 ∧ nI a < nI b))) := by
  have hk : rkK N c a < rkK N c b := by
    rcases Nat.lt_or_ge (rkK N c a) (rkK N c b) with y | y
    · exact y
    · have := cntL_mono (K := rkK N c) y 6
      omega
  have z := rMo_K I (by omega) hb ha
  rw [decide_eq_true hk] at z
  have z := of_decide_eq_true z
  rw [(I.g3 (a := a) (by omega)).2, (I.g3 (a := b) (by omega)).2] at z
  exact z
theorem la_areRanksRight (hp : gPxs Γ) (hnc : gPnc Γ) (H : lP bm Γ de h m N c t nx) : gC Γ M_L_areRanksRight [.ref m] h 40 2 12 (fun v h' => v = some (.int (nI 1)) ∧ lP bm Γ de h' m N c t nx) (fun _ _ => False) := by
  have I := H.iv.1
  have hn9 := H.iv.2
  have loop : ∀ (h : gHp), lP bm Γ de h m N c t nx → ∀ n i, i + n = 5 → G Γ M_L_areRanksRight 40 2 12 (fun v h' => v = some (.int (nI 1)) ∧ lP bm Γ de h' m N c t nx) (fun _ _ => False) 0 0 44 [some (.ref m), some (.int (nI 1)), some (.int (nI i)), none, none, none, none] [] h := by
    intro h H n
    obtain ⟨fs, hm⟩ := H.at12
    induction n with
    | zero =>
      intro i hi
      refine g_blk [(.iload_n 2, .null), (.iconst 5, .int (nI 5))] (Nat.le_of_ble_eq_true rfl) (by decide +kernel) ?_
      refine gx_iload_n_2 (gx_iconst ((gx_nil ?_)))
      refine g_icmp_ge (off := 88) (tgt := 134) (by decide +kernel) (by decide) (fun c46 => ?_) (fun c46 => ?_)
      · try simp only [bI_0, Decidable.not_not] at c46
        refine g_blk [(.aload_n 0, .null)] (Nat.le_of_ble_eq_true rfl) (by decide +kernel) ?_
        refine gx_aload_n_0 ((gx_nil ?_))
        refine g_pV kL_144 (lr_letterCount H) (by decide +kernel) rfl rfl hm rfl (Nat.le_of_ble_eq_true rfl) (Nat.le_of_ble_eq_true rfl) (Nat.le_of_ble_eq_true rfl) rfl ?_
        simp only [Option.toList_some, Option.toList_none, List.cons_append, List.nil_append]
        refine g_blk [(.aload_n 0, .null)] (Nat.le_of_ble_eq_true rfl) (by decide +kernel) ?_
        refine gx_aload_n_0 ((gx_nil ?_))
        refine g_pV kL_157 (lr_deliveredCount H) (by decide +kernel) rfl rfl hm rfl (Nat.le_of_ble_eq_true rfl) (Nat.le_of_ble_eq_true rfl) (Nat.le_of_ble_eq_true rfl) rfl ?_
        simp only [Option.toList_some, Option.toList_none, List.cons_append, List.nil_append]
        refine g_blk [(.iadd, .null), (.aload_n 0, .null)] (Nat.le_of_ble_eq_true rfl) (by decide +kernel) ?_
        refine gx_iadd (gx_aload_n_0 ((gx_nil ?_)))
        try simp only [nI_add, pk_mul, Nat.add_zero, Nat.zero_add, Nat.reduceAdd, Nat.reduceMul]
        refine g_pV kL_160 (lr_deadCount H) (by decide +kernel) rfl rfl hm rfl (Nat.le_of_ble_eq_true rfl) (Nat.le_of_ble_eq_true rfl) (Nat.le_of_ble_eq_true rfl) rfl ?_
        simp only [Option.toList_some, Option.toList_none, List.cons_append, List.nil_append]
        refine g_blk [(.iadd, .null), (.istore_n 2, .null), (.iload_n 1, .null)] (Nat.le_of_ble_eq_true rfl) (by decide +kernel) ?_
        refine gx_iadd (gx_istore_n_2 rfl (gx_iload_n_1 ((gx_nil ?_))))
        try simp only [nI_add, pk_mul, Nat.add_zero, Nat.zero_add, Nat.reduceAdd, Nat.reduceMul]
        rw [← I.addUp, I.n2]
        refine g_if_eq (off := 27) (tgt := 177) (by decide +kernel) (by decide) (fun c150 => ?_) (fun c150 => ?_)
        · exact absurd c150 (by decide)
        · try simp only [bI_0, Decidable.not_not] at c150
          refine g_blk [(.iload_n 2, .null)] (Nat.le_of_ble_eq_true rfl) (by decide +kernel) ?_
          refine gx_iload_n_2 ((gx_nil ?_))
          refine g_if_eq (off := 19) (tgt := 173) (by decide +kernel) (by decide) (fun c154 => ?_) (fun c154 => ?_)
          · try simp only [bI_0, Decidable.not_not] at c154
            refine g_blk [(.iconst 1, .int (nI 1)), (.goto 4, .retAddr 178)] (Nat.le_of_ble_eq_true rfl) (by decide +kernel) ?_
            refine gx_iconst (gx_goto ((gx_nil ?_)))
            refine g_end (some (.int _)) rfl ⟨by decide +kernel, _, rfl, (by first | rfl | exact bI_nar _)⟩ ?_
            exact ⟨rfl, H⟩
          · try simp only [bI_0, Decidable.not_not] at c154
            have h0 : ¬ nx = 0 := fun z => c154 (by rw [z]; decide)
            refine g_blk [(.aload_n 0, .null)] (Nat.le_of_ble_eq_true rfl) (by decide +kernel) ?_
            refine gx_aload_n_0 ((gx_nil ?_))
            refine g_pV kL_308 (lr_deliveredShare hp H h0) (by decide +kernel) rfl rfl hm rfl (Nat.le_of_ble_eq_true rfl) (Nat.le_of_ble_eq_true rfl) (Nat.le_of_ble_eq_true rfl) rfl ?_
            simp only [Option.toList_some, Option.toList_none, List.cons_append, List.nil_append]
            refine g_blk [(.aload_n 0, .null)] (Nat.le_of_ble_eq_true rfl) (by decide +kernel) ?_
            refine gx_aload_n_0 ((gx_nil ?_))
            refine g_pV kL_157 (lr_deliveredCount H) (by decide +kernel) rfl rfl hm rfl (Nat.le_of_ble_eq_true rfl) (Nat.le_of_ble_eq_true rfl) (Nat.le_of_ble_eq_true rfl) rfl ?_
            simp only [Option.toList_some, Option.toList_none, List.cons_append, List.nil_append]
            refine g_blk [(.i2f, .null), (.iload_n 2, .null), (.i2f, .null)] (Nat.le_of_ble_eq_true rfl) (by decide +kernel) ?_
            refine gx_i2f (gx_iload_n_2 (gx_i2f ((gx_nil ?_))))
            refine g_fdiv (sh_n I hn9 h0) (by decide +kernel) ?_
            refine g_blk [(.fcmp .l, .null)] (Nat.le_of_ble_eq_true rfl) (by decide +kernel) ?_
            refine gx_fcmp ((gx_nil ?_))
            refine g_if_ne (off := 7) (tgt := 177) (by decide +kernel) (by decide) (fun c170 => ?_) (fun c170 => ?_)
            · try simp only [bI_0, Decidable.not_not] at c170
              exact absurd (sh_eq I hn9 h0) c170
            · try simp only [bI_0, Decidable.not_not] at c170
              refine g_blk [(.iconst 1, .int (nI 1)), (.goto 4, .retAddr 178)] (Nat.le_of_ble_eq_true rfl) (by decide +kernel) ?_
              refine gx_iconst (gx_goto ((gx_nil ?_)))
              refine g_end (some (.int _)) rfl ⟨by decide +kernel, _, rfl, (by first | rfl | exact bI_nar _)⟩ ?_
              exact ⟨rfl, H⟩
      · try simp only [bI_0, Decidable.not_not] at c46
        exact absurd (nI_le (by omega) (by omega)) c46
    | succ n ih =>
      intro i hi
      obtain ⟨a9, ha9, ea9⟩ := rk_all I hn9 (k := i) (by omega)
      obtain ⟨b9, hb9, eb9⟩ := rk_all I hn9 (k := i + 1) (by omega)
      have hmo := rk_ahead I hn9 ha9 hb9 ea9 eb9
      refine g_blk [(.iload_n 2, .null), (.iconst 5, .int (nI 5))] (Nat.le_of_ble_eq_true rfl) (by decide +kernel) ?_
      refine gx_iload_n_2 (gx_iconst ((gx_nil ?_)))
      refine g_icmp_ge (off := 88) (tgt := 134) (by decide +kernel) (by decide) (fun c46 => ?_) (fun c46 => ?_)
      · try simp only [bI_0, Decidable.not_not] at c46
        exact absurd ((nI_leI (by omega) (by omega)).mp c46) (by omega)
      · try simp only [bI_0, Decidable.not_not] at c46
        refine g_blk [(.aload_n 0, .null), (.iload_n 2, .null)] (Nat.le_of_ble_eq_true rfl) (by decide +kernel) ?_
        refine gx_aload_n_0 (gx_iload_n_2 ((gx_nil ?_)))
        refine g_pV kL_103 (lr_routeByWeight hp H ha9 ea9) (by decide +kernel) rfl rfl hm rfl (Nat.le_of_ble_eq_true rfl) (Nat.le_of_ble_eq_true rfl) (Nat.le_of_ble_eq_true rfl) rfl ?_
        simp only [Option.toList_some, Option.toList_none, List.cons_append, List.nil_append]
        refine g_blk [(.istore_n 3, .null), (.aload_n 0, .null), (.iload_n 2, .null), (.iconst 1, .int (nI 1)), (.iadd, .null)] (Nat.le_of_ble_eq_true rfl) (by decide +kernel) ?_
        refine gx_istore_n_3 rfl (gx_aload_n_0 (gx_iload_n_2 (gx_iconst (gx_iadd ((gx_nil ?_))))))
        try simp only [nI_add, pk_mul, Nat.add_zero, Nat.zero_add, Nat.reduceAdd, Nat.reduceMul]
        refine g_pV kL_103 (lr_routeByWeight hp H hb9 eb9) (by decide +kernel) rfl rfl hm rfl (Nat.le_of_ble_eq_true rfl) (Nat.le_of_ble_eq_true rfl) (Nat.le_of_ble_eq_true rfl) rfl ?_
        simp only [Option.toList_some, Option.toList_none, List.cons_append, List.nil_append]
        refine g_blk [(.istore 4, .null), (.aload_n 0, .null), (.iload_n 3, .null)] (Nat.le_of_ble_eq_true rfl) (by decide +kernel) ?_
        refine gx_istore_4 rfl (gx_aload_n_0 (gx_iload_n_3 ((gx_nil ?_))))
        refine g_pV kL_207 (lr_routeWeight hp H ha9) (by decide +kernel) rfl rfl hm rfl (Nat.le_of_ble_eq_true rfl) (Nat.le_of_ble_eq_true rfl) (Nat.le_of_ble_eq_true rfl) rfl ?_
        simp only [Option.toList_some, Option.toList_none, List.cons_append, List.nil_append]
        refine g_blk [(.aload_n 0, .null), (.iload 4, .null)] (Nat.le_of_ble_eq_true rfl) (by decide +kernel) ?_
        refine gx_aload_n_0 (gx_iload_4 ((gx_nil ?_)))
        refine g_pV kL_207 (lr_routeWeight hp H hb9) (by decide +kernel) rfl rfl hm rfl (Nat.le_of_ble_eq_true rfl) (Nat.le_of_ble_eq_true rfl) (Nat.le_of_ble_eq_true rfl) rfl ?_
        simp only [Option.toList_some, Option.toList_none, List.cons_append, List.nil_append]
        refine g_blk [(.isub, .null), (.istore 5, .null), (.aload_n 0, .null), (.iload_n 3, .null)] (Nat.le_of_ble_eq_true rfl) (by decide +kernel) ?_
        refine gx_isub (gx_istore_5 rfl (gx_aload_n_0 (gx_iload_n_3 ((gx_nil ?_)))))
        refine g_pV kL_169 (lr_bagCount hp H ha9) (by decide +kernel) rfl rfl hm rfl (Nat.le_of_ble_eq_true rfl) (Nat.le_of_ble_eq_true rfl) (Nat.le_of_ble_eq_true rfl) rfl ?_
        simp only [Option.toList_some, Option.toList_none, List.cons_append, List.nil_append]
        refine g_blk [(.aload_n 0, .null), (.iload 4, .null)] (Nat.le_of_ble_eq_true rfl) (by decide +kernel) ?_
        refine gx_aload_n_0 (gx_iload_4 ((gx_nil ?_)))
        refine g_pV kL_169 (lr_bagCount hp H hb9) (by decide +kernel) rfl rfl hm rfl (Nat.le_of_ble_eq_true rfl) (Nat.le_of_ble_eq_true rfl) (Nat.le_of_ble_eq_true rfl) rfl ?_
        simp only [Option.toList_some, Option.toList_none, List.cons_append, List.nil_append]
        refine g_blk [(.isub, .null), (.istore 6, .null), (.iload_n 1, .null)] (Nat.le_of_ble_eq_true rfl) (by decide +kernel) ?_
        refine gx_isub (gx_istore_6 rfl (gx_iload_n_1 ((gx_nil ?_))))
        refine g_if_eq (off := 33) (tgt := 126) (by decide +kernel) (by decide) (fun c93 => ?_) (fun c93 => ?_)
        · exact absurd c93 (by decide)
        · try simp only [bI_0, Decidable.not_not] at c93
          refine g_blk [(.iload 5, .null)] (Nat.le_of_ble_eq_true rfl) (by decide +kernel) ?_
          refine gx_iload_5 ((gx_nil ?_))
          refine g_if_gt (off := 24) (tgt := 122) (by decide +kernel) (by decide) (fun c98 => ?_) (fun c98 => ?_)
          · try simp only [bI_0, Decidable.not_not] at c98
            refine g_blk [(.iconst 1, .int (nI 1)), (.goto 4, .retAddr 127), (.istore_n 1, .null), (.iinc 2 1, .int (nI 1)), (.goto (-87), .retAddr 44)] (Nat.le_of_ble_eq_true rfl) (by decide +kernel) ?_
            refine gx_iconst (gx_goto (gx_istore_n_1 rfl (gx_iinc_2 rfl (gx_goto ((gx_nil ?_))))))
            try simp only [nI_add, pk_mul, Nat.add_zero, Nat.zero_add, Nat.reduceAdd, Nat.reduceMul]
            refine g_weak (rc' := 0) (rs' := 0) (L' := [some (.ref m), some (.int (nI 1)), some (.int (nI (i + 1))), none, none, none, none]) ⟨rfl, rfl, rfl, True.intro⟩ (by omega) (by omega) ?_
            exact ih (i + 1) (by omega)
          · try simp only [bI_0, Decidable.not_not] at c98
            refine g_blk [(.iload 5, .null)] (Nat.le_of_ble_eq_true rfl) (by decide +kernel) ?_
            refine gx_iload_5 ((gx_nil ?_))
            refine g_if_ne (off := 23) (tgt := 126) (by decide +kernel) (by decide) (fun c103 => ?_) (fun c103 => ?_)
            · try simp only [bI_0, Decidable.not_not] at c103
              exact hmo.elim (fun q => absurd q c98) (fun q => absurd q.1 c103)
            · try simp only [bI_0, Decidable.not_not] at c103
              refine g_blk [(.iload 6, .null)] (Nat.le_of_ble_eq_true rfl) (by decide +kernel) ?_
              refine gx_iload_6 ((gx_nil ?_))
              refine g_if_gt (off := 14) (tgt := 122) (by decide +kernel) (by decide) (fun c108 => ?_) (fun c108 => ?_)
              · try simp only [bI_0, Decidable.not_not] at c108
                refine g_blk [(.iconst 1, .int (nI 1)), (.goto 4, .retAddr 127), (.istore_n 1, .null), (.iinc 2 1, .int (nI 1)), (.goto (-87), .retAddr 44)] (Nat.le_of_ble_eq_true rfl) (by decide +kernel) ?_
                refine gx_iconst (gx_goto (gx_istore_n_1 rfl (gx_iinc_2 rfl (gx_goto ((gx_nil ?_))))))
                try simp only [nI_add, pk_mul, Nat.add_zero, Nat.zero_add, Nat.reduceAdd, Nat.reduceMul]
                refine g_weak (rc' := 0) (rs' := 0) (L' := [some (.ref m), some (.int (nI 1)), some (.int (nI (i + 1))), none, none, none, none]) ⟨rfl, rfl, rfl, True.intro⟩ (by omega) (by omega) ?_
                exact ih (i + 1) (by omega)
              · try simp only [bI_0, Decidable.not_not] at c108
                refine g_blk [(.iload 6, .null)] (Nat.le_of_ble_eq_true rfl) (by decide +kernel) ?_
                refine gx_iload_6 ((gx_nil ?_))
                refine g_if_ne (off := 13) (tgt := 126) (by decide +kernel) (by decide) (fun c113 => ?_) (fun c113 => ?_)
                · try simp only [bI_0, Decidable.not_not] at c113
                  exact hmo.elim (fun q => absurd q c98) (fun q => q.2.elim (fun z => absurd z c108) (fun z => absurd z.1 c113))
                · try simp only [bI_0, Decidable.not_not] at c113
                  refine g_blk [(.iload_n 3, .null), (.iload 4, .null)] (Nat.le_of_ble_eq_true rfl) (by decide +kernel) ?_
                  refine gx_iload_n_3 (gx_iload_4 ((gx_nil ?_)))
                  refine g_icmp_ge (off := 7) (tgt := 126) (by decide +kernel) (by decide) (fun c119 => ?_) (fun c119 => ?_)
                  · try simp only [bI_0, Decidable.not_not] at c119
                    exact hmo.elim (fun q => absurd q c98) (fun q => q.2.elim (fun z => absurd z c108) (fun z => absurd c119 (Int32.not_le.mpr z.2)))
                  · try simp only [bI_0, Decidable.not_not] at c119
                    refine g_blk [(.iconst 1, .int (nI 1)), (.goto 4, .retAddr 127), (.istore_n 1, .null), (.iinc 2 1, .int (nI 1)), (.goto (-87), .retAddr 44)] (Nat.le_of_ble_eq_true rfl) (by decide +kernel) ?_
                    refine gx_iconst (gx_goto (gx_istore_n_1 rfl (gx_iinc_2 rfl (gx_goto ((gx_nil ?_))))))
                    try simp only [nI_add, pk_mul, Nat.add_zero, Nat.zero_add, Nat.reduceAdd, Nat.reduceMul]
                    refine g_weak (rc' := 0) (rs' := 0) (L' := [some (.ref m), some (.int (nI 1)), some (.int (nI (i + 1))), none, none, none, none]) ⟨rfl, rfl, rfl, True.intro⟩ (by omega) (by omega) ?_
                    exact ih (i + 1) (by omega)
  obtain ⟨fs, hm⟩ := H.at12
  refine gC_of (by decide) rfl (Nat.le_of_ble_eq_true rfl) [some (.ref m), none, none, none, none, none, none] rfl ?_
  refine g_blk [(.aload_n 0, .null), (.bipush 12, .int (nI 12)), (.bipush 6, .int (nI 6)), (.iconst 0, .int (nI 0))] (Nat.le_of_ble_eq_true rfl) (by decide +kernel) ?_
  refine gx_aload_n_0 (gx_bipush (gx_bipush (gx_iconst ((gx_nil ?_)))))
  refine g_callSH (rc' := 1) (rs' := 6) kL_166 (aq_12x hp hnc H) (by decide +kernel) rfl rfl (Nat.le_of_ble_eq_true rfl) (Nat.le_of_ble_eq_true rfl) (Nat.le_of_ble_eq_true rfl) (by omega) (by omega) rfl (fun _ _ z => z.elim) (fun v9 k5 hz => ?_)
  obtain ⟨rfl, rfl⟩ := hz
  simp only [Option.toList_some, Option.toList_none, List.cons_append, List.nil_append]
  refine g_blk [(.sipush (-2004), .int (-2004))] (Nat.le_of_ble_eq_true rfl) (by decide +kernel) ?_
  refine gx_sipush ((gx_nil ?_))
  refine g_icmp_ne (off := 28) (tgt := 40) (by decide +kernel) (by decide) (fun c12 => ?_) (fun c12 => ?_)
  · exact absurd (by decide) c12
  · try simp only [bI_0, Decidable.not_not] at c12
    refine g_blk [(.aload_n 0, .null), (.bipush 12, .int (nI 12)), (.iconst (-1), .int (-1)), (.iconst 0, .int (nI 0))] (Nat.le_of_ble_eq_true rfl) (by decide +kernel) ?_
    refine gx_aload_n_0 (gx_bipush (gx_iconst (gx_iconst ((gx_nil ?_)))))
    refine g_callSH (rc' := 0) (rs' := 0) kL_166 (aq_12y hp hnc H) (by decide +kernel) rfl rfl (Nat.le_of_ble_eq_true rfl) (Nat.le_of_ble_eq_true rfl) (Nat.le_of_ble_eq_true rfl) (by omega) (by omega) rfl (fun _ _ z => z.elim) (fun v9 k6 hz => ?_)
    obtain ⟨rfl, rfl⟩ := hz
    simp only [Option.toList_some, Option.toList_none, List.cons_append, List.nil_append]
    refine g_blk [(.sipush (-2004), .int (-2004))] (Nat.le_of_ble_eq_true rfl) (by decide +kernel) ?_
    refine gx_sipush ((gx_nil ?_))
    refine g_icmp_ne (off := 14) (tgt := 40) (by decide +kernel) (by decide) (fun c26 => ?_) (fun c26 => ?_)
    · exact absurd (by decide) c26
    · try simp only [bI_0, Decidable.not_not] at c26
      refine g_blk [(.aload_n 0, .null)] (Nat.le_of_ble_eq_true rfl) (by decide +kernel) ?_
      refine gx_aload_n_0 ((gx_nil ?_))
      refine g_callV (rc' := 0) (rs' := 0) kL_304 (lr_isConsistent H) (by decide +kernel) rfl rfl hm rfl (Nat.le_of_ble_eq_true rfl) (Nat.le_of_ble_eq_true rfl) (Nat.le_of_ble_eq_true rfl) (by omega) (by omega) rfl (fun _ _ z => z.elim) (fun v9 k7 hz => ?_)
      obtain ⟨rfl, Hk7⟩ := hz
      obtain ⟨fsk7, hmk7⟩ := Hk7.at12
      simp only [Option.toList_some, Option.toList_none, List.cons_append, List.nil_append]
      refine g_if_eq (off := 7) (tgt := 40) (by decide +kernel) (by decide) (fun c33 => ?_) (fun c33 => ?_)
      · exact absurd c33 (by decide)
      · try simp only [bI_0, Decidable.not_not] at c33
        refine g_blk [(.iconst 1, .int (nI 1)), (.goto 4, .retAddr 41), (.istore_n 1, .null), (.iconst 0, .int (nI 0)), (.istore_n 2, .null)] (Nat.le_of_ble_eq_true rfl) (by decide +kernel) ?_
        refine gx_iconst (gx_goto (gx_istore_n_1 rfl (gx_iconst (gx_istore_n_2 rfl ((gx_nil ?_))))))
        refine g_weak (rc' := 0) (rs' := 0) (L' := [some (.ref m), some (.int (nI 1)), some (.int (nI 0)), none, none, none, none]) ⟨rfl, rfl, rfl, True.intro⟩ (by omega) (by omega) ?_
        exact loop _ Hk7 5 0 (by omega)
end GLh
