/-! THE LAW: what it does before it asks -/
section GLn
variable {Γ : gE} {de mi : Nat} {h : gHp} {m sc L B : Nat} {xs : Nat → Int32}
theorem gWs.at12 (W9 : gWs Γ de h m B) : ∃ fs, h m = some (gJ 12 fs) := by
  obtain ⟨V, F, G⟩ := W9
  exact G.at12
theorem la_id (hp : gPxs Γ) (W9 : gWs Γ de h m B) (hB : B ≤ 9000) {n : Nat} (hn : n < 1000) : ∃ x, pC Γ M_L_id [.ref m, .int (nI n)] h 34 (some (.int x)) := by
  obtain ⟨fs, hm⟩ := W9.at12
  obtain ⟨V, F, G⟩ := W9
  obtain ⟨nx, H⟩ := G.lp hB
  have hc := H.iv.1.hc
  by_cases h0 : rc (F 0) = 0
  · refine ⟨nI 0, ?_⟩
    refine pC_of (by decide) rfl (Nat.le_of_ble_eq_true rfl) [some (.ref m), some (.int (nI n))] rfl ?_
    refine g_blk [(.aload_n 0, .null)] (Nat.le_of_ble_eq_true rfl) (by decide +kernel) ?_
    refine gx_aload_n_0 ((gx_nil ?_))
    refine g_pV kL_144 (lr_letterCount H) (by decide +kernel) rfl rfl hm rfl (Nat.le_of_ble_eq_true rfl) (Nat.le_of_ble_eq_true rfl) (Nat.le_of_ble_eq_true rfl) rfl ?_
    simp only [Option.toList_some, Option.toList_none, List.cons_append, List.nil_append]
    refine g_if_ne (off := 7) (tgt := 11) (by decide +kernel) (by decide) (fun c4 => ?_) (fun c4 => ?_)
    · try simp only [bI_0, Decidable.not_not] at c4
      exact absurd (by rw [h0]; decide) c4
    · try simp only [bI_0, Decidable.not_not] at c4
      refine g_blk [(.iconst 0, .int (nI 0)), (.goto 13, .retAddr 21)] (Nat.le_of_ble_eq_true rfl) (by decide +kernel) ?_
      refine gx_iconst (gx_goto ((gx_nil ?_)))
      refine g_end (some (.int _)) rfl ⟨by decide +kernel, _, rfl, (by first | rfl | exact bI_nar _)⟩ ?_
      exact ⟨rfl, rfl⟩
  · have hlt : n % rc (F 0) < rc (F 0) := Nat.mod_lt _ (by omega)
    refine ⟨F 0 (62 + 7 * (n % rc (F 0))), ?_⟩
    refine pC_of (by decide) rfl (Nat.le_of_ble_eq_true rfl) [some (.ref m), some (.int (nI n))] rfl ?_
    refine g_blk [(.aload_n 0, .null)] (Nat.le_of_ble_eq_true rfl) (by decide +kernel) ?_
    refine gx_aload_n_0 ((gx_nil ?_))
    refine g_pV kL_144 (lr_letterCount H) (by decide +kernel) rfl rfl hm rfl (Nat.le_of_ble_eq_true rfl) (Nat.le_of_ble_eq_true rfl) (Nat.le_of_ble_eq_true rfl) rfl ?_
    simp only [Option.toList_some, Option.toList_none, List.cons_append, List.nil_append]
    refine g_if_ne (off := 7) (tgt := 11) (by decide +kernel) (by decide) (fun c4 => ?_) (fun c4 => ?_)
    · try simp only [bI_0, Decidable.not_not] at c4
      refine g_blk [(.aload_n 0, .null), (.iload_n 1, .null), (.aload_n 0, .null)] (Nat.le_of_ble_eq_true rfl) (by decide +kernel) ?_
      refine gx_aload_n_0 (gx_iload_n_1 (gx_aload_n_0 ((gx_nil ?_))))
      refine g_pV kL_144 (lr_letterCount H) (by decide +kernel) rfl rfl hm rfl (Nat.le_of_ble_eq_true rfl) (Nat.le_of_ble_eq_true rfl) (Nat.le_of_ble_eq_true rfl) rfl ?_
      simp only [Option.toList_some, Option.toList_none, List.cons_append, List.nil_append]
      refine g_irem (nI_ne0 (by omega) (by omega)) (by decide +kernel) ?_
      rw [rm_nI (by omega) (by omega) (by omega)]
      refine g_pV kL_67 (lr_idAt hp H hlt) (by decide +kernel) rfl rfl hm rfl (Nat.le_of_ble_eq_true rfl) (Nat.le_of_ble_eq_true rfl) (Nat.le_of_ble_eq_true rfl) rfl ?_
      simp only [Option.toList_some, Option.toList_none, List.cons_append, List.nil_append]
      refine g_end (some (.int _)) rfl ⟨by decide +kernel, _, rfl, (by first | rfl | exact bI_nar _)⟩ ?_
      exact ⟨rfl, rfl⟩
    · try simp only [bI_0, Decidable.not_not] at c4
      exact absurd (nI_z (by omega) c4) h0
theorem la_prefix (hp : gPxs Γ) (hpl : gPall Γ de mi) (hnc : gPnc Γ) (hsa : gPa Γ .int sc L (fun j => .int (xs j))) (hL : L ≤ 260) (W9 : gWs Γ de h m B) (hB : B ≤ 9000) {k : Nat} (hk : k < 50000) : gC Γ M_L_prefix [.ref m, .ref sc, .int (nI k)] h 34 139 5000 (fun v h' => ∃ x, v = some (.int x) ∧ gWs Γ de h' m (B + 1)) (fun _ _ => False) := by
  obtain ⟨fs, hm⟩ := W9.at12
  have st : ∀ x5, G Γ M_L_prefix 34 139 5000 (fun v h' => ∃ x, v = some (.int x) ∧ gWs Γ de h' m (B + 1)) (fun _ _ => False) 139 5000 62 [some (.ref m), some (.ref sc), some (.int (nI k)), some (.int (nI (1 + pkN xs L k 4))), some (.int (nI (coN xs L (k + 1)))), some (.int x5)] [] h := by
    intro x5
    refine g_blk [(.aload_n 0, .null), (.iconst 1, .int (nI 1)), (.iload 5, .null), (.iload_n 3, .null), (.aload_n 1, .null), (.iload_n 2, .null), (.bipush 6, .int (nI 6)), (.iadd, .null), (.bipush 6, .int (nI 6))] (Nat.le_of_ble_eq_true rfl) (by decide +kernel) ?_
    refine gx_aload_n_0 (gx_iconst (gx_iload_5 (gx_iload_n_3 (gx_aload_n_1 (gx_iload_n_2 (gx_bipush (gx_iadd (gx_bipush ((gx_nil ?_))))))))))
    try simp only [nI_add, pk_mul, Nat.add_zero, Nat.zero_add, Nat.reduceAdd, Nat.reduceMul]
    refine g_pS kL_130 (la_pick hsa hL (k := k + 6) (m := 6) (by omega) (by omega) (by omega)) (by decide +kernel) rfl rfl (Nat.le_of_ble_eq_true rfl) (Nat.le_of_ble_eq_true rfl) (Nat.le_of_ble_eq_true rfl) rfl ?_
    simp only [Option.toList_some, Option.toList_none, List.cons_append, List.nil_append]
    refine g_callSH (rc' := 0) (rs' := 0) kL_137 (ds_addPrefix hp hpl hnc W9 (by omega) _ _ _) (by decide +kernel) rfl rfl (Nat.le_of_ble_eq_true rfl) (Nat.le_of_ble_eq_true rfl) (Nat.le_of_ble_eq_true rfl) (by omega) (by omega) rfl (fun _ _ z => z.elim) (fun v9 k5 hz => ?_)
    obtain ⟨xk5, rfl, Gk5⟩ := hz
    obtain ⟨fsk5, hmk5⟩ := Gk5.at12
    simp only [Option.toList_some, Option.toList_none, List.cons_append, List.nil_append]
    refine g_end (some (.int _)) rfl ⟨by decide +kernel, _, rfl, (by first | rfl | exact bI_nar _)⟩ ?_
    exact ⟨_, rfl, Gk5⟩
  refine gC_of (by decide) rfl (Nat.le_of_ble_eq_true rfl) [some (.ref m), some (.ref sc), some (.int (nI k)), none, none, none] rfl ?_
  refine g_blk [(.iconst 1, .int (nI 1)), (.aload_n 1, .null), (.iload_n 2, .null), (.iconst 4, .int (nI 4))] (Nat.le_of_ble_eq_true rfl) (by decide +kernel) ?_
  refine gx_iconst (gx_aload_n_1 (gx_iload_n_2 (gx_iconst ((gx_nil ?_)))))
  refine g_pS kL_130 (la_pick hsa hL (k := k) (m := 4) (by omega) (by omega) (by omega)) (by decide +kernel) rfl rfl (Nat.le_of_ble_eq_true rfl) (Nat.le_of_ble_eq_true rfl) (Nat.le_of_ble_eq_true rfl) rfl ?_
  simp only [Option.toList_some, Option.toList_none, List.cons_append, List.nil_append]
  refine g_blk [(.iadd, .null), (.istore_n 3, .null), (.aload_n 1, .null), (.iload_n 2, .null), (.iconst 1, .int (nI 1)), (.iadd, .null)] (Nat.le_of_ble_eq_true rfl) (by decide +kernel) ?_
  refine gx_iadd (gx_istore_n_3 rfl (gx_aload_n_1 (gx_iload_n_2 (gx_iconst (gx_iadd ((gx_nil ?_)))))))
  try simp only [nI_add, pk_mul, Nat.add_zero, Nat.zero_add, Nat.reduceAdd, Nat.reduceMul]
  refine g_pS kL_134 (la_code hsa hL (k := k + 1) (by omega)) (by decide +kernel) rfl rfl (Nat.le_of_ble_eq_true rfl) (Nat.le_of_ble_eq_true rfl) (Nat.le_of_ble_eq_true rfl) rfl ?_
  simp only [Option.toList_some, Option.toList_none, List.cons_append, List.nil_append]
  refine g_blk [(.istore 4, .null), (.iload_n 3, .null), (.iconst 1, .int (nI 1))] (Nat.le_of_ble_eq_true rfl) (by decide +kernel) ?_
  refine gx_istore_4 rfl (gx_iload_n_3 (gx_iconst ((gx_nil ?_))))
  refine g_icmp_ne (off := 12) (tgt := 32) (by decide +kernel) (by decide) (fun c20 => ?_) (fun c20 => ?_)
  · try simp only [bI_0, Decidable.not_not] at c20
    refine g_blk [(.iload_n 3, .null), (.iconst 2, .int (nI 2))] (Nat.le_of_ble_eq_true rfl) (by decide +kernel) ?_
    refine gx_iload_n_3 (gx_iconst ((gx_nil ?_)))
    refine g_icmp_ne (off := 11) (tgt := 45) (by decide +kernel) (by decide) (fun c34 => ?_) (fun c34 => ?_)
    · try simp only [bI_0, Decidable.not_not] at c34
      refine g_blk [(.iload_n 3, .null), (.iconst 3, .int (nI 3))] (Nat.le_of_ble_eq_true rfl) (by decide +kernel) ?_
      refine gx_iload_n_3 (gx_iconst ((gx_nil ?_)))
      refine g_icmp_ne (off := 11) (tgt := 58) (by decide +kernel) (by decide) (fun c47 => ?_) (fun c47 => ?_)
      · try simp only [bI_0, Decidable.not_not] at c47
        refine g_blk [(.iload 4, .null), (.istore 5, .null)] (Nat.le_of_ble_eq_true rfl) (by decide +kernel) ?_
        refine gx_iload_4 (gx_istore_5 rfl ((gx_nil ?_)))
        exact st _
      · try simp only [bI_0, Decidable.not_not] at c47
        refine g_blk [(.iload 4, .null), (.bipush 10, .int (nI 10))] (Nat.le_of_ble_eq_true rfl) (by decide +kernel) ?_
        refine gx_iload_4 (gx_bipush ((gx_nil ?_)))
        refine g_idiv (by decide) (by decide +kernel) ?_
        refine g_blk [(.goto 5, .retAddr 60), (.istore 5, .null)] (Nat.le_of_ble_eq_true rfl) (by decide +kernel) ?_
        refine gx_goto (gx_istore_5 rfl ((gx_nil ?_)))
        exact st _
    · try simp only [bI_0, Decidable.not_not] at c34
      refine g_blk [(.iload 4, .null), (.bipush 100, .int (nI 100))] (Nat.le_of_ble_eq_true rfl) (by decide +kernel) ?_
      refine gx_iload_4 (gx_bipush ((gx_nil ?_)))
      refine g_idiv (by decide) (by decide +kernel) ?_
      refine g_blk [(.goto 18, .retAddr 60), (.istore 5, .null)] (Nat.le_of_ble_eq_true rfl) (by decide +kernel) ?_
      refine gx_goto (gx_istore_5 rfl ((gx_nil ?_)))
      exact st _
  · try simp only [bI_0, Decidable.not_not] at c20
    refine g_blk [(.iload 4, .null), (.sipush 1000, .int (nI 1000))] (Nat.le_of_ble_eq_true rfl) (by decide +kernel) ?_
    refine gx_iload_4 (gx_sipush ((gx_nil ?_)))
    refine g_idiv (by decide) (by decide +kernel) ?_
    refine g_blk [(.goto 31, .retAddr 60), (.istore 5, .null)] (Nat.le_of_ble_eq_true rfl) (by decide +kernel) ?_
    refine gx_goto (gx_istore_5 rfl ((gx_nil ?_)))
    exact st _
theorem sw_any : decode M_L_any.2.1 21 = .ok (.tableswitch 256 0 18 #[91, 91, 91, 125, 125, 134, 159, 159, 159, 168, 168, 168, 177, 177, 177, 194, 194, 204, 230], 91) := by decide +kernel
theorem la_any (hp : gPxs Γ) (hpl : gPall Γ de mi) (hnc : gPnc Γ) (hsa : gPa Γ .int sc L (fun j => .int (xs j))) (hL : L ≤ 260) (W9 : gWs Γ de h m B) (hB : B ≤ 9000) {k : Nat} (hk : k < 40000) : gC Γ M_L_any [.ref m, .ref sc, .int (nI k)] h 36 139 5000 (fun v h' => ∃ x, v = some (.int x) ∧ gWs Γ de h' m (B + 1)) (fun _ _ => False) := by
  obtain ⟨fs, hm⟩ := W9.at12
  obtain ⟨x3, hid⟩ := la_id hp W9 hB (n := pkN xs L (k + 1) 20) (by have := pkN_lt (xs := xs) (L := L) (k := k + 1) (m := 20) (by decide); omega)
  have t112 : G Γ M_L_any 36 139 5000 (fun v h' => ∃ x, v = some (.int x) ∧ gWs Γ de h' m (B + 1)) (fun _ _ => False) 139 5000 112 [some (.ref m), some (.ref sc), some (.int (nI k)), some (.int x3)] [] h := by
    refine g_blk [(.aload_n 0, .null), (.iconst 0, .int (nI 0)), (.aload_n 1, .null), (.iload_n 2, .null), (.iconst 2, .int (nI 2)), (.iadd, .null)] (Nat.le_of_ble_eq_true rfl) (by decide +kernel) ?_
    refine gx_aload_n_0 (gx_iconst (gx_aload_n_1 (gx_iload_n_2 (gx_iconst (gx_iadd ((gx_nil ?_)))))))
    try simp only [nI_add, pk_mul, Nat.add_zero, Nat.zero_add, Nat.reduceAdd, Nat.reduceMul]
    refine g_pS kL_134 (la_code hsa hL (k := k + 2) (by omega)) (by decide +kernel) rfl rfl (Nat.le_of_ble_eq_true rfl) (Nat.le_of_ble_eq_true rfl) (Nat.le_of_ble_eq_true rfl) rfl ?_
    simp only [Option.toList_some, Option.toList_none, List.cons_append, List.nil_append]
    refine g_blk [(.iconst 1, .int (nI 1)), (.aload_n 1, .null), (.iload_n 2, .null), (.bipush 6, .int (nI 6)), (.iadd, .null), (.bipush 50, .int (nI 50))] (Nat.le_of_ble_eq_true rfl) (by decide +kernel) ?_
    refine gx_iconst (gx_aload_n_1 (gx_iload_n_2 (gx_bipush (gx_iadd (gx_bipush ((gx_nil ?_)))))))
    try simp only [nI_add, pk_mul, Nat.add_zero, Nat.zero_add, Nat.reduceAdd, Nat.reduceMul]
    refine g_pS kL_130 (la_pick hsa hL (k := k + 6) (m := 50) (by omega) (by omega) (by omega)) (by decide +kernel) rfl rfl (Nat.le_of_ble_eq_true rfl) (Nat.le_of_ble_eq_true rfl) (Nat.le_of_ble_eq_true rfl) rfl ?_
    simp only [Option.toList_some, Option.toList_none, List.cons_append, List.nil_append]
    refine g_blk [(.iadd, .null), (.aload_n 1, .null), (.iload_n 2, .null), (.bipush 7, .int (nI 7)), (.iadd, .null), (.iconst 2, .int (nI 2))] (Nat.le_of_ble_eq_true rfl) (by decide +kernel) ?_
    refine gx_iadd (gx_aload_n_1 (gx_iload_n_2 (gx_bipush (gx_iadd (gx_iconst ((gx_nil ?_)))))))
    try simp only [nI_add, pk_mul, Nat.add_zero, Nat.zero_add, Nat.reduceAdd, Nat.reduceMul]
    refine g_pS kL_130 (la_pick hsa hL (k := k + 7) (m := 2) (by omega) (by omega) (by omega)) (by decide +kernel) rfl rfl (Nat.le_of_ble_eq_true rfl) (Nat.le_of_ble_eq_true rfl) (Nat.le_of_ble_eq_true rfl) rfl ?_
    simp only [Option.toList_some, Option.toList_none, List.cons_append, List.nil_append]
    refine g_callSH (rc' := 0) (rs' := 0) kL_137 (ds_accept hp hpl hnc (pr := pkN xs L (k + 7) 2) (by have := pkN_lt (xs := xs) (L := L) (k := k + 7) (m := 2) (by decide); omega) W9 (by omega) _ _) (by decide +kernel) rfl rfl (Nat.le_of_ble_eq_true rfl) (Nat.le_of_ble_eq_true rfl) (Nat.le_of_ble_eq_true rfl) (by omega) (by omega) rfl (fun _ _ z => z.elim) (fun v9 k5 hz => ?_)
    obtain ⟨xk5, rfl, Gk5⟩ := hz
    obtain ⟨fsk5, hmk5⟩ := Gk5.at12
    simp only [Option.toList_some, Option.toList_none, List.cons_append, List.nil_append]
    refine g_end (some (.int _)) rfl ⟨by decide +kernel, _, rfl, (by first | rfl | exact bI_nar _)⟩ ?_
    exact ⟨_, rfl, Gk5⟩
  have t146 : G Γ M_L_any 36 139 5000 (fun v h' => ∃ x, v = some (.int x) ∧ gWs Γ de h' m (B + 1)) (fun _ _ => False) 139 5000 146 [some (.ref m), some (.ref sc), some (.int (nI k)), some (.int x3)] [] h := by
    refine g_blk [(.aload_n 0, .null), (.aload_n 1, .null), (.iload_n 2, .null), (.iconst 1, .int (nI 1)), (.iadd, .null)] (Nat.le_of_ble_eq_true rfl) (by decide +kernel) ?_
    refine gx_aload_n_0 (gx_aload_n_1 (gx_iload_n_2 (gx_iconst (gx_iadd ((gx_nil ?_))))))
    try simp only [nI_add, pk_mul, Nat.add_zero, Nat.zero_add, Nat.reduceAdd, Nat.reduceMul]
    refine g_callS (rc' := 0) (rs' := 0) kL_140 (la_prefix hp hpl hnc hsa hL W9 hB (k := k + 1) (by omega)) (by decide +kernel) rfl rfl (Nat.le_of_ble_eq_true rfl) (Nat.le_of_ble_eq_true rfl) (Nat.le_of_ble_eq_true rfl) (by omega) (by omega) rfl (fun _ _ z => z.elim) (fun v9 k5 hz => ?_)
    obtain ⟨xk5, rfl, Gk5⟩ := hz
    obtain ⟨fsk5, hmk5⟩ := Gk5.at12
    simp only [Option.toList_some, Option.toList_none, List.cons_append, List.nil_append]
    refine g_end (some (.int _)) rfl ⟨by decide +kernel, _, rfl, (by first | rfl | exact bI_nar _)⟩ ?_
    exact ⟨_, rfl, Gk5⟩
  have t155 : G Γ M_L_any 36 139 5000 (fun v h' => ∃ x, v = some (.int x) ∧ gWs Γ de h' m (B + 1)) (fun _ _ => False) 139 5000 155 [some (.ref m), some (.ref sc), some (.int (nI k)), some (.int x3)] [] h := by
    refine g_blk [(.aload_n 0, .null), (.iconst 2, .int (nI 2)), (.aload_n 1, .null), (.iload_n 2, .null), (.iconst 2, .int (nI 2)), (.iadd, .null), (.iconst 3, .int (nI 3))] (Nat.le_of_ble_eq_true rfl) (by decide +kernel) ?_
    refine gx_aload_n_0 (gx_iconst (gx_aload_n_1 (gx_iload_n_2 (gx_iconst (gx_iadd (gx_iconst ((gx_nil ?_))))))))
    try simp only [nI_add, pk_mul, Nat.add_zero, Nat.zero_add, Nat.reduceAdd, Nat.reduceMul]
    refine g_pS kL_130 (la_pick hsa hL (k := k + 2) (m := 3) (by omega) (by omega) (by omega)) (by decide +kernel) rfl rfl (Nat.le_of_ble_eq_true rfl) (Nat.le_of_ble_eq_true rfl) (Nat.le_of_ble_eq_true rfl) rfl ?_
    simp only [Option.toList_some, Option.toList_none, List.cons_append, List.nil_append]
    refine g_blk [(.iconst 1, .int (nI 1)), (.aload_n 1, .null), (.iload_n 2, .null), (.iconst 3, .int (nI 3)), (.iadd, .null), (.iconst 2, .int (nI 2))] (Nat.le_of_ble_eq_true rfl) (by decide +kernel) ?_
    refine gx_iconst (gx_aload_n_1 (gx_iload_n_2 (gx_iconst (gx_iadd (gx_iconst ((gx_nil ?_)))))))
    try simp only [nI_add, pk_mul, Nat.add_zero, Nat.zero_add, Nat.reduceAdd, Nat.reduceMul]
    refine g_pS kL_130 (la_pick hsa hL (k := k + 3) (m := 2) (by omega) (by omega) (by omega)) (by decide +kernel) rfl rfl (Nat.le_of_ble_eq_true rfl) (Nat.le_of_ble_eq_true rfl) (Nat.le_of_ble_eq_true rfl) rfl ?_
    simp only [Option.toList_some, Option.toList_none, List.cons_append, List.nil_append]
    refine g_blk [(.iadd, .null), (.iconst 0, .int (nI 0))] (Nat.le_of_ble_eq_true rfl) (by decide +kernel) ?_
    refine gx_iadd (gx_iconst ((gx_nil ?_)))
    try simp only [nI_add, pk_mul, Nat.add_zero, Nat.zero_add, Nat.reduceAdd, Nat.reduceMul]
    refine g_callSH (rc' := 0) (rs' := 0) kL_137 (ds_removePrefix hp hpl hnc W9 (by omega) _ _ _) (by decide +kernel) rfl rfl (Nat.le_of_ble_eq_true rfl) (Nat.le_of_ble_eq_true rfl) (Nat.le_of_ble_eq_true rfl) (by omega) (by omega) rfl (fun _ _ z => z.elim) (fun v9 k5 hz => ?_)
    obtain ⟨xk5, rfl, Gk5⟩ := hz
    obtain ⟨fsk5, hmk5⟩ := Gk5.at12
    simp only [Option.toList_some, Option.toList_none, List.cons_append, List.nil_append]
    refine g_end (some (.int _)) rfl ⟨by decide +kernel, _, rfl, (by first | rfl | exact bI_nar _)⟩ ?_
    exact ⟨_, rfl, Gk5⟩
  have t180 : G Γ M_L_any 36 139 5000 (fun v h' => ∃ x, v = some (.int x) ∧ gWs Γ de h' m (B + 1)) (fun _ _ => False) 139 5000 180 [some (.ref m), some (.ref sc), some (.int (nI k)), some (.int x3)] [] h := by
    refine g_blk [(.aload_n 0, .null), (.iconst 3, .int (nI 3)), (.iload_n 3, .null), (.iconst 0, .int (nI 0)), (.iconst 0, .int (nI 0))] (Nat.le_of_ble_eq_true rfl) (by decide +kernel) ?_
    refine gx_aload_n_0 (gx_iconst (gx_iload_n_3 (gx_iconst (gx_iconst ((gx_nil ?_))))))
    refine g_callSH (rc' := 0) (rs' := 0) kL_137 (ds_sort hp hpl hnc W9 (by omega) _ _ _) (by decide +kernel) rfl rfl (Nat.le_of_ble_eq_true rfl) (Nat.le_of_ble_eq_true rfl) (Nat.le_of_ble_eq_true rfl) (by omega) (by omega) rfl (fun _ _ z => z.elim) (fun v9 k5 hz => ?_)
    obtain ⟨xk5, rfl, Gk5⟩ := hz
    obtain ⟨fsk5, hmk5⟩ := Gk5.at12
    simp only [Option.toList_some, Option.toList_none, List.cons_append, List.nil_append]
    refine g_end (some (.int _)) rfl ⟨by decide +kernel, _, rfl, (by first | rfl | exact bI_nar _)⟩ ?_
    exact ⟨_, rfl, Gk5⟩
  have t189 : G Γ M_L_any 36 139 5000 (fun v h' => ∃ x, v = some (.int x) ∧ gWs Γ de h' m (B + 1)) (fun _ _ => False) 139 5000 189 [some (.ref m), some (.ref sc), some (.int (nI k)), some (.int x3)] [] h := by
    refine g_blk [(.aload_n 0, .null), (.iconst 4, .int (nI 4)), (.iconst 0, .int (nI 0)), (.iconst 0, .int (nI 0)), (.iconst 0, .int (nI 0))] (Nat.le_of_ble_eq_true rfl) (by decide +kernel) ?_
    refine gx_aload_n_0 (gx_iconst (gx_iconst (gx_iconst (gx_iconst ((gx_nil ?_))))))
    refine g_callSH (rc' := 0) (rs' := 0) kL_137 (ds_sortAll hp hpl hnc W9 (by omega) _ _ _) (by decide +kernel) rfl rfl (Nat.le_of_ble_eq_true rfl) (Nat.le_of_ble_eq_true rfl) (Nat.le_of_ble_eq_true rfl) (by omega) (by omega) rfl (fun _ _ z => z.elim) (fun v9 k5 hz => ?_)
    obtain ⟨xk5, rfl, Gk5⟩ := hz
    obtain ⟨fsk5, hmk5⟩ := Gk5.at12
    simp only [Option.toList_some, Option.toList_none, List.cons_append, List.nil_append]
    refine g_end (some (.int _)) rfl ⟨by decide +kernel, _, rfl, (by first | rfl | exact bI_nar _)⟩ ?_
    exact ⟨_, rfl, Gk5⟩
  have t198 : G Γ M_L_any 36 139 5000 (fun v h' => ∃ x, v = some (.int x) ∧ gWs Γ de h' m (B + 1)) (fun _ _ => False) 139 5000 198 [some (.ref m), some (.ref sc), some (.int (nI k)), some (.int x3)] [] h := by
    refine g_blk [(.aload_n 0, .null), (.iconst 5, .int (nI 5)), (.iload_n 3, .null), (.aload_n 1, .null), (.iload_n 2, .null), (.iconst 2, .int (nI 2)), (.iadd, .null), (.bipush 6, .int (nI 6))] (Nat.le_of_ble_eq_true rfl) (by decide +kernel) ?_
    refine gx_aload_n_0 (gx_iconst (gx_iload_n_3 (gx_aload_n_1 (gx_iload_n_2 (gx_iconst (gx_iadd (gx_bipush ((gx_nil ?_)))))))))
    try simp only [nI_add, pk_mul, Nat.add_zero, Nat.zero_add, Nat.reduceAdd, Nat.reduceMul]
    refine g_pS kL_130 (la_pick hsa hL (k := k + 2) (m := 6) (by omega) (by omega) (by omega)) (by decide +kernel) rfl rfl (Nat.le_of_ble_eq_true rfl) (Nat.le_of_ble_eq_true rfl) (Nat.le_of_ble_eq_true rfl) rfl ?_
    simp only [Option.toList_some, Option.toList_none, List.cons_append, List.nil_append]
    refine g_blk [(.iconst 0, .int (nI 0))] (Nat.le_of_ble_eq_true rfl) (by decide +kernel) ?_
    refine gx_iconst ((gx_nil ?_))
    refine g_callSH (rc' := 0) (rs' := 0) kL_137 (ds_place hp hpl hnc W9 (by omega) _ _ _) (by decide +kernel) rfl rfl (Nat.le_of_ble_eq_true rfl) (Nat.le_of_ble_eq_true rfl) (Nat.le_of_ble_eq_true rfl) (by omega) (by omega) rfl (fun _ _ z => z.elim) (fun v9 k5 hz => ?_)
    obtain ⟨xk5, rfl, Gk5⟩ := hz
    obtain ⟨fsk5, hmk5⟩ := Gk5.at12
    simp only [Option.toList_some, Option.toList_none, List.cons_append, List.nil_append]
    refine g_end (some (.int _)) rfl ⟨by decide +kernel, _, rfl, (by first | rfl | exact bI_nar _)⟩ ?_
    exact ⟨_, rfl, Gk5⟩
  have t215 : G Γ M_L_any 36 139 5000 (fun v h' => ∃ x, v = some (.int x) ∧ gWs Γ de h' m (B + 1)) (fun _ _ => False) 139 5000 215 [some (.ref m), some (.ref sc), some (.int (nI k)), some (.int x3)] [] h := by
    refine g_blk [(.aload_n 0, .null), (.bipush 6, .int (nI 6)), (.iload_n 3, .null), (.iconst 0, .int (nI 0)), (.iconst 0, .int (nI 0))] (Nat.le_of_ble_eq_true rfl) (by decide +kernel) ?_
    refine gx_aload_n_0 (gx_bipush (gx_iload_n_3 (gx_iconst (gx_iconst ((gx_nil ?_))))))
    refine g_callSH (rc' := 0) (rs' := 0) kL_137 (ds_pull hp hpl hnc W9 (by omega) _ _ _) (by decide +kernel) rfl rfl (Nat.le_of_ble_eq_true rfl) (Nat.le_of_ble_eq_true rfl) (Nat.le_of_ble_eq_true rfl) (by omega) (by omega) rfl (fun _ _ z => z.elim) (fun v9 k5 hz => ?_)
    obtain ⟨xk5, rfl, Gk5⟩ := hz
    obtain ⟨fsk5, hmk5⟩ := Gk5.at12
    simp only [Option.toList_some, Option.toList_none, List.cons_append, List.nil_append]
    refine g_end (some (.int _)) rfl ⟨by decide +kernel, _, rfl, (by first | rfl | exact bI_nar _)⟩ ?_
    exact ⟨_, rfl, Gk5⟩
  have t225 : G Γ M_L_any 36 139 5000 (fun v h' => ∃ x, v = some (.int x) ∧ gWs Γ de h' m (B + 1)) (fun _ _ => False) 139 5000 225 [some (.ref m), some (.ref sc), some (.int (nI k)), some (.int x3)] [] h := by
    refine g_blk [(.aload_n 0, .null), (.bipush 7, .int (nI 7)), (.aload_n 1, .null), (.iload_n 2, .null), (.iconst 2, .int (nI 2)), (.iadd, .null), (.bipush 6, .int (nI 6))] (Nat.le_of_ble_eq_true rfl) (by decide +kernel) ?_
    refine gx_aload_n_0 (gx_bipush (gx_aload_n_1 (gx_iload_n_2 (gx_iconst (gx_iadd (gx_bipush ((gx_nil ?_))))))))
    try simp only [nI_add, pk_mul, Nat.add_zero, Nat.zero_add, Nat.reduceAdd, Nat.reduceMul]
    refine g_pS kL_130 (la_pick hsa hL (k := k + 2) (m := 6) (by omega) (by omega) (by omega)) (by decide +kernel) rfl rfl (Nat.le_of_ble_eq_true rfl) (Nat.le_of_ble_eq_true rfl) (Nat.le_of_ble_eq_true rfl) rfl ?_
    simp only [Option.toList_some, Option.toList_none, List.cons_append, List.nil_append]
    refine g_blk [(.aload_n 1, .null), (.iload_n 2, .null), (.iconst 3, .int (nI 3)), (.iadd, .null), (.bipush 25, .int (nI 25))] (Nat.le_of_ble_eq_true rfl) (by decide +kernel) ?_
    refine gx_aload_n_1 (gx_iload_n_2 (gx_iconst (gx_iadd (gx_bipush ((gx_nil ?_))))))
    try simp only [nI_add, pk_mul, Nat.add_zero, Nat.zero_add, Nat.reduceAdd, Nat.reduceMul]
    refine g_pS kL_130 (la_pick hsa hL (k := k + 3) (m := 25) (by omega) (by omega) (by omega)) (by decide +kernel) rfl rfl (Nat.le_of_ble_eq_true rfl) (Nat.le_of_ble_eq_true rfl) (Nat.le_of_ble_eq_true rfl) rfl ?_
    simp only [Option.toList_some, Option.toList_none, List.cons_append, List.nil_append]
    refine g_blk [(.iconst 0, .int (nI 0))] (Nat.le_of_ble_eq_true rfl) (by decide +kernel) ?_
    refine gx_iconst ((gx_nil ?_))
    refine g_callSH (rc' := 0) (rs' := 0) kL_137 (ds_setCutoff hp hpl hnc W9 (by omega) _ _ _) (by decide +kernel) rfl rfl (Nat.le_of_ble_eq_true rfl) (Nat.le_of_ble_eq_true rfl) (Nat.le_of_ble_eq_true rfl) (by omega) (by omega) rfl (fun _ _ z => z.elim) (fun v9 k5 hz => ?_)
    obtain ⟨xk5, rfl, Gk5⟩ := hz
    obtain ⟨fsk5, hmk5⟩ := Gk5.at12
    simp only [Option.toList_some, Option.toList_none, List.cons_append, List.nil_append]
    refine g_end (some (.int _)) rfl ⟨by decide +kernel, _, rfl, (by first | rfl | exact bI_nar _)⟩ ?_
    exact ⟨_, rfl, Gk5⟩
  have t251 : G Γ M_L_any 36 139 5000 (fun v h' => ∃ x, v = some (.int x) ∧ gWs Γ de h' m (B + 1)) (fun _ _ => False) 139 5000 251 [some (.ref m), some (.ref sc), some (.int (nI k)), some (.int x3)] [] h := by
    refine g_blk [(.aload_n 0, .null), (.bipush 8, .int (nI 8)), (.aload_n 1, .null), (.iload_n 2, .null), (.iconst 2, .int (nI 2)), (.iadd, .null), (.bipush 6, .int (nI 6))] (Nat.le_of_ble_eq_true rfl) (by decide +kernel) ?_
    refine gx_aload_n_0 (gx_bipush (gx_aload_n_1 (gx_iload_n_2 (gx_iconst (gx_iadd (gx_bipush ((gx_nil ?_))))))))
    try simp only [nI_add, pk_mul, Nat.add_zero, Nat.zero_add, Nat.reduceAdd, Nat.reduceMul]
    refine g_pS kL_130 (la_pick hsa hL (k := k + 2) (m := 6) (by omega) (by omega) (by omega)) (by decide +kernel) rfl rfl (Nat.le_of_ble_eq_true rfl) (Nat.le_of_ble_eq_true rfl) (Nat.le_of_ble_eq_true rfl) rfl ?_
    simp only [Option.toList_some, Option.toList_none, List.cons_append, List.nil_append]
    refine g_blk [(.aload_n 1, .null), (.iload_n 2, .null), (.iconst 3, .int (nI 3)), (.iadd, .null), (.bipush 24, .int (nI 24))] (Nat.le_of_ble_eq_true rfl) (by decide +kernel) ?_
    refine gx_aload_n_1 (gx_iload_n_2 (gx_iconst (gx_iadd (gx_bipush ((gx_nil ?_))))))
    try simp only [nI_add, pk_mul, Nat.add_zero, Nat.zero_add, Nat.reduceAdd, Nat.reduceMul]
    refine g_pS kL_130 (la_pick hsa hL (k := k + 3) (m := 24) (by omega) (by omega) (by omega)) (by decide +kernel) rfl rfl (Nat.le_of_ble_eq_true rfl) (Nat.le_of_ble_eq_true rfl) (Nat.le_of_ble_eq_true rfl) rfl ?_
    simp only [Option.toList_some, Option.toList_none, List.cons_append, List.nil_append]
    refine g_blk [(.iconst 0, .int (nI 0))] (Nat.le_of_ble_eq_true rfl) (by decide +kernel) ?_
    refine gx_iconst ((gx_nil ?_))
    refine g_callSH (rc' := 0) (rs' := 0) kL_137 (ds_setDeparture hp hpl hnc W9 (by omega) _ _ _) (by decide +kernel) rfl rfl (Nat.le_of_ble_eq_true rfl) (Nat.le_of_ble_eq_true rfl) (Nat.le_of_ble_eq_true rfl) (by omega) (by omega) rfl (fun _ _ z => z.elim) (fun v9 k5 hz => ?_)
    obtain ⟨xk5, rfl, Gk5⟩ := hz
    obtain ⟨fsk5, hmk5⟩ := Gk5.at12
    simp only [Option.toList_some, Option.toList_none, List.cons_append, List.nil_append]
    refine g_end (some (.int _)) rfl ⟨by decide +kernel, _, rfl, (by first | rfl | exact bI_nar _)⟩ ?_
    exact ⟨_, rfl, Gk5⟩
  have t277 : G Γ M_L_any 36 139 5000 (fun v h' => ∃ x, v = some (.int x) ∧ gWs Γ de h' m (B + 1)) (fun _ _ => False) 139 5000 277 [some (.ref m), some (.ref sc), some (.int (nI k)), some (.int x3)] [] h := by
    refine g_blk [(.aload_n 0, .null), (.bipush 9, .int (nI 9)), (.iconst 1, .int (nI 1)), (.aload_n 1, .null), (.iload_n 2, .null), (.iconst 2, .int (nI 2)), (.iadd, .null), (.aload_n 1, .null), (.iload_n 2, .null), (.iconst 3, .int (nI 3)), (.iadd, .null), (.iconst 2, .int (nI 2))] (Nat.le_of_ble_eq_true rfl) (by decide +kernel) ?_
    refine gx_aload_n_0 (gx_bipush (gx_iconst (gx_aload_n_1 (gx_iload_n_2 (gx_iconst (gx_iadd (gx_aload_n_1 (gx_iload_n_2 (gx_iconst (gx_iadd (gx_iconst ((gx_nil ?_)))))))))))))
    try simp only [nI_add, pk_mul, Nat.add_zero, Nat.zero_add, Nat.reduceAdd, Nat.reduceMul]
    refine g_pS kL_130 (la_pick hsa hL (k := k + 3) (m := 2) (by omega) (by omega) (by omega)) (by decide +kernel) rfl rfl (Nat.le_of_ble_eq_true rfl) (Nat.le_of_ble_eq_true rfl) (Nat.le_of_ble_eq_true rfl) rfl ?_
    simp only [Option.toList_some, Option.toList_none, List.cons_append, List.nil_append]
    refine g_if_ne (off := 7) (tgt := 300) (by decide +kernel) (by decide) (fun c293 => ?_) (fun c293 => ?_)
    · try simp only [bI_0, Decidable.not_not] at c293
      refine g_blk [(.bipush 48, .int (nI 48))] (Nat.le_of_ble_eq_true rfl) (by decide +kernel) ?_
      refine gx_bipush ((gx_nil ?_))
      refine g_pS kL_130 (la_pick hsa hL (k := k + 2) (m := 48) (by omega) (by omega) (by omega)) (by decide +kernel) rfl rfl (Nat.le_of_ble_eq_true rfl) (Nat.le_of_ble_eq_true rfl) (Nat.le_of_ble_eq_true rfl) rfl ?_
      simp only [Option.toList_some, Option.toList_none, List.cons_append, List.nil_append]
      refine g_blk [(.iadd, .null), (.iconst 0, .int (nI 0)), (.iconst 0, .int (nI 0))] (Nat.le_of_ble_eq_true rfl) (by decide +kernel) ?_
      refine gx_iadd (gx_iconst (gx_iconst ((gx_nil ?_))))
      try simp only [nI_add, pk_mul, Nat.add_zero, Nat.zero_add, Nat.reduceAdd, Nat.reduceMul]
      refine g_callSH (rc' := 0) (rs' := 0) kL_137 (ds_pass hp hpl hnc W9 (by omega) _ _ _) (by decide +kernel) rfl rfl (Nat.le_of_ble_eq_true rfl) (Nat.le_of_ble_eq_true rfl) (Nat.le_of_ble_eq_true rfl) (by omega) (by omega) rfl (fun _ _ z => z.elim) (fun v9 k5 hz => ?_)
      obtain ⟨xk5, rfl, Gk5⟩ := hz
      obtain ⟨fsk5, hmk5⟩ := Gk5.at12
      simp only [Option.toList_some, Option.toList_none, List.cons_append, List.nil_append]
      refine g_end (some (.int _)) rfl ⟨by decide +kernel, _, rfl, (by first | rfl | exact bI_nar _)⟩ ?_
      exact ⟨_, rfl, Gk5⟩
    · try simp only [bI_0, Decidable.not_not] at c293
      refine g_blk [(.iconst 4, .int (nI 4)), (.goto 5, .retAddr 302)] (Nat.le_of_ble_eq_true rfl) (by decide +kernel) ?_
      refine gx_iconst (gx_goto ((gx_nil ?_)))
      refine g_pS kL_130 (la_pick hsa hL (k := k + 2) (m := 4) (by omega) (by omega) (by omega)) (by decide +kernel) rfl rfl (Nat.le_of_ble_eq_true rfl) (Nat.le_of_ble_eq_true rfl) (Nat.le_of_ble_eq_true rfl) rfl ?_
      simp only [Option.toList_some, Option.toList_none, List.cons_append, List.nil_append]
      refine g_blk [(.iadd, .null), (.iconst 0, .int (nI 0)), (.iconst 0, .int (nI 0))] (Nat.le_of_ble_eq_true rfl) (by decide +kernel) ?_
      refine gx_iadd (gx_iconst (gx_iconst ((gx_nil ?_))))
      try simp only [nI_add, pk_mul, Nat.add_zero, Nat.zero_add, Nat.reduceAdd, Nat.reduceMul]
      refine g_callSH (rc' := 0) (rs' := 0) kL_137 (ds_pass hp hpl hnc W9 (by omega) _ _ _) (by decide +kernel) rfl rfl (Nat.le_of_ble_eq_true rfl) (Nat.le_of_ble_eq_true rfl) (Nat.le_of_ble_eq_true rfl) (by omega) (by omega) rfl (fun _ _ z => z.elim) (fun v9 k6 hz => ?_)
      obtain ⟨xk6, rfl, Gk6⟩ := hz
      obtain ⟨fsk6, hmk6⟩ := Gk6.at12
      simp only [Option.toList_some, Option.toList_none, List.cons_append, List.nil_append]
      refine g_end (some (.int _)) rfl ⟨by decide +kernel, _, rfl, (by first | rfl | exact bI_nar _)⟩ ?_
      exact ⟨_, rfl, Gk6⟩
  refine gC_of (by decide) rfl (Nat.le_of_ble_eq_true rfl) [some (.ref m), some (.ref sc), some (.int (nI k)), none] rfl ?_
  refine g_blk [(.aload_n 0, .null), (.aload_n 1, .null), (.iload_n 2, .null), (.iconst 1, .int (nI 1)), (.iadd, .null), (.bipush 20, .int (nI 20))] (Nat.le_of_ble_eq_true rfl) (by decide +kernel) ?_
  refine gx_aload_n_0 (gx_aload_n_1 (gx_iload_n_2 (gx_iconst (gx_iadd (gx_bipush ((gx_nil ?_)))))))
  try simp only [nI_add, pk_mul, Nat.add_zero, Nat.zero_add, Nat.reduceAdd, Nat.reduceMul]
  refine g_pS kL_130 (la_pick hsa hL (k := k + 1) (m := 20) (by omega) (by omega) (by omega)) (by decide +kernel) rfl rfl (Nat.le_of_ble_eq_true rfl) (Nat.le_of_ble_eq_true rfl) (Nat.le_of_ble_eq_true rfl) rfl ?_
  simp only [Option.toList_some, Option.toList_none, List.cons_append, List.nil_append]
  refine g_pS kL_147 (hid) (by decide +kernel) rfl rfl (Nat.le_of_ble_eq_true rfl) (Nat.le_of_ble_eq_true rfl) (Nat.le_of_ble_eq_true rfl) rfl ?_
  simp only [Option.toList_some, Option.toList_none, List.cons_append, List.nil_append]
  refine g_blk [(.istore_n 3, .null), (.aload_n 1, .null), (.iload_n 2, .null), (.bipush 24, .int (nI 24))] (Nat.le_of_ble_eq_true rfl) (by decide +kernel) ?_
  refine gx_istore_n_3 rfl (gx_aload_n_1 (gx_iload_n_2 (gx_bipush ((gx_nil ?_)))))
  refine g_pS kL_130 (la_pick hsa hL (k := k) (m := 24) (by omega) (by omega) (by omega)) (by decide +kernel) rfl rfl (Nat.le_of_ble_eq_true rfl) (Nat.le_of_ble_eq_true rfl) (Nat.le_of_ble_eq_true rfl) rfl ?_
  simp only [Option.toList_some, Option.toList_none, List.cons_append, List.nil_append]
  obtain ⟨v, hv, ev⟩ : ∃ v, v < 24 ∧ pkN xs L k 24 = v := ⟨_, pkN_lt (by decide), rfl⟩
  rw [ev]
  clear ev
  match v, hv with
  | 0, _ => exact g_tableIn (off := 91) (tgt := 112) sw_any (by decide) (by decide) rfl (by decide) t112
  | 1, _ => exact g_tableIn (off := 91) (tgt := 112) sw_any (by decide) (by decide) rfl (by decide) t112
  | 2, _ => exact g_tableIn (off := 91) (tgt := 112) sw_any (by decide) (by decide) rfl (by decide) t112
  | 3, _ => exact g_tableIn (off := 125) (tgt := 146) sw_any (by decide) (by decide) rfl (by decide) t146
  | 4, _ => exact g_tableIn (off := 125) (tgt := 146) sw_any (by decide) (by decide) rfl (by decide) t146
  | 5, _ => exact g_tableIn (off := 134) (tgt := 155) sw_any (by decide) (by decide) rfl (by decide) t155
  | 6, _ => exact g_tableIn (off := 159) (tgt := 180) sw_any (by decide) (by decide) rfl (by decide) t180
  | 7, _ => exact g_tableIn (off := 159) (tgt := 180) sw_any (by decide) (by decide) rfl (by decide) t180
  | 8, _ => exact g_tableIn (off := 159) (tgt := 180) sw_any (by decide) (by decide) rfl (by decide) t180
  | 9, _ => exact g_tableIn (off := 168) (tgt := 189) sw_any (by decide) (by decide) rfl (by decide) t189
  | 10, _ => exact g_tableIn (off := 168) (tgt := 189) sw_any (by decide) (by decide) rfl (by decide) t189
  | 11, _ => exact g_tableIn (off := 168) (tgt := 189) sw_any (by decide) (by decide) rfl (by decide) t189
  | 12, _ => exact g_tableIn (off := 177) (tgt := 198) sw_any (by decide) (by decide) rfl (by decide) t198
  | 13, _ => exact g_tableIn (off := 177) (tgt := 198) sw_any (by decide) (by decide) rfl (by decide) t198
  | 14, _ => exact g_tableIn (off := 177) (tgt := 198) sw_any (by decide) (by decide) rfl (by decide) t198
  | 15, _ => exact g_tableIn (off := 194) (tgt := 215) sw_any (by decide) (by decide) rfl (by decide) t215
  | 16, _ => exact g_tableIn (off := 194) (tgt := 215) sw_any (by decide) (by decide) rfl (by decide) t215
  | 17, _ => exact g_tableIn (off := 204) (tgt := 225) sw_any (by decide) (by decide) rfl (by decide) t225
  | 18, _ => exact g_tableIn (off := 230) (tgt := 251) sw_any (by decide) (by decide) rfl (by decide) t251
  | 19, _ => exact g_tableOut (tgt := 277) sw_any (by decide) (by decide) t277
  | 20, _ => exact g_tableOut (tgt := 277) sw_any (by decide) (by decide) t277
  | 21, _ => exact g_tableOut (tgt := 277) sw_any (by decide) (by decide) t277
  | 22, _ => exact g_tableOut (tgt := 277) sw_any (by decide) (by decide) t277
  | 23, _ => exact g_tableOut (tgt := 277) sw_any (by decide) (by decide) t277
  | v + 24, hv => exact absurd hv (by omega)
theorem la_lay (hp : gPxs Γ) (hpl : gPall Γ de mi) (hnc : gPnc Γ) (hsa : gPa Γ .int sc L (fun j => .int (xs j))) (hL : L ≤ 260) (W9 : gWs Γ de h m B) (hB : B ≤ 8000) : gC Γ M_L_lay [.ref m, .ref sc] h 42 9452 340000 (fun v h' => v = none ∧ gWs Γ de h' m (B + 70)) (fun _ _ => False) := by
  have p14 := pkN_lt (xs := xs) (L := L) (k := 0) (m := 14) (by decide)
  have p22 := pkN_lt (xs := xs) (L := L) (k := 8) (m := 22) (by decide)
  have tail : ∀ (h : gHp) (w x3 : Int32), gWs Γ de h m (B + 68) → G Γ M_L_lay 42 9452 340000 (fun v h' => v = none ∧ gWs Γ de h' m (B + 70)) (fun _ _ => False) 139 5000 211 [some (.ref m), some (.ref sc), some (.int w), some (.int x3)] [] h := by
    intro h w x3 W9
    obtain ⟨fs, hm⟩ := W9.at12
    refine g_blk [(.iload_n 2, .null), (.aload_n 1, .null), (.bipush 9, .int (nI 9)), (.iconst 2, .int (nI 2))] (Nat.le_of_ble_eq_true rfl) (by decide +kernel) ?_
    refine gx_iload_n_2 (gx_aload_n_1 (gx_bipush (gx_iconst ((gx_nil ?_)))))
    refine g_pS kL_130 (la_pick hsa hL (k := 9) (m := 2) (by omega) (by omega) (by omega)) (by decide +kernel) rfl rfl (Nat.le_of_ble_eq_true rfl) (Nat.le_of_ble_eq_true rfl) (Nat.le_of_ble_eq_true rfl) rfl ?_
    simp only [Option.toList_some, Option.toList_none, List.cons_append, List.nil_append]
    refine g_if_ne (off := 14) (tgt := 233) (by decide +kernel) (by decide) (fun c219 => ?_) (fun c219 => ?_)
    · try simp only [bI_0, Decidable.not_not] at c219
      refine g_blk [(.iconst 0, .int (nI 0)), (.iadd, .null), (.istore_n 2, .null)] (Nat.le_of_ble_eq_true rfl) (by decide +kernel) ?_
      refine gx_iconst (gx_iadd (gx_istore_n_2 rfl ((gx_nil ?_))))
      try simp only [nI_add, pk_mul, Nat.add_zero, Nat.zero_add, Nat.reduceAdd, Nat.reduceMul]
      refine g_end none rfl ⟨by decide +kernel, rfl⟩ ?_
      exact ⟨rfl, W9.mono (by omega)⟩
    · try simp only [bI_0, Decidable.not_not] at c219
      refine g_blk [(.aload_n 0, .null), (.iconst 4, .int (nI 4)), (.iconst 0, .int (nI 0)), (.iconst 0, .int (nI 0)), (.iconst 0, .int (nI 0))] (Nat.le_of_ble_eq_true rfl) (by decide +kernel) ?_
      refine gx_aload_n_0 (gx_iconst (gx_iconst (gx_iconst (gx_iconst ((gx_nil ?_))))))
      refine g_callSH (rc' := 0) (rs' := 0) kL_137 (ds_sortAll hp hpl hnc W9 (by omega) _ _ _) (by decide +kernel) rfl rfl (Nat.le_of_ble_eq_true rfl) (Nat.le_of_ble_eq_true rfl) (Nat.le_of_ble_eq_true rfl) (by omega) (by omega) rfl (fun _ _ z => z.elim) (fun v9 k5 hz => ?_)
      obtain ⟨xk5, rfl, Gk5⟩ := hz
      obtain ⟨fsk5, hmk5⟩ := Gk5.at12
      simp only [Option.toList_some, Option.toList_none, List.cons_append, List.nil_append]
      refine g_blk [(.goto 4, .retAddr 234), (.iadd, .null), (.istore_n 2, .null)] (Nat.le_of_ble_eq_true rfl) (by decide +kernel) ?_
      refine gx_goto (gx_iadd (gx_istore_n_2 rfl ((gx_nil ?_))))
      try simp only [nI_add, pk_mul, Nat.add_zero, Nat.zero_add, Nat.reduceAdd, Nat.reduceMul]
      refine g_end none rfl ⟨by decide +kernel, rfl⟩ ?_
      exact ⟨rfl, Gk5.mono (by omega)⟩
  have loop3 : ∀ n i (h : gHp) (w : Int32), i + n = pkN xs L 8 22 → gWs Γ de h m (B + 26 + 2 * i) → G Γ M_L_lay 42 9452 340000 (fun v h' => v = none ∧ gWs Γ de h' m (B + 70)) (fun _ _ => False) (278 * n + 139) (10000 * n + 5000) 115 [some (.ref m), some (.ref sc), some (.int w), some (.int (nI i))] [] h := by
    intro n
    induction n with
    | zero =>
      intro i h w hi W9
      obtain ⟨fs, hm⟩ := W9.at12
      refine g_blk [(.iload_n 3, .null), (.aload_n 1, .null), (.bipush 8, .int (nI 8)), (.bipush 22, .int (nI 22))] (Nat.le_of_ble_eq_true rfl) (by decide +kernel) ?_
      refine gx_iload_n_3 (gx_aload_n_1 (gx_bipush (gx_bipush ((gx_nil ?_)))))
      refine g_pS kL_130 (la_pick hsa hL (k := 8) (m := 22) (by omega) (by omega) (by omega)) (by decide +kernel) rfl rfl (Nat.le_of_ble_eq_true rfl) (Nat.le_of_ble_eq_true rfl) (Nat.le_of_ble_eq_true rfl) rfl ?_
      simp only [Option.toList_some, Option.toList_none, List.cons_append, List.nil_append]
      refine g_icmp_ge (off := 87) (tgt := 211) (by decide +kernel) (by decide) (fun c124 => ?_) (fun c124 => ?_)
      · try simp only [bI_0, Decidable.not_not] at c124
        refine g_rcs (rc' := 139) (rs' := 5000) (by omega) (by omega) ?_
        exact tail _ _ _ (W9.mono (by omega))
      · try simp only [bI_0, Decidable.not_not] at c124
        exact absurd (nI_le (by omega) (by omega)) c124
    | succ n ih =>
      intro i h w hi W9
      obtain ⟨fs, hm⟩ := W9.at12
      refine g_blk [(.iload_n 3, .null), (.aload_n 1, .null), (.bipush 8, .int (nI 8)), (.bipush 22, .int (nI 22))] (Nat.le_of_ble_eq_true rfl) (by decide +kernel) ?_
      refine gx_iload_n_3 (gx_aload_n_1 (gx_bipush (gx_bipush ((gx_nil ?_)))))
      refine g_pS kL_130 (la_pick hsa hL (k := 8) (m := 22) (by omega) (by omega) (by omega)) (by decide +kernel) rfl rfl (Nat.le_of_ble_eq_true rfl) (Nat.le_of_ble_eq_true rfl) (Nat.le_of_ble_eq_true rfl) rfl ?_
      simp only [Option.toList_some, Option.toList_none, List.cons_append, List.nil_append]
      refine g_icmp_ge (off := 87) (tgt := 211) (by decide +kernel) (by decide) (fun c124 => ?_) (fun c124 => ?_)
      · try simp only [bI_0, Decidable.not_not] at c124
        exact absurd ((nI_leI (by omega) (by omega)).mp c124) (by omega)
      · try simp only [bI_0, Decidable.not_not] at c124
        refine g_blk [(.iload_n 2, .null), (.aload_n 0, .null), (.iconst 0, .int (nI 0)), (.aload_n 1, .null), (.sipush 620, .int (nI 620)), (.bipush 6, .int (nI 6)), (.iload_n 3, .null), (.imul, .null), (.iadd, .null)] (Nat.le_of_ble_eq_true rfl) (by decide +kernel) ?_
        refine gx_iload_n_2 (gx_aload_n_0 (gx_iconst (gx_aload_n_1 (gx_sipush (gx_bipush (gx_iload_n_3 (gx_imul (gx_iadd ((gx_nil ?_))))))))))
        try simp only [nI_add, pk_mul, Nat.add_zero, Nat.zero_add, Nat.reduceAdd, Nat.reduceMul]
        refine g_pS kL_134 (la_code hsa hL (k := 620 + 6 * i) (by omega)) (by decide +kernel) rfl rfl (Nat.le_of_ble_eq_true rfl) (Nat.le_of_ble_eq_true rfl) (Nat.le_of_ble_eq_true rfl) rfl ?_
        simp only [Option.toList_some, Option.toList_none, List.cons_append, List.nil_append]
        refine g_blk [(.iconst 1, .int (nI 1)), (.aload_n 1, .null), (.bipush 41, .int (nI 41)), (.iload_n 3, .null), (.iadd, .null), (.bipush 50, .int (nI 50))] (Nat.le_of_ble_eq_true rfl) (by decide +kernel) ?_
        refine gx_iconst (gx_aload_n_1 (gx_bipush (gx_iload_n_3 (gx_iadd (gx_bipush ((gx_nil ?_)))))))
        try simp only [nI_add, pk_mul, Nat.add_zero, Nat.zero_add, Nat.reduceAdd, Nat.reduceMul]
        refine g_pS kL_130 (la_pick hsa hL (k := 41 + i) (m := 50) (by omega) (by omega) (by omega)) (by decide +kernel) rfl rfl (Nat.le_of_ble_eq_true rfl) (Nat.le_of_ble_eq_true rfl) (Nat.le_of_ble_eq_true rfl) rfl ?_
        simp only [Option.toList_some, Option.toList_none, List.cons_append, List.nil_append]
        refine g_blk [(.iadd, .null), (.aload_n 1, .null), (.bipush 71, .int (nI 71)), (.iload_n 3, .null), (.iadd, .null), (.iconst 2, .int (nI 2))] (Nat.le_of_ble_eq_true rfl) (by decide +kernel) ?_
        refine gx_iadd (gx_aload_n_1 (gx_bipush (gx_iload_n_3 (gx_iadd (gx_iconst ((gx_nil ?_)))))))
        try simp only [nI_add, pk_mul, Nat.add_zero, Nat.zero_add, Nat.reduceAdd, Nat.reduceMul]
        refine g_pS kL_130 (la_pick hsa hL (k := 71 + i) (m := 2) (by omega) (by omega) (by omega)) (by decide +kernel) rfl rfl (Nat.le_of_ble_eq_true rfl) (Nat.le_of_ble_eq_true rfl) (Nat.le_of_ble_eq_true rfl) rfl ?_
        simp only [Option.toList_some, Option.toList_none, List.cons_append, List.nil_append]
        refine g_callSH (rc' := 278 * n + 139 + 139) (rs' := 10000 * n + 5000 + 5000) kL_137 (ds_accept hp hpl hnc (pr := pkN xs L (71 + i) 2) (by have := pkN_lt (xs := xs) (L := L) (k := 71 + i) (m := 2) (by decide); omega) W9 (by omega) _ _) (by decide +kernel) rfl rfl (Nat.le_of_ble_eq_true rfl) (Nat.le_of_ble_eq_true rfl) (Nat.le_of_ble_eq_true rfl) (by omega) (by omega) rfl (fun _ _ z => z.elim) (fun v9 k5 hz => ?_)
        obtain ⟨xk5, rfl, Gk5⟩ := hz
        obtain ⟨fsk5, hmk5⟩ := Gk5.at12
        simp only [Option.toList_some, Option.toList_none, List.cons_append, List.nil_append]
        refine g_blk [(.iadd, .null), (.istore_n 2, .null), (.iload_n 2, .null), (.aload_n 1, .null), (.bipush 101, .int (nI 101)), (.iload_n 3, .null), (.iadd, .null), (.iconst 3, .int (nI 3))] (Nat.le_of_ble_eq_true rfl) (by decide +kernel) ?_
        refine gx_iadd (gx_istore_n_2 rfl (gx_iload_n_2 (gx_aload_n_1 (gx_bipush (gx_iload_n_3 (gx_iadd (gx_iconst ((gx_nil ?_)))))))))
        try simp only [nI_add, pk_mul, Nat.add_zero, Nat.zero_add, Nat.reduceAdd, Nat.reduceMul]
        refine g_pS kL_130 (la_pick hsa hL (k := 101 + i) (m := 3) (by omega) (by omega) (by omega)) (by decide +kernel) rfl rfl (Nat.le_of_ble_eq_true rfl) (Nat.le_of_ble_eq_true rfl) (Nat.le_of_ble_eq_true rfl) rfl ?_
        simp only [Option.toList_some, Option.toList_none, List.cons_append, List.nil_append]
        refine g_if_ne (off := 24) (tgt := 202) (by decide +kernel) (by decide) (fun c178 => ?_) (fun c178 => ?_)
        · try simp only [bI_0, Decidable.not_not] at c178
          refine g_blk [(.iconst 0, .int (nI 0)), (.iadd, .null), (.istore_n 2, .null), (.iinc 3 1, .int (nI 1)), (.goto (-93), .retAddr 115)] (Nat.le_of_ble_eq_true rfl) (by decide +kernel) ?_
          refine gx_iconst (gx_iadd (gx_istore_n_2 rfl (gx_iinc_3 rfl (gx_goto ((gx_nil ?_))))))
          try simp only [nI_add, pk_mul, Nat.add_zero, Nat.zero_add, Nat.reduceAdd, Nat.reduceMul]
          refine g_rcs (rc' := 278 * n + 139) (rs' := 10000 * n + 5000) (by omega) (by omega) ?_
          exact ih (i + 1) _ _ (by omega) (Gk5.mono (by omega))
        · try simp only [bI_0, Decidable.not_not] at c178
          refine g_blk [(.aload_n 0, .null), (.iconst 5, .int (nI 5)), (.iload_n 3, .null), (.aload_n 1, .null), (.sipush 131, .int (nI 131)), (.iload_n 3, .null), (.iadd, .null), (.bipush 6, .int (nI 6))] (Nat.le_of_ble_eq_true rfl) (by decide +kernel) ?_
          refine gx_aload_n_0 (gx_iconst (gx_iload_n_3 (gx_aload_n_1 (gx_sipush (gx_iload_n_3 (gx_iadd (gx_bipush ((gx_nil ?_)))))))))
          try simp only [nI_add, pk_mul, Nat.add_zero, Nat.zero_add, Nat.reduceAdd, Nat.reduceMul]
          refine g_pS kL_130 (la_pick hsa hL (k := 131 + i) (m := 6) (by omega) (by omega) (by omega)) (by decide +kernel) rfl rfl (Nat.le_of_ble_eq_true rfl) (Nat.le_of_ble_eq_true rfl) (Nat.le_of_ble_eq_true rfl) rfl ?_
          simp only [Option.toList_some, Option.toList_none, List.cons_append, List.nil_append]
          refine g_blk [(.iconst 0, .int (nI 0))] (Nat.le_of_ble_eq_true rfl) (by decide +kernel) ?_
          refine gx_iconst ((gx_nil ?_))
          refine g_callSH (rc' := 278 * n + 139 + 0) (rs' := 10000 * n + 5000 + 0) kL_137 (ds_place hp hpl hnc Gk5 (by omega) _ _ _) (by decide +kernel) rfl rfl (Nat.le_of_ble_eq_true rfl) (Nat.le_of_ble_eq_true rfl) (Nat.le_of_ble_eq_true rfl) (by omega) (by omega) rfl (fun _ _ z => z.elim) (fun v9 k6 hz => ?_)
          obtain ⟨xk6, rfl, Gk6⟩ := hz
          obtain ⟨fsk6, hmk6⟩ := Gk6.at12
          simp only [Option.toList_some, Option.toList_none, List.cons_append, List.nil_append]
          refine g_blk [(.goto 4, .retAddr 203), (.iadd, .null), (.istore_n 2, .null), (.iinc 3 1, .int (nI 1)), (.goto (-93), .retAddr 115)] (Nat.le_of_ble_eq_true rfl) (by decide +kernel) ?_
          refine gx_goto (gx_iadd (gx_istore_n_2 rfl (gx_iinc_3 rfl (gx_goto ((gx_nil ?_))))))
          try simp only [nI_add, pk_mul, Nat.add_zero, Nat.zero_add, Nat.reduceAdd, Nat.reduceMul]
          refine g_rcs (rc' := 278 * n + 139) (rs' := 10000 * n + 5000) (by omega) (by omega) ?_
          exact ih (i + 1) _ _ (by omega) (Gk6.mono (by omega))
  have loop2 : ∀ n i (h : gHp) (w : Int32), i + n = 6 → gWs Γ de h m (B + 14 + 2 * i) → G Γ M_L_lay 42 9452 340000 (fun v h' => v = none ∧ gWs Γ de h' m (B + 70)) (fun _ _ => False) (278 * n + 5977) (10000 * n + 215000) 39 [some (.ref m), some (.ref sc), some (.int w), some (.int (nI i))] [] h := by
    intro n
    induction n with
    | zero =>
      intro i h w hi W9
      obtain ⟨fs, hm⟩ := W9.at12
      refine g_blk [(.iload_n 3, .null), (.bipush 6, .int (nI 6))] (Nat.le_of_ble_eq_true rfl) (by decide +kernel) ?_
      refine gx_iload_n_3 (gx_bipush ((gx_nil ?_)))
      refine g_icmp_ge (off := 71) (tgt := 113) (by decide +kernel) (by decide) (fun c42 => ?_) (fun c42 => ?_)
      · try simp only [bI_0, Decidable.not_not] at c42
        refine g_blk [(.iconst 0, .int (nI 0)), (.istore_n 3, .null)] (Nat.le_of_ble_eq_true rfl) (by decide +kernel) ?_
        refine gx_iconst (gx_istore_n_3 rfl ((gx_nil ?_)))
        refine g_rcs (rc' := 278 * pkN xs L 8 22 + 139) (rs' := 10000 * pkN xs L 8 22 + 5000) (by omega) (by omega) ?_
        exact loop3 (pkN xs L 8 22) 0 _ _ (by omega) (W9.mono (by omega))
      · try simp only [bI_0, Decidable.not_not] at c42
        exact absurd (nI_le (by omega) (by omega)) c42
    | succ n ih =>
      intro i h w hi W9
      obtain ⟨fs, hm⟩ := W9.at12
      refine g_blk [(.iload_n 3, .null), (.bipush 6, .int (nI 6))] (Nat.le_of_ble_eq_true rfl) (by decide +kernel) ?_
      refine gx_iload_n_3 (gx_bipush ((gx_nil ?_)))
      refine g_icmp_ge (off := 71) (tgt := 113) (by decide +kernel) (by decide) (fun c42 => ?_) (fun c42 => ?_)
      · try simp only [bI_0, Decidable.not_not] at c42
        exact absurd ((nI_leI (by omega) (by omega)).mp c42) (by omega)
      · try simp only [bI_0, Decidable.not_not] at c42
        refine g_blk [(.iload_n 2, .null), (.aload_n 1, .null), (.iconst 1, .int (nI 1)), (.iload_n 3, .null), (.iadd, .null), (.iconst 2, .int (nI 2))] (Nat.le_of_ble_eq_true rfl) (by decide +kernel) ?_
        refine gx_iload_n_2 (gx_aload_n_1 (gx_iconst (gx_iload_n_3 (gx_iadd (gx_iconst ((gx_nil ?_)))))))
        try simp only [nI_add, pk_mul, Nat.add_zero, Nat.zero_add, Nat.reduceAdd, Nat.reduceMul]
        refine g_pS kL_130 (la_pick hsa hL (k := 1 + i) (m := 2) (by omega) (by omega) (by omega)) (by decide +kernel) rfl rfl (Nat.le_of_ble_eq_true rfl) (Nat.le_of_ble_eq_true rfl) (Nat.le_of_ble_eq_true rfl) rfl ?_
        simp only [Option.toList_some, Option.toList_none, List.cons_append, List.nil_append]
        refine g_blk [(.aload_n 0, .null), (.bipush 7, .int (nI 7)), (.iload_n 3, .null), (.bipush 6, .int (nI 6)), (.aload_n 1, .null), (.bipush 11, .int (nI 11)), (.iload_n 3, .null), (.iadd, .null), (.bipush 19, .int (nI 19))] (Nat.le_of_ble_eq_true rfl) (by decide +kernel) ?_
        refine gx_aload_n_0 (gx_bipush (gx_iload_n_3 (gx_bipush (gx_aload_n_1 (gx_bipush (gx_iload_n_3 (gx_iadd (gx_bipush ((gx_nil ?_))))))))))
        try simp only [nI_add, pk_mul, Nat.add_zero, Nat.zero_add, Nat.reduceAdd, Nat.reduceMul]
        refine g_pS kL_130 (la_pick hsa hL (k := 11 + i) (m := 19) (by omega) (by omega) (by omega)) (by decide +kernel) rfl rfl (Nat.le_of_ble_eq_true rfl) (Nat.le_of_ble_eq_true rfl) (Nat.le_of_ble_eq_true rfl) rfl ?_
        simp only [Option.toList_some, Option.toList_none, List.cons_append, List.nil_append]
        refine g_blk [(.iadd, .null), (.iconst 0, .int (nI 0))] (Nat.le_of_ble_eq_true rfl) (by decide +kernel) ?_
        refine gx_iadd (gx_iconst ((gx_nil ?_)))
        try simp only [nI_add, pk_mul, Nat.add_zero, Nat.zero_add, Nat.reduceAdd, Nat.reduceMul]
        refine g_callSH (rc' := 278 * n + 5977 + 139) (rs' := 10000 * n + 215000 + 5000) kL_137 (ds_setCutoff hp hpl hnc W9 (by omega) _ _ _) (by decide +kernel) rfl rfl (Nat.le_of_ble_eq_true rfl) (Nat.le_of_ble_eq_true rfl) (Nat.le_of_ble_eq_true rfl) (by omega) (by omega) rfl (fun _ _ z => z.elim) (fun v9 k5 hz => ?_)
        obtain ⟨xk5, rfl, Gk5⟩ := hz
        obtain ⟨fsk5, hmk5⟩ := Gk5.at12
        simp only [Option.toList_some, Option.toList_none, List.cons_append, List.nil_append]
        refine g_blk [(.imul, .null), (.aload_n 1, .null), (.bipush 21, .int (nI 21)), (.iload_n 3, .null), (.iadd, .null), (.iconst 2, .int (nI 2))] (Nat.le_of_ble_eq_true rfl) (by decide +kernel) ?_
        refine gx_imul (gx_aload_n_1 (gx_bipush (gx_iload_n_3 (gx_iadd (gx_iconst ((gx_nil ?_)))))))
        try simp only [nI_add, pk_mul, Nat.add_zero, Nat.zero_add, Nat.reduceAdd, Nat.reduceMul]
        refine g_pS kL_130 (la_pick hsa hL (k := 21 + i) (m := 2) (by omega) (by omega) (by omega)) (by decide +kernel) rfl rfl (Nat.le_of_ble_eq_true rfl) (Nat.le_of_ble_eq_true rfl) (Nat.le_of_ble_eq_true rfl) rfl ?_
        simp only [Option.toList_some, Option.toList_none, List.cons_append, List.nil_append]
        refine g_blk [(.aload_n 0, .null), (.bipush 8, .int (nI 8)), (.iload_n 3, .null), (.aload_n 1, .null), (.bipush 31, .int (nI 31)), (.iload_n 3, .null), (.iadd, .null), (.bipush 24, .int (nI 24))] (Nat.le_of_ble_eq_true rfl) (by decide +kernel) ?_
        refine gx_aload_n_0 (gx_bipush (gx_iload_n_3 (gx_aload_n_1 (gx_bipush (gx_iload_n_3 (gx_iadd (gx_bipush ((gx_nil ?_)))))))))
        try simp only [nI_add, pk_mul, Nat.add_zero, Nat.zero_add, Nat.reduceAdd, Nat.reduceMul]
        refine g_pS kL_130 (la_pick hsa hL (k := 31 + i) (m := 24) (by omega) (by omega) (by omega)) (by decide +kernel) rfl rfl (Nat.le_of_ble_eq_true rfl) (Nat.le_of_ble_eq_true rfl) (Nat.le_of_ble_eq_true rfl) rfl ?_
        simp only [Option.toList_some, Option.toList_none, List.cons_append, List.nil_append]
        refine g_blk [(.iconst 0, .int (nI 0))] (Nat.le_of_ble_eq_true rfl) (by decide +kernel) ?_
        refine gx_iconst ((gx_nil ?_))
        refine g_callSH (rc' := 278 * n + 5977 + 0) (rs' := 10000 * n + 215000 + 0) kL_137 (ds_setDeparture hp hpl hnc Gk5 (by omega) _ _ _) (by decide +kernel) rfl rfl (Nat.le_of_ble_eq_true rfl) (Nat.le_of_ble_eq_true rfl) (Nat.le_of_ble_eq_true rfl) (by omega) (by omega) rfl (fun _ _ z => z.elim) (fun v9 k6 hz => ?_)
        obtain ⟨xk6, rfl, Gk6⟩ := hz
        obtain ⟨fsk6, hmk6⟩ := Gk6.at12
        simp only [Option.toList_some, Option.toList_none, List.cons_append, List.nil_append]
        refine g_blk [(.imul, .null), (.iadd, .null), (.iadd, .null), (.istore_n 2, .null), (.iinc 3 1, .int (nI 1)), (.goto (-71), .retAddr 39)] (Nat.le_of_ble_eq_true rfl) (by decide +kernel) ?_
        refine gx_imul (gx_iadd (gx_iadd (gx_istore_n_2 rfl (gx_iinc_3 rfl (gx_goto ((gx_nil ?_)))))))
        try simp only [nI_add, pk_mul, Nat.add_zero, Nat.zero_add, Nat.reduceAdd, Nat.reduceMul]
        refine g_rcs (rc' := 278 * n + 5977) (rs' := 10000 * n + 215000) (by omega) (by omega) ?_
        exact ih (i + 1) _ _ (by omega) (Gk6.mono (by omega))
  have loop1 : ∀ n i (h : gHp) (w : Int32), i + n = pkN xs L 0 14 → gWs Γ de h m (B + i) → G Γ M_L_lay 42 9452 340000 (fun v h' => v = none ∧ gWs Γ de h' m (B + 70)) (fun _ _ => False) (139 * n + 7645) (5000 * n + 275000) 4 [some (.ref m), some (.ref sc), some (.int w), some (.int (nI i))] [] h := by
    intro n
    induction n with
    | zero =>
      intro i h w hi W9
      obtain ⟨fs, hm⟩ := W9.at12
      refine g_blk [(.iload_n 3, .null), (.aload_n 1, .null), (.iconst 0, .int (nI 0)), (.bipush 14, .int (nI 14))] (Nat.le_of_ble_eq_true rfl) (by decide +kernel) ?_
      refine gx_iload_n_3 (gx_aload_n_1 (gx_iconst (gx_bipush ((gx_nil ?_)))))
      refine g_pS kL_130 (la_pick hsa hL (k := 0) (m := 14) (by omega) (by omega) (by omega)) (by decide +kernel) rfl rfl (Nat.le_of_ble_eq_true rfl) (Nat.le_of_ble_eq_true rfl) (Nat.le_of_ble_eq_true rfl) rfl ?_
      simp only [Option.toList_some, Option.toList_none, List.cons_append, List.nil_append]
      refine g_icmp_ge (off := 25) (tgt := 37) (by decide +kernel) (by decide) (fun c12 => ?_) (fun c12 => ?_)
      · try simp only [bI_0, Decidable.not_not] at c12
        refine g_blk [(.iconst 0, .int (nI 0)), (.istore_n 3, .null)] (Nat.le_of_ble_eq_true rfl) (by decide +kernel) ?_
        refine gx_iconst (gx_istore_n_3 rfl ((gx_nil ?_)))
        refine g_rcs (rc' := 278 * 6 + 5977) (rs' := 10000 * 6 + 215000) (by omega) (by omega) ?_
        exact loop2 6 0 _ _ (by omega) (W9.mono (by omega))
      · try simp only [bI_0, Decidable.not_not] at c12
        exact absurd (nI_le (by omega) (by omega)) c12
    | succ n ih =>
      intro i h w hi W9
      obtain ⟨fs, hm⟩ := W9.at12
      refine g_blk [(.iload_n 3, .null), (.aload_n 1, .null), (.iconst 0, .int (nI 0)), (.bipush 14, .int (nI 14))] (Nat.le_of_ble_eq_true rfl) (by decide +kernel) ?_
      refine gx_iload_n_3 (gx_aload_n_1 (gx_iconst (gx_bipush ((gx_nil ?_)))))
      refine g_pS kL_130 (la_pick hsa hL (k := 0) (m := 14) (by omega) (by omega) (by omega)) (by decide +kernel) rfl rfl (Nat.le_of_ble_eq_true rfl) (Nat.le_of_ble_eq_true rfl) (Nat.le_of_ble_eq_true rfl) rfl ?_
      simp only [Option.toList_some, Option.toList_none, List.cons_append, List.nil_append]
      refine g_icmp_ge (off := 25) (tgt := 37) (by decide +kernel) (by decide) (fun c12 => ?_) (fun c12 => ?_)
      · try simp only [bI_0, Decidable.not_not] at c12
        exact absurd ((nI_leI (by omega) (by omega)).mp c12) (by omega)
      · try simp only [bI_0, Decidable.not_not] at c12
        refine g_blk [(.iload_n 2, .null), (.aload_n 0, .null), (.aload_n 1, .null), (.sipush 500, .int (nI 500)), (.bipush 8, .int (nI 8)), (.iload_n 3, .null), (.imul, .null), (.iadd, .null)] (Nat.le_of_ble_eq_true rfl) (by decide +kernel) ?_
        refine gx_iload_n_2 (gx_aload_n_0 (gx_aload_n_1 (gx_sipush (gx_bipush (gx_iload_n_3 (gx_imul (gx_iadd ((gx_nil ?_)))))))))
        try simp only [nI_add, pk_mul, Nat.add_zero, Nat.zero_add, Nat.reduceAdd, Nat.reduceMul]
        refine g_callS (rc' := 139 * n + 7645 + 0) (rs' := 5000 * n + 275000 + 0) kL_140 (la_prefix hp hpl hnc hsa hL W9 (by omega) (k := 500 + 8 * i) (by omega)) (by decide +kernel) rfl rfl (Nat.le_of_ble_eq_true rfl) (Nat.le_of_ble_eq_true rfl) (Nat.le_of_ble_eq_true rfl) (by omega) (by omega) rfl (fun _ _ z => z.elim) (fun v9 k5 hz => ?_)
        obtain ⟨xk5, rfl, Gk5⟩ := hz
        obtain ⟨fsk5, hmk5⟩ := Gk5.at12
        simp only [Option.toList_some, Option.toList_none, List.cons_append, List.nil_append]
        refine g_blk [(.iadd, .null), (.istore_n 2, .null), (.iinc 3 1, .int (nI 1)), (.goto (-30), .retAddr 4)] (Nat.le_of_ble_eq_true rfl) (by decide +kernel) ?_
        refine gx_iadd (gx_istore_n_2 rfl (gx_iinc_3 rfl (gx_goto ((gx_nil ?_)))))
        try simp only [nI_add, pk_mul, Nat.add_zero, Nat.zero_add, Nat.reduceAdd, Nat.reduceMul]
        refine g_rcs (rc' := 139 * n + 7645) (rs' := 5000 * n + 275000) (by omega) (by omega) ?_
        exact ih (i + 1) _ _ (by omega) (Gk5.mono (by omega))
  obtain ⟨fs, hm⟩ := W9.at12
  refine gC_of (by decide) rfl (Nat.le_of_ble_eq_true rfl) [some (.ref m), some (.ref sc), none, none] rfl ?_
  refine g_blk [(.iconst 0, .int (nI 0)), (.istore_n 2, .null), (.iconst 0, .int (nI 0)), (.istore_n 3, .null)] (Nat.le_of_ble_eq_true rfl) (by decide +kernel) ?_
  refine gx_iconst (gx_istore_n_2 rfl (gx_iconst (gx_istore_n_3 rfl ((gx_nil ?_)))))
  refine g_rcs (rc' := 139 * pkN xs L 0 14 + 7645) (rs' := 5000 * pkN xs L 0 14 + 275000) (by omega) (by omega) ?_
  exact loop1 (pkN xs L 0 14) 0 _ _ (by omega) W9
end GLn
