/-! THE LAW'S LITTLE METHODS -/
section GLw
variable {Γ : gE} {h : gHp}
theorem nm1 {a b c : String} : nmOf a b c (nI 1) = a := if_pos rfl
theorem nm2 {a b c : String} : nmOf a b c (nI 2) = b := by unfold nmOf; rw [if_neg (by decide), if_pos rfl]
theorem nm3 {a b c : String} : nmOf a b c (nI 3) = c := by unfold nmOf; rw [if_neg (by decide), if_neg (by decide)]
theorem n0c : (nI 0).toNatClampNeg = 0 := nI_clamp (by decide)
theorem bL_0 {x : Int32} (h : x = 0) : bL x = 0 := if_pos h
theorem bL_1 {x : Int32} (h : ¬ x = 0) : bL x = 1 := if_neg h
theorem lw_accept {m out W : Nat} {f : Nat → Int64} {fs : List Value} {τ : Int32} {x : Int32} {P : gHp → Prop} (hnc : gPnc Γ) (p0 : Int32) (p1 : Int32) (p2 : Int32) (hm : h m = some (gJ 12 fs)) (hC : fC Γ M_X9_accept [.ref m, .int p0, .int p1, .int p2] h W τ (.int x) (nmOf xIA xIS xIS) P) (ht9 : τ = 0 ∨ τ = nI 1 ∨ τ = nI 2) (ho : ∀ h1, P h1 → h1 out = some (gLo Γ 1 f)) : gC Γ M_L_accept [.ref m, .int p0, .int p1, .int p2, .ref out] h 31 1000 W (wZ Γ τ (x.toInt64) out f P) (fun _ _ => False) := by
  refine gC_ofH (by decide) (by decide) (Nat.le_of_ble_eq_true rfl) [some (.ref m), some (.int p0), some (.int p1), some (.int p2), some (.ref out), none] rfl ?_
  refine g_blk [(.aload 4, .null), (.iconst 0, .int (nI 0)), (.aload_n 0, .null), (.iload_n 1, .null), (.iload_n 2, .null), (.iload_n 3, .null)] (Nat.le_of_ble_eq_true rfl) (by decide +kernel) ?_
  refine gx_aload_4 (gx_iconst (gx_aload_n_0 (gx_iload_n_1 (gx_iload_n_2 (gx_iload_n_3 ((gx_nil ?_)))))))
  refine g_callVH (rc' := 0) (rs' := 0) kL_7 hC (by decide +kernel) rfl rfl hm rfl (Nat.le_of_ble_eq_true rfl) (Nat.le_of_ble_eq_true rfl) (Nat.le_of_ble_eq_true rfl) (by omega) (by omega) (fun E h' hx => ?_) (fun v h' hz => ?_)
  · obtain ⟨ht, rfl, hP⟩ := hx
    rcases ht9 with t | t | t
    · exact absurd t ht
    · subst t
      refine ⟨15, by rw [nm1]; exact Or.inl ⟨by decide, by decide, cl_xIA, ca_xIA, rfl⟩, fun q => ?_⟩
      refine g_blk [(.astore 5, .null), (.iconst 1, .int (nI 1))] (Nat.le_of_ble_eq_true rfl) (by decide +kernel) ?_
      refine gx_astore_5 rfl (gx_iconst ((gx_nil ?_)))
      exact g_end (some (.int _)) rfl ⟨by decide +kernel, _, rfl, rfl⟩ ⟨rfl, _, hP, (if_neg (by decide)).symm⟩
    · subst t
      refine ⟨19, by rw [nm2]; exact Or.inr ⟨⟨by decide, _, cl_xIA, hnc _ (by decide) _ (by decide) (by decide)⟩, Or.inl ⟨by decide, by decide, cl_xIS, ca_xIS, rfl⟩⟩, fun q => ?_⟩
      refine g_blk [(.astore 5, .null), (.iconst 2, .int (nI 2))] (Nat.le_of_ble_eq_true rfl) (by decide +kernel) ?_
      refine gx_astore_5 rfl (gx_iconst ((gx_nil ?_)))
      exact g_end (some (.int _)) rfl ⟨by decide +kernel, _, rfl, rfl⟩ ⟨rfl, _, hP, (if_neg (by decide)).symm⟩
  · obtain ⟨ht, rfl, hP⟩ := hz
    simp only [Option.toList_some, List.cons_append, List.nil_append]
    refine g_blk [(.i2l, .null)] (Nat.le_of_ble_eq_true rfl) (by decide +kernel) ?_
    refine gx_i2l ((gx_nil ?_))
    refine g_lastore (by decide +kernel) (ho _ hP) (vp_in_nI (by omega) (by omega)) ?_
    rw [n0c]
    refine g_blk [(.goto 11, .retAddr 23), (.iconst 0, .int (nI 0))] (Nat.le_of_ble_eq_true rfl) (by decide +kernel) ?_
    refine gx_goto (gx_iconst ((gx_nil ?_)))
    refine g_end (some (.int _)) rfl ⟨by decide +kernel, _, rfl, rfl⟩ ⟨?_, _, hP, ?_⟩
    · rw [ht]; exact congrArg (fun z => some (Value.int z)) z0
    · rw [if_pos ht]
theorem lw_addPrefix {m out W : Nat} {f : Nat → Int64} {fs : List Value} {τ : Int32} {x : Int32} {P : gHp → Prop} (hnc : gPnc Γ) (p0 : Int32) (p1 : Int32) (p2 : Int32) (hm : h m = some (gJ 12 fs)) (hC : fC Γ M_X9_addPrefix [.ref m, .int p0, .int p1, .int p2] h W τ (.int x) (nmOf xIA xIO xIS) P) (ht9 : τ = 0 ∨ τ = nI 1 ∨ τ = nI 2 ∨ τ = nI 3) (ho : ∀ h1, P h1 → h1 out = some (gLo Γ 1 f)) : gC Γ M_L_addPrefix [.ref m, .int p0, .int p1, .int p2, .ref out] h 31 1000 W (wZ Γ τ (x.toInt64) out f P) (fun _ _ => False) := by
  refine gC_ofH (by decide) (by decide) (Nat.le_of_ble_eq_true rfl) [some (.ref m), some (.int p0), some (.int p1), some (.int p2), some (.ref out), none] rfl ?_
  refine g_blk [(.aload 4, .null), (.iconst 0, .int (nI 0)), (.aload_n 0, .null), (.iload_n 1, .null), (.iload_n 2, .null), (.iload_n 3, .null)] (Nat.le_of_ble_eq_true rfl) (by decide +kernel) ?_
  refine gx_aload_4 (gx_iconst (gx_aload_n_0 (gx_iload_n_1 (gx_iload_n_2 (gx_iload_n_3 ((gx_nil ?_)))))))
  refine g_callVH (rc' := 0) (rs' := 0) kL_17 hC (by decide +kernel) rfl rfl hm rfl (Nat.le_of_ble_eq_true rfl) (Nat.le_of_ble_eq_true rfl) (Nat.le_of_ble_eq_true rfl) (by omega) (by omega) (fun E h' hx => ?_) (fun v h' hz => ?_)
  · obtain ⟨ht, rfl, hP⟩ := hx
    rcases ht9 with t | t | t | t
    · exact absurd t ht
    · subst t
      refine ⟨15, by rw [nm1]; exact Or.inl ⟨by decide, by decide, cl_xIA, ca_xIA, rfl⟩, fun q => ?_⟩
      refine g_blk [(.astore 5, .null), (.iconst 1, .int (nI 1))] (Nat.le_of_ble_eq_true rfl) (by decide +kernel) ?_
      refine gx_astore_5 rfl (gx_iconst ((gx_nil ?_)))
      exact g_end (some (.int _)) rfl ⟨by decide +kernel, _, rfl, rfl⟩ ⟨rfl, _, hP, (if_neg (by decide)).symm⟩
    · subst t
      refine ⟨19, by rw [nm2]; exact Or.inr ⟨⟨by decide, _, cl_xIA, hnc _ (by decide) _ (by decide) (by decide)⟩, Or.inl ⟨by decide, by decide, cl_xIO, ca_xIO, rfl⟩⟩, fun q => ?_⟩
      refine g_blk [(.astore 5, .null), (.iconst 2, .int (nI 2))] (Nat.le_of_ble_eq_true rfl) (by decide +kernel) ?_
      refine gx_astore_5 rfl (gx_iconst ((gx_nil ?_)))
      exact g_end (some (.int _)) rfl ⟨by decide +kernel, _, rfl, rfl⟩ ⟨rfl, _, hP, (if_neg (by decide)).symm⟩
    · subst t
      refine ⟨23, by rw [nm3]; exact Or.inr ⟨⟨by decide, _, cl_xIA, hnc _ (by decide) _ (by decide) (by decide)⟩, Or.inr ⟨⟨by decide, _, cl_xIO, hnc _ (by decide) _ (by decide) (by decide)⟩, Or.inl ⟨by decide, by decide, cl_xIS, ca_xIS, rfl⟩⟩⟩, fun q => ?_⟩
      refine g_blk [(.astore 5, .null), (.iconst 3, .int (nI 3))] (Nat.le_of_ble_eq_true rfl) (by decide +kernel) ?_
      refine gx_astore_5 rfl (gx_iconst ((gx_nil ?_)))
      exact g_end (some (.int _)) rfl ⟨by decide +kernel, _, rfl, rfl⟩ ⟨rfl, _, hP, (if_neg (by decide)).symm⟩
  · obtain ⟨ht, rfl, hP⟩ := hz
    simp only [Option.toList_some, List.cons_append, List.nil_append]
    refine g_blk [(.i2l, .null)] (Nat.le_of_ble_eq_true rfl) (by decide +kernel) ?_
    refine gx_i2l ((gx_nil ?_))
    refine g_lastore (by decide +kernel) (ho _ hP) (vp_in_nI (by omega) (by omega)) ?_
    rw [n0c]
    refine g_blk [(.goto 15, .retAddr 27), (.iconst 0, .int (nI 0))] (Nat.le_of_ble_eq_true rfl) (by decide +kernel) ?_
    refine gx_goto (gx_iconst ((gx_nil ?_)))
    refine g_end (some (.int _)) rfl ⟨by decide +kernel, _, rfl, rfl⟩ ⟨?_, _, hP, ?_⟩
    · rw [ht]; exact congrArg (fun z => some (Value.int z)) z0
    · rw [if_pos ht]
theorem lw_append {m out W : Nat} {f : Nat → Int64} {fs : List Value} {τ : Int32} {x : Int32} {P : gHp → Prop} (hnc : gPnc Γ) (p0 : Int32) (hm : h m = some (gJ 12 fs)) (hC : fC Γ M_X9_append [.ref m, .int p0] h W τ (.int x) (nmOf xIA xIS xIS) P) (ht9 : τ = 0 ∨ τ = nI 1 ∨ τ = nI 2) (ho : ∀ h1, P h1 → h1 out = some (gLo Γ 1 f)) : gC Γ M_L_append [.ref m, .int p0, .ref out] h 31 1000 W (wZ Γ τ (x.toInt64) out f P) (fun _ _ => False) := by
  refine gC_ofH (by decide) (by decide) (Nat.le_of_ble_eq_true rfl) [some (.ref m), some (.int p0), some (.ref out), none] rfl ?_
  refine g_blk [(.aload_n 2, .null), (.iconst 0, .int (nI 0)), (.aload_n 0, .null), (.iload_n 1, .null)] (Nat.le_of_ble_eq_true rfl) (by decide +kernel) ?_
  refine gx_aload_n_2 (gx_iconst (gx_aload_n_0 (gx_iload_n_1 ((gx_nil ?_)))))
  refine g_callVH (rc' := 0) (rs' := 0) kL_154 hC (by decide +kernel) rfl rfl hm rfl (Nat.le_of_ble_eq_true rfl) (Nat.le_of_ble_eq_true rfl) (Nat.le_of_ble_eq_true rfl) (by omega) (by omega) (fun E h' hx => ?_) (fun v h' hz => ?_)
  · obtain ⟨ht, rfl, hP⟩ := hx
    rcases ht9 with t | t | t
    · exact absurd t ht
    · subst t
      refine ⟨12, by rw [nm1]; exact Or.inl ⟨by decide, by decide, cl_xIA, ca_xIA, rfl⟩, fun q => ?_⟩
      refine g_blk [(.astore_n 3, .null), (.iconst 1, .int (nI 1))] (Nat.le_of_ble_eq_true rfl) (by decide +kernel) ?_
      refine gx_astore_n_3 rfl (gx_iconst ((gx_nil ?_)))
      exact g_end (some (.int _)) rfl ⟨by decide +kernel, _, rfl, rfl⟩ ⟨rfl, _, hP, (if_neg (by decide)).symm⟩
    · subst t
      refine ⟨15, by rw [nm2]; exact Or.inr ⟨⟨by decide, _, cl_xIA, hnc _ (by decide) _ (by decide) (by decide)⟩, Or.inl ⟨by decide, by decide, cl_xIS, ca_xIS, rfl⟩⟩, fun q => ?_⟩
      refine g_blk [(.astore_n 3, .null), (.iconst 2, .int (nI 2))] (Nat.le_of_ble_eq_true rfl) (by decide +kernel) ?_
      refine gx_astore_n_3 rfl (gx_iconst ((gx_nil ?_)))
      exact g_end (some (.int _)) rfl ⟨by decide +kernel, _, rfl, rfl⟩ ⟨rfl, _, hP, (if_neg (by decide)).symm⟩
  · obtain ⟨ht, rfl, hP⟩ := hz
    simp only [Option.toList_some, List.cons_append, List.nil_append]
    refine g_blk [(.i2l, .null)] (Nat.le_of_ble_eq_true rfl) (by decide +kernel) ?_
    refine gx_i2l ((gx_nil ?_))
    refine g_lastore (by decide +kernel) (ho _ hP) (vp_in_nI (by omega) (by omega)) ?_
    rw [n0c]
    refine g_blk [(.goto 9, .retAddr 18), (.iconst 0, .int (nI 0))] (Nat.le_of_ble_eq_true rfl) (by decide +kernel) ?_
    refine gx_goto (gx_iconst ((gx_nil ?_)))
    refine g_end (some (.int _)) rfl ⟨by decide +kernel, _, rfl, rfl⟩ ⟨?_, _, hP, ?_⟩
    · rw [ht]; exact congrArg (fun z => some (Value.int z)) z0
    · rw [if_pos ht]
theorem lw_bagCount {m out W : Nat} {f : Nat → Int64} {fs : List Value} {τ : Int32} {x : Int32} {P : gHp → Prop} (hnc : gPnc Γ) (p0 : Int32) (hm : h m = some (gJ 12 fs)) (hC : fC Γ M_X9_bagCount [.ref m, .int p0] h W τ (.int x) (nmOf xIO xIO xIO) P) (ht9 : τ = 0 ∨ τ = nI 1) (ho : ∀ h1, P h1 → h1 out = some (gLo Γ 1 f)) : gC Γ M_L_bagCount [.ref m, .int p0, .ref out] h 31 1000 W (wZ Γ τ (x.toInt64) out f P) (fun _ _ => False) := by
  refine gC_ofH (by decide) (by decide) (Nat.le_of_ble_eq_true rfl) [some (.ref m), some (.int p0), some (.ref out), none] rfl ?_
  refine g_blk [(.aload_n 2, .null), (.iconst 0, .int (nI 0)), (.aload_n 0, .null), (.iload_n 1, .null)] (Nat.le_of_ble_eq_true rfl) (by decide +kernel) ?_
  refine gx_aload_n_2 (gx_iconst (gx_aload_n_0 (gx_iload_n_1 ((gx_nil ?_)))))
  refine g_callVH (rc' := 0) (rs' := 0) kL_98 hC (by decide +kernel) rfl rfl hm rfl (Nat.le_of_ble_eq_true rfl) (Nat.le_of_ble_eq_true rfl) (Nat.le_of_ble_eq_true rfl) (by omega) (by omega) (fun E h' hx => ?_) (fun v h' hz => ?_)
  · obtain ⟨ht, rfl, hP⟩ := hx
    rcases ht9 with t | t
    · exact absurd t ht
    · subst t
      refine ⟨12, by rw [nm1]; exact Or.inl ⟨by decide, by decide, cl_xIO, ca_xIO, rfl⟩, fun q => ?_⟩
      refine g_blk [(.astore_n 3, .null), (.iconst 1, .int (nI 1))] (Nat.le_of_ble_eq_true rfl) (by decide +kernel) ?_
      refine gx_astore_n_3 rfl (gx_iconst ((gx_nil ?_)))
      exact g_end (some (.int _)) rfl ⟨by decide +kernel, _, rfl, rfl⟩ ⟨rfl, _, hP, (if_neg (by decide)).symm⟩
  · obtain ⟨ht, rfl, hP⟩ := hz
    simp only [Option.toList_some, List.cons_append, List.nil_append]
    refine g_blk [(.i2l, .null)] (Nat.le_of_ble_eq_true rfl) (by decide +kernel) ?_
    refine gx_i2l ((gx_nil ?_))
    refine g_lastore (by decide +kernel) (ho _ hP) (vp_in_nI (by omega) (by omega)) ?_
    rw [n0c]
    refine g_blk [(.goto 6, .retAddr 15), (.iconst 0, .int (nI 0))] (Nat.le_of_ble_eq_true rfl) (by decide +kernel) ?_
    refine gx_goto (gx_iconst ((gx_nil ?_)))
    refine g_end (some (.int _)) rfl ⟨by decide +kernel, _, rfl, rfl⟩ ⟨?_, _, hP, ?_⟩
    · rw [ht]; exact congrArg (fun z => some (Value.int z)) z0
    · rw [if_pos ht]
theorem lw_bagOf {m out W : Nat} {f : Nat → Int64} {fs : List Value} {τ : Int32} {x : Int32} {P : gHp → Prop} (hnc : gPnc Γ) (p0 : Int32) (hm : h m = some (gJ 12 fs)) (hC : fC Γ M_X9_bagOf [.ref m, .int p0] h W τ (.int x) (nmOf xNS xIS xIS) P) (ht9 : τ = 0 ∨ τ = nI 1 ∨ τ = nI 2) (ho : ∀ h1, P h1 → h1 out = some (gLo Γ 1 f)) : gC Γ M_L_bagOf [.ref m, .int p0, .ref out] h 31 1000 W (wZ Γ τ (x.toInt64) out f P) (fun _ _ => False) := by
  refine gC_ofH (by decide) (by decide) (Nat.le_of_ble_eq_true rfl) [some (.ref m), some (.int p0), some (.ref out), none] rfl ?_
  refine g_blk [(.aload_n 2, .null), (.iconst 0, .int (nI 0)), (.aload_n 0, .null), (.iload_n 1, .null)] (Nat.le_of_ble_eq_true rfl) (by decide +kernel) ?_
  refine gx_aload_n_2 (gx_iconst (gx_aload_n_0 (gx_iload_n_1 ((gx_nil ?_)))))
  refine g_callVH (rc' := 0) (rs' := 0) kL_70 hC (by decide +kernel) rfl rfl hm rfl (Nat.le_of_ble_eq_true rfl) (Nat.le_of_ble_eq_true rfl) (Nat.le_of_ble_eq_true rfl) (by omega) (by omega) (fun E h' hx => ?_) (fun v h' hz => ?_)
  · obtain ⟨ht, rfl, hP⟩ := hx
    rcases ht9 with t | t | t
    · exact absurd t ht
    · subst t
      refine ⟨12, by rw [nm1]; exact Or.inl ⟨by decide, by decide, cl_xNS, ca_xNS, rfl⟩, fun q => ?_⟩
      refine g_blk [(.astore_n 3, .null), (.iconst 1, .int (nI 1))] (Nat.le_of_ble_eq_true rfl) (by decide +kernel) ?_
      refine gx_astore_n_3 rfl (gx_iconst ((gx_nil ?_)))
      exact g_end (some (.int _)) rfl ⟨by decide +kernel, _, rfl, rfl⟩ ⟨rfl, _, hP, (if_neg (by decide)).symm⟩
    · subst t
      refine ⟨15, by rw [nm2]; exact Or.inr ⟨⟨by decide, _, cl_xNS, hnc _ (by decide) _ (by decide) (by decide)⟩, Or.inl ⟨by decide, by decide, cl_xIS, ca_xIS, rfl⟩⟩, fun q => ?_⟩
      refine g_blk [(.astore_n 3, .null), (.iconst 2, .int (nI 2))] (Nat.le_of_ble_eq_true rfl) (by decide +kernel) ?_
      refine gx_astore_n_3 rfl (gx_iconst ((gx_nil ?_)))
      exact g_end (some (.int _)) rfl ⟨by decide +kernel, _, rfl, rfl⟩ ⟨rfl, _, hP, (if_neg (by decide)).symm⟩
  · obtain ⟨ht, rfl, hP⟩ := hz
    simp only [Option.toList_some, List.cons_append, List.nil_append]
    refine g_blk [(.i2l, .null)] (Nat.le_of_ble_eq_true rfl) (by decide +kernel) ?_
    refine gx_i2l ((gx_nil ?_))
    refine g_lastore (by decide +kernel) (ho _ hP) (vp_in_nI (by omega) (by omega)) ?_
    rw [n0c]
    refine g_blk [(.goto 9, .retAddr 18), (.iconst 0, .int (nI 0))] (Nat.le_of_ble_eq_true rfl) (by decide +kernel) ?_
    refine gx_goto (gx_iconst ((gx_nil ?_)))
    refine g_end (some (.int _)) rfl ⟨by decide +kernel, _, rfl, rfl⟩ ⟨?_, _, hP, ?_⟩
    · rw [ht]; exact congrArg (fun z => some (Value.int z)) z0
    · rw [if_pos ht]
theorem lw_bagWeight {m out W : Nat} {f : Nat → Int64} {fs : List Value} {τ : Int32} {x : Int32} {P : gHp → Prop} (hnc : gPnc Γ) (p0 : Int32) (p1 : Int32) (hm : h m = some (gJ 12 fs)) (hC : fC Γ M_X9_bagWeight [.ref m, .int p0, .int p1] h W τ (.int x) (nmOf xIO xNS xNS) P) (ht9 : τ = 0 ∨ τ = nI 1 ∨ τ = nI 2) (ho : ∀ h1, P h1 → h1 out = some (gLo Γ 1 f)) : gC Γ M_L_bagWeight [.ref m, .int p0, .int p1, .ref out] h 31 1000 W (wZ Γ τ (x.toInt64) out f P) (fun _ _ => False) := by
  refine gC_ofH (by decide) (by decide) (Nat.le_of_ble_eq_true rfl) [some (.ref m), some (.int p0), some (.int p1), some (.ref out), none] rfl ?_
  refine g_blk [(.aload_n 3, .null), (.iconst 0, .int (nI 0)), (.aload_n 0, .null), (.iload_n 1, .null), (.iload_n 2, .null)] (Nat.le_of_ble_eq_true rfl) (by decide +kernel) ?_
  refine gx_aload_n_3 (gx_iconst (gx_aload_n_0 (gx_iload_n_1 (gx_iload_n_2 ((gx_nil ?_))))))
  refine g_callVH (rc' := 0) (rs' := 0) kL_101 hC (by decide +kernel) rfl rfl hm rfl (Nat.le_of_ble_eq_true rfl) (Nat.le_of_ble_eq_true rfl) (Nat.le_of_ble_eq_true rfl) (by omega) (by omega) (fun E h' hx => ?_) (fun v h' hz => ?_)
  · obtain ⟨ht, rfl, hP⟩ := hx
    rcases ht9 with t | t | t
    · exact absurd t ht
    · subst t
      refine ⟨13, by rw [nm1]; exact Or.inl ⟨by decide, by decide, cl_xIO, ca_xIO, rfl⟩, fun q => ?_⟩
      refine g_blk [(.astore 4, .null), (.iconst 1, .int (nI 1))] (Nat.le_of_ble_eq_true rfl) (by decide +kernel) ?_
      refine gx_astore_4 rfl (gx_iconst ((gx_nil ?_)))
      exact g_end (some (.int _)) rfl ⟨by decide +kernel, _, rfl, rfl⟩ ⟨rfl, _, hP, (if_neg (by decide)).symm⟩
    · subst t
      refine ⟨17, by rw [nm2]; exact Or.inr ⟨⟨by decide, _, cl_xIO, hnc _ (by decide) _ (by decide) (by decide)⟩, Or.inl ⟨by decide, by decide, cl_xNS, ca_xNS, rfl⟩⟩, fun q => ?_⟩
      refine g_blk [(.astore 4, .null), (.iconst 2, .int (nI 2))] (Nat.le_of_ble_eq_true rfl) (by decide +kernel) ?_
      refine gx_astore_4 rfl (gx_iconst ((gx_nil ?_)))
      exact g_end (some (.int _)) rfl ⟨by decide +kernel, _, rfl, rfl⟩ ⟨rfl, _, hP, (if_neg (by decide)).symm⟩
  · obtain ⟨ht, rfl, hP⟩ := hz
    simp only [Option.toList_some, List.cons_append, List.nil_append]
    refine g_blk [(.i2l, .null)] (Nat.le_of_ble_eq_true rfl) (by decide +kernel) ?_
    refine gx_i2l ((gx_nil ?_))
    refine g_lastore (by decide +kernel) (ho _ hP) (vp_in_nI (by omega) (by omega)) ?_
    rw [n0c]
    refine g_blk [(.goto 11, .retAddr 21), (.iconst 0, .int (nI 0))] (Nat.le_of_ble_eq_true rfl) (by decide +kernel) ?_
    refine gx_goto (gx_iconst ((gx_nil ?_)))
    refine g_end (some (.int _)) rfl ⟨by decide +kernel, _, rfl, rfl⟩ ⟨?_, _, hP, ?_⟩
    · rw [ht]; exact congrArg (fun z => some (Value.int z)) z0
    · rw [if_pos ht]
theorem lw_canSort {m out W : Nat} {f : Nat → Int64} {fs : List Value} {τ : Int32} {x : Int32} {P : gHp → Prop} (hnc : gPnc Γ) (p0 : Int32) (hm : h m = some (gJ 12 fs)) (hC : fC Γ M_X9_canSort [.ref m, .int p0] h W τ (.int x) (nmOf xNS xNS xNS) P) (ht9 : τ = 0 ∨ τ = nI 1) (ho : ∀ h1, P h1 → h1 out = some (gLo Γ 1 f)) : gC Γ M_L_canSort [.ref m, .int p0, .ref out] h 31 1000 W (wZ Γ τ (bL x) out f P) (fun _ _ => False) := by
  refine gC_ofH (by decide) (by decide) (Nat.le_of_ble_eq_true rfl) [some (.ref m), some (.int p0), some (.ref out), none] rfl ?_
  refine g_blk [(.aload_n 2, .null), (.iconst 0, .int (nI 0)), (.aload_n 0, .null), (.iload_n 1, .null)] (Nat.le_of_ble_eq_true rfl) (by decide +kernel) ?_
  refine gx_aload_n_2 (gx_iconst (gx_aload_n_0 (gx_iload_n_1 ((gx_nil ?_)))))
  refine g_callVH (rc' := 0) (rs' := 0) kL_76 hC (by decide +kernel) rfl rfl hm rfl (Nat.le_of_ble_eq_true rfl) (Nat.le_of_ble_eq_true rfl) (Nat.le_of_ble_eq_true rfl) (by omega) (by omega) (fun E h' hx => ?_) (fun v h' hz => ?_)
  · obtain ⟨ht, rfl, hP⟩ := hx
    rcases ht9 with t | t
    · exact absurd t ht
    · subst t
      refine ⟨19, by rw [nm1]; exact Or.inl ⟨by decide, by decide, cl_xNS, ca_xNS, rfl⟩, fun q => ?_⟩
      refine g_blk [(.astore_n 3, .null), (.iconst 1, .int (nI 1))] (Nat.le_of_ble_eq_true rfl) (by decide +kernel) ?_
      refine gx_astore_n_3 rfl (gx_iconst ((gx_nil ?_)))
      exact g_end (some (.int _)) rfl ⟨by decide +kernel, _, rfl, rfl⟩ ⟨rfl, _, hP, (if_neg (by decide)).symm⟩
  · obtain ⟨ht, rfl, hP⟩ := hz
    simp only [Option.toList_some, List.cons_append, List.nil_append]
    refine g_if_eq (off := 7) (tgt := 14) (by decide +kernel) (by decide) (fun c7 => ?_) (fun c7 => ?_)
    · try simp only [bI_0, Decidable.not_not] at c7
      refine g_blk [(.lconst 0, .long 0)] (Nat.le_of_ble_eq_true rfl) (by decide +kernel) ?_
      refine gx_lconst ((gx_nil ?_))
      refine g_lastore (by decide +kernel) (ho _ hP) (vp_in_nI (by omega) (by omega)) ?_
      rw [n0c]
      refine g_blk [(.goto 6, .retAddr 22), (.iconst 0, .int (nI 0))] (Nat.le_of_ble_eq_true rfl) (by decide +kernel) ?_
      refine gx_goto (gx_iconst ((gx_nil ?_)))
      refine g_end (some (.int _)) rfl ⟨by decide +kernel, _, rfl, rfl⟩ ⟨?_, _, hP, ?_⟩
      · rw [ht]; exact congrArg (fun z => some (Value.int z)) z0
      · rw [if_pos ht, bL_0 c7]
    · try simp only [bI_0, Decidable.not_not] at c7
      refine g_blk [(.lconst 1, .long 1), (.goto 4, .retAddr 15)] (Nat.le_of_ble_eq_true rfl) (by decide +kernel) ?_
      refine gx_lconst (gx_goto ((gx_nil ?_)))
      refine g_lastore (by decide +kernel) (ho _ hP) (vp_in_nI (by omega) (by omega)) ?_
      rw [n0c]
      refine g_blk [(.goto 6, .retAddr 22), (.iconst 0, .int (nI 0))] (Nat.le_of_ble_eq_true rfl) (by decide +kernel) ?_
      refine gx_goto (gx_iconst ((gx_nil ?_)))
      refine g_end (some (.int _)) rfl ⟨by decide +kernel, _, rfl, rfl⟩ ⟨?_, _, hP, ?_⟩
      · rw [ht]; exact congrArg (fun z => some (Value.int z)) z0
      · rw [if_pos ht, bL_1 c7]
theorem lw_codeOf {m out W : Nat} {f : Nat → Int64} {fs : List Value} {τ : Int32} {x : Int32} {P : gHp → Prop} (hnc : gPnc Γ) (p0 : Int32) (hm : h m = some (gJ 12 fs)) (hC : fC Γ M_X9_codeOf [.ref m, .int p0] h W τ (.int x) (nmOf xNS xNS xNS) P) (ht9 : τ = 0 ∨ τ = nI 1) (ho : ∀ h1, P h1 → h1 out = some (gLo Γ 1 f)) : gC Γ M_L_codeOf [.ref m, .int p0, .ref out] h 31 1000 W (wZ Γ τ (x.toInt64) out f P) (fun _ _ => False) := by
  refine gC_ofH (by decide) (by decide) (Nat.le_of_ble_eq_true rfl) [some (.ref m), some (.int p0), some (.ref out), none] rfl ?_
  refine g_blk [(.aload_n 2, .null), (.iconst 0, .int (nI 0)), (.aload_n 0, .null), (.iload_n 1, .null)] (Nat.le_of_ble_eq_true rfl) (by decide +kernel) ?_
  refine gx_aload_n_2 (gx_iconst (gx_aload_n_0 (gx_iload_n_1 ((gx_nil ?_)))))
  refine g_callVH (rc' := 0) (rs' := 0) kL_51 hC (by decide +kernel) rfl rfl hm rfl (Nat.le_of_ble_eq_true rfl) (Nat.le_of_ble_eq_true rfl) (Nat.le_of_ble_eq_true rfl) (by omega) (by omega) (fun E h' hx => ?_) (fun v h' hz => ?_)
  · obtain ⟨ht, rfl, hP⟩ := hx
    rcases ht9 with t | t
    · exact absurd t ht
    · subst t
      refine ⟨12, by rw [nm1]; exact Or.inl ⟨by decide, by decide, cl_xNS, ca_xNS, rfl⟩, fun q => ?_⟩
      refine g_blk [(.astore_n 3, .null), (.iconst 1, .int (nI 1))] (Nat.le_of_ble_eq_true rfl) (by decide +kernel) ?_
      refine gx_astore_n_3 rfl (gx_iconst ((gx_nil ?_)))
      exact g_end (some (.int _)) rfl ⟨by decide +kernel, _, rfl, rfl⟩ ⟨rfl, _, hP, (if_neg (by decide)).symm⟩
  · obtain ⟨ht, rfl, hP⟩ := hz
    simp only [Option.toList_some, List.cons_append, List.nil_append]
    refine g_blk [(.i2l, .null)] (Nat.le_of_ble_eq_true rfl) (by decide +kernel) ?_
    refine gx_i2l ((gx_nil ?_))
    refine g_lastore (by decide +kernel) (ho _ hP) (vp_in_nI (by omega) (by omega)) ?_
    rw [n0c]
    refine g_blk [(.goto 6, .retAddr 15), (.iconst 0, .int (nI 0))] (Nat.le_of_ble_eq_true rfl) (by decide +kernel) ?_
    refine gx_goto (gx_iconst ((gx_nil ?_)))
    refine g_end (some (.int _)) rfl ⟨by decide +kernel, _, rfl, rfl⟩ ⟨?_, _, hP, ?_⟩
    · rw [ht]; exact congrArg (fun z => some (Value.int z)) z0
    · rw [if_pos ht]
theorem lw_codesOf {m out W : Nat} {f : Nat → Int64} {fs : List Value} {τ : Int32} {x : Int32} {P : gHp → Prop} (hnc : gPnc Γ) (p0 : Int32) (hm : h m = some (gJ 12 fs)) (hC : fC Γ M_X9_codesOf [.ref m, .int p0] h W τ (.int x) (nmOf xIO xIO xIO) P) (ht9 : τ = 0 ∨ τ = nI 1) (ho : ∀ h1, P h1 → h1 out = some (gLo Γ 1 f)) : gC Γ M_L_codesOf [.ref m, .int p0, .ref out] h 31 1000 W (wZ Γ τ (x.toInt64) out f P) (fun _ _ => False) := by
  refine gC_ofH (by decide) (by decide) (Nat.le_of_ble_eq_true rfl) [some (.ref m), some (.int p0), some (.ref out), none] rfl ?_
  refine g_blk [(.aload_n 2, .null), (.iconst 0, .int (nI 0)), (.aload_n 0, .null), (.iload_n 1, .null)] (Nat.le_of_ble_eq_true rfl) (by decide +kernel) ?_
  refine gx_aload_n_2 (gx_iconst (gx_aload_n_0 (gx_iload_n_1 ((gx_nil ?_)))))
  refine g_callVH (rc' := 0) (rs' := 0) kL_95 hC (by decide +kernel) rfl rfl hm rfl (Nat.le_of_ble_eq_true rfl) (Nat.le_of_ble_eq_true rfl) (Nat.le_of_ble_eq_true rfl) (by omega) (by omega) (fun E h' hx => ?_) (fun v h' hz => ?_)
  · obtain ⟨ht, rfl, hP⟩ := hx
    rcases ht9 with t | t
    · exact absurd t ht
    · subst t
      refine ⟨12, by rw [nm1]; exact Or.inl ⟨by decide, by decide, cl_xIO, ca_xIO, rfl⟩, fun q => ?_⟩
      refine g_blk [(.astore_n 3, .null), (.iconst 1, .int (nI 1))] (Nat.le_of_ble_eq_true rfl) (by decide +kernel) ?_
      refine gx_astore_n_3 rfl (gx_iconst ((gx_nil ?_)))
      exact g_end (some (.int _)) rfl ⟨by decide +kernel, _, rfl, rfl⟩ ⟨rfl, _, hP, (if_neg (by decide)).symm⟩
  · obtain ⟨ht, rfl, hP⟩ := hz
    simp only [Option.toList_some, List.cons_append, List.nil_append]
    refine g_blk [(.i2l, .null)] (Nat.le_of_ble_eq_true rfl) (by decide +kernel) ?_
    refine gx_i2l ((gx_nil ?_))
    refine g_lastore (by decide +kernel) (ho _ hP) (vp_in_nI (by omega) (by omega)) ?_
    rw [n0c]
    refine g_blk [(.goto 6, .retAddr 15), (.iconst 0, .int (nI 0))] (Nat.le_of_ble_eq_true rfl) (by decide +kernel) ?_
    refine gx_goto (gx_iconst ((gx_nil ?_)))
    refine g_end (some (.int _)) rfl ⟨by decide +kernel, _, rfl, rfl⟩ ⟨?_, _, hP, ?_⟩
    · rw [ht]; exact congrArg (fun z => some (Value.int z)) z0
    · rw [if_pos ht]
theorem lw_cutoff {m out W : Nat} {f : Nat → Int64} {fs : List Value} {τ : Int32} {x : Int32} {P : gHp → Prop} (hnc : gPnc Γ) (p0 : Int32) (hm : h m = some (gJ 12 fs)) (hC : fC Γ M_X9_cutoff [.ref m, .int p0] h W τ (.int x) (nmOf xIO xIO xIO) P) (ht9 : τ = 0 ∨ τ = nI 1) (ho : ∀ h1, P h1 → h1 out = some (gLo Γ 1 f)) : gC Γ M_L_cutoff [.ref m, .int p0, .ref out] h 31 1000 W (wZ Γ τ (x.toInt64) out f P) (fun _ _ => False) := by
  refine gC_ofH (by decide) (by decide) (Nat.le_of_ble_eq_true rfl) [some (.ref m), some (.int p0), some (.ref out), none] rfl ?_
  refine g_blk [(.aload_n 2, .null), (.iconst 0, .int (nI 0)), (.aload_n 0, .null), (.iload_n 1, .null)] (Nat.le_of_ble_eq_true rfl) (by decide +kernel) ?_
  refine gx_aload_n_2 (gx_iconst (gx_aload_n_0 (gx_iload_n_1 ((gx_nil ?_)))))
  refine g_callVH (rc' := 0) (rs' := 0) kL_113 hC (by decide +kernel) rfl rfl hm rfl (Nat.le_of_ble_eq_true rfl) (Nat.le_of_ble_eq_true rfl) (Nat.le_of_ble_eq_true rfl) (by omega) (by omega) (fun E h' hx => ?_) (fun v h' hz => ?_)
  · obtain ⟨ht, rfl, hP⟩ := hx
    rcases ht9 with t | t
    · exact absurd t ht
    · subst t
      refine ⟨12, by rw [nm1]; exact Or.inl ⟨by decide, by decide, cl_xIO, ca_xIO, rfl⟩, fun q => ?_⟩
      refine g_blk [(.astore_n 3, .null), (.iconst 1, .int (nI 1))] (Nat.le_of_ble_eq_true rfl) (by decide +kernel) ?_
      refine gx_astore_n_3 rfl (gx_iconst ((gx_nil ?_)))
      exact g_end (some (.int _)) rfl ⟨by decide +kernel, _, rfl, rfl⟩ ⟨rfl, _, hP, (if_neg (by decide)).symm⟩
  · obtain ⟨ht, rfl, hP⟩ := hz
    simp only [Option.toList_some, List.cons_append, List.nil_append]
    refine g_blk [(.i2l, .null)] (Nat.le_of_ble_eq_true rfl) (by decide +kernel) ?_
    refine gx_i2l ((gx_nil ?_))
    refine g_lastore (by decide +kernel) (ho _ hP) (vp_in_nI (by omega) (by omega)) ?_
    rw [n0c]
    refine g_blk [(.goto 6, .retAddr 15), (.iconst 0, .int (nI 0))] (Nat.le_of_ble_eq_true rfl) (by decide +kernel) ?_
    refine gx_goto (gx_iconst ((gx_nil ?_)))
    refine g_end (some (.int _)) rfl ⟨by decide +kernel, _, rfl, rfl⟩ ⟨?_, _, hP, ?_⟩
    · rw [ht]; exact congrArg (fun z => some (Value.int z)) z0
    · rw [if_pos ht]
theorem lw_deliveredShare {m out W : Nat} {f : Nat → UInt64} {fs : List Value} {τ : Int32} {x : UInt32} {P : gHp → Prop} (hnc : gPnc Γ) (hm : h m = some (gJ 12 fs)) (hC : fC Γ M_X9_deliveredShare [.ref m] h W τ (.float x) (nmOf xAR xAR xAR) P) (ht9 : τ = 0 ∨ τ = nI 1) (ho : ∀ h1, P h1 → h1 out = some (gDo Γ 1 f)) (hf9 : vf_n64 (FP.f2d x)) : gC Γ M_L_deliveredShare [.ref m, .ref out] h 31 1000 W (wD Γ τ (FP.f2d x) out f P) (fun _ _ => False) := by
  refine gC_ofH (by decide) (by decide) (Nat.le_of_ble_eq_true rfl) [some (.ref m), some (.ref out), none] rfl ?_
  refine g_blk [(.aload_n 1, .null), (.iconst 0, .int (nI 0)), (.aload_n 0, .null)] (Nat.le_of_ble_eq_true rfl) (by decide +kernel) ?_
  refine gx_aload_n_1 (gx_iconst (gx_aload_n_0 ((gx_nil ?_))))
  refine g_callVH (rc' := 0) (rs' := 0) kL_143 hC (by decide +kernel) rfl rfl hm rfl (Nat.le_of_ble_eq_true rfl) (Nat.le_of_ble_eq_true rfl) (Nat.le_of_ble_eq_true rfl) (by omega) (by omega) (fun E h' hx => ?_) (fun v h' hz => ?_)
  · obtain ⟨ht, rfl, hP⟩ := hx
    rcases ht9 with t | t
    · exact absurd t ht
    · subst t
      refine ⟨11, by rw [nm1]; exact Or.inl ⟨by decide, by decide, cl_xAR, ca_xAR, rfl⟩, fun q => ?_⟩
      refine g_blk [(.astore_n 2, .null), (.iconst 1, .int (nI 1))] (Nat.le_of_ble_eq_true rfl) (by decide +kernel) ?_
      refine gx_astore_n_2 rfl (gx_iconst ((gx_nil ?_)))
      exact g_end (some (.int _)) rfl ⟨by decide +kernel, _, rfl, rfl⟩ ⟨rfl, _, hP, (if_neg (by decide)).symm⟩
  · obtain ⟨ht, rfl, hP⟩ := hz
    simp only [Option.toList_some, List.cons_append, List.nil_append]
    refine g_f2d hf9 (by decide +kernel) ?_
    refine g_dastore (by decide +kernel) (ho _ hP) (vp_in_nI (by omega) (by omega)) ?_
    rw [n0c]
    refine g_blk [(.goto 6, .retAddr 14), (.iconst 0, .int (nI 0))] (Nat.le_of_ble_eq_true rfl) (by decide +kernel) ?_
    refine gx_goto (gx_iconst ((gx_nil ?_)))
    refine g_end (some (.int _)) rfl ⟨by decide +kernel, _, rfl, rfl⟩ ⟨?_, _, hP, ?_⟩
    · rw [ht]; exact congrArg (fun z => some (Value.int z)) z0
    · rw [if_pos ht]
theorem lw_departure {m out W : Nat} {f : Nat → Int64} {fs : List Value} {τ : Int32} {x : Int32} {P : gHp → Prop} (hnc : gPnc Γ) (p0 : Int32) (hm : h m = some (gJ 12 fs)) (hC : fC Γ M_X9_departure [.ref m, .int p0] h W τ (.int x) (nmOf xIO xIO xIO) P) (ht9 : τ = 0 ∨ τ = nI 1) (ho : ∀ h1, P h1 → h1 out = some (gLo Γ 1 f)) : gC Γ M_L_departure [.ref m, .int p0, .ref out] h 31 1000 W (wZ Γ τ (x.toInt64) out f P) (fun _ _ => False) := by
  refine gC_ofH (by decide) (by decide) (Nat.le_of_ble_eq_true rfl) [some (.ref m), some (.int p0), some (.ref out), none] rfl ?_
  refine g_blk [(.aload_n 2, .null), (.iconst 0, .int (nI 0)), (.aload_n 0, .null), (.iload_n 1, .null)] (Nat.le_of_ble_eq_true rfl) (by decide +kernel) ?_
  refine gx_aload_n_2 (gx_iconst (gx_aload_n_0 (gx_iload_n_1 ((gx_nil ?_)))))
  refine g_callVH (rc' := 0) (rs' := 0) kL_116 hC (by decide +kernel) rfl rfl hm rfl (Nat.le_of_ble_eq_true rfl) (Nat.le_of_ble_eq_true rfl) (Nat.le_of_ble_eq_true rfl) (by omega) (by omega) (fun E h' hx => ?_) (fun v h' hz => ?_)
  · obtain ⟨ht, rfl, hP⟩ := hx
    rcases ht9 with t | t
    · exact absurd t ht
    · subst t
      refine ⟨12, by rw [nm1]; exact Or.inl ⟨by decide, by decide, cl_xIO, ca_xIO, rfl⟩, fun q => ?_⟩
      refine g_blk [(.astore_n 3, .null), (.iconst 1, .int (nI 1))] (Nat.le_of_ble_eq_true rfl) (by decide +kernel) ?_
      refine gx_astore_n_3 rfl (gx_iconst ((gx_nil ?_)))
      exact g_end (some (.int _)) rfl ⟨by decide +kernel, _, rfl, rfl⟩ ⟨rfl, _, hP, (if_neg (by decide)).symm⟩
  · obtain ⟨ht, rfl, hP⟩ := hz
    simp only [Option.toList_some, List.cons_append, List.nil_append]
    refine g_blk [(.i2l, .null)] (Nat.le_of_ble_eq_true rfl) (by decide +kernel) ?_
    refine gx_i2l ((gx_nil ?_))
    refine g_lastore (by decide +kernel) (ho _ hP) (vp_in_nI (by omega) (by omega)) ?_
    rw [n0c]
    refine g_blk [(.goto 6, .retAddr 15), (.iconst 0, .int (nI 0))] (Nat.le_of_ble_eq_true rfl) (by decide +kernel) ?_
    refine gx_goto (gx_iconst ((gx_nil ?_)))
    refine g_end (some (.int _)) rfl ⟨by decide +kernel, _, rfl, rfl⟩ ⟨?_, _, hP, ?_⟩
    · rw [ht]; exact congrArg (fun z => some (Value.int z)) z0
    · rw [if_pos ht]
theorem lw_errorPosition {m out W : Nat} {f : Nat → Int64} {fs : List Value} {τ : Int32} {x : Int32} {P : gHp → Prop} (hnc : gPnc Γ) (hm : h m = some (gJ 12 fs)) (hC : fC Γ M_X9_errorPosition [.ref m] h W τ (.int x) (nmOf xNS xNS xNS) P) (ht9 : τ = 0 ∨ τ = nI 1) (ho : ∀ h1, P h1 → h1 out = some (gLo Γ 1 f)) : gC Γ M_L_errorPosition [.ref m, .ref out] h 31 1000 W (wZ Γ τ (x.toInt64) out f P) (fun _ _ => False) := by
  refine gC_ofH (by decide) (by decide) (Nat.le_of_ble_eq_true rfl) [some (.ref m), some (.ref out), none] rfl ?_
  refine g_blk [(.aload_n 1, .null), (.iconst 0, .int (nI 0)), (.aload_n 0, .null)] (Nat.le_of_ble_eq_true rfl) (by decide +kernel) ?_
  refine gx_aload_n_1 (gx_iconst (gx_aload_n_0 ((gx_nil ?_))))
  refine g_callVH (rc' := 0) (rs' := 0) kL_162 hC (by decide +kernel) rfl rfl hm rfl (Nat.le_of_ble_eq_true rfl) (Nat.le_of_ble_eq_true rfl) (Nat.le_of_ble_eq_true rfl) (by omega) (by omega) (fun E h' hx => ?_) (fun v h' hz => ?_)
  · obtain ⟨ht, rfl, hP⟩ := hx
    rcases ht9 with t | t
    · exact absurd t ht
    · subst t
      refine ⟨11, by rw [nm1]; exact Or.inl ⟨by decide, by decide, cl_xNS, ca_xNS, rfl⟩, fun q => ?_⟩
      refine g_blk [(.astore_n 2, .null), (.iconst 1, .int (nI 1))] (Nat.le_of_ble_eq_true rfl) (by decide +kernel) ?_
      refine gx_astore_n_2 rfl (gx_iconst ((gx_nil ?_)))
      exact g_end (some (.int _)) rfl ⟨by decide +kernel, _, rfl, rfl⟩ ⟨rfl, _, hP, (if_neg (by decide)).symm⟩
  · obtain ⟨ht, rfl, hP⟩ := hz
    simp only [Option.toList_some, List.cons_append, List.nil_append]
    refine g_blk [(.i2l, .null)] (Nat.le_of_ble_eq_true rfl) (by decide +kernel) ?_
    refine gx_i2l ((gx_nil ?_))
    refine g_lastore (by decide +kernel) (ho _ hP) (vp_in_nI (by omega) (by omega)) ?_
    rw [n0c]
    refine g_blk [(.goto 6, .retAddr 14), (.iconst 0, .int (nI 0))] (Nat.le_of_ble_eq_true rfl) (by decide +kernel) ?_
    refine gx_goto (gx_iconst ((gx_nil ?_)))
    refine g_end (some (.int _)) rfl ⟨by decide +kernel, _, rfl, rfl⟩ ⟨?_, _, hP, ?_⟩
    · rw [ht]; exact congrArg (fun z => some (Value.int z)) z0
    · rw [if_pos ht]
theorem lw_failedCommand {m out W : Nat} {f : Nat → Int64} {fs : List Value} {τ : Int32} {x : Int32} {P : gHp → Prop} (hnc : gPnc Γ) (hm : h m = some (gJ 12 fs)) (hC : fC Γ M_X9_failedCommand [.ref m] h W τ (.int x) (nmOf xNS xNS xNS) P) (ht9 : τ = 0 ∨ τ = nI 1) (ho : ∀ h1, P h1 → h1 out = some (gLo Γ 1 f)) : gC Γ M_L_failedCommand [.ref m, .ref out] h 31 1000 W (wZ Γ τ (x.toInt64) out f P) (fun _ _ => False) := by
  refine gC_ofH (by decide) (by decide) (Nat.le_of_ble_eq_true rfl) [some (.ref m), some (.ref out), none] rfl ?_
  refine g_blk [(.aload_n 1, .null), (.iconst 0, .int (nI 0)), (.aload_n 0, .null)] (Nat.le_of_ble_eq_true rfl) (by decide +kernel) ?_
  refine gx_aload_n_1 (gx_iconst (gx_aload_n_0 ((gx_nil ?_))))
  refine g_callVH (rc' := 0) (rs' := 0) kL_165 hC (by decide +kernel) rfl rfl hm rfl (Nat.le_of_ble_eq_true rfl) (Nat.le_of_ble_eq_true rfl) (Nat.le_of_ble_eq_true rfl) (by omega) (by omega) (fun E h' hx => ?_) (fun v h' hz => ?_)
  · obtain ⟨ht, rfl, hP⟩ := hx
    rcases ht9 with t | t
    · exact absurd t ht
    · subst t
      refine ⟨11, by rw [nm1]; exact Or.inl ⟨by decide, by decide, cl_xNS, ca_xNS, rfl⟩, fun q => ?_⟩
      refine g_blk [(.astore_n 2, .null), (.iconst 1, .int (nI 1))] (Nat.le_of_ble_eq_true rfl) (by decide +kernel) ?_
      refine gx_astore_n_2 rfl (gx_iconst ((gx_nil ?_)))
      exact g_end (some (.int _)) rfl ⟨by decide +kernel, _, rfl, rfl⟩ ⟨rfl, _, hP, (if_neg (by decide)).symm⟩
  · obtain ⟨ht, rfl, hP⟩ := hz
    simp only [Option.toList_some, List.cons_append, List.nil_append]
    refine g_blk [(.i2l, .null)] (Nat.le_of_ble_eq_true rfl) (by decide +kernel) ?_
    refine gx_i2l ((gx_nil ?_))
    refine g_lastore (by decide +kernel) (ho _ hP) (vp_in_nI (by omega) (by omega)) ?_
    rw [n0c]
    refine g_blk [(.goto 6, .retAddr 14), (.iconst 0, .int (nI 0))] (Nat.le_of_ble_eq_true rfl) (by decide +kernel) ?_
    refine gx_goto (gx_iconst ((gx_nil ?_)))
    refine g_end (some (.int _)) rfl ⟨by decide +kernel, _, rfl, rfl⟩ ⟨?_, _, hP, ?_⟩
    · rw [ht]; exact congrArg (fun z => some (Value.int z)) z0
    · rw [if_pos ht]
theorem lw_formatLetter {m out W : Nat} {f : Nat → Int64} {fs : List Value} {τ : Int32} {x : Int32} {P : gHp → Prop} (hnc : gPnc Γ) (p0 : Int32) (hm : h m = some (gJ 12 fs)) (hC : fC Γ M_X9_formatLetter [.ref m, .int p0] h W τ (.int x) (nmOf xNS xNS xNS) P) (ht9 : τ = 0 ∨ τ = nI 1) (ho : ∀ h1, P h1 → h1 out = some (gLo Γ 1 f)) : gC Γ M_L_formatLetter [.ref m, .int p0, .ref out] h 31 1000 W (wZ Γ τ (x.toInt64) out f P) (fun _ _ => False) := by
  refine gC_ofH (by decide) (by decide) (Nat.le_of_ble_eq_true rfl) [some (.ref m), some (.int p0), some (.ref out), none] rfl ?_
  refine g_blk [(.aload_n 2, .null), (.iconst 0, .int (nI 0)), (.aload_n 0, .null), (.iload_n 1, .null)] (Nat.le_of_ble_eq_true rfl) (by decide +kernel) ?_
  refine gx_aload_n_2 (gx_iconst (gx_aload_n_0 (gx_iload_n_1 ((gx_nil ?_)))))
  refine g_callVH (rc' := 0) (rs' := 0) kL_147 hC (by decide +kernel) rfl rfl hm rfl (Nat.le_of_ble_eq_true rfl) (Nat.le_of_ble_eq_true rfl) (Nat.le_of_ble_eq_true rfl) (by omega) (by omega) (fun E h' hx => ?_) (fun v h' hz => ?_)
  · obtain ⟨ht, rfl, hP⟩ := hx
    rcases ht9 with t | t
    · exact absurd t ht
    · subst t
      refine ⟨12, by rw [nm1]; exact Or.inl ⟨by decide, by decide, cl_xNS, ca_xNS, rfl⟩, fun q => ?_⟩
      refine g_blk [(.astore_n 3, .null), (.iconst 1, .int (nI 1))] (Nat.le_of_ble_eq_true rfl) (by decide +kernel) ?_
      refine gx_astore_n_3 rfl (gx_iconst ((gx_nil ?_)))
      exact g_end (some (.int _)) rfl ⟨by decide +kernel, _, rfl, rfl⟩ ⟨rfl, _, hP, (if_neg (by decide)).symm⟩
  · obtain ⟨ht, rfl, hP⟩ := hz
    simp only [Option.toList_some, List.cons_append, List.nil_append]
    refine g_blk [(.i2l, .null)] (Nat.le_of_ble_eq_true rfl) (by decide +kernel) ?_
    refine gx_i2l ((gx_nil ?_))
    refine g_lastore (by decide +kernel) (ho _ hP) (vp_in_nI (by omega) (by omega)) ?_
    rw [n0c]
    refine g_blk [(.goto 6, .retAddr 15), (.iconst 0, .int (nI 0))] (Nat.le_of_ble_eq_true rfl) (by decide +kernel) ?_
    refine gx_goto (gx_iconst ((gx_nil ?_)))
    refine g_end (some (.int _)) rfl ⟨by decide +kernel, _, rfl, rfl⟩ ⟨?_, _, hP, ?_⟩
    · rw [ht]; exact congrArg (fun z => some (Value.int z)) z0
    · rw [if_pos ht]
theorem lw_freeWeight {m out W : Nat} {f : Nat → Int64} {fs : List Value} {τ : Int32} {x : Int32} {P : gHp → Prop} (hnc : gPnc Γ) (p0 : Int32) (hm : h m = some (gJ 12 fs)) (hC : fC Γ M_X9_freeWeight [.ref m, .int p0] h W τ (.int x) (nmOf xIO xIO xIO) P) (ht9 : τ = 0 ∨ τ = nI 1) (ho : ∀ h1, P h1 → h1 out = some (gLo Γ 1 f)) : gC Γ M_L_freeWeight [.ref m, .int p0, .ref out] h 31 1000 W (wZ Γ τ (x.toInt64) out f P) (fun _ _ => False) := by
  refine gC_ofH (by decide) (by decide) (Nat.le_of_ble_eq_true rfl) [some (.ref m), some (.int p0), some (.ref out), none] rfl ?_
  refine g_blk [(.aload_n 2, .null), (.iconst 0, .int (nI 0)), (.aload_n 0, .null), (.iload_n 1, .null)] (Nat.le_of_ble_eq_true rfl) (by decide +kernel) ?_
  refine gx_aload_n_2 (gx_iconst (gx_aload_n_0 (gx_iload_n_1 ((gx_nil ?_)))))
  refine g_callVH (rc' := 0) (rs' := 0) kL_128 hC (by decide +kernel) rfl rfl hm rfl (Nat.le_of_ble_eq_true rfl) (Nat.le_of_ble_eq_true rfl) (Nat.le_of_ble_eq_true rfl) (by omega) (by omega) (fun E h' hx => ?_) (fun v h' hz => ?_)
  · obtain ⟨ht, rfl, hP⟩ := hx
    rcases ht9 with t | t
    · exact absurd t ht
    · subst t
      refine ⟨12, by rw [nm1]; exact Or.inl ⟨by decide, by decide, cl_xIO, ca_xIO, rfl⟩, fun q => ?_⟩
      refine g_blk [(.astore_n 3, .null), (.iconst 1, .int (nI 1))] (Nat.le_of_ble_eq_true rfl) (by decide +kernel) ?_
      refine gx_astore_n_3 rfl (gx_iconst ((gx_nil ?_)))
      exact g_end (some (.int _)) rfl ⟨by decide +kernel, _, rfl, rfl⟩ ⟨rfl, _, hP, (if_neg (by decide)).symm⟩
  · obtain ⟨ht, rfl, hP⟩ := hz
    simp only [Option.toList_some, List.cons_append, List.nil_append]
    refine g_blk [(.i2l, .null)] (Nat.le_of_ble_eq_true rfl) (by decide +kernel) ?_
    refine gx_i2l ((gx_nil ?_))
    refine g_lastore (by decide +kernel) (ho _ hP) (vp_in_nI (by omega) (by omega)) ?_
    rw [n0c]
    refine g_blk [(.goto 6, .retAddr 15), (.iconst 0, .int (nI 0))] (Nat.le_of_ble_eq_true rfl) (by decide +kernel) ?_
    refine gx_goto (gx_iconst ((gx_nil ?_)))
    refine g_end (some (.int _)) rfl ⟨by decide +kernel, _, rfl, rfl⟩ ⟨?_, _, hP, ?_⟩
    · rw [ht]; exact congrArg (fun z => some (Value.int z)) z0
    · rw [if_pos ht]
theorem lw_fullestBag {m out W : Nat} {f : Nat → Int64} {fs : List Value} {τ : Int32} {x : Int32} {P : gHp → Prop} (hnc : gPnc Γ) (p0 : Int32) (hm : h m = some (gJ 12 fs)) (hC : fC Γ M_X9_fullestBag [.ref m, .int p0] h W τ (.int x) (nmOf xIO xNS xNS) P) (ht9 : τ = 0 ∨ τ = nI 1 ∨ τ = nI 2) (ho : ∀ h1, P h1 → h1 out = some (gLo Γ 1 f)) : gC Γ M_L_fullestBag [.ref m, .int p0, .ref out] h 31 1000 W (wZ Γ τ (x.toInt64) out f P) (fun _ _ => False) := by
  refine gC_ofH (by decide) (by decide) (Nat.le_of_ble_eq_true rfl) [some (.ref m), some (.int p0), some (.ref out), none] rfl ?_
  refine g_blk [(.aload_n 2, .null), (.iconst 0, .int (nI 0)), (.aload_n 0, .null), (.iload_n 1, .null)] (Nat.le_of_ble_eq_true rfl) (by decide +kernel) ?_
  refine gx_aload_n_2 (gx_iconst (gx_aload_n_0 (gx_iload_n_1 ((gx_nil ?_)))))
  refine g_callVH (rc' := 0) (rs' := 0) kL_131 hC (by decide +kernel) rfl rfl hm rfl (Nat.le_of_ble_eq_true rfl) (Nat.le_of_ble_eq_true rfl) (Nat.le_of_ble_eq_true rfl) (by omega) (by omega) (fun E h' hx => ?_) (fun v h' hz => ?_)
  · obtain ⟨ht, rfl, hP⟩ := hx
    rcases ht9 with t | t | t
    · exact absurd t ht
    · subst t
      refine ⟨12, by rw [nm1]; exact Or.inl ⟨by decide, by decide, cl_xIO, ca_xIO, rfl⟩, fun q => ?_⟩
      refine g_blk [(.astore_n 3, .null), (.iconst 1, .int (nI 1))] (Nat.le_of_ble_eq_true rfl) (by decide +kernel) ?_
      refine gx_astore_n_3 rfl (gx_iconst ((gx_nil ?_)))
      exact g_end (some (.int _)) rfl ⟨by decide +kernel, _, rfl, rfl⟩ ⟨rfl, _, hP, (if_neg (by decide)).symm⟩
    · subst t
      refine ⟨15, by rw [nm2]; exact Or.inr ⟨⟨by decide, _, cl_xIO, hnc _ (by decide) _ (by decide) (by decide)⟩, Or.inl ⟨by decide, by decide, cl_xNS, ca_xNS, rfl⟩⟩, fun q => ?_⟩
      refine g_blk [(.astore_n 3, .null), (.iconst 2, .int (nI 2))] (Nat.le_of_ble_eq_true rfl) (by decide +kernel) ?_
      refine gx_astore_n_3 rfl (gx_iconst ((gx_nil ?_)))
      exact g_end (some (.int _)) rfl ⟨by decide +kernel, _, rfl, rfl⟩ ⟨rfl, _, hP, (if_neg (by decide)).symm⟩
  · obtain ⟨ht, rfl, hP⟩ := hz
    simp only [Option.toList_some, List.cons_append, List.nil_append]
    refine g_blk [(.i2l, .null)] (Nat.le_of_ble_eq_true rfl) (by decide +kernel) ?_
    refine gx_i2l ((gx_nil ?_))
    refine g_lastore (by decide +kernel) (ho _ hP) (vp_in_nI (by omega) (by omega)) ?_
    rw [n0c]
    refine g_blk [(.goto 9, .retAddr 18), (.iconst 0, .int (nI 0))] (Nat.le_of_ble_eq_true rfl) (by decide +kernel) ?_
    refine gx_goto (gx_iconst ((gx_nil ?_)))
    refine g_end (some (.int _)) rfl ⟨by decide +kernel, _, rfl, rfl⟩ ⟨?_, _, hP, ?_⟩
    · rw [ht]; exact congrArg (fun z => some (Value.int z)) z0
    · rw [if_pos ht]
theorem lw_hasPrefix {m out W : Nat} {f : Nat → Int64} {fs : List Value} {τ : Int32} {x : Int32} {P : gHp → Prop} (hnc : gPnc Γ) (p0 : Int32) (p1 : Int32) (hm : h m = some (gJ 12 fs)) (hC : fC Γ M_X9_hasPrefix [.ref m, .int p0, .int p1] h W τ (.int x) (nmOf xIA xIA xIA) P) (ht9 : τ = 0 ∨ τ = nI 1) (ho : ∀ h1, P h1 → h1 out = some (gLo Γ 1 f)) : gC Γ M_L_hasPrefix [.ref m, .int p0, .int p1, .ref out] h 31 1000 W (wZ Γ τ (bL x) out f P) (fun _ _ => False) := by
  refine gC_ofH (by decide) (by decide) (Nat.le_of_ble_eq_true rfl) [some (.ref m), some (.int p0), some (.int p1), some (.ref out), none] rfl ?_
  refine g_blk [(.aload_n 3, .null), (.iconst 0, .int (nI 0)), (.aload_n 0, .null), (.iload_n 1, .null), (.iload_n 2, .null)] (Nat.le_of_ble_eq_true rfl) (by decide +kernel) ?_
  refine gx_aload_n_3 (gx_iconst (gx_aload_n_0 (gx_iload_n_1 (gx_iload_n_2 ((gx_nil ?_))))))
  refine g_callVH (rc' := 0) (rs' := 0) kL_82 hC (by decide +kernel) rfl rfl hm rfl (Nat.le_of_ble_eq_true rfl) (Nat.le_of_ble_eq_true rfl) (Nat.le_of_ble_eq_true rfl) (by omega) (by omega) (fun E h' hx => ?_) (fun v h' hz => ?_)
  · obtain ⟨ht, rfl, hP⟩ := hx
    rcases ht9 with t | t
    · exact absurd t ht
    · subst t
      refine ⟨20, by rw [nm1]; exact Or.inl ⟨by decide, by decide, cl_xIA, ca_xIA, rfl⟩, fun q => ?_⟩
      refine g_blk [(.astore 4, .null), (.iconst 1, .int (nI 1))] (Nat.le_of_ble_eq_true rfl) (by decide +kernel) ?_
      refine gx_astore_4 rfl (gx_iconst ((gx_nil ?_)))
      exact g_end (some (.int _)) rfl ⟨by decide +kernel, _, rfl, rfl⟩ ⟨rfl, _, hP, (if_neg (by decide)).symm⟩
  · obtain ⟨ht, rfl, hP⟩ := hz
    simp only [Option.toList_some, List.cons_append, List.nil_append]
    refine g_if_eq (off := 7) (tgt := 15) (by decide +kernel) (by decide) (fun c8 => ?_) (fun c8 => ?_)
    · try simp only [bI_0, Decidable.not_not] at c8
      refine g_blk [(.lconst 0, .long 0)] (Nat.le_of_ble_eq_true rfl) (by decide +kernel) ?_
      refine gx_lconst ((gx_nil ?_))
      refine g_lastore (by decide +kernel) (ho _ hP) (vp_in_nI (by omega) (by omega)) ?_
      rw [n0c]
      refine g_blk [(.goto 7, .retAddr 24), (.iconst 0, .int (nI 0))] (Nat.le_of_ble_eq_true rfl) (by decide +kernel) ?_
      refine gx_goto (gx_iconst ((gx_nil ?_)))
      refine g_end (some (.int _)) rfl ⟨by decide +kernel, _, rfl, rfl⟩ ⟨?_, _, hP, ?_⟩
      · rw [ht]; exact congrArg (fun z => some (Value.int z)) z0
      · rw [if_pos ht, bL_0 c8]
    · try simp only [bI_0, Decidable.not_not] at c8
      refine g_blk [(.lconst 1, .long 1), (.goto 4, .retAddr 16)] (Nat.le_of_ble_eq_true rfl) (by decide +kernel) ?_
      refine gx_lconst (gx_goto ((gx_nil ?_)))
      refine g_lastore (by decide +kernel) (ho _ hP) (vp_in_nI (by omega) (by omega)) ?_
      rw [n0c]
      refine g_blk [(.goto 7, .retAddr 24), (.iconst 0, .int (nI 0))] (Nat.le_of_ble_eq_true rfl) (by decide +kernel) ?_
      refine gx_goto (gx_iconst ((gx_nil ?_)))
      refine g_end (some (.int _)) rfl ⟨by decide +kernel, _, rfl, rfl⟩ ⟨?_, _, hP, ?_⟩
      · rw [ht]; exact congrArg (fun z => some (Value.int z)) z0
      · rw [if_pos ht, bL_1 c8]
theorem lw_hoursToDelivery {m out W : Nat} {f : Nat → Int64} {fs : List Value} {τ : Int32} {x : Int32} {P : gHp → Prop} (hnc : gPnc Γ) (p0 : Int32) (hm : h m = some (gJ 12 fs)) (hC : fC Γ M_X9_hoursToDelivery [.ref m, .int p0] h W τ (.int x) (nmOf xNS xIS xIS) P) (ht9 : τ = 0 ∨ τ = nI 1 ∨ τ = nI 2) (ho : ∀ h1, P h1 → h1 out = some (gLo Γ 1 f)) : gC Γ M_L_hoursToDelivery [.ref m, .int p0, .ref out] h 31 1000 W (wZ Γ τ (x.toInt64) out f P) (fun _ _ => False) := by
  refine gC_ofH (by decide) (by decide) (Nat.le_of_ble_eq_true rfl) [some (.ref m), some (.int p0), some (.ref out), none] rfl ?_
  refine g_blk [(.aload_n 2, .null), (.iconst 0, .int (nI 0)), (.aload_n 0, .null), (.iload_n 1, .null)] (Nat.le_of_ble_eq_true rfl) (by decide +kernel) ?_
  refine gx_aload_n_2 (gx_iconst (gx_aload_n_0 (gx_iload_n_1 ((gx_nil ?_)))))
  refine g_callVH (rc' := 0) (rs' := 0) kL_122 hC (by decide +kernel) rfl rfl hm rfl (Nat.le_of_ble_eq_true rfl) (Nat.le_of_ble_eq_true rfl) (Nat.le_of_ble_eq_true rfl) (by omega) (by omega) (fun E h' hx => ?_) (fun v h' hz => ?_)
  · obtain ⟨ht, rfl, hP⟩ := hx
    rcases ht9 with t | t | t
    · exact absurd t ht
    · subst t
      refine ⟨12, by rw [nm1]; exact Or.inl ⟨by decide, by decide, cl_xNS, ca_xNS, rfl⟩, fun q => ?_⟩
      refine g_blk [(.astore_n 3, .null), (.iconst 1, .int (nI 1))] (Nat.le_of_ble_eq_true rfl) (by decide +kernel) ?_
      refine gx_astore_n_3 rfl (gx_iconst ((gx_nil ?_)))
      exact g_end (some (.int _)) rfl ⟨by decide +kernel, _, rfl, rfl⟩ ⟨rfl, _, hP, (if_neg (by decide)).symm⟩
    · subst t
      refine ⟨15, by rw [nm2]; exact Or.inr ⟨⟨by decide, _, cl_xNS, hnc _ (by decide) _ (by decide) (by decide)⟩, Or.inl ⟨by decide, by decide, cl_xIS, ca_xIS, rfl⟩⟩, fun q => ?_⟩
      refine g_blk [(.astore_n 3, .null), (.iconst 2, .int (nI 2))] (Nat.le_of_ble_eq_true rfl) (by decide +kernel) ?_
      refine gx_astore_n_3 rfl (gx_iconst ((gx_nil ?_)))
      exact g_end (some (.int _)) rfl ⟨by decide +kernel, _, rfl, rfl⟩ ⟨rfl, _, hP, (if_neg (by decide)).symm⟩
  · obtain ⟨ht, rfl, hP⟩ := hz
    simp only [Option.toList_some, List.cons_append, List.nil_append]
    refine g_blk [(.i2l, .null)] (Nat.le_of_ble_eq_true rfl) (by decide +kernel) ?_
    refine gx_i2l ((gx_nil ?_))
    refine g_lastore (by decide +kernel) (ho _ hP) (vp_in_nI (by omega) (by omega)) ?_
    rw [n0c]
    refine g_blk [(.goto 9, .retAddr 18), (.iconst 0, .int (nI 0))] (Nat.le_of_ble_eq_true rfl) (by decide +kernel) ?_
    refine gx_goto (gx_iconst ((gx_nil ?_)))
    refine g_end (some (.int _)) rfl ⟨by decide +kernel, _, rfl, rfl⟩ ⟨?_, _, hP, ?_⟩
    · rw [ht]; exact congrArg (fun z => some (Value.int z)) z0
    · rw [if_pos ht]
theorem lw_hoursToDeliveryByHours {m out W : Nat} {f : Nat → Int64} {fs : List Value} {τ : Int32} {x : Int32} {P : gHp → Prop} (hnc : gPnc Γ) (p0 : Int32) (hm : h m = some (gJ 12 fs)) (hC : fC Γ M_X9_hoursToDeliveryByHours [.ref m, .int p0] h W τ (.int x) (nmOf xNS xIS xIS) P) (ht9 : τ = 0 ∨ τ = nI 1 ∨ τ = nI 2) (ho : ∀ h1, P h1 → h1 out = some (gLo Γ 1 f)) : gC Γ M_L_hoursToDeliveryByHours [.ref m, .int p0, .ref out] h 31 1000 W (wZ Γ τ (x.toInt64) out f P) (fun _ _ => False) := by
  refine gC_ofH (by decide) (by decide) (Nat.le_of_ble_eq_true rfl) [some (.ref m), some (.int p0), some (.ref out), none] rfl ?_
  refine g_blk [(.aload_n 2, .null), (.iconst 0, .int (nI 0)), (.aload_n 0, .null), (.iload_n 1, .null)] (Nat.le_of_ble_eq_true rfl) (by decide +kernel) ?_
  refine gx_aload_n_2 (gx_iconst (gx_aload_n_0 (gx_iload_n_1 ((gx_nil ?_)))))
  refine g_callVH (rc' := 0) (rs' := 0) kL_125 hC (by decide +kernel) rfl rfl hm rfl (Nat.le_of_ble_eq_true rfl) (Nat.le_of_ble_eq_true rfl) (Nat.le_of_ble_eq_true rfl) (by omega) (by omega) (fun E h' hx => ?_) (fun v h' hz => ?_)
  · obtain ⟨ht, rfl, hP⟩ := hx
    rcases ht9 with t | t | t
    · exact absurd t ht
    · subst t
      refine ⟨12, by rw [nm1]; exact Or.inl ⟨by decide, by decide, cl_xNS, ca_xNS, rfl⟩, fun q => ?_⟩
      refine g_blk [(.astore_n 3, .null), (.iconst 1, .int (nI 1))] (Nat.le_of_ble_eq_true rfl) (by decide +kernel) ?_
      refine gx_astore_n_3 rfl (gx_iconst ((gx_nil ?_)))
      exact g_end (some (.int _)) rfl ⟨by decide +kernel, _, rfl, rfl⟩ ⟨rfl, _, hP, (if_neg (by decide)).symm⟩
    · subst t
      refine ⟨15, by rw [nm2]; exact Or.inr ⟨⟨by decide, _, cl_xNS, hnc _ (by decide) _ (by decide) (by decide)⟩, Or.inl ⟨by decide, by decide, cl_xIS, ca_xIS, rfl⟩⟩, fun q => ?_⟩
      refine g_blk [(.astore_n 3, .null), (.iconst 2, .int (nI 2))] (Nat.le_of_ble_eq_true rfl) (by decide +kernel) ?_
      refine gx_astore_n_3 rfl (gx_iconst ((gx_nil ?_)))
      exact g_end (some (.int _)) rfl ⟨by decide +kernel, _, rfl, rfl⟩ ⟨rfl, _, hP, (if_neg (by decide)).symm⟩
  · obtain ⟨ht, rfl, hP⟩ := hz
    simp only [Option.toList_some, List.cons_append, List.nil_append]
    refine g_blk [(.i2l, .null)] (Nat.le_of_ble_eq_true rfl) (by decide +kernel) ?_
    refine gx_i2l ((gx_nil ?_))
    refine g_lastore (by decide +kernel) (ho _ hP) (vp_in_nI (by omega) (by omega)) ?_
    rw [n0c]
    refine g_blk [(.goto 9, .retAddr 18), (.iconst 0, .int (nI 0))] (Nat.le_of_ble_eq_true rfl) (by decide +kernel) ?_
    refine gx_goto (gx_iconst ((gx_nil ?_)))
    refine g_end (some (.int _)) rfl ⟨by decide +kernel, _, rfl, rfl⟩ ⟨?_, _, hP, ?_⟩
    · rw [ht]; exact congrArg (fun z => some (Value.int z)) z0
    · rw [if_pos ht]
theorem lw_hoursToDeparture {m out W : Nat} {f : Nat → Int64} {fs : List Value} {τ : Int32} {x : Int32} {P : gHp → Prop} (hnc : gPnc Γ) (p0 : Int32) (hm : h m = some (gJ 12 fs)) (hC : fC Γ M_X9_hoursToDeparture [.ref m, .int p0] h W τ (.int x) (nmOf xIO xIO xIO) P) (ht9 : τ = 0 ∨ τ = nI 1) (ho : ∀ h1, P h1 → h1 out = some (gLo Γ 1 f)) : gC Γ M_L_hoursToDeparture [.ref m, .int p0, .ref out] h 31 1000 W (wZ Γ τ (x.toInt64) out f P) (fun _ _ => False) := by
  refine gC_ofH (by decide) (by decide) (Nat.le_of_ble_eq_true rfl) [some (.ref m), some (.int p0), some (.ref out), none] rfl ?_
  refine g_blk [(.aload_n 2, .null), (.iconst 0, .int (nI 0)), (.aload_n 0, .null), (.iload_n 1, .null)] (Nat.le_of_ble_eq_true rfl) (by decide +kernel) ?_
  refine gx_aload_n_2 (gx_iconst (gx_aload_n_0 (gx_iload_n_1 ((gx_nil ?_)))))
  refine g_callVH (rc' := 0) (rs' := 0) kL_119 hC (by decide +kernel) rfl rfl hm rfl (Nat.le_of_ble_eq_true rfl) (Nat.le_of_ble_eq_true rfl) (Nat.le_of_ble_eq_true rfl) (by omega) (by omega) (fun E h' hx => ?_) (fun v h' hz => ?_)
  · obtain ⟨ht, rfl, hP⟩ := hx
    rcases ht9 with t | t
    · exact absurd t ht
    · subst t
      refine ⟨12, by rw [nm1]; exact Or.inl ⟨by decide, by decide, cl_xIO, ca_xIO, rfl⟩, fun q => ?_⟩
      refine g_blk [(.astore_n 3, .null), (.iconst 1, .int (nI 1))] (Nat.le_of_ble_eq_true rfl) (by decide +kernel) ?_
      refine gx_astore_n_3 rfl (gx_iconst ((gx_nil ?_)))
      exact g_end (some (.int _)) rfl ⟨by decide +kernel, _, rfl, rfl⟩ ⟨rfl, _, hP, (if_neg (by decide)).symm⟩
  · obtain ⟨ht, rfl, hP⟩ := hz
    simp only [Option.toList_some, List.cons_append, List.nil_append]
    refine g_blk [(.i2l, .null)] (Nat.le_of_ble_eq_true rfl) (by decide +kernel) ?_
    refine gx_i2l ((gx_nil ?_))
    refine g_lastore (by decide +kernel) (ho _ hP) (vp_in_nI (by omega) (by omega)) ?_
    rw [n0c]
    refine g_blk [(.goto 6, .retAddr 15), (.iconst 0, .int (nI 0))] (Nat.le_of_ble_eq_true rfl) (by decide +kernel) ?_
    refine gx_goto (gx_iconst ((gx_nil ?_)))
    refine g_end (some (.int _)) rfl ⟨by decide +kernel, _, rfl, rfl⟩ ⟨?_, _, hP, ?_⟩
    · rw [ht]; exact congrArg (fun z => some (Value.int z)) z0
    · rw [if_pos ht]
theorem lw_idAt {m out W : Nat} {f : Nat → Int64} {fs : List Value} {τ : Int32} {x : Int32} {P : gHp → Prop} (hnc : gPnc Γ) (p0 : Int32) (hm : h m = some (gJ 12 fs)) (hC : fC Γ M_X9_idAt [.ref m, .int p0] h W τ (.int x) (nmOf xIO xIO xIO) P) (ht9 : τ = 0 ∨ τ = nI 1) (ho : ∀ h1, P h1 → h1 out = some (gLo Γ 1 f)) : gC Γ M_L_idAt [.ref m, .int p0, .ref out] h 31 1000 W (wZ Γ τ (x.toInt64) out f P) (fun _ _ => False) := by
  refine gC_ofH (by decide) (by decide) (Nat.le_of_ble_eq_true rfl) [some (.ref m), some (.int p0), some (.ref out), none] rfl ?_
  refine g_blk [(.aload_n 2, .null), (.iconst 0, .int (nI 0)), (.aload_n 0, .null), (.iload_n 1, .null)] (Nat.le_of_ble_eq_true rfl) (by decide +kernel) ?_
  refine gx_aload_n_2 (gx_iconst (gx_aload_n_0 (gx_iload_n_1 ((gx_nil ?_)))))
  refine g_callVH (rc' := 0) (rs' := 0) kL_48 hC (by decide +kernel) rfl rfl hm rfl (Nat.le_of_ble_eq_true rfl) (Nat.le_of_ble_eq_true rfl) (Nat.le_of_ble_eq_true rfl) (by omega) (by omega) (fun E h' hx => ?_) (fun v h' hz => ?_)
  · obtain ⟨ht, rfl, hP⟩ := hx
    rcases ht9 with t | t
    · exact absurd t ht
    · subst t
      refine ⟨12, by rw [nm1]; exact Or.inl ⟨by decide, by decide, cl_xIO, ca_xIO, rfl⟩, fun q => ?_⟩
      refine g_blk [(.astore_n 3, .null), (.iconst 1, .int (nI 1))] (Nat.le_of_ble_eq_true rfl) (by decide +kernel) ?_
      refine gx_astore_n_3 rfl (gx_iconst ((gx_nil ?_)))
      exact g_end (some (.int _)) rfl ⟨by decide +kernel, _, rfl, rfl⟩ ⟨rfl, _, hP, (if_neg (by decide)).symm⟩
  · obtain ⟨ht, rfl, hP⟩ := hz
    simp only [Option.toList_some, List.cons_append, List.nil_append]
    refine g_blk [(.i2l, .null)] (Nat.le_of_ble_eq_true rfl) (by decide +kernel) ?_
    refine gx_i2l ((gx_nil ?_))
    refine g_lastore (by decide +kernel) (ho _ hP) (vp_in_nI (by omega) (by omega)) ?_
    rw [n0c]
    refine g_blk [(.goto 6, .retAddr 15), (.iconst 0, .int (nI 0))] (Nat.le_of_ble_eq_true rfl) (by decide +kernel) ?_
    refine gx_goto (gx_iconst ((gx_nil ?_)))
    refine g_end (some (.int _)) rfl ⟨by decide +kernel, _, rfl, rfl⟩ ⟨?_, _, hP, ?_⟩
    · rw [ht]; exact congrArg (fun z => some (Value.int z)) z0
    · rw [if_pos ht]
theorem lw_isInTray {m out W : Nat} {f : Nat → Int64} {fs : List Value} {τ : Int32} {x : Int32} {P : gHp → Prop} (hnc : gPnc Γ) (p0 : Int32) (hm : h m = some (gJ 12 fs)) (hC : fC Γ M_X9_isInTray [.ref m, .int p0] h W τ (.int x) (nmOf xNS xNS xNS) P) (ht9 : τ = 0 ∨ τ = nI 1) (ho : ∀ h1, P h1 → h1 out = some (gLo Γ 1 f)) : gC Γ M_L_isInTray [.ref m, .int p0, .ref out] h 31 1000 W (wZ Γ τ (bL x) out f P) (fun _ _ => False) := by
  refine gC_ofH (by decide) (by decide) (Nat.le_of_ble_eq_true rfl) [some (.ref m), some (.int p0), some (.ref out), none] rfl ?_
  refine g_blk [(.aload_n 2, .null), (.iconst 0, .int (nI 0)), (.aload_n 0, .null), (.iload_n 1, .null)] (Nat.le_of_ble_eq_true rfl) (by decide +kernel) ?_
  refine gx_aload_n_2 (gx_iconst (gx_aload_n_0 (gx_iload_n_1 ((gx_nil ?_)))))
  refine g_callVH (rc' := 0) (rs' := 0) kL_64 hC (by decide +kernel) rfl rfl hm rfl (Nat.le_of_ble_eq_true rfl) (Nat.le_of_ble_eq_true rfl) (Nat.le_of_ble_eq_true rfl) (by omega) (by omega) (fun E h' hx => ?_) (fun v h' hz => ?_)
  · obtain ⟨ht, rfl, hP⟩ := hx
    rcases ht9 with t | t
    · exact absurd t ht
    · subst t
      refine ⟨19, by rw [nm1]; exact Or.inl ⟨by decide, by decide, cl_xNS, ca_xNS, rfl⟩, fun q => ?_⟩
      refine g_blk [(.astore_n 3, .null), (.iconst 1, .int (nI 1))] (Nat.le_of_ble_eq_true rfl) (by decide +kernel) ?_
      refine gx_astore_n_3 rfl (gx_iconst ((gx_nil ?_)))
      exact g_end (some (.int _)) rfl ⟨by decide +kernel, _, rfl, rfl⟩ ⟨rfl, _, hP, (if_neg (by decide)).symm⟩
  · obtain ⟨ht, rfl, hP⟩ := hz
    simp only [Option.toList_some, List.cons_append, List.nil_append]
    refine g_if_eq (off := 7) (tgt := 14) (by decide +kernel) (by decide) (fun c7 => ?_) (fun c7 => ?_)
    · try simp only [bI_0, Decidable.not_not] at c7
      refine g_blk [(.lconst 0, .long 0)] (Nat.le_of_ble_eq_true rfl) (by decide +kernel) ?_
      refine gx_lconst ((gx_nil ?_))
      refine g_lastore (by decide +kernel) (ho _ hP) (vp_in_nI (by omega) (by omega)) ?_
      rw [n0c]
      refine g_blk [(.goto 6, .retAddr 22), (.iconst 0, .int (nI 0))] (Nat.le_of_ble_eq_true rfl) (by decide +kernel) ?_
      refine gx_goto (gx_iconst ((gx_nil ?_)))
      refine g_end (some (.int _)) rfl ⟨by decide +kernel, _, rfl, rfl⟩ ⟨?_, _, hP, ?_⟩
      · rw [ht]; exact congrArg (fun z => some (Value.int z)) z0
      · rw [if_pos ht, bL_0 c7]
    · try simp only [bI_0, Decidable.not_not] at c7
      refine g_blk [(.lconst 1, .long 1), (.goto 4, .retAddr 15)] (Nat.le_of_ble_eq_true rfl) (by decide +kernel) ?_
      refine gx_lconst (gx_goto ((gx_nil ?_)))
      refine g_lastore (by decide +kernel) (ho _ hP) (vp_in_nI (by omega) (by omega)) ?_
      rw [n0c]
      refine g_blk [(.goto 6, .retAddr 22), (.iconst 0, .int (nI 0))] (Nat.le_of_ble_eq_true rfl) (by decide +kernel) ?_
      refine gx_goto (gx_iconst ((gx_nil ?_)))
      refine g_end (some (.int _)) rfl ⟨by decide +kernel, _, rfl, rfl⟩ ⟨?_, _, hP, ?_⟩
      · rw [ht]; exact congrArg (fun z => some (Value.int z)) z0
      · rw [if_pos ht, bL_1 c7]
theorem lw_isMissorted {m out W : Nat} {f : Nat → Int64} {fs : List Value} {τ : Int32} {x : Int32} {P : gHp → Prop} (hnc : gPnc Γ) (p0 : Int32) (hm : h m = some (gJ 12 fs)) (hC : fC Γ M_X9_isMissorted [.ref m, .int p0] h W τ (.int x) (nmOf xNS xNS xNS) P) (ht9 : τ = 0 ∨ τ = nI 1) (ho : ∀ h1, P h1 → h1 out = some (gLo Γ 1 f)) : gC Γ M_L_isMissorted [.ref m, .int p0, .ref out] h 31 1000 W (wZ Γ τ (bL x) out f P) (fun _ _ => False) := by
  refine gC_ofH (by decide) (by decide) (Nat.le_of_ble_eq_true rfl) [some (.ref m), some (.int p0), some (.ref out), none] rfl ?_
  refine g_blk [(.aload_n 2, .null), (.iconst 0, .int (nI 0)), (.aload_n 0, .null), (.iload_n 1, .null)] (Nat.le_of_ble_eq_true rfl) (by decide +kernel) ?_
  refine gx_aload_n_2 (gx_iconst (gx_aload_n_0 (gx_iload_n_1 ((gx_nil ?_)))))
  refine g_callVH (rc' := 0) (rs' := 0) kL_73 hC (by decide +kernel) rfl rfl hm rfl (Nat.le_of_ble_eq_true rfl) (Nat.le_of_ble_eq_true rfl) (Nat.le_of_ble_eq_true rfl) (by omega) (by omega) (fun E h' hx => ?_) (fun v h' hz => ?_)
  · obtain ⟨ht, rfl, hP⟩ := hx
    rcases ht9 with t | t
    · exact absurd t ht
    · subst t
      refine ⟨19, by rw [nm1]; exact Or.inl ⟨by decide, by decide, cl_xNS, ca_xNS, rfl⟩, fun q => ?_⟩
      refine g_blk [(.astore_n 3, .null), (.iconst 1, .int (nI 1))] (Nat.le_of_ble_eq_true rfl) (by decide +kernel) ?_
      refine gx_astore_n_3 rfl (gx_iconst ((gx_nil ?_)))
      exact g_end (some (.int _)) rfl ⟨by decide +kernel, _, rfl, rfl⟩ ⟨rfl, _, hP, (if_neg (by decide)).symm⟩
  · obtain ⟨ht, rfl, hP⟩ := hz
    simp only [Option.toList_some, List.cons_append, List.nil_append]
    refine g_if_eq (off := 7) (tgt := 14) (by decide +kernel) (by decide) (fun c7 => ?_) (fun c7 => ?_)
    · try simp only [bI_0, Decidable.not_not] at c7
      refine g_blk [(.lconst 0, .long 0)] (Nat.le_of_ble_eq_true rfl) (by decide +kernel) ?_
      refine gx_lconst ((gx_nil ?_))
      refine g_lastore (by decide +kernel) (ho _ hP) (vp_in_nI (by omega) (by omega)) ?_
      rw [n0c]
      refine g_blk [(.goto 6, .retAddr 22), (.iconst 0, .int (nI 0))] (Nat.le_of_ble_eq_true rfl) (by decide +kernel) ?_
      refine gx_goto (gx_iconst ((gx_nil ?_)))
      refine g_end (some (.int _)) rfl ⟨by decide +kernel, _, rfl, rfl⟩ ⟨?_, _, hP, ?_⟩
      · rw [ht]; exact congrArg (fun z => some (Value.int z)) z0
      · rw [if_pos ht, bL_0 c7]
    · try simp only [bI_0, Decidable.not_not] at c7
      refine g_blk [(.lconst 1, .long 1), (.goto 4, .retAddr 15)] (Nat.le_of_ble_eq_true rfl) (by decide +kernel) ?_
      refine gx_lconst (gx_goto ((gx_nil ?_)))
      refine g_lastore (by decide +kernel) (ho _ hP) (vp_in_nI (by omega) (by omega)) ?_
      rw [n0c]
      refine g_blk [(.goto 6, .retAddr 22), (.iconst 0, .int (nI 0))] (Nat.le_of_ble_eq_true rfl) (by decide +kernel) ?_
      refine gx_goto (gx_iconst ((gx_nil ?_)))
      refine g_end (some (.int _)) rfl ⟨by decide +kernel, _, rfl, rfl⟩ ⟨?_, _, hP, ?_⟩
      · rw [ht]; exact congrArg (fun z => some (Value.int z)) z0
      · rw [if_pos ht, bL_1 c7]
theorem lw_isPriority {m out W : Nat} {f : Nat → Int64} {fs : List Value} {τ : Int32} {x : Int32} {P : gHp → Prop} (hnc : gPnc Γ) (p0 : Int32) (hm : h m = some (gJ 12 fs)) (hC : fC Γ M_X9_isPriority [.ref m, .int p0] h W τ (.int x) (nmOf xNS xNS xNS) P) (ht9 : τ = 0 ∨ τ = nI 1) (ho : ∀ h1, P h1 → h1 out = some (gLo Γ 1 f)) : gC Γ M_L_isPriority [.ref m, .int p0, .ref out] h 31 1000 W (wZ Γ τ (bL x) out f P) (fun _ _ => False) := by
  refine gC_ofH (by decide) (by decide) (Nat.le_of_ble_eq_true rfl) [some (.ref m), some (.int p0), some (.ref out), none] rfl ?_
  refine g_blk [(.aload_n 2, .null), (.iconst 0, .int (nI 0)), (.aload_n 0, .null), (.iload_n 1, .null)] (Nat.le_of_ble_eq_true rfl) (by decide +kernel) ?_
  refine gx_aload_n_2 (gx_iconst (gx_aload_n_0 (gx_iload_n_1 ((gx_nil ?_)))))
  refine g_callVH (rc' := 0) (rs' := 0) kL_57 hC (by decide +kernel) rfl rfl hm rfl (Nat.le_of_ble_eq_true rfl) (Nat.le_of_ble_eq_true rfl) (Nat.le_of_ble_eq_true rfl) (by omega) (by omega) (fun E h' hx => ?_) (fun v h' hz => ?_)
  · obtain ⟨ht, rfl, hP⟩ := hx
    rcases ht9 with t | t
    · exact absurd t ht
    · subst t
      refine ⟨19, by rw [nm1]; exact Or.inl ⟨by decide, by decide, cl_xNS, ca_xNS, rfl⟩, fun q => ?_⟩
      refine g_blk [(.astore_n 3, .null), (.iconst 1, .int (nI 1))] (Nat.le_of_ble_eq_true rfl) (by decide +kernel) ?_
      refine gx_astore_n_3 rfl (gx_iconst ((gx_nil ?_)))
      exact g_end (some (.int _)) rfl ⟨by decide +kernel, _, rfl, rfl⟩ ⟨rfl, _, hP, (if_neg (by decide)).symm⟩
  · obtain ⟨ht, rfl, hP⟩ := hz
    simp only [Option.toList_some, List.cons_append, List.nil_append]
    refine g_if_eq (off := 7) (tgt := 14) (by decide +kernel) (by decide) (fun c7 => ?_) (fun c7 => ?_)
    · try simp only [bI_0, Decidable.not_not] at c7
      refine g_blk [(.lconst 0, .long 0)] (Nat.le_of_ble_eq_true rfl) (by decide +kernel) ?_
      refine gx_lconst ((gx_nil ?_))
      refine g_lastore (by decide +kernel) (ho _ hP) (vp_in_nI (by omega) (by omega)) ?_
      rw [n0c]
      refine g_blk [(.goto 6, .retAddr 22), (.iconst 0, .int (nI 0))] (Nat.le_of_ble_eq_true rfl) (by decide +kernel) ?_
      refine gx_goto (gx_iconst ((gx_nil ?_)))
      refine g_end (some (.int _)) rfl ⟨by decide +kernel, _, rfl, rfl⟩ ⟨?_, _, hP, ?_⟩
      · rw [ht]; exact congrArg (fun z => some (Value.int z)) z0
      · rw [if_pos ht, bL_0 c7]
    · try simp only [bI_0, Decidable.not_not] at c7
      refine g_blk [(.lconst 1, .long 1), (.goto 4, .retAddr 15)] (Nat.le_of_ble_eq_true rfl) (by decide +kernel) ?_
      refine gx_lconst (gx_goto ((gx_nil ?_)))
      refine g_lastore (by decide +kernel) (ho _ hP) (vp_in_nI (by omega) (by omega)) ?_
      rw [n0c]
      refine g_blk [(.goto 6, .retAddr 22), (.iconst 0, .int (nI 0))] (Nat.le_of_ble_eq_true rfl) (by decide +kernel) ?_
      refine gx_goto (gx_iconst ((gx_nil ?_)))
      refine g_end (some (.int _)) rfl ⟨by decide +kernel, _, rfl, rfl⟩ ⟨?_, _, hP, ?_⟩
      · rw [ht]; exact congrArg (fun z => some (Value.int z)) z0
      · rw [if_pos ht, bL_1 c7]
theorem lw_lettersInBag {m out W : Nat} {f : Nat → Int64} {fs : List Value} {τ : Int32} {x : Int32} {P : gHp → Prop} (hnc : gPnc Γ) (p0 : Int32) (p1 : Int32) (hm : h m = some (gJ 12 fs)) (hC : fC Γ M_X9_lettersInBag [.ref m, .int p0, .int p1] h W τ (.int x) (nmOf xIO xNS xNS) P) (ht9 : τ = 0 ∨ τ = nI 1 ∨ τ = nI 2) (ho : ∀ h1, P h1 → h1 out = some (gLo Γ 1 f)) : gC Γ M_L_lettersInBag [.ref m, .int p0, .int p1, .ref out] h 31 1000 W (wZ Γ τ (x.toInt64) out f P) (fun _ _ => False) := by
  refine gC_ofH (by decide) (by decide) (Nat.le_of_ble_eq_true rfl) [some (.ref m), some (.int p0), some (.int p1), some (.ref out), none] rfl ?_
  refine g_blk [(.aload_n 3, .null), (.iconst 0, .int (nI 0)), (.aload_n 0, .null), (.iload_n 1, .null), (.iload_n 2, .null)] (Nat.le_of_ble_eq_true rfl) (by decide +kernel) ?_
  refine gx_aload_n_3 (gx_iconst (gx_aload_n_0 (gx_iload_n_1 (gx_iload_n_2 ((gx_nil ?_))))))
  refine g_callVH (rc' := 0) (rs' := 0) kL_104 hC (by decide +kernel) rfl rfl hm rfl (Nat.le_of_ble_eq_true rfl) (Nat.le_of_ble_eq_true rfl) (Nat.le_of_ble_eq_true rfl) (by omega) (by omega) (fun E h' hx => ?_) (fun v h' hz => ?_)
  · obtain ⟨ht, rfl, hP⟩ := hx
    rcases ht9 with t | t | t
    · exact absurd t ht
    · subst t
      refine ⟨13, by rw [nm1]; exact Or.inl ⟨by decide, by decide, cl_xIO, ca_xIO, rfl⟩, fun q => ?_⟩
      refine g_blk [(.astore 4, .null), (.iconst 1, .int (nI 1))] (Nat.le_of_ble_eq_true rfl) (by decide +kernel) ?_
      refine gx_astore_4 rfl (gx_iconst ((gx_nil ?_)))
      exact g_end (some (.int _)) rfl ⟨by decide +kernel, _, rfl, rfl⟩ ⟨rfl, _, hP, (if_neg (by decide)).symm⟩
    · subst t
      refine ⟨17, by rw [nm2]; exact Or.inr ⟨⟨by decide, _, cl_xIO, hnc _ (by decide) _ (by decide) (by decide)⟩, Or.inl ⟨by decide, by decide, cl_xNS, ca_xNS, rfl⟩⟩, fun q => ?_⟩
      refine g_blk [(.astore 4, .null), (.iconst 2, .int (nI 2))] (Nat.le_of_ble_eq_true rfl) (by decide +kernel) ?_
      refine gx_astore_4 rfl (gx_iconst ((gx_nil ?_)))
      exact g_end (some (.int _)) rfl ⟨by decide +kernel, _, rfl, rfl⟩ ⟨rfl, _, hP, (if_neg (by decide)).symm⟩
  · obtain ⟨ht, rfl, hP⟩ := hz
    simp only [Option.toList_some, List.cons_append, List.nil_append]
    refine g_blk [(.i2l, .null)] (Nat.le_of_ble_eq_true rfl) (by decide +kernel) ?_
    refine gx_i2l ((gx_nil ?_))
    refine g_lastore (by decide +kernel) (ho _ hP) (vp_in_nI (by omega) (by omega)) ?_
    rw [n0c]
    refine g_blk [(.goto 11, .retAddr 21), (.iconst 0, .int (nI 0))] (Nat.le_of_ble_eq_true rfl) (by decide +kernel) ?_
    refine gx_goto (gx_iconst ((gx_nil ?_)))
    refine g_end (some (.int _)) rfl ⟨by decide +kernel, _, rfl, rfl⟩ ⟨?_, _, hP, ?_⟩
    · rw [ht]; exact congrArg (fun z => some (Value.int z)) z0
    · rw [if_pos ht]
theorem lw_lineChar {m out W : Nat} {f : Nat → Int64} {fs : List Value} {τ : Int32} {x : Int32} {P : gHp → Prop} (hnc : gPnc Γ) (p0 : Int32) (hm : h m = some (gJ 12 fs)) (hC : fC Γ M_X9_lineChar [.ref m, .int p0] h W τ (.int x) (nmOf xIO xIO xIO) P) (ht9 : τ = 0 ∨ τ = nI 1) (ho : ∀ h1, P h1 → h1 out = some (gLo Γ 1 f)) : gC Γ M_L_lineChar [.ref m, .int p0, .ref out] h 31 1000 W (wZ Γ τ (x.toInt64) out f P) (fun _ _ => False) := by
  refine gC_ofH (by decide) (by decide) (Nat.le_of_ble_eq_true rfl) [some (.ref m), some (.int p0), some (.ref out), none] rfl ?_
  refine g_blk [(.aload_n 2, .null), (.iconst 0, .int (nI 0)), (.aload_n 0, .null), (.iload_n 1, .null)] (Nat.le_of_ble_eq_true rfl) (by decide +kernel) ?_
  refine gx_aload_n_2 (gx_iconst (gx_aload_n_0 (gx_iload_n_1 ((gx_nil ?_)))))
  refine g_callVH (rc' := 0) (rs' := 0) kL_150 hC (by decide +kernel) rfl rfl hm rfl (Nat.le_of_ble_eq_true rfl) (Nat.le_of_ble_eq_true rfl) (Nat.le_of_ble_eq_true rfl) (by omega) (by omega) (fun E h' hx => ?_) (fun v h' hz => ?_)
  · obtain ⟨ht, rfl, hP⟩ := hx
    rcases ht9 with t | t
    · exact absurd t ht
    · subst t
      refine ⟨12, by rw [nm1]; exact Or.inl ⟨by decide, by decide, cl_xIO, ca_xIO, rfl⟩, fun q => ?_⟩
      refine g_blk [(.astore_n 3, .null), (.iconst 1, .int (nI 1))] (Nat.le_of_ble_eq_true rfl) (by decide +kernel) ?_
      refine gx_astore_n_3 rfl (gx_iconst ((gx_nil ?_)))
      exact g_end (some (.int _)) rfl ⟨by decide +kernel, _, rfl, rfl⟩ ⟨rfl, _, hP, (if_neg (by decide)).symm⟩
  · obtain ⟨ht, rfl, hP⟩ := hz
    simp only [Option.toList_some, List.cons_append, List.nil_append]
    refine g_blk [(.i2l, .null)] (Nat.le_of_ble_eq_true rfl) (by decide +kernel) ?_
    refine gx_i2l ((gx_nil ?_))
    refine g_lastore (by decide +kernel) (ho _ hP) (vp_in_nI (by omega) (by omega)) ?_
    rw [n0c]
    refine g_blk [(.goto 6, .retAddr 15), (.iconst 0, .int (nI 0))] (Nat.le_of_ble_eq_true rfl) (by decide +kernel) ?_
    refine gx_goto (gx_iconst ((gx_nil ?_)))
    refine g_end (some (.int _)) rfl ⟨by decide +kernel, _, rfl, rfl⟩ ⟨?_, _, hP, ?_⟩
    · rw [ht]; exact congrArg (fun z => some (Value.int z)) z0
    · rw [if_pos ht]
theorem lw_matchLength {m out W : Nat} {f : Nat → Int64} {fs : List Value} {τ : Int32} {x : Int32} {P : gHp → Prop} (hnc : gPnc Γ) (p0 : Int32) (hm : h m = some (gJ 12 fs)) (hC : fC Γ M_X9_matchLength [.ref m, .int p0] h W τ (.int x) (nmOf xIA xIA xIA) P) (ht9 : τ = 0 ∨ τ = nI 1) (ho : ∀ h1, P h1 → h1 out = some (gLo Γ 1 f)) : gC Γ M_L_matchLength [.ref m, .int p0, .ref out] h 31 1000 W (wZ Γ τ (x.toInt64) out f P) (fun _ _ => False) := by
  refine gC_ofH (by decide) (by decide) (Nat.le_of_ble_eq_true rfl) [some (.ref m), some (.int p0), some (.ref out), none] rfl ?_
  refine g_blk [(.aload_n 2, .null), (.iconst 0, .int (nI 0)), (.aload_n 0, .null), (.iload_n 1, .null)] (Nat.le_of_ble_eq_true rfl) (by decide +kernel) ?_
  refine gx_aload_n_2 (gx_iconst (gx_aload_n_0 (gx_iload_n_1 ((gx_nil ?_)))))
  refine g_callVH (rc' := 0) (rs' := 0) kL_92 hC (by decide +kernel) rfl rfl hm rfl (Nat.le_of_ble_eq_true rfl) (Nat.le_of_ble_eq_true rfl) (Nat.le_of_ble_eq_true rfl) (by omega) (by omega) (fun E h' hx => ?_) (fun v h' hz => ?_)
  · obtain ⟨ht, rfl, hP⟩ := hx
    rcases ht9 with t | t
    · exact absurd t ht
    · subst t
      refine ⟨12, by rw [nm1]; exact Or.inl ⟨by decide, by decide, cl_xIA, ca_xIA, rfl⟩, fun q => ?_⟩
      refine g_blk [(.astore_n 3, .null), (.iconst 1, .int (nI 1))] (Nat.le_of_ble_eq_true rfl) (by decide +kernel) ?_
      refine gx_astore_n_3 rfl (gx_iconst ((gx_nil ?_)))
      exact g_end (some (.int _)) rfl ⟨by decide +kernel, _, rfl, rfl⟩ ⟨rfl, _, hP, (if_neg (by decide)).symm⟩
  · obtain ⟨ht, rfl, hP⟩ := hz
    simp only [Option.toList_some, List.cons_append, List.nil_append]
    refine g_blk [(.i2l, .null)] (Nat.le_of_ble_eq_true rfl) (by decide +kernel) ?_
    refine gx_i2l ((gx_nil ?_))
    refine g_lastore (by decide +kernel) (ho _ hP) (vp_in_nI (by omega) (by omega)) ?_
    rw [n0c]
    refine g_blk [(.goto 6, .retAddr 15), (.iconst 0, .int (nI 0))] (Nat.le_of_ble_eq_true rfl) (by decide +kernel) ?_
    refine gx_goto (gx_iconst ((gx_nil ?_)))
    refine g_end (some (.int _)) rfl ⟨by decide +kernel, _, rfl, rfl⟩ ⟨?_, _, hP, ?_⟩
    · rw [ht]; exact congrArg (fun z => some (Value.int z)) z0
    · rw [if_pos ht]
theorem lw_meanWeight {m out W : Nat} {f : Nat → UInt64} {fs : List Value} {τ : Int32} {x : UInt64} {P : gHp → Prop} (hnc : gPnc Γ) (hm : h m = some (gJ 12 fs)) (hC : fC Γ M_X9_meanWeight [.ref m] h W τ (.double x) (nmOf xAR xAR xAR) P) (ht9 : τ = 0 ∨ τ = nI 1) (ho : ∀ h1, P h1 → h1 out = some (gDo Γ 1 f)) : gC Γ M_L_meanWeight [.ref m, .ref out] h 31 1000 W (wD Γ τ (x) out f P) (fun _ _ => False) := by
  refine gC_ofH (by decide) (by decide) (Nat.le_of_ble_eq_true rfl) [some (.ref m), some (.ref out), none] rfl ?_
  refine g_blk [(.aload_n 1, .null), (.iconst 0, .int (nI 0)), (.aload_n 0, .null)] (Nat.le_of_ble_eq_true rfl) (by decide +kernel) ?_
  refine gx_aload_n_1 (gx_iconst (gx_aload_n_0 ((gx_nil ?_))))
  refine g_callVH (rc' := 0) (rs' := 0) kL_137 hC (by decide +kernel) rfl rfl hm rfl (Nat.le_of_ble_eq_true rfl) (Nat.le_of_ble_eq_true rfl) (Nat.le_of_ble_eq_true rfl) (by omega) (by omega) (fun E h' hx => ?_) (fun v h' hz => ?_)
  · obtain ⟨ht, rfl, hP⟩ := hx
    rcases ht9 with t | t
    · exact absurd t ht
    · subst t
      refine ⟨10, by rw [nm1]; exact Or.inl ⟨by decide, by decide, cl_xAR, ca_xAR, rfl⟩, fun q => ?_⟩
      refine g_blk [(.astore_n 2, .null), (.iconst 1, .int (nI 1))] (Nat.le_of_ble_eq_true rfl) (by decide +kernel) ?_
      refine gx_astore_n_2 rfl (gx_iconst ((gx_nil ?_)))
      exact g_end (some (.int _)) rfl ⟨by decide +kernel, _, rfl, rfl⟩ ⟨rfl, _, hP, (if_neg (by decide)).symm⟩
  · obtain ⟨ht, rfl, hP⟩ := hz
    simp only [Option.toList_some, List.cons_append, List.nil_append]
    refine g_dastore (by decide +kernel) (ho _ hP) (vp_in_nI (by omega) (by omega)) ?_
    rw [n0c]
    refine g_blk [(.goto 6, .retAddr 13), (.iconst 0, .int (nI 0))] (Nat.le_of_ble_eq_true rfl) (by decide +kernel) ?_
    refine gx_goto (gx_iconst ((gx_nil ?_)))
    refine g_end (some (.int _)) rfl ⟨by decide +kernel, _, rfl, rfl⟩ ⟨?_, _, hP, ?_⟩
    · rw [ht]; exact congrArg (fun z => some (Value.int z)) z0
    · rw [if_pos ht]
theorem lw_pass {m out W : Nat} {f : Nat → Int64} {fs : List Value} {τ : Int32} {x : Int32} {P : gHp → Prop} (hnc : gPnc Γ) (p0 : Int32) (hm : h m = some (gJ 12 fs)) (hC : fC Γ M_X9_pass [.ref m, .int p0] h W τ (.int x) (nmOf xIA xIA xIA) P) (ht9 : τ = 0 ∨ τ = nI 1) (ho : ∀ h1, P h1 → h1 out = some (gLo Γ 1 f)) : gC Γ M_L_pass [.ref m, .int p0, .ref out] h 31 1000 W (wZ Γ τ (x.toInt64) out f P) (fun _ _ => False) := by
  refine gC_ofH (by decide) (by decide) (Nat.le_of_ble_eq_true rfl) [some (.ref m), some (.int p0), some (.ref out), none] rfl ?_
  refine g_blk [(.aload_n 2, .null), (.iconst 0, .int (nI 0)), (.aload_n 0, .null), (.iload_n 1, .null)] (Nat.le_of_ble_eq_true rfl) (by decide +kernel) ?_
  refine gx_aload_n_2 (gx_iconst (gx_aload_n_0 (gx_iload_n_1 ((gx_nil ?_)))))
  refine g_callVH (rc' := 0) (rs' := 0) kL_45 hC (by decide +kernel) rfl rfl hm rfl (Nat.le_of_ble_eq_true rfl) (Nat.le_of_ble_eq_true rfl) (Nat.le_of_ble_eq_true rfl) (by omega) (by omega) (fun E h' hx => ?_) (fun v h' hz => ?_)
  · obtain ⟨ht, rfl, hP⟩ := hx
    rcases ht9 with t | t
    · exact absurd t ht
    · subst t
      refine ⟨12, by rw [nm1]; exact Or.inl ⟨by decide, by decide, cl_xIA, ca_xIA, rfl⟩, fun q => ?_⟩
      refine g_blk [(.astore_n 3, .null), (.iconst 1, .int (nI 1))] (Nat.le_of_ble_eq_true rfl) (by decide +kernel) ?_
      refine gx_astore_n_3 rfl (gx_iconst ((gx_nil ?_)))
      exact g_end (some (.int _)) rfl ⟨by decide +kernel, _, rfl, rfl⟩ ⟨rfl, _, hP, (if_neg (by decide)).symm⟩
  · obtain ⟨ht, rfl, hP⟩ := hz
    simp only [Option.toList_some, List.cons_append, List.nil_append]
    refine g_blk [(.i2l, .null)] (Nat.le_of_ble_eq_true rfl) (by decide +kernel) ?_
    refine gx_i2l ((gx_nil ?_))
    refine g_lastore (by decide +kernel) (ho _ hP) (vp_in_nI (by omega) (by omega)) ?_
    rw [n0c]
    refine g_blk [(.goto 6, .retAddr 15), (.iconst 0, .int (nI 0))] (Nat.le_of_ble_eq_true rfl) (by decide +kernel) ?_
    refine gx_goto (gx_iconst ((gx_nil ?_)))
    refine g_end (some (.int _)) rfl ⟨by decide +kernel, _, rfl, rfl⟩ ⟨?_, _, hP, ?_⟩
    · rw [ht]; exact congrArg (fun z => some (Value.int z)) z0
    · rw [if_pos ht]
theorem lw_place {m out W : Nat} {f : Nat → Int64} {fs : List Value} {τ : Int32} {x : Int32} {P : gHp → Prop} (hnc : gPnc Γ) (p0 : Int32) (p1 : Int32) (hm : h m = some (gJ 12 fs)) (hC : fC Γ M_X9_place [.ref m, .int p0, .int p1] h W τ (.int x) (nmOf xNS xIO xIS) P) (ht9 : τ = 0 ∨ τ = nI 1 ∨ τ = nI 2 ∨ τ = nI 3) (ho : ∀ h1, P h1 → h1 out = some (gLo Γ 1 f)) : gC Γ M_L_place [.ref m, .int p0, .int p1, .ref out] h 31 1000 W (wZ Γ τ (x.toInt64) out f P) (fun _ _ => False) := by
  refine gC_ofH (by decide) (by decide) (Nat.le_of_ble_eq_true rfl) [some (.ref m), some (.int p0), some (.int p1), some (.ref out), none] rfl ?_
  refine g_blk [(.aload_n 3, .null), (.iconst 0, .int (nI 0)), (.aload_n 0, .null), (.iload_n 1, .null), (.iload_n 2, .null)] (Nat.le_of_ble_eq_true rfl) (by decide +kernel) ?_
  refine gx_aload_n_3 (gx_iconst (gx_aload_n_0 (gx_iload_n_1 (gx_iload_n_2 ((gx_nil ?_))))))
  refine g_callVH (rc' := 0) (rs' := 0) kL_33 hC (by decide +kernel) rfl rfl hm rfl (Nat.le_of_ble_eq_true rfl) (Nat.le_of_ble_eq_true rfl) (Nat.le_of_ble_eq_true rfl) (by omega) (by omega) (fun E h' hx => ?_) (fun v h' hz => ?_)
  · obtain ⟨ht, rfl, hP⟩ := hx
    rcases ht9 with t | t | t | t
    · exact absurd t ht
    · subst t
      refine ⟨13, by rw [nm1]; exact Or.inl ⟨by decide, by decide, cl_xNS, ca_xNS, rfl⟩, fun q => ?_⟩
      refine g_blk [(.astore 4, .null), (.iconst 1, .int (nI 1))] (Nat.le_of_ble_eq_true rfl) (by decide +kernel) ?_
      refine gx_astore_4 rfl (gx_iconst ((gx_nil ?_)))
      exact g_end (some (.int _)) rfl ⟨by decide +kernel, _, rfl, rfl⟩ ⟨rfl, _, hP, (if_neg (by decide)).symm⟩
    · subst t
      refine ⟨17, by rw [nm2]; exact Or.inr ⟨⟨by decide, _, cl_xNS, hnc _ (by decide) _ (by decide) (by decide)⟩, Or.inl ⟨by decide, by decide, cl_xIO, ca_xIO, rfl⟩⟩, fun q => ?_⟩
      refine g_blk [(.astore 4, .null), (.iconst 2, .int (nI 2))] (Nat.le_of_ble_eq_true rfl) (by decide +kernel) ?_
      refine gx_astore_4 rfl (gx_iconst ((gx_nil ?_)))
      exact g_end (some (.int _)) rfl ⟨by decide +kernel, _, rfl, rfl⟩ ⟨rfl, _, hP, (if_neg (by decide)).symm⟩
    · subst t
      refine ⟨21, by rw [nm3]; exact Or.inr ⟨⟨by decide, _, cl_xNS, hnc _ (by decide) _ (by decide) (by decide)⟩, Or.inr ⟨⟨by decide, _, cl_xIO, hnc _ (by decide) _ (by decide) (by decide)⟩, Or.inl ⟨by decide, by decide, cl_xIS, ca_xIS, rfl⟩⟩⟩, fun q => ?_⟩
      refine g_blk [(.astore 4, .null), (.iconst 3, .int (nI 3))] (Nat.le_of_ble_eq_true rfl) (by decide +kernel) ?_
      refine gx_astore_4 rfl (gx_iconst ((gx_nil ?_)))
      exact g_end (some (.int _)) rfl ⟨by decide +kernel, _, rfl, rfl⟩ ⟨rfl, _, hP, (if_neg (by decide)).symm⟩
  · obtain ⟨ht, rfl, hP⟩ := hz
    simp only [Option.toList_some, List.cons_append, List.nil_append]
    refine g_blk [(.i2l, .null)] (Nat.le_of_ble_eq_true rfl) (by decide +kernel) ?_
    refine gx_i2l ((gx_nil ?_))
    refine g_lastore (by decide +kernel) (ho _ hP) (vp_in_nI (by omega) (by omega)) ?_
    rw [n0c]
    refine g_blk [(.goto 15, .retAddr 25), (.iconst 0, .int (nI 0))] (Nat.le_of_ble_eq_true rfl) (by decide +kernel) ?_
    refine gx_goto (gx_iconst ((gx_nil ?_)))
    refine g_end (some (.int _)) rfl ⟨by decide +kernel, _, rfl, rfl⟩ ⟨?_, _, hP, ?_⟩
    · rw [ht]; exact congrArg (fun z => some (Value.int z)) z0
    · rw [if_pos ht]
theorem lw_pull {m out W : Nat} {f : Nat → Int64} {fs : List Value} {τ : Int32} {x : Int32} {P : gHp → Prop} (hnc : gPnc Γ) (p0 : Int32) (hm : h m = some (gJ 12 fs)) (hC : fC Γ M_X9_pull [.ref m, .int p0] h W τ (.int x) (nmOf xNS xIS xIS) P) (ht9 : τ = 0 ∨ τ = nI 1 ∨ τ = nI 2) (ho : ∀ h1, P h1 → h1 out = some (gLo Γ 1 f)) : gC Γ M_L_pull [.ref m, .int p0, .ref out] h 31 1000 W (wZ Γ τ (x.toInt64) out f P) (fun _ _ => False) := by
  refine gC_ofH (by decide) (by decide) (Nat.le_of_ble_eq_true rfl) [some (.ref m), some (.int p0), some (.ref out), none] rfl ?_
  refine g_blk [(.aload_n 2, .null), (.iconst 0, .int (nI 0)), (.aload_n 0, .null), (.iload_n 1, .null)] (Nat.le_of_ble_eq_true rfl) (by decide +kernel) ?_
  refine gx_aload_n_2 (gx_iconst (gx_aload_n_0 (gx_iload_n_1 ((gx_nil ?_)))))
  refine g_callVH (rc' := 0) (rs' := 0) kL_36 hC (by decide +kernel) rfl rfl hm rfl (Nat.le_of_ble_eq_true rfl) (Nat.le_of_ble_eq_true rfl) (Nat.le_of_ble_eq_true rfl) (by omega) (by omega) (fun E h' hx => ?_) (fun v h' hz => ?_)
  · obtain ⟨ht, rfl, hP⟩ := hx
    rcases ht9 with t | t | t
    · exact absurd t ht
    · subst t
      refine ⟨12, by rw [nm1]; exact Or.inl ⟨by decide, by decide, cl_xNS, ca_xNS, rfl⟩, fun q => ?_⟩
      refine g_blk [(.astore_n 3, .null), (.iconst 1, .int (nI 1))] (Nat.le_of_ble_eq_true rfl) (by decide +kernel) ?_
      refine gx_astore_n_3 rfl (gx_iconst ((gx_nil ?_)))
      exact g_end (some (.int _)) rfl ⟨by decide +kernel, _, rfl, rfl⟩ ⟨rfl, _, hP, (if_neg (by decide)).symm⟩
    · subst t
      refine ⟨15, by rw [nm2]; exact Or.inr ⟨⟨by decide, _, cl_xNS, hnc _ (by decide) _ (by decide) (by decide)⟩, Or.inl ⟨by decide, by decide, cl_xIS, ca_xIS, rfl⟩⟩, fun q => ?_⟩
      refine g_blk [(.astore_n 3, .null), (.iconst 2, .int (nI 2))] (Nat.le_of_ble_eq_true rfl) (by decide +kernel) ?_
      refine gx_astore_n_3 rfl (gx_iconst ((gx_nil ?_)))
      exact g_end (some (.int _)) rfl ⟨by decide +kernel, _, rfl, rfl⟩ ⟨rfl, _, hP, (if_neg (by decide)).symm⟩
  · obtain ⟨ht, rfl, hP⟩ := hz
    simp only [Option.toList_some, List.cons_append, List.nil_append]
    refine g_blk [(.i2l, .null)] (Nat.le_of_ble_eq_true rfl) (by decide +kernel) ?_
    refine gx_i2l ((gx_nil ?_))
    refine g_lastore (by decide +kernel) (ho _ hP) (vp_in_nI (by omega) (by omega)) ?_
    rw [n0c]
    refine g_blk [(.goto 9, .retAddr 18), (.iconst 0, .int (nI 0))] (Nat.le_of_ble_eq_true rfl) (by decide +kernel) ?_
    refine gx_goto (gx_iconst ((gx_nil ?_)))
    refine g_end (some (.int _)) rfl ⟨by decide +kernel, _, rfl, rfl⟩ ⟨?_, _, hP, ?_⟩
    · rw [ht]; exact congrArg (fun z => some (Value.int z)) z0
    · rw [if_pos ht]
theorem lw_removePrefix {m out W : Nat} {f : Nat → Int64} {fs : List Value} {τ : Int32} {x : Int32} {P : gHp → Prop} (hnc : gPnc Γ) (p0 : Int32) (p1 : Int32) (hm : h m = some (gJ 12 fs)) (hC : fC Γ M_X9_removePrefix [.ref m, .int p0, .int p1] h W τ (.int x) (nmOf xIA xNS xNS) P) (ht9 : τ = 0 ∨ τ = nI 1 ∨ τ = nI 2) (ho : ∀ h1, P h1 → h1 out = some (gLo Γ 1 f)) : gC Γ M_L_removePrefix [.ref m, .int p0, .int p1, .ref out] h 31 1000 W (wZ Γ τ (x.toInt64) out f P) (fun _ _ => False) := by
  refine gC_ofH (by decide) (by decide) (Nat.le_of_ble_eq_true rfl) [some (.ref m), some (.int p0), some (.int p1), some (.ref out), none] rfl ?_
  refine g_blk [(.aload_n 3, .null), (.iconst 0, .int (nI 0)), (.aload_n 0, .null), (.iload_n 1, .null), (.iload_n 2, .null)] (Nat.le_of_ble_eq_true rfl) (by decide +kernel) ?_
  refine gx_aload_n_3 (gx_iconst (gx_aload_n_0 (gx_iload_n_1 (gx_iload_n_2 ((gx_nil ?_))))))
  refine g_callVH (rc' := 0) (rs' := 0) kL_23 hC (by decide +kernel) rfl rfl hm rfl (Nat.le_of_ble_eq_true rfl) (Nat.le_of_ble_eq_true rfl) (Nat.le_of_ble_eq_true rfl) (by omega) (by omega) (fun E h' hx => ?_) (fun v h' hz => ?_)
  · obtain ⟨ht, rfl, hP⟩ := hx
    rcases ht9 with t | t | t
    · exact absurd t ht
    · subst t
      refine ⟨13, by rw [nm1]; exact Or.inl ⟨by decide, by decide, cl_xIA, ca_xIA, rfl⟩, fun q => ?_⟩
      refine g_blk [(.astore 4, .null), (.iconst 1, .int (nI 1))] (Nat.le_of_ble_eq_true rfl) (by decide +kernel) ?_
      refine gx_astore_4 rfl (gx_iconst ((gx_nil ?_)))
      exact g_end (some (.int _)) rfl ⟨by decide +kernel, _, rfl, rfl⟩ ⟨rfl, _, hP, (if_neg (by decide)).symm⟩
    · subst t
      refine ⟨17, by rw [nm2]; exact Or.inr ⟨⟨by decide, _, cl_xIA, hnc _ (by decide) _ (by decide) (by decide)⟩, Or.inl ⟨by decide, by decide, cl_xNS, ca_xNS, rfl⟩⟩, fun q => ?_⟩
      refine g_blk [(.astore 4, .null), (.iconst 2, .int (nI 2))] (Nat.le_of_ble_eq_true rfl) (by decide +kernel) ?_
      refine gx_astore_4 rfl (gx_iconst ((gx_nil ?_)))
      exact g_end (some (.int _)) rfl ⟨by decide +kernel, _, rfl, rfl⟩ ⟨rfl, _, hP, (if_neg (by decide)).symm⟩
  · obtain ⟨ht, rfl, hP⟩ := hz
    simp only [Option.toList_some, List.cons_append, List.nil_append]
    refine g_blk [(.i2l, .null)] (Nat.le_of_ble_eq_true rfl) (by decide +kernel) ?_
    refine gx_i2l ((gx_nil ?_))
    refine g_lastore (by decide +kernel) (ho _ hP) (vp_in_nI (by omega) (by omega)) ?_
    rw [n0c]
    refine g_blk [(.goto 11, .retAddr 21), (.iconst 0, .int (nI 0))] (Nat.le_of_ble_eq_true rfl) (by decide +kernel) ?_
    refine gx_goto (gx_iconst ((gx_nil ?_)))
    refine g_end (some (.int _)) rfl ⟨by decide +kernel, _, rfl, rfl⟩ ⟨?_, _, hP, ?_⟩
    · rw [ht]; exact congrArg (fun z => some (Value.int z)) z0
    · rw [if_pos ht]
theorem lw_restore {m out W : Nat} {f : Nat → Int64} {fs : List Value} {τ : Int32} {x : Int32} {P : gHp → Prop} (hnc : gPnc Γ) (hm : h m = some (gJ 12 fs)) (hC : fC Γ M_X9_restore [.ref m] h W τ (.int x) (nmOf xIS xIS xIS) P) (ht9 : τ = 0 ∨ τ = nI 1) (ho : ∀ h1, P h1 → h1 out = some (gLo Γ 1 f)) : gC Γ M_L_restore [.ref m, .ref out] h 31 1000 W (wZ Γ τ (x.toInt64) out f P) (fun _ _ => False) := by
  refine gC_ofH (by decide) (by decide) (Nat.le_of_ble_eq_true rfl) [some (.ref m), some (.ref out), none] rfl ?_
  refine g_blk [(.aload_n 1, .null), (.iconst 0, .int (nI 0)), (.aload_n 0, .null)] (Nat.le_of_ble_eq_true rfl) (by decide +kernel) ?_
  refine gx_aload_n_1 (gx_iconst (gx_aload_n_0 ((gx_nil ?_))))
  refine g_callVH (rc' := 0) (rs' := 0) kL_171 hC (by decide +kernel) rfl rfl hm rfl (Nat.le_of_ble_eq_true rfl) (Nat.le_of_ble_eq_true rfl) (Nat.le_of_ble_eq_true rfl) (by omega) (by omega) (fun E h' hx => ?_) (fun v h' hz => ?_)
  · obtain ⟨ht, rfl, hP⟩ := hx
    rcases ht9 with t | t
    · exact absurd t ht
    · subst t
      refine ⟨11, by rw [nm1]; exact Or.inl ⟨by decide, by decide, cl_xIS, ca_xIS, rfl⟩, fun q => ?_⟩
      refine g_blk [(.astore_n 2, .null), (.iconst 1, .int (nI 1))] (Nat.le_of_ble_eq_true rfl) (by decide +kernel) ?_
      refine gx_astore_n_2 rfl (gx_iconst ((gx_nil ?_)))
      exact g_end (some (.int _)) rfl ⟨by decide +kernel, _, rfl, rfl⟩ ⟨rfl, _, hP, (if_neg (by decide)).symm⟩
  · obtain ⟨ht, rfl, hP⟩ := hz
    simp only [Option.toList_some, List.cons_append, List.nil_append]
    refine g_blk [(.i2l, .null)] (Nat.le_of_ble_eq_true rfl) (by decide +kernel) ?_
    refine gx_i2l ((gx_nil ?_))
    refine g_lastore (by decide +kernel) (ho _ hP) (vp_in_nI (by omega) (by omega)) ?_
    rw [n0c]
    refine g_blk [(.goto 6, .retAddr 14), (.iconst 0, .int (nI 0))] (Nat.le_of_ble_eq_true rfl) (by decide +kernel) ?_
    refine gx_goto (gx_iconst ((gx_nil ?_)))
    refine g_end (some (.int _)) rfl ⟨by decide +kernel, _, rfl, rfl⟩ ⟨?_, _, hP, ?_⟩
    · rw [ht]; exact congrArg (fun z => some (Value.int z)) z0
    · rw [if_pos ht]
theorem lw_returnsOf {m out W : Nat} {f : Nat → Int64} {fs : List Value} {τ : Int32} {x : Int32} {P : gHp → Prop} (hnc : gPnc Γ) (p0 : Int32) (hm : h m = some (gJ 12 fs)) (hC : fC Γ M_X9_returnsOf [.ref m, .int p0] h W τ (.int x) (nmOf xNS xNS xNS) P) (ht9 : τ = 0 ∨ τ = nI 1) (ho : ∀ h1, P h1 → h1 out = some (gLo Γ 1 f)) : gC Γ M_L_returnsOf [.ref m, .int p0, .ref out] h 31 1000 W (wZ Γ τ (x.toInt64) out f P) (fun _ _ => False) := by
  refine gC_ofH (by decide) (by decide) (Nat.le_of_ble_eq_true rfl) [some (.ref m), some (.int p0), some (.ref out), none] rfl ?_
  refine g_blk [(.aload_n 2, .null), (.iconst 0, .int (nI 0)), (.aload_n 0, .null), (.iload_n 1, .null)] (Nat.le_of_ble_eq_true rfl) (by decide +kernel) ?_
  refine gx_aload_n_2 (gx_iconst (gx_aload_n_0 (gx_iload_n_1 ((gx_nil ?_)))))
  refine g_callVH (rc' := 0) (rs' := 0) kL_61 hC (by decide +kernel) rfl rfl hm rfl (Nat.le_of_ble_eq_true rfl) (Nat.le_of_ble_eq_true rfl) (Nat.le_of_ble_eq_true rfl) (by omega) (by omega) (fun E h' hx => ?_) (fun v h' hz => ?_)
  · obtain ⟨ht, rfl, hP⟩ := hx
    rcases ht9 with t | t
    · exact absurd t ht
    · subst t
      refine ⟨12, by rw [nm1]; exact Or.inl ⟨by decide, by decide, cl_xNS, ca_xNS, rfl⟩, fun q => ?_⟩
      refine g_blk [(.astore_n 3, .null), (.iconst 1, .int (nI 1))] (Nat.le_of_ble_eq_true rfl) (by decide +kernel) ?_
      refine gx_astore_n_3 rfl (gx_iconst ((gx_nil ?_)))
      exact g_end (some (.int _)) rfl ⟨by decide +kernel, _, rfl, rfl⟩ ⟨rfl, _, hP, (if_neg (by decide)).symm⟩
  · obtain ⟨ht, rfl, hP⟩ := hz
    simp only [Option.toList_some, List.cons_append, List.nil_append]
    refine g_blk [(.i2l, .null)] (Nat.le_of_ble_eq_true rfl) (by decide +kernel) ?_
    refine gx_i2l ((gx_nil ?_))
    refine g_lastore (by decide +kernel) (ho _ hP) (vp_in_nI (by omega) (by omega)) ?_
    rw [n0c]
    refine g_blk [(.goto 6, .retAddr 15), (.iconst 0, .int (nI 0))] (Nat.le_of_ble_eq_true rfl) (by decide +kernel) ?_
    refine gx_goto (gx_iconst ((gx_nil ?_)))
    refine g_end (some (.int _)) rfl ⟨by decide +kernel, _, rfl, rfl⟩ ⟨?_, _, hP, ?_⟩
    · rw [ht]; exact congrArg (fun z => some (Value.int z)) z0
    · rw [if_pos ht]
theorem lw_routeByWeight {m out W : Nat} {f : Nat → Int64} {fs : List Value} {τ : Int32} {x : Int32} {P : gHp → Prop} (hnc : gPnc Γ) (p0 : Int32) (hm : h m = some (gJ 12 fs)) (hC : fC Γ M_X9_routeByWeight [.ref m, .int p0] h W τ (.int x) (nmOf xNS xNS xNS) P) (ht9 : τ = 0 ∨ τ = nI 1) (ho : ∀ h1, P h1 → h1 out = some (gLo Γ 1 f)) : gC Γ M_L_routeByWeight [.ref m, .int p0, .ref out] h 31 1000 W (wZ Γ τ (x.toInt64) out f P) (fun _ _ => False) := by
  refine gC_ofH (by decide) (by decide) (Nat.le_of_ble_eq_true rfl) [some (.ref m), some (.int p0), some (.ref out), none] rfl ?_
  refine g_blk [(.aload_n 2, .null), (.iconst 0, .int (nI 0)), (.aload_n 0, .null), (.iload_n 1, .null)] (Nat.le_of_ble_eq_true rfl) (by decide +kernel) ?_
  refine gx_aload_n_2 (gx_iconst (gx_aload_n_0 (gx_iload_n_1 ((gx_nil ?_)))))
  refine g_callVH (rc' := 0) (rs' := 0) kL_134 hC (by decide +kernel) rfl rfl hm rfl (Nat.le_of_ble_eq_true rfl) (Nat.le_of_ble_eq_true rfl) (Nat.le_of_ble_eq_true rfl) (by omega) (by omega) (fun E h' hx => ?_) (fun v h' hz => ?_)
  · obtain ⟨ht, rfl, hP⟩ := hx
    rcases ht9 with t | t
    · exact absurd t ht
    · subst t
      refine ⟨12, by rw [nm1]; exact Or.inl ⟨by decide, by decide, cl_xNS, ca_xNS, rfl⟩, fun q => ?_⟩
      refine g_blk [(.astore_n 3, .null), (.iconst 1, .int (nI 1))] (Nat.le_of_ble_eq_true rfl) (by decide +kernel) ?_
      refine gx_astore_n_3 rfl (gx_iconst ((gx_nil ?_)))
      exact g_end (some (.int _)) rfl ⟨by decide +kernel, _, rfl, rfl⟩ ⟨rfl, _, hP, (if_neg (by decide)).symm⟩
  · obtain ⟨ht, rfl, hP⟩ := hz
    simp only [Option.toList_some, List.cons_append, List.nil_append]
    refine g_blk [(.i2l, .null)] (Nat.le_of_ble_eq_true rfl) (by decide +kernel) ?_
    refine gx_i2l ((gx_nil ?_))
    refine g_lastore (by decide +kernel) (ho _ hP) (vp_in_nI (by omega) (by omega)) ?_
    rw [n0c]
    refine g_blk [(.goto 6, .retAddr 15), (.iconst 0, .int (nI 0))] (Nat.le_of_ble_eq_true rfl) (by decide +kernel) ?_
    refine gx_goto (gx_iconst ((gx_nil ?_)))
    refine g_end (some (.int _)) rfl ⟨by decide +kernel, _, rfl, rfl⟩ ⟨?_, _, hP, ?_⟩
    · rw [ht]; exact congrArg (fun z => some (Value.int z)) z0
    · rw [if_pos ht]
theorem lw_routeFor {m out W : Nat} {f : Nat → Int64} {fs : List Value} {τ : Int32} {x : Int32} {P : gHp → Prop} (hnc : gPnc Γ) (p0 : Int32) (hm : h m = some (gJ 12 fs)) (hC : fC Γ M_X9_routeFor [.ref m, .int p0] h W τ (.int x) (nmOf xIA xNS xNS) P) (ht9 : τ = 0 ∨ τ = nI 1 ∨ τ = nI 2) (ho : ∀ h1, P h1 → h1 out = some (gLo Γ 1 f)) : gC Γ M_L_routeFor [.ref m, .int p0, .ref out] h 31 1000 W (wZ Γ τ (x.toInt64) out f P) (fun _ _ => False) := by
  refine gC_ofH (by decide) (by decide) (Nat.le_of_ble_eq_true rfl) [some (.ref m), some (.int p0), some (.ref out), none] rfl ?_
  refine g_blk [(.aload_n 2, .null), (.iconst 0, .int (nI 0)), (.aload_n 0, .null), (.iload_n 1, .null)] (Nat.le_of_ble_eq_true rfl) (by decide +kernel) ?_
  refine gx_aload_n_2 (gx_iconst (gx_aload_n_0 (gx_iload_n_1 ((gx_nil ?_)))))
  refine g_callVH (rc' := 0) (rs' := 0) kL_86 hC (by decide +kernel) rfl rfl hm rfl (Nat.le_of_ble_eq_true rfl) (Nat.le_of_ble_eq_true rfl) (Nat.le_of_ble_eq_true rfl) (by omega) (by omega) (fun E h' hx => ?_) (fun v h' hz => ?_)
  · obtain ⟨ht, rfl, hP⟩ := hx
    rcases ht9 with t | t | t
    · exact absurd t ht
    · subst t
      refine ⟨12, by rw [nm1]; exact Or.inl ⟨by decide, by decide, cl_xIA, ca_xIA, rfl⟩, fun q => ?_⟩
      refine g_blk [(.astore_n 3, .null), (.iconst 1, .int (nI 1))] (Nat.le_of_ble_eq_true rfl) (by decide +kernel) ?_
      refine gx_astore_n_3 rfl (gx_iconst ((gx_nil ?_)))
      exact g_end (some (.int _)) rfl ⟨by decide +kernel, _, rfl, rfl⟩ ⟨rfl, _, hP, (if_neg (by decide)).symm⟩
    · subst t
      refine ⟨15, by rw [nm2]; exact Or.inr ⟨⟨by decide, _, cl_xIA, hnc _ (by decide) _ (by decide) (by decide)⟩, Or.inl ⟨by decide, by decide, cl_xNS, ca_xNS, rfl⟩⟩, fun q => ?_⟩
      refine g_blk [(.astore_n 3, .null), (.iconst 2, .int (nI 2))] (Nat.le_of_ble_eq_true rfl) (by decide +kernel) ?_
      refine gx_astore_n_3 rfl (gx_iconst ((gx_nil ?_)))
      exact g_end (some (.int _)) rfl ⟨by decide +kernel, _, rfl, rfl⟩ ⟨rfl, _, hP, (if_neg (by decide)).symm⟩
  · obtain ⟨ht, rfl, hP⟩ := hz
    simp only [Option.toList_some, List.cons_append, List.nil_append]
    refine g_blk [(.i2l, .null)] (Nat.le_of_ble_eq_true rfl) (by decide +kernel) ?_
    refine gx_i2l ((gx_nil ?_))
    refine g_lastore (by decide +kernel) (ho _ hP) (vp_in_nI (by omega) (by omega)) ?_
    rw [n0c]
    refine g_blk [(.goto 9, .retAddr 18), (.iconst 0, .int (nI 0))] (Nat.le_of_ble_eq_true rfl) (by decide +kernel) ?_
    refine gx_goto (gx_iconst ((gx_nil ?_)))
    refine g_end (some (.int _)) rfl ⟨by decide +kernel, _, rfl, rfl⟩ ⟨?_, _, hP, ?_⟩
    · rw [ht]; exact congrArg (fun z => some (Value.int z)) z0
    · rw [if_pos ht]
theorem lw_routeForByTree {m out W : Nat} {f : Nat → Int64} {fs : List Value} {τ : Int32} {x : Int32} {P : gHp → Prop} (hnc : gPnc Γ) (p0 : Int32) (hm : h m = some (gJ 12 fs)) (hC : fC Γ M_X9_routeForByTree [.ref m, .int p0] h W τ (.int x) (nmOf xIA xNS xNS) P) (ht9 : τ = 0 ∨ τ = nI 1 ∨ τ = nI 2) (ho : ∀ h1, P h1 → h1 out = some (gLo Γ 1 f)) : gC Γ M_L_routeForByTree [.ref m, .int p0, .ref out] h 31 1000 W (wZ Γ τ (x.toInt64) out f P) (fun _ _ => False) := by
  refine gC_ofH (by decide) (by decide) (Nat.le_of_ble_eq_true rfl) [some (.ref m), some (.int p0), some (.ref out), none] rfl ?_
  refine g_blk [(.aload_n 2, .null), (.iconst 0, .int (nI 0)), (.aload_n 0, .null), (.iload_n 1, .null)] (Nat.le_of_ble_eq_true rfl) (by decide +kernel) ?_
  refine gx_aload_n_2 (gx_iconst (gx_aload_n_0 (gx_iload_n_1 ((gx_nil ?_)))))
  refine g_callVH (rc' := 0) (rs' := 0) kL_89 hC (by decide +kernel) rfl rfl hm rfl (Nat.le_of_ble_eq_true rfl) (Nat.le_of_ble_eq_true rfl) (Nat.le_of_ble_eq_true rfl) (by omega) (by omega) (fun E h' hx => ?_) (fun v h' hz => ?_)
  · obtain ⟨ht, rfl, hP⟩ := hx
    rcases ht9 with t | t | t
    · exact absurd t ht
    · subst t
      refine ⟨12, by rw [nm1]; exact Or.inl ⟨by decide, by decide, cl_xIA, ca_xIA, rfl⟩, fun q => ?_⟩
      refine g_blk [(.astore_n 3, .null), (.iconst 1, .int (nI 1))] (Nat.le_of_ble_eq_true rfl) (by decide +kernel) ?_
      refine gx_astore_n_3 rfl (gx_iconst ((gx_nil ?_)))
      exact g_end (some (.int _)) rfl ⟨by decide +kernel, _, rfl, rfl⟩ ⟨rfl, _, hP, (if_neg (by decide)).symm⟩
    · subst t
      refine ⟨15, by rw [nm2]; exact Or.inr ⟨⟨by decide, _, cl_xIA, hnc _ (by decide) _ (by decide) (by decide)⟩, Or.inl ⟨by decide, by decide, cl_xNS, ca_xNS, rfl⟩⟩, fun q => ?_⟩
      refine g_blk [(.astore_n 3, .null), (.iconst 2, .int (nI 2))] (Nat.le_of_ble_eq_true rfl) (by decide +kernel) ?_
      refine gx_astore_n_3 rfl (gx_iconst ((gx_nil ?_)))
      exact g_end (some (.int _)) rfl ⟨by decide +kernel, _, rfl, rfl⟩ ⟨rfl, _, hP, (if_neg (by decide)).symm⟩
  · obtain ⟨ht, rfl, hP⟩ := hz
    simp only [Option.toList_some, List.cons_append, List.nil_append]
    refine g_blk [(.i2l, .null)] (Nat.le_of_ble_eq_true rfl) (by decide +kernel) ?_
    refine gx_i2l ((gx_nil ?_))
    refine g_lastore (by decide +kernel) (ho _ hP) (vp_in_nI (by omega) (by omega)) ?_
    rw [n0c]
    refine g_blk [(.goto 9, .retAddr 18), (.iconst 0, .int (nI 0))] (Nat.le_of_ble_eq_true rfl) (by decide +kernel) ?_
    refine gx_goto (gx_iconst ((gx_nil ?_)))
    refine g_end (some (.int _)) rfl ⟨by decide +kernel, _, rfl, rfl⟩ ⟨?_, _, hP, ?_⟩
    · rw [ht]; exact congrArg (fun z => some (Value.int z)) z0
    · rw [if_pos ht]
theorem lw_routeOfBag {m out W : Nat} {f : Nat → Int64} {fs : List Value} {τ : Int32} {x : Int32} {P : gHp → Prop} (hnc : gPnc Γ) (p0 : Int32) (hm : h m = some (gJ 12 fs)) (hC : fC Γ M_X9_routeOfBag [.ref m, .int p0] h W τ (.int x) (nmOf xNS xIS xIS) P) (ht9 : τ = 0 ∨ τ = nI 1 ∨ τ = nI 2) (ho : ∀ h1, P h1 → h1 out = some (gLo Γ 1 f)) : gC Γ M_L_routeOfBag [.ref m, .int p0, .ref out] h 31 1000 W (wZ Γ τ (x.toInt64) out f P) (fun _ _ => False) := by
  refine gC_ofH (by decide) (by decide) (Nat.le_of_ble_eq_true rfl) [some (.ref m), some (.int p0), some (.ref out), none] rfl ?_
  refine g_blk [(.aload_n 2, .null), (.iconst 0, .int (nI 0)), (.aload_n 0, .null), (.iload_n 1, .null)] (Nat.le_of_ble_eq_true rfl) (by decide +kernel) ?_
  refine gx_aload_n_2 (gx_iconst (gx_aload_n_0 (gx_iload_n_1 ((gx_nil ?_)))))
  refine g_callVH (rc' := 0) (rs' := 0) kL_67 hC (by decide +kernel) rfl rfl hm rfl (Nat.le_of_ble_eq_true rfl) (Nat.le_of_ble_eq_true rfl) (Nat.le_of_ble_eq_true rfl) (by omega) (by omega) (fun E h' hx => ?_) (fun v h' hz => ?_)
  · obtain ⟨ht, rfl, hP⟩ := hx
    rcases ht9 with t | t | t
    · exact absurd t ht
    · subst t
      refine ⟨12, by rw [nm1]; exact Or.inl ⟨by decide, by decide, cl_xNS, ca_xNS, rfl⟩, fun q => ?_⟩
      refine g_blk [(.astore_n 3, .null), (.iconst 1, .int (nI 1))] (Nat.le_of_ble_eq_true rfl) (by decide +kernel) ?_
      refine gx_astore_n_3 rfl (gx_iconst ((gx_nil ?_)))
      exact g_end (some (.int _)) rfl ⟨by decide +kernel, _, rfl, rfl⟩ ⟨rfl, _, hP, (if_neg (by decide)).symm⟩
    · subst t
      refine ⟨15, by rw [nm2]; exact Or.inr ⟨⟨by decide, _, cl_xNS, hnc _ (by decide) _ (by decide) (by decide)⟩, Or.inl ⟨by decide, by decide, cl_xIS, ca_xIS, rfl⟩⟩, fun q => ?_⟩
      refine g_blk [(.astore_n 3, .null), (.iconst 2, .int (nI 2))] (Nat.le_of_ble_eq_true rfl) (by decide +kernel) ?_
      refine gx_astore_n_3 rfl (gx_iconst ((gx_nil ?_)))
      exact g_end (some (.int _)) rfl ⟨by decide +kernel, _, rfl, rfl⟩ ⟨rfl, _, hP, (if_neg (by decide)).symm⟩
  · obtain ⟨ht, rfl, hP⟩ := hz
    simp only [Option.toList_some, List.cons_append, List.nil_append]
    refine g_blk [(.i2l, .null)] (Nat.le_of_ble_eq_true rfl) (by decide +kernel) ?_
    refine gx_i2l ((gx_nil ?_))
    refine g_lastore (by decide +kernel) (ho _ hP) (vp_in_nI (by omega) (by omega)) ?_
    rw [n0c]
    refine g_blk [(.goto 9, .retAddr 18), (.iconst 0, .int (nI 0))] (Nat.le_of_ble_eq_true rfl) (by decide +kernel) ?_
    refine gx_goto (gx_iconst ((gx_nil ?_)))
    refine g_end (some (.int _)) rfl ⟨by decide +kernel, _, rfl, rfl⟩ ⟨?_, _, hP, ?_⟩
    · rw [ht]; exact congrArg (fun z => some (Value.int z)) z0
    · rw [if_pos ht]
theorem lw_routeWeight {m out W : Nat} {f : Nat → Int64} {fs : List Value} {τ : Int32} {x : Int32} {P : gHp → Prop} (hnc : gPnc Γ) (p0 : Int32) (hm : h m = some (gJ 12 fs)) (hC : fC Γ M_X9_routeWeight [.ref m, .int p0] h W τ (.int x) (nmOf xIO xIO xIO) P) (ht9 : τ = 0 ∨ τ = nI 1) (ho : ∀ h1, P h1 → h1 out = some (gLo Γ 1 f)) : gC Γ M_L_routeWeight [.ref m, .int p0, .ref out] h 31 1000 W (wZ Γ τ (x.toInt64) out f P) (fun _ _ => False) := by
  refine gC_ofH (by decide) (by decide) (Nat.le_of_ble_eq_true rfl) [some (.ref m), some (.int p0), some (.ref out), none] rfl ?_
  refine g_blk [(.aload_n 2, .null), (.iconst 0, .int (nI 0)), (.aload_n 0, .null), (.iload_n 1, .null)] (Nat.le_of_ble_eq_true rfl) (by decide +kernel) ?_
  refine gx_aload_n_2 (gx_iconst (gx_aload_n_0 (gx_iload_n_1 ((gx_nil ?_)))))
  refine g_callVH (rc' := 0) (rs' := 0) kL_107 hC (by decide +kernel) rfl rfl hm rfl (Nat.le_of_ble_eq_true rfl) (Nat.le_of_ble_eq_true rfl) (Nat.le_of_ble_eq_true rfl) (by omega) (by omega) (fun E h' hx => ?_) (fun v h' hz => ?_)
  · obtain ⟨ht, rfl, hP⟩ := hx
    rcases ht9 with t | t
    · exact absurd t ht
    · subst t
      refine ⟨12, by rw [nm1]; exact Or.inl ⟨by decide, by decide, cl_xIO, ca_xIO, rfl⟩, fun q => ?_⟩
      refine g_blk [(.astore_n 3, .null), (.iconst 1, .int (nI 1))] (Nat.le_of_ble_eq_true rfl) (by decide +kernel) ?_
      refine gx_astore_n_3 rfl (gx_iconst ((gx_nil ?_)))
      exact g_end (some (.int _)) rfl ⟨by decide +kernel, _, rfl, rfl⟩ ⟨rfl, _, hP, (if_neg (by decide)).symm⟩
  · obtain ⟨ht, rfl, hP⟩ := hz
    simp only [Option.toList_some, List.cons_append, List.nil_append]
    refine g_blk [(.i2l, .null)] (Nat.le_of_ble_eq_true rfl) (by decide +kernel) ?_
    refine gx_i2l ((gx_nil ?_))
    refine g_lastore (by decide +kernel) (ho _ hP) (vp_in_nI (by omega) (by omega)) ?_
    rw [n0c]
    refine g_blk [(.goto 6, .retAddr 15), (.iconst 0, .int (nI 0))] (Nat.le_of_ble_eq_true rfl) (by decide +kernel) ?_
    refine gx_goto (gx_iconst ((gx_nil ?_)))
    refine g_end (some (.int _)) rfl ⟨by decide +kernel, _, rfl, rfl⟩ ⟨?_, _, hP, ?_⟩
    · rw [ht]; exact congrArg (fun z => some (Value.int z)) z0
    · rw [if_pos ht]
theorem lw_routeWeightByBags {m out W : Nat} {f : Nat → Int64} {fs : List Value} {τ : Int32} {x : Int32} {P : gHp → Prop} (hnc : gPnc Γ) (p0 : Int32) (hm : h m = some (gJ 12 fs)) (hC : fC Γ M_X9_routeWeightByBags [.ref m, .int p0] h W τ (.int x) (nmOf xIO xIO xIO) P) (ht9 : τ = 0 ∨ τ = nI 1) (ho : ∀ h1, P h1 → h1 out = some (gLo Γ 1 f)) : gC Γ M_L_routeWeightByBags [.ref m, .int p0, .ref out] h 31 1000 W (wZ Γ τ (x.toInt64) out f P) (fun _ _ => False) := by
  refine gC_ofH (by decide) (by decide) (Nat.le_of_ble_eq_true rfl) [some (.ref m), some (.int p0), some (.ref out), none] rfl ?_
  refine g_blk [(.aload_n 2, .null), (.iconst 0, .int (nI 0)), (.aload_n 0, .null), (.iload_n 1, .null)] (Nat.le_of_ble_eq_true rfl) (by decide +kernel) ?_
  refine gx_aload_n_2 (gx_iconst (gx_aload_n_0 (gx_iload_n_1 ((gx_nil ?_)))))
  refine g_callVH (rc' := 0) (rs' := 0) kL_110 hC (by decide +kernel) rfl rfl hm rfl (Nat.le_of_ble_eq_true rfl) (Nat.le_of_ble_eq_true rfl) (Nat.le_of_ble_eq_true rfl) (by omega) (by omega) (fun E h' hx => ?_) (fun v h' hz => ?_)
  · obtain ⟨ht, rfl, hP⟩ := hx
    rcases ht9 with t | t
    · exact absurd t ht
    · subst t
      refine ⟨12, by rw [nm1]; exact Or.inl ⟨by decide, by decide, cl_xIO, ca_xIO, rfl⟩, fun q => ?_⟩
      refine g_blk [(.astore_n 3, .null), (.iconst 1, .int (nI 1))] (Nat.le_of_ble_eq_true rfl) (by decide +kernel) ?_
      refine gx_astore_n_3 rfl (gx_iconst ((gx_nil ?_)))
      exact g_end (some (.int _)) rfl ⟨by decide +kernel, _, rfl, rfl⟩ ⟨rfl, _, hP, (if_neg (by decide)).symm⟩
  · obtain ⟨ht, rfl, hP⟩ := hz
    simp only [Option.toList_some, List.cons_append, List.nil_append]
    refine g_blk [(.i2l, .null)] (Nat.le_of_ble_eq_true rfl) (by decide +kernel) ?_
    refine gx_i2l ((gx_nil ?_))
    refine g_lastore (by decide +kernel) (ho _ hP) (vp_in_nI (by omega) (by omega)) ?_
    rw [n0c]
    refine g_blk [(.goto 6, .retAddr 15), (.iconst 0, .int (nI 0))] (Nat.le_of_ble_eq_true rfl) (by decide +kernel) ?_
    refine gx_goto (gx_iconst ((gx_nil ?_)))
    refine g_end (some (.int _)) rfl ⟨by decide +kernel, _, rfl, rfl⟩ ⟨?_, _, hP, ?_⟩
    · rw [ht]; exact congrArg (fun z => some (Value.int z)) z0
    · rw [if_pos ht]
theorem lw_run {m out W : Nat} {f : Nat → Int64} {fs : List Value} {τ : Int32} {x : Int32} {P : gHp → Prop} (hnc : gPnc Γ) (hm : h m = some (gJ 12 fs)) (hC : fC Γ M_X9_run [.ref m] h W τ (.int x) (nmOf xIA xIS xIS) P) (ht9 : τ = 0 ∨ τ = nI 1 ∨ τ = nI 2) (ho : ∀ h1, P h1 → h1 out = some (gLo Γ 1 f)) : gC Γ M_L_run [.ref m, .ref out] h 31 1000 W (wZ Γ τ (x.toInt64) out f P) (fun _ _ => False) := by
  refine gC_ofH (by decide) (by decide) (Nat.le_of_ble_eq_true rfl) [some (.ref m), some (.ref out), none] rfl ?_
  refine g_blk [(.aload_n 1, .null), (.iconst 0, .int (nI 0)), (.aload_n 0, .null)] (Nat.le_of_ble_eq_true rfl) (by decide +kernel) ?_
  refine gx_aload_n_1 (gx_iconst (gx_aload_n_0 ((gx_nil ?_))))
  refine g_callVH (rc' := 0) (rs' := 0) kL_158 hC (by decide +kernel) rfl rfl hm rfl (Nat.le_of_ble_eq_true rfl) (Nat.le_of_ble_eq_true rfl) (Nat.le_of_ble_eq_true rfl) (by omega) (by omega) (fun E h' hx => ?_) (fun v h' hz => ?_)
  · obtain ⟨ht, rfl, hP⟩ := hx
    rcases ht9 with t | t | t
    · exact absurd t ht
    · subst t
      refine ⟨11, by rw [nm1]; exact Or.inl ⟨by decide, by decide, cl_xIA, ca_xIA, rfl⟩, fun q => ?_⟩
      refine g_blk [(.astore_n 2, .null), (.iconst 1, .int (nI 1))] (Nat.le_of_ble_eq_true rfl) (by decide +kernel) ?_
      refine gx_astore_n_2 rfl (gx_iconst ((gx_nil ?_)))
      exact g_end (some (.int _)) rfl ⟨by decide +kernel, _, rfl, rfl⟩ ⟨rfl, _, hP, (if_neg (by decide)).symm⟩
    · subst t
      refine ⟨14, by rw [nm2]; exact Or.inr ⟨⟨by decide, _, cl_xIA, hnc _ (by decide) _ (by decide) (by decide)⟩, Or.inl ⟨by decide, by decide, cl_xIS, ca_xIS, rfl⟩⟩, fun q => ?_⟩
      refine g_blk [(.astore_n 2, .null), (.iconst 2, .int (nI 2))] (Nat.le_of_ble_eq_true rfl) (by decide +kernel) ?_
      refine gx_astore_n_2 rfl (gx_iconst ((gx_nil ?_)))
      exact g_end (some (.int _)) rfl ⟨by decide +kernel, _, rfl, rfl⟩ ⟨rfl, _, hP, (if_neg (by decide)).symm⟩
  · obtain ⟨ht, rfl, hP⟩ := hz
    simp only [Option.toList_some, List.cons_append, List.nil_append]
    refine g_blk [(.i2l, .null)] (Nat.le_of_ble_eq_true rfl) (by decide +kernel) ?_
    refine gx_i2l ((gx_nil ?_))
    refine g_lastore (by decide +kernel) (ho _ hP) (vp_in_nI (by omega) (by omega)) ?_
    rw [n0c]
    refine g_blk [(.goto 9, .retAddr 17), (.iconst 0, .int (nI 0))] (Nat.le_of_ble_eq_true rfl) (by decide +kernel) ?_
    refine gx_goto (gx_iconst ((gx_nil ?_)))
    refine g_end (some (.int _)) rfl ⟨by decide +kernel, _, rfl, rfl⟩ ⟨?_, _, hP, ?_⟩
    · rw [ht]; exact congrArg (fun z => some (Value.int z)) z0
    · rw [if_pos ht]
theorem lw_setCutoff {m out W : Nat} {f : Nat → Int64} {fs : List Value} {τ : Int32} {x : Int32} {P : gHp → Prop} (hnc : gPnc Γ) (p0 : Int32) (p1 : Int32) (hm : h m = some (gJ 12 fs)) (hC : fC Γ M_X9_setCutoff [.ref m, .int p0, .int p1] h W τ (.int x) (nmOf xIO xIA xIA) P) (ht9 : τ = 0 ∨ τ = nI 1 ∨ τ = nI 2) (ho : ∀ h1, P h1 → h1 out = some (gLo Γ 1 f)) : gC Γ M_L_setCutoff [.ref m, .int p0, .int p1, .ref out] h 31 1000 W (wZ Γ τ (x.toInt64) out f P) (fun _ _ => False) := by
  refine gC_ofH (by decide) (by decide) (Nat.le_of_ble_eq_true rfl) [some (.ref m), some (.int p0), some (.int p1), some (.ref out), none] rfl ?_
  refine g_blk [(.aload_n 3, .null), (.iconst 0, .int (nI 0)), (.aload_n 0, .null), (.iload_n 1, .null), (.iload_n 2, .null)] (Nat.le_of_ble_eq_true rfl) (by decide +kernel) ?_
  refine gx_aload_n_3 (gx_iconst (gx_aload_n_0 (gx_iload_n_1 (gx_iload_n_2 ((gx_nil ?_))))))
  refine g_callVH (rc' := 0) (rs' := 0) kL_39 hC (by decide +kernel) rfl rfl hm rfl (Nat.le_of_ble_eq_true rfl) (Nat.le_of_ble_eq_true rfl) (Nat.le_of_ble_eq_true rfl) (by omega) (by omega) (fun E h' hx => ?_) (fun v h' hz => ?_)
  · obtain ⟨ht, rfl, hP⟩ := hx
    rcases ht9 with t | t | t
    · exact absurd t ht
    · subst t
      refine ⟨13, by rw [nm1]; exact Or.inl ⟨by decide, by decide, cl_xIO, ca_xIO, rfl⟩, fun q => ?_⟩
      refine g_blk [(.astore 4, .null), (.iconst 1, .int (nI 1))] (Nat.le_of_ble_eq_true rfl) (by decide +kernel) ?_
      refine gx_astore_4 rfl (gx_iconst ((gx_nil ?_)))
      exact g_end (some (.int _)) rfl ⟨by decide +kernel, _, rfl, rfl⟩ ⟨rfl, _, hP, (if_neg (by decide)).symm⟩
    · subst t
      refine ⟨17, by rw [nm2]; exact Or.inr ⟨⟨by decide, _, cl_xIO, hnc _ (by decide) _ (by decide) (by decide)⟩, Or.inl ⟨by decide, by decide, cl_xIA, ca_xIA, rfl⟩⟩, fun q => ?_⟩
      refine g_blk [(.astore 4, .null), (.iconst 2, .int (nI 2))] (Nat.le_of_ble_eq_true rfl) (by decide +kernel) ?_
      refine gx_astore_4 rfl (gx_iconst ((gx_nil ?_)))
      exact g_end (some (.int _)) rfl ⟨by decide +kernel, _, rfl, rfl⟩ ⟨rfl, _, hP, (if_neg (by decide)).symm⟩
  · obtain ⟨ht, rfl, hP⟩ := hz
    simp only [Option.toList_some, List.cons_append, List.nil_append]
    refine g_blk [(.i2l, .null)] (Nat.le_of_ble_eq_true rfl) (by decide +kernel) ?_
    refine gx_i2l ((gx_nil ?_))
    refine g_lastore (by decide +kernel) (ho _ hP) (vp_in_nI (by omega) (by omega)) ?_
    rw [n0c]
    refine g_blk [(.goto 11, .retAddr 21), (.iconst 0, .int (nI 0))] (Nat.le_of_ble_eq_true rfl) (by decide +kernel) ?_
    refine gx_goto (gx_iconst ((gx_nil ?_)))
    refine g_end (some (.int _)) rfl ⟨by decide +kernel, _, rfl, rfl⟩ ⟨?_, _, hP, ?_⟩
    · rw [ht]; exact congrArg (fun z => some (Value.int z)) z0
    · rw [if_pos ht]
theorem lw_setDeparture {m out W : Nat} {f : Nat → Int64} {fs : List Value} {τ : Int32} {x : Int32} {P : gHp → Prop} (hnc : gPnc Γ) (p0 : Int32) (p1 : Int32) (hm : h m = some (gJ 12 fs)) (hC : fC Γ M_X9_setDeparture [.ref m, .int p0, .int p1] h W τ (.int x) (nmOf xIO xIA xIA) P) (ht9 : τ = 0 ∨ τ = nI 1 ∨ τ = nI 2) (ho : ∀ h1, P h1 → h1 out = some (gLo Γ 1 f)) : gC Γ M_L_setDeparture [.ref m, .int p0, .int p1, .ref out] h 31 1000 W (wZ Γ τ (x.toInt64) out f P) (fun _ _ => False) := by
  refine gC_ofH (by decide) (by decide) (Nat.le_of_ble_eq_true rfl) [some (.ref m), some (.int p0), some (.int p1), some (.ref out), none] rfl ?_
  refine g_blk [(.aload_n 3, .null), (.iconst 0, .int (nI 0)), (.aload_n 0, .null), (.iload_n 1, .null), (.iload_n 2, .null)] (Nat.le_of_ble_eq_true rfl) (by decide +kernel) ?_
  refine gx_aload_n_3 (gx_iconst (gx_aload_n_0 (gx_iload_n_1 (gx_iload_n_2 ((gx_nil ?_))))))
  refine g_callVH (rc' := 0) (rs' := 0) kL_42 hC (by decide +kernel) rfl rfl hm rfl (Nat.le_of_ble_eq_true rfl) (Nat.le_of_ble_eq_true rfl) (Nat.le_of_ble_eq_true rfl) (by omega) (by omega) (fun E h' hx => ?_) (fun v h' hz => ?_)
  · obtain ⟨ht, rfl, hP⟩ := hx
    rcases ht9 with t | t | t
    · exact absurd t ht
    · subst t
      refine ⟨13, by rw [nm1]; exact Or.inl ⟨by decide, by decide, cl_xIO, ca_xIO, rfl⟩, fun q => ?_⟩
      refine g_blk [(.astore 4, .null), (.iconst 1, .int (nI 1))] (Nat.le_of_ble_eq_true rfl) (by decide +kernel) ?_
      refine gx_astore_4 rfl (gx_iconst ((gx_nil ?_)))
      exact g_end (some (.int _)) rfl ⟨by decide +kernel, _, rfl, rfl⟩ ⟨rfl, _, hP, (if_neg (by decide)).symm⟩
    · subst t
      refine ⟨17, by rw [nm2]; exact Or.inr ⟨⟨by decide, _, cl_xIO, hnc _ (by decide) _ (by decide) (by decide)⟩, Or.inl ⟨by decide, by decide, cl_xIA, ca_xIA, rfl⟩⟩, fun q => ?_⟩
      refine g_blk [(.astore 4, .null), (.iconst 2, .int (nI 2))] (Nat.le_of_ble_eq_true rfl) (by decide +kernel) ?_
      refine gx_astore_4 rfl (gx_iconst ((gx_nil ?_)))
      exact g_end (some (.int _)) rfl ⟨by decide +kernel, _, rfl, rfl⟩ ⟨rfl, _, hP, (if_neg (by decide)).symm⟩
  · obtain ⟨ht, rfl, hP⟩ := hz
    simp only [Option.toList_some, List.cons_append, List.nil_append]
    refine g_blk [(.i2l, .null)] (Nat.le_of_ble_eq_true rfl) (by decide +kernel) ?_
    refine gx_i2l ((gx_nil ?_))
    refine g_lastore (by decide +kernel) (ho _ hP) (vp_in_nI (by omega) (by omega)) ?_
    rw [n0c]
    refine g_blk [(.goto 11, .retAddr 21), (.iconst 0, .int (nI 0))] (Nat.le_of_ble_eq_true rfl) (by decide +kernel) ?_
    refine gx_goto (gx_iconst ((gx_nil ?_)))
    refine g_end (some (.int _)) rfl ⟨by decide +kernel, _, rfl, rfl⟩ ⟨?_, _, hP, ?_⟩
    · rw [ht]; exact congrArg (fun z => some (Value.int z)) z0
    · rw [if_pos ht]
theorem lw_sort {m out W : Nat} {f : Nat → Int64} {fs : List Value} {τ : Int32} {x : Int32} {P : gHp → Prop} (hnc : gPnc Γ) (p0 : Int32) (hm : h m = some (gJ 12 fs)) (hC : fC Γ M_X9_sort [.ref m, .int p0] h W τ (.int x) (nmOf xNS xIS xIS) P) (ht9 : τ = 0 ∨ τ = nI 1 ∨ τ = nI 2) (ho : ∀ h1, P h1 → h1 out = some (gLo Γ 1 f)) : gC Γ M_L_sort [.ref m, .int p0, .ref out] h 31 1000 W (wZ Γ τ (x.toInt64) out f P) (fun _ _ => False) := by
  refine gC_ofH (by decide) (by decide) (Nat.le_of_ble_eq_true rfl) [some (.ref m), some (.int p0), some (.ref out), none] rfl ?_
  refine g_blk [(.aload_n 2, .null), (.iconst 0, .int (nI 0)), (.aload_n 0, .null), (.iload_n 1, .null)] (Nat.le_of_ble_eq_true rfl) (by decide +kernel) ?_
  refine gx_aload_n_2 (gx_iconst (gx_aload_n_0 (gx_iload_n_1 ((gx_nil ?_)))))
  refine g_callVH (rc' := 0) (rs' := 0) kL_29 hC (by decide +kernel) rfl rfl hm rfl (Nat.le_of_ble_eq_true rfl) (Nat.le_of_ble_eq_true rfl) (Nat.le_of_ble_eq_true rfl) (by omega) (by omega) (fun E h' hx => ?_) (fun v h' hz => ?_)
  · obtain ⟨ht, rfl, hP⟩ := hx
    rcases ht9 with t | t | t
    · exact absurd t ht
    · subst t
      refine ⟨12, by rw [nm1]; exact Or.inl ⟨by decide, by decide, cl_xNS, ca_xNS, rfl⟩, fun q => ?_⟩
      refine g_blk [(.astore_n 3, .null), (.iconst 1, .int (nI 1))] (Nat.le_of_ble_eq_true rfl) (by decide +kernel) ?_
      refine gx_astore_n_3 rfl (gx_iconst ((gx_nil ?_)))
      exact g_end (some (.int _)) rfl ⟨by decide +kernel, _, rfl, rfl⟩ ⟨rfl, _, hP, (if_neg (by decide)).symm⟩
    · subst t
      refine ⟨15, by rw [nm2]; exact Or.inr ⟨⟨by decide, _, cl_xNS, hnc _ (by decide) _ (by decide) (by decide)⟩, Or.inl ⟨by decide, by decide, cl_xIS, ca_xIS, rfl⟩⟩, fun q => ?_⟩
      refine g_blk [(.astore_n 3, .null), (.iconst 2, .int (nI 2))] (Nat.le_of_ble_eq_true rfl) (by decide +kernel) ?_
      refine gx_astore_n_3 rfl (gx_iconst ((gx_nil ?_)))
      exact g_end (some (.int _)) rfl ⟨by decide +kernel, _, rfl, rfl⟩ ⟨rfl, _, hP, (if_neg (by decide)).symm⟩
  · obtain ⟨ht, rfl, hP⟩ := hz
    simp only [Option.toList_some, List.cons_append, List.nil_append]
    refine g_blk [(.i2l, .null)] (Nat.le_of_ble_eq_true rfl) (by decide +kernel) ?_
    refine gx_i2l ((gx_nil ?_))
    refine g_lastore (by decide +kernel) (ho _ hP) (vp_in_nI (by omega) (by omega)) ?_
    rw [n0c]
    refine g_blk [(.goto 9, .retAddr 18), (.iconst 0, .int (nI 0))] (Nat.le_of_ble_eq_true rfl) (by decide +kernel) ?_
    refine gx_goto (gx_iconst ((gx_nil ?_)))
    refine g_end (some (.int _)) rfl ⟨by decide +kernel, _, rfl, rfl⟩ ⟨?_, _, hP, ?_⟩
    · rw [ht]; exact congrArg (fun z => some (Value.int z)) z0
    · rw [if_pos ht]
theorem lw_trayAt {m out W : Nat} {f : Nat → Int64} {fs : List Value} {τ : Int32} {x : Int32} {P : gHp → Prop} (hnc : gPnc Γ) (p0 : Int32) (hm : h m = some (gJ 12 fs)) (hC : fC Γ M_X9_trayAt [.ref m, .int p0] h W τ (.int x) (nmOf xNS xNS xNS) P) (ht9 : τ = 0 ∨ τ = nI 1) (ho : ∀ h1, P h1 → h1 out = some (gLo Γ 1 f)) : gC Γ M_L_trayAt [.ref m, .int p0, .ref out] h 31 1000 W (wZ Γ τ (x.toInt64) out f P) (fun _ _ => False) := by
  refine gC_ofH (by decide) (by decide) (Nat.le_of_ble_eq_true rfl) [some (.ref m), some (.int p0), some (.ref out), none] rfl ?_
  refine g_blk [(.aload_n 2, .null), (.iconst 0, .int (nI 0)), (.aload_n 0, .null), (.iload_n 1, .null)] (Nat.le_of_ble_eq_true rfl) (by decide +kernel) ?_
  refine gx_aload_n_2 (gx_iconst (gx_aload_n_0 (gx_iload_n_1 ((gx_nil ?_)))))
  refine g_callVH (rc' := 0) (rs' := 0) kL_79 hC (by decide +kernel) rfl rfl hm rfl (Nat.le_of_ble_eq_true rfl) (Nat.le_of_ble_eq_true rfl) (Nat.le_of_ble_eq_true rfl) (by omega) (by omega) (fun E h' hx => ?_) (fun v h' hz => ?_)
  · obtain ⟨ht, rfl, hP⟩ := hx
    rcases ht9 with t | t
    · exact absurd t ht
    · subst t
      refine ⟨12, by rw [nm1]; exact Or.inl ⟨by decide, by decide, cl_xNS, ca_xNS, rfl⟩, fun q => ?_⟩
      refine g_blk [(.astore_n 3, .null), (.iconst 1, .int (nI 1))] (Nat.le_of_ble_eq_true rfl) (by decide +kernel) ?_
      refine gx_astore_n_3 rfl (gx_iconst ((gx_nil ?_)))
      exact g_end (some (.int _)) rfl ⟨by decide +kernel, _, rfl, rfl⟩ ⟨rfl, _, hP, (if_neg (by decide)).symm⟩
  · obtain ⟨ht, rfl, hP⟩ := hz
    simp only [Option.toList_some, List.cons_append, List.nil_append]
    refine g_blk [(.i2l, .null)] (Nat.le_of_ble_eq_true rfl) (by decide +kernel) ?_
    refine gx_i2l ((gx_nil ?_))
    refine g_lastore (by decide +kernel) (ho _ hP) (vp_in_nI (by omega) (by omega)) ?_
    rw [n0c]
    refine g_blk [(.goto 6, .retAddr 15), (.iconst 0, .int (nI 0))] (Nat.le_of_ble_eq_true rfl) (by decide +kernel) ?_
    refine gx_goto (gx_iconst ((gx_nil ?_)))
    refine g_end (some (.int _)) rfl ⟨by decide +kernel, _, rfl, rfl⟩ ⟨?_, _, hP, ?_⟩
    · rw [ht]; exact congrArg (fun z => some (Value.int z)) z0
    · rw [if_pos ht]
theorem lw_undo {m out W : Nat} {f : Nat → Int64} {fs : List Value} {τ : Int32} {x : Int32} {P : gHp → Prop} (hnc : gPnc Γ) (hm : h m = some (gJ 12 fs)) (hC : fC Γ M_X9_undo [.ref m] h W τ (.int x) (nmOf xIS xIS xIS) P) (ht9 : τ = 0 ∨ τ = nI 1) (ho : ∀ h1, P h1 → h1 out = some (gLo Γ 1 f)) : gC Γ M_L_undo [.ref m, .ref out] h 31 1000 W (wZ Γ τ (x.toInt64) out f P) (fun _ _ => False) := by
  refine gC_ofH (by decide) (by decide) (Nat.le_of_ble_eq_true rfl) [some (.ref m), some (.ref out), none] rfl ?_
  refine g_blk [(.aload_n 1, .null), (.iconst 0, .int (nI 0)), (.aload_n 0, .null)] (Nat.le_of_ble_eq_true rfl) (by decide +kernel) ?_
  refine gx_aload_n_1 (gx_iconst (gx_aload_n_0 ((gx_nil ?_))))
  refine g_callVH (rc' := 0) (rs' := 0) kL_168 hC (by decide +kernel) rfl rfl hm rfl (Nat.le_of_ble_eq_true rfl) (Nat.le_of_ble_eq_true rfl) (Nat.le_of_ble_eq_true rfl) (by omega) (by omega) (fun E h' hx => ?_) (fun v h' hz => ?_)
  · obtain ⟨ht, rfl, hP⟩ := hx
    rcases ht9 with t | t
    · exact absurd t ht
    · subst t
      refine ⟨11, by rw [nm1]; exact Or.inl ⟨by decide, by decide, cl_xIS, ca_xIS, rfl⟩, fun q => ?_⟩
      refine g_blk [(.astore_n 2, .null), (.iconst 1, .int (nI 1))] (Nat.le_of_ble_eq_true rfl) (by decide +kernel) ?_
      refine gx_astore_n_2 rfl (gx_iconst ((gx_nil ?_)))
      exact g_end (some (.int _)) rfl ⟨by decide +kernel, _, rfl, rfl⟩ ⟨rfl, _, hP, (if_neg (by decide)).symm⟩
  · obtain ⟨ht, rfl, hP⟩ := hz
    simp only [Option.toList_some, List.cons_append, List.nil_append]
    refine g_blk [(.i2l, .null)] (Nat.le_of_ble_eq_true rfl) (by decide +kernel) ?_
    refine gx_i2l ((gx_nil ?_))
    refine g_lastore (by decide +kernel) (ho _ hP) (vp_in_nI (by omega) (by omega)) ?_
    rw [n0c]
    refine g_blk [(.goto 6, .retAddr 14), (.iconst 0, .int (nI 0))] (Nat.le_of_ble_eq_true rfl) (by decide +kernel) ?_
    refine gx_goto (gx_iconst ((gx_nil ?_)))
    refine g_end (some (.int _)) rfl ⟨by decide +kernel, _, rfl, rfl⟩ ⟨?_, _, hP, ?_⟩
    · rw [ht]; exact congrArg (fun z => some (Value.int z)) z0
    · rw [if_pos ht]
theorem lw_weightOf {m out W : Nat} {f : Nat → Int64} {fs : List Value} {τ : Int32} {x : Int32} {P : gHp → Prop} (hnc : gPnc Γ) (p0 : Int32) (hm : h m = some (gJ 12 fs)) (hC : fC Γ M_X9_weightOf [.ref m, .int p0] h W τ (.int x) (nmOf xNS xNS xNS) P) (ht9 : τ = 0 ∨ τ = nI 1) (ho : ∀ h1, P h1 → h1 out = some (gLo Γ 1 f)) : gC Γ M_L_weightOf [.ref m, .int p0, .ref out] h 31 1000 W (wZ Γ τ (x.toInt64) out f P) (fun _ _ => False) := by
  refine gC_ofH (by decide) (by decide) (Nat.le_of_ble_eq_true rfl) [some (.ref m), some (.int p0), some (.ref out), none] rfl ?_
  refine g_blk [(.aload_n 2, .null), (.iconst 0, .int (nI 0)), (.aload_n 0, .null), (.iload_n 1, .null)] (Nat.le_of_ble_eq_true rfl) (by decide +kernel) ?_
  refine gx_aload_n_2 (gx_iconst (gx_aload_n_0 (gx_iload_n_1 ((gx_nil ?_)))))
  refine g_callVH (rc' := 0) (rs' := 0) kL_54 hC (by decide +kernel) rfl rfl hm rfl (Nat.le_of_ble_eq_true rfl) (Nat.le_of_ble_eq_true rfl) (Nat.le_of_ble_eq_true rfl) (by omega) (by omega) (fun E h' hx => ?_) (fun v h' hz => ?_)
  · obtain ⟨ht, rfl, hP⟩ := hx
    rcases ht9 with t | t
    · exact absurd t ht
    · subst t
      refine ⟨12, by rw [nm1]; exact Or.inl ⟨by decide, by decide, cl_xNS, ca_xNS, rfl⟩, fun q => ?_⟩
      refine g_blk [(.astore_n 3, .null), (.iconst 1, .int (nI 1))] (Nat.le_of_ble_eq_true rfl) (by decide +kernel) ?_
      refine gx_astore_n_3 rfl (gx_iconst ((gx_nil ?_)))
      exact g_end (some (.int _)) rfl ⟨by decide +kernel, _, rfl, rfl⟩ ⟨rfl, _, hP, (if_neg (by decide)).symm⟩
  · obtain ⟨ht, rfl, hP⟩ := hz
    simp only [Option.toList_some, List.cons_append, List.nil_append]
    refine g_blk [(.i2l, .null)] (Nat.le_of_ble_eq_true rfl) (by decide +kernel) ?_
    refine gx_i2l ((gx_nil ?_))
    refine g_lastore (by decide +kernel) (ho _ hP) (vp_in_nI (by omega) (by omega)) ?_
    rw [n0c]
    refine g_blk [(.goto 6, .retAddr 15), (.iconst 0, .int (nI 0))] (Nat.le_of_ble_eq_true rfl) (by decide +kernel) ?_
    refine gx_goto (gx_iconst ((gx_nil ?_)))
    refine g_end (some (.int _)) rfl ⟨by decide +kernel, _, rfl, rfl⟩ ⟨?_, _, hP, ?_⟩
    · rw [ht]; exact congrArg (fun z => some (Value.int z)) z0
    · rw [if_pos ht]
end GLw
