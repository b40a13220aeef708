/-! THE PARSER READS A PROGRAM -/
section GPg
variable {Γ : gE} {h : gHp} {de o tb n p cl : Nat} {tx ks : Nat → Nat} {fp : List Nat} {cs : List pcT} {d1 d10 : Nat} {vf : Value}
/-- the footprint moved on: what is written is the parser, its old footprint, or new -/
def fpT (o : Nat) (fp : List Nat) (h : gHp) (fp' : List Nat) (h' : gHp) : Prop := (∀ q ∈ fp', q ∈ fp ∨ h q = none) ∧ gKeep (fun q => q = o ∨ q ∈ fp) h h'
theorem fpT.rf : fpT o fp h fp h := ⟨fun _ z => Or.inl z, gKeep.rf⟩
theorem fpT.o1 {h' : gHp} (k : gKeep (fun z => z = o) h h') : fpT o fp h fp h' := ⟨fun _ z => Or.inl z, fun q e q1 q2 => k q e (fun y => q1 (Or.inl y)) q2⟩
theorem fpT.tr {h1 h2 : gHp} {fp1 fp2 : List Nat} (a : fpT o fp h fp1 h1) (b : fpT o fp1 h1 fp2 h2) (ho : ∃ e, h1 o = some e) : fpT o fp h fp2 h2 := by
  refine ⟨fun q hq => ?_, fun q e q1 q2 => ?_⟩
  · rcases b.1 q hq with y | y
    · exact a.1 q y
    · by_cases z : q ∈ fp
      · exact Or.inl z
      · refine Or.inr ?_
        cases e : h q with
        | none => rfl
        | some e9 =>
          by_cases w : q = o
          · obtain ⟨e8, h8⟩ := ho
            rw [w, h8] at y; cases y
          · have := a.2 q _ (fun x => by rcases x with x | x; exact w x; exact z x) e
            rw [this] at y; cases y
  · refine b.2 q e (fun x => ?_) (a.2 q e q1 q2)
    rcases x with x | x
    · exact q1 (Or.inl x)
    · rcases a.1 q x with y | y
      · exact q1 (Or.inr y)
      · rw [y] at q2; cases q2
def rpZ (Γ : gE) (de : Nat) (h : gHp) (o tb n cl : Nat) (tx ks : Nat → Nat) (fp : List Nat) (R : Nat ⊕ List pcT) (v : Option Value) (h' : gHp) : Prop := ∃ fp', fpT o fp h fp' h' ∧ match R with
  | .inl e => v = some (.int (nI 0)) ∧ ∃ cs, gPL Γ de h' o tb n e cl tx ks fp' cs
  | .inr cs => v = some (.int (nI 1)) ∧ ∃ p', gPL Γ de h' o tb n p' cl tx ks fp' cs
theorem ps_readProgram {mi ka : Nat} {ss : Nat → Nat} (hp : gPsb Γ d1 d10 vf) (hk : gPkw Γ ka ks ss) (hpl : gPall Γ de mi) (H : gPL Γ de h o tb n 0 cl tx ks fp []) : gC Γ M_X5_readProgram [.ref o] h 9 26 884 (rpZ Γ de h o tb n cl tx ks fp (ppR tx n (n + 1) 0 [])) (fun _ _ => False) := by
  have hn60 := H.1.2.2
  have loop : ∀ m t p acc fp1 h1, t + m = n → 5 * t ≤ p → p ≤ n → acc.length = t → gPL Γ de h1 o tb n p cl tx ks fp1 acc → fpT o fp h fp1 h1 → ppR tx n (n + 1) 0 [] = ppR tx n (m + 1) p acc → G Γ M_X5_readProgram 9 26 884 (rpZ Γ de h o tb n cl tx ks fp (ppR tx n (n + 1) 0 [])) (fun _ _ => False) (2 * (13 - t)) (68 * (13 - t)) 2 [some (.ref o), some (.int (nI t))] [] h1 := by
    intro m
    induction m with
    | zero =>
      intro t p acc fp1 h1 ht h5 hpn hacc H1 hT hR
      have t0 : t = 0 := by omega
      have n0 : n = 0 := by omega
      have p0 : p = 0 := by omega
      subst t0
      subst n0
      subst p0
      have hP1 := H1.1
      have ho := hP1.1
      cases hc : pcR tx 0 0 with
      | inr y =>
        obtain ⟨c, p'⟩ := y
        have := pcR_in hc
        omega
      | inl e =>
        refine g_blk [(.iload_n 1, .null), (.aload_n 0, .null)] (Nat.le_of_ble_eq_true rfl) (by decide +kernel) ?_
        refine gx_iload_n_1 (gx_aload_n_0 ((gx_nil ?_)))
        refine g_getf fX5_26 (by decide +kernel) ho rfl ?_
        refine g_icmp_gt (off := 42) (tgt := 49) (by decide +kernel) (by decide) (fun c7 => ?_) (fun c7 => ?_)
        · try simp only [bI_0, Decidable.not_not] at c7
          exact absurd c7 (by decide)
        · try simp only [bI_0, Decidable.not_not] at c7
          refine g_blk [(.aload_n 0, .null)] (Nat.le_of_ble_eq_true rfl) (by decide +kernel) ?_
          refine gx_aload_n_0 ((gx_nil ?_))
          refine g_callV (rc' := 24) (rs' := 816) kX5_29 (ps_readCommand hp hk hpl H1 (by omega) (by omega)) (by decide +kernel) rfl rfl ho rfl (Nat.le_of_ble_eq_true rfl) (Nat.le_of_ble_eq_true rfl) (Nat.le_of_ble_eq_true rfl) (by omega) (by omega) rfl (fun _ _ z => z.elim) (fun v9 h5 hz => ?_)
          rw [hc] at hz
          obtain ⟨fp5, z1, z2, rfl, H5⟩ := hz
          replace ho := H5.1.1
          simp only [Option.toList_some, Option.toList_none, List.cons_append, List.nil_append]
          refine g_if_ne (off := 5) (tgt := 19) (by decide +kernel) (by decide) (fun c14 => ?_) (fun c14 => ?_)
          · try simp only [bI_0, Decidable.not_not] at c14
            exact absurd (by decide) c14
          · try simp only [bI_0, Decidable.not_not] at c14
            refine g_blk [(.iconst 0, .int (nI 0))] (Nat.le_of_ble_eq_true rfl) (by decide +kernel) ?_
            refine gx_iconst ((gx_nil ?_))
            refine g_end (some (.int _)) rfl ⟨by decide +kernel, _, rfl, (by first | rfl | exact bI_nar _)⟩ ?_
            rw [hR, ppR_no hc]
            exact ⟨fp5, hT.tr ⟨z1, z2⟩ ⟨_, hP1.1⟩, rfl, acc, H5⟩
    | succ m ih =>
      intro t p acc fp1 h1 ht h5 hpn hacc H1 hT hR
      have hP1 := H1.1
      have ho := hP1.1
      cases hc : pcR tx n p with
      | inl e =>
        refine g_blk [(.iload_n 1, .null), (.aload_n 0, .null)] (Nat.le_of_ble_eq_true rfl) (by decide +kernel) ?_
        refine gx_iload_n_1 (gx_aload_n_0 ((gx_nil ?_)))
        refine g_getf fX5_26 (by decide +kernel) ho rfl ?_
        refine g_icmp_gt (off := 42) (tgt := 49) (by decide +kernel) (by decide) (fun c7 => ?_) (fun c7 => ?_)
        · try simp only [bI_0, Decidable.not_not] at c7
          exact absurd c7 (Int32.not_lt.mpr (nI_le (by omega) (by omega)))
        · try simp only [bI_0, Decidable.not_not] at c7
          refine g_blk [(.aload_n 0, .null)] (Nat.le_of_ble_eq_true rfl) (by decide +kernel) ?_
          refine gx_aload_n_0 ((gx_nil ?_))
          refine g_callV (rc' := 2 * (13 - t) - 2) (rs' := 68 * (13 - t) - 68) kX5_29 (ps_readCommand hp hk hpl H1 (by omega) (by omega)) (by decide +kernel) rfl rfl ho rfl (Nat.le_of_ble_eq_true rfl) (Nat.le_of_ble_eq_true rfl) (Nat.le_of_ble_eq_true rfl) (by omega) (by omega) rfl (fun _ _ z => z.elim) (fun v9 h5 hz => ?_)
          rw [hc] at hz
          obtain ⟨fp5, z1, z2, rfl, H5⟩ := hz
          replace ho := H5.1.1
          simp only [Option.toList_some, Option.toList_none, List.cons_append, List.nil_append]
          refine g_if_ne (off := 5) (tgt := 19) (by decide +kernel) (by decide) (fun c14 => ?_) (fun c14 => ?_)
          · try simp only [bI_0, Decidable.not_not] at c14
            exact absurd (by decide) c14
          · try simp only [bI_0, Decidable.not_not] at c14
            refine g_blk [(.iconst 0, .int (nI 0))] (Nat.le_of_ble_eq_true rfl) (by decide +kernel) ?_
            refine gx_iconst ((gx_nil ?_))
            refine g_end (some (.int _)) rfl ⟨by decide +kernel, _, rfl, (by first | rfl | exact bI_nar _)⟩ ?_
            rw [hR, ppR_no hc]
            exact ⟨fp5, hT.tr ⟨z1, z2⟩ ⟨_, hP1.1⟩, rfl, acc, H5⟩
      | inr y =>
        obtain ⟨c, p'⟩ := y
        have hin := pcR_in hc
        by_cases hge : n ≤ p'
        · refine g_blk [(.iload_n 1, .null), (.aload_n 0, .null)] (Nat.le_of_ble_eq_true rfl) (by decide +kernel) ?_
          refine gx_iload_n_1 (gx_aload_n_0 ((gx_nil ?_)))
          refine g_getf fX5_26 (by decide +kernel) ho rfl ?_
          refine g_icmp_gt (off := 42) (tgt := 49) (by decide +kernel) (by decide) (fun c7 => ?_) (fun c7 => ?_)
          · try simp only [bI_0, Decidable.not_not] at c7
            exact absurd c7 (Int32.not_lt.mpr (nI_le (by omega) (by omega)))
          · try simp only [bI_0, Decidable.not_not] at c7
            refine g_blk [(.aload_n 0, .null)] (Nat.le_of_ble_eq_true rfl) (by decide +kernel) ?_
            refine gx_aload_n_0 ((gx_nil ?_))
            refine g_callV (rc' := 2 * (13 - t) - 2) (rs' := 68 * (13 - t) - 68) kX5_29 (ps_readCommand hp hk hpl H1 (by omega) (by omega)) (by decide +kernel) rfl rfl ho rfl (Nat.le_of_ble_eq_true rfl) (Nat.le_of_ble_eq_true rfl) (Nat.le_of_ble_eq_true rfl) (by omega) (by omega) rfl (fun _ _ z => z.elim) (fun v9 h5 hz => ?_)
            rw [hc] at hz
            obtain ⟨fp5, z1, z2, rfl, H5⟩ := hz
            replace ho := H5.1.1
            have T5 := hT.tr ⟨z1, z2⟩ ⟨_, hP1.1⟩
            simp only [Option.toList_some, Option.toList_none, List.cons_append, List.nil_append]
            refine g_if_ne (off := 5) (tgt := 19) (by decide +kernel) (by decide) (fun c14 => ?_) (fun c14 => ?_)
            · try simp only [bI_0, Decidable.not_not] at c14
              refine g_blk [(.aload_n 0, .null)] (Nat.le_of_ble_eq_true rfl) (by decide +kernel) ?_
              refine gx_aload_n_0 ((gx_nil ?_))
              refine g_getf fX5_9 (by decide +kernel) ho rfl ?_
              refine g_blk [(.aload_n 0, .null)] (Nat.le_of_ble_eq_true rfl) (by decide +kernel) ?_
              refine gx_aload_n_0 ((gx_nil ?_))
              refine g_getf fX5_26 (by decide +kernel) ho rfl ?_
              refine g_icmp_lt (off := 5) (tgt := 32) (by decide +kernel) (by decide) (fun c27 => ?_) (fun c27 => ?_)
              · try simp only [bI_0, Decidable.not_not] at c27
                exact absurd c27 (Int32.not_lt.mpr (nI_le hge (by omega)))
              · try simp only [bI_0, Decidable.not_not] at c27
                refine g_blk [(.iconst 1, .int (nI 1))] (Nat.le_of_ble_eq_true rfl) (by decide +kernel) ?_
                refine gx_iconst ((gx_nil ?_))
                refine g_end (some (.int _)) rfl ⟨by decide +kernel, _, rfl, (by first | rfl | exact bI_nar _)⟩ ?_
                rw [hR, ppR_s hc, if_pos hge]
                exact ⟨fp5, T5, rfl, p', H5⟩
            · try simp only [bI_0, Decidable.not_not] at c14
              exact absurd (show nI 1 = 0 from c14) (by decide)
        · by_cases h59 : tx p' = 59
          · refine g_blk [(.iload_n 1, .null), (.aload_n 0, .null)] (Nat.le_of_ble_eq_true rfl) (by decide +kernel) ?_
            refine gx_iload_n_1 (gx_aload_n_0 ((gx_nil ?_)))
            refine g_getf fX5_26 (by decide +kernel) ho rfl ?_
            refine g_icmp_gt (off := 42) (tgt := 49) (by decide +kernel) (by decide) (fun c7 => ?_) (fun c7 => ?_)
            · try simp only [bI_0, Decidable.not_not] at c7
              exact absurd c7 (Int32.not_lt.mpr (nI_le (by omega) (by omega)))
            · try simp only [bI_0, Decidable.not_not] at c7
              refine g_blk [(.aload_n 0, .null)] (Nat.le_of_ble_eq_true rfl) (by decide +kernel) ?_
              refine gx_aload_n_0 ((gx_nil ?_))
              refine g_callV (rc' := 2 * (13 - t) - 2) (rs' := 68 * (13 - t) - 68) kX5_29 (ps_readCommand hp hk hpl H1 (by omega) (by omega)) (by decide +kernel) rfl rfl ho rfl (Nat.le_of_ble_eq_true rfl) (Nat.le_of_ble_eq_true rfl) (Nat.le_of_ble_eq_true rfl) (by omega) (by omega) rfl (fun _ _ z => z.elim) (fun v9 h5 hz => ?_)
              rw [hc] at hz
              obtain ⟨fp5, z1, z2, rfl, H5⟩ := hz
              replace ho := H5.1.1
              have T5 := hT.tr ⟨z1, z2⟩ ⟨_, hP1.1⟩
              simp only [Option.toList_some, Option.toList_none, List.cons_append, List.nil_append]
              refine g_if_ne (off := 5) (tgt := 19) (by decide +kernel) (by decide) (fun c14 => ?_) (fun c14 => ?_)
              · try simp only [bI_0, Decidable.not_not] at c14
                refine g_blk [(.aload_n 0, .null)] (Nat.le_of_ble_eq_true rfl) (by decide +kernel) ?_
                refine gx_aload_n_0 ((gx_nil ?_))
                refine g_getf fX5_9 (by decide +kernel) ho rfl ?_
                refine g_blk [(.aload_n 0, .null)] (Nat.le_of_ble_eq_true rfl) (by decide +kernel) ?_
                refine gx_aload_n_0 ((gx_nil ?_))
                refine g_getf fX5_26 (by decide +kernel) ho rfl ?_
                refine g_icmp_lt (off := 5) (tgt := 32) (by decide +kernel) (by decide) (fun c27 => ?_) (fun c27 => ?_)
                · try simp only [bI_0, Decidable.not_not] at c27
                  refine g_blk [(.aload_n 0, .null), (.bipush 59, .int (nI 59))] (Nat.le_of_ble_eq_true rfl) (by decide +kernel) ?_
                  refine gx_aload_n_0 (gx_bipush ((gx_nil ?_)))
                  refine g_callV (rc' := 2 * (13 - t) - 2) (rs' := 68 * (13 - t) - 68) kX5_33 (ps_skip H5.1 (by omega) (x := 59) (by decide)) (by decide +kernel) rfl rfl ho rfl (Nat.le_of_ble_eq_true rfl) (Nat.le_of_ble_eq_true rfl) (Nat.le_of_ble_eq_true rfl) (by omega) (by omega) rfl (fun _ _ z => z.elim) (fun v9 h7 hz => ?_)
                  obtain ⟨rfl, hP7, k7⟩ := hz
                  rw [if_pos (show p' < n ∧ tx p' = 59 from ⟨Nat.lt_of_not_le hge, h59⟩)] at hP7
                  rw [bI_t (show p' < n ∧ tx p' = 59 from ⟨Nat.lt_of_not_le hge, h59⟩)]
                  have H7 := H5.pos hP7 k7
                  have T7 := T5.tr (fpT.o1 k7) ⟨_, H5.1.1⟩
                  replace ho := hP7.1
                  simp only [Option.toList_some, Option.toList_none, List.cons_append, List.nil_append]
                  refine g_if_ne (off := 5) (tgt := 43) (by decide +kernel) (by decide) (fun c38 => ?_) (fun c38 => ?_)
                  · try simp only [bI_0, Decidable.not_not] at c38
                    refine g_blk [(.iinc 1 1, .int (nI 1)), (.goto (-44), .retAddr 2)] (Nat.le_of_ble_eq_true rfl) (by decide +kernel) ?_
                    refine gx_iinc_1 rfl (gx_goto ((gx_nil ?_)))
                    try simp only [nI_add, ]
                    refine g_weak (L' := [some (.ref o), some (.int (nI (t + 1)))]) (by simp [gLe]) (by omega) (by omega) (ih (t + 1) (p' + 1) (acc ++ [c]) fp5 h7 (by omega) (by omega) (by omega) (by rw [List.length_append, hacc]; rfl) H7 T7 ?_)
                    rw [hR, ppR_s hc, if_neg hge, if_pos h59]
                  · try simp only [bI_0, Decidable.not_not] at c38
                    exact absurd (show nI 1 = 0 from c38) (by decide)
                · try simp only [bI_0, Decidable.not_not] at c27
                  exact absurd ((nI_ltI (by omega) (by omega)).mpr (Nat.lt_of_not_le hge)) c27
              · try simp only [bI_0, Decidable.not_not] at c14
                exact absurd (show nI 1 = 0 from c14) (by decide)
          · refine g_blk [(.iload_n 1, .null), (.aload_n 0, .null)] (Nat.le_of_ble_eq_true rfl) (by decide +kernel) ?_
            refine gx_iload_n_1 (gx_aload_n_0 ((gx_nil ?_)))
            refine g_getf fX5_26 (by decide +kernel) ho rfl ?_
            refine g_icmp_gt (off := 42) (tgt := 49) (by decide +kernel) (by decide) (fun c7 => ?_) (fun c7 => ?_)
            · try simp only [bI_0, Decidable.not_not] at c7
              exact absurd c7 (Int32.not_lt.mpr (nI_le (by omega) (by omega)))
            · try simp only [bI_0, Decidable.not_not] at c7
              refine g_blk [(.aload_n 0, .null)] (Nat.le_of_ble_eq_true rfl) (by decide +kernel) ?_
              refine gx_aload_n_0 ((gx_nil ?_))
              refine g_callV (rc' := 2 * (13 - t) - 2) (rs' := 68 * (13 - t) - 68) kX5_29 (ps_readCommand hp hk hpl H1 (by omega) (by omega)) (by decide +kernel) rfl rfl ho rfl (Nat.le_of_ble_eq_true rfl) (Nat.le_of_ble_eq_true rfl) (Nat.le_of_ble_eq_true rfl) (by omega) (by omega) rfl (fun _ _ z => z.elim) (fun v9 h5 hz => ?_)
              rw [hc] at hz
              obtain ⟨fp5, z1, z2, rfl, H5⟩ := hz
              replace ho := H5.1.1
              have T5 := hT.tr ⟨z1, z2⟩ ⟨_, hP1.1⟩
              simp only [Option.toList_some, Option.toList_none, List.cons_append, List.nil_append]
              refine g_if_ne (off := 5) (tgt := 19) (by decide +kernel) (by decide) (fun c14 => ?_) (fun c14 => ?_)
              · try simp only [bI_0, Decidable.not_not] at c14
                refine g_blk [(.aload_n 0, .null)] (Nat.le_of_ble_eq_true rfl) (by decide +kernel) ?_
                refine gx_aload_n_0 ((gx_nil ?_))
                refine g_getf fX5_9 (by decide +kernel) ho rfl ?_
                refine g_blk [(.aload_n 0, .null)] (Nat.le_of_ble_eq_true rfl) (by decide +kernel) ?_
                refine gx_aload_n_0 ((gx_nil ?_))
                refine g_getf fX5_26 (by decide +kernel) ho rfl ?_
                refine g_icmp_lt (off := 5) (tgt := 32) (by decide +kernel) (by decide) (fun c27 => ?_) (fun c27 => ?_)
                · try simp only [bI_0, Decidable.not_not] at c27
                  refine g_blk [(.aload_n 0, .null), (.bipush 59, .int (nI 59))] (Nat.le_of_ble_eq_true rfl) (by decide +kernel) ?_
                  refine gx_aload_n_0 (gx_bipush ((gx_nil ?_)))
                  refine g_callV (rc' := 2 * (13 - t) - 2) (rs' := 68 * (13 - t) - 68) kX5_33 (ps_skip H5.1 (by omega) (x := 59) (by decide)) (by decide +kernel) rfl rfl ho rfl (Nat.le_of_ble_eq_true rfl) (Nat.le_of_ble_eq_true rfl) (Nat.le_of_ble_eq_true rfl) (by omega) (by omega) rfl (fun _ _ z => z.elim) (fun v9 h7 hz => ?_)
                  obtain ⟨rfl, hP7, k7⟩ := hz
                  rw [if_neg (fun z : p' < n ∧ tx p' = 59 => h59 z.2)] at hP7
                  rw [bI_f (fun z : p' < n ∧ tx p' = 59 => h59 z.2)]
                  have H7 := H5.pos hP7 k7
                  have T7 := T5.tr (fpT.o1 k7) ⟨_, H5.1.1⟩
                  replace ho := hP7.1
                  simp only [Option.toList_some, Option.toList_none, List.cons_append, List.nil_append]
                  refine g_if_ne (off := 5) (tgt := 43) (by decide +kernel) (by decide) (fun c38 => ?_) (fun c38 => ?_)
                  · try simp only [bI_0, Decidable.not_not] at c38
                    exact absurd (by decide) c38
                  · try simp only [bI_0, Decidable.not_not] at c38
                    refine g_blk [(.iconst 0, .int (nI 0))] (Nat.le_of_ble_eq_true rfl) (by decide +kernel) ?_
                    refine gx_iconst ((gx_nil ?_))
                    refine g_end (some (.int _)) rfl ⟨by decide +kernel, _, rfl, (by first | rfl | exact bI_nar _)⟩ ?_
                    rw [hR, ppR_s hc, if_neg hge, if_neg h59]
                    exact ⟨fp5, T7, rfl, acc ++ [c], H7⟩
                · try simp only [bI_0, Decidable.not_not] at c27
                  exact absurd ((nI_ltI (by omega) (by omega)).mpr (Nat.lt_of_not_le hge)) c27
              · try simp only [bI_0, Decidable.not_not] at c14
                exact absurd (show nI 1 = 0 from c14) (by decide)
  refine gC_of (by decide) rfl (Nat.le_of_ble_eq_true rfl) [some (.ref o), none] rfl ?_
  refine g_blk [(.iconst 0, .int (nI 0)), (.istore_n 1, .null)] (Nat.le_of_ble_eq_true rfl) (by decide +kernel) ?_
  refine gx_iconst (gx_istore_n_1 rfl ((gx_nil ?_)))
  exact loop n 0 0 [] fp h (by omega) (Nat.le_refl _) (Nat.zero_le _) rfl H fpT.rf rfl
end GPg
