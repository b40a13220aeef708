/-! LETTERS TAKEN IN, PREFIXES ENTERED AND STRUCK -/
section GTk
variable {Γ : gE} {de : Nat} {h : gHp}
theorem gOx_setP2 {o c t t' la ta ca da ba pa ep : Nat} {fl fq ls ps ps' : List Nat} {N N' : Nat → Int32} (H : gOx Γ de h o N c t la ta ca da ba pa ep fl fq ls ps) (g : gNd ca da ba fl fq ls) (e : ∀ q, gRel c 0 q → N q = N' q) {h1 : gHp} {fq' : List Nat} (hk : gKeep (fun q => q ∈ fq) h h1) (HP' : gAL Γ de h1 pa fq' ps') (ht : ps'.length = t') (hp : ∀ j p, ps'[j]? = some p → gPre h1 N' j p) (hfq : ∀ q ∈ fq', q ∈ fq ∨ h q = none) : gOx Γ de h1 o N' c t' la ta ca da ba pa ep fl fq' ls ps' ∧ gNd ca da ba fl fq' ls := by
  obtain ⟨ho, HL, hlc, hls, hta, HP, hpc, hps, hep, ⟨fc, hca, hfc⟩, ⟨fd, hda, hfd⟩, ⟨fb, hba, hfb⟩⟩ := H
  obtain ⟨g1, g2, g3, g4, g5⟩ := g
  have kP := gAL_nk HP
  have nf : ∀ {q : Nat} {e : va_E}, h q = some e → (∀ fs, e ≠ gJ 4 fs) → (∀ n f, e ≠ gO Γ n f) → h1 q = some e := fun {q e} hq e4 eO => hk q e (fun z => by
    rcases kP q z with ⟨fs, y⟩ | ⟨n, f, y⟩
    · rw [hq] at y; exact e4 _ (Option.some.inj y)
    · rw [hq] at y; exact eO _ _ (Option.some.inj y)) hq
  have iO : ∀ {n n' : Nat} {f : Nat → Int32} {f' : Nat → Option Nat}, gI Γ n f ≠ gO Γ n' f' := fun z => by
    have z2 := congrArg (fun x : va_E => match x with | .inl (_, _, .inl _) => true | _ => false) z
    cases z2
  refine ⟨⟨?_, gAL_kp HL hk (fun q hq z => g5 q hq z), hlc, fun i b hb => gLet_cong (N := N) (nf (hls i b hb) (fun fs z => by cases z) (fun n f z => by cases z)) (fun q q1 q2 => e q ?_), nf hta (fun fs z => by cases z) (fun n f z => by cases z), HP', ht, hp, nf hep (fun fs z => by cases z) (fun n f z => by cases z), ⟨fc, nf hca (fun fs z => by cases z) (fun n f z => iO z), fun r hr => (hfc r hr).trans (e _ (by unfold gRel; omega))⟩, ⟨fd, nf hda (fun fs z => by cases z) (fun n f z => iO z), fun r hr => (hfd r hr).trans (e _ (by unfold gRel; omega))⟩, ⟨fb, nf hba (fun fs z => by cases z) (fun n f z => iO z), fun r hr => (hfb r hr).trans (e _ (by unfold gRel; omega))⟩⟩, g1, g2, g3, g4, fun q hq hq2 => ?_⟩
  · rw [← e 0 (by unfold gRel; omega), ← e 1 (by unfold gRel; omega), ← e 2 (by unfold gRel; omega), ← e 5 (by unfold gRel; omega), ← e 6 (by unfold gRel; omega), ← e 7 (by unfold gRel; omega)]
    exact nf ho (fun fs z => by cases z) (fun n f z => by cases z)
  · have := (List.getElem?_eq_some_iff.mp hb).1
    unfold gRel; omega
  · rcases hfq q hq2 with z | z
    · exact g5 q hq z
    · rcases gAL_nk HL q hq with ⟨fs, y⟩ | ⟨n, f, y⟩ <;> (rw [z] at y; cases y)
theorem of_takeIn {o c t la ta ca da ba pa ep : Nat} {fl fq ls ps : List Nat} {N : Nat → Int32} {mi p : Nat} (hp : gPall Γ de mi) (H : gOx Γ de h o N c t la ta ca da ba pa ep fl fq ls ps) (nd : (gFp o ta ca da ba fl fq ls).Nodup) (hc : c ≤ 20) (ht : t ≤ 12) (h3 : N 3 = nI c) (code wt : Int32) (hpr : p ≤ 1) : gC Γ M_X4_takeIn [.ref o, .int code, .int wt, .int (nI p)] h 8 2 71 (cmdZ Γ de h o la ta ca da ba pa ep (gFp o ta ca da ba fl fq ls) (rT (bI ((nI 0 ≤ code ∧ code ≤ nI 9999) ∧ (nI 1 ≤ wt ∧ wt ≤ nI 50))) (bI (N 3 < nI 20)) (nI 1)) (N 2) (ccd (-1) (-4) 0) (rAcc N code wt (nI p) c) (c + 1) t) (fun _ _ => False) := by
  have H0 := H
  obtain ⟨ho, HL, hlc, hls, hta, HP, hpc, hps, hep, ⟨fc, hca, hfc⟩, ⟨fd, hda, hfd⟩, ⟨fb, hba, hfb⟩⟩ := H0
  have g := gNd_of nd
  refine gC_of (by decide) rfl (Nat.le_of_ble_eq_true rfl) [some (.ref o), some (.int code), some (.int wt), some (.int (nI p)), none] rfl ?_
  refine g_blk [(.iload_n 1, .null)] (Nat.le_of_ble_eq_true rfl) (by decide +kernel) ?_
  refine gx_iload_n_1 ((gx_nil ?_))
  refine g_pSN kX4_77 (pc_isCode _) (by decide +kernel) rfl rfl (Nat.le_of_ble_eq_true rfl) (Nat.le_of_ble_eq_true rfl) (Nat.le_of_ble_eq_true rfl) rfl ?_
  try simp only [Option.toList_some, Option.toList_none, List.cons_append, List.nil_append, bI_0, n1_0, n0_0, Decidable.not_not, not_true_eq_false, not_false_eq_true]
  refine g_if_eq (off := 14) (tgt := 18) (by decide +kernel) (by decide) (fun c4 => ?_) (fun c4 => ?_)
  · try simp only [bI_0, Decidable.not_not] at c4
    refine g_blk [(.iconst (-1), .int (-1))] (Nat.le_of_ble_eq_true rfl) (by decide +kernel) ?_
    refine gx_iconst ((gx_nil ?_))
    refine g_end (some (.int _)) rfl ⟨by decide +kernel, _, rfl, rfl⟩ ?_
    refine Or.inr ⟨?_, ?_, rfl⟩
    · rw [bI_f (p := (nI 0 ≤ code ∧ code ≤ nI 9999) ∧ (nI 1 ≤ wt ∧ wt ≤ nI 50)) (fun z => c4 z.1), rT_1]; decide
    · rw [bI_f (p := (nI 0 ≤ code ∧ code ≤ nI 9999) ∧ (nI 1 ≤ wt ∧ wt ≤ nI 50)) (fun z => c4 z.1), rT_1]; rfl
  · try simp only [bI_0, Decidable.not_not] at c4
    refine g_blk [(.iload_n 2, .null), (.iconst 1, .int (nI 1))] (Nat.le_of_ble_eq_true rfl) (by decide +kernel) ?_
    refine gx_iload_n_2 (gx_iconst ((gx_nil ?_)))
    refine g_icmp_lt (off := 9) (tgt := 18) (by decide +kernel) (by decide) (fun c9 => ?_) (fun c9 => ?_)
    · try simp only [bI_0, Decidable.not_not] at c9
      refine g_blk [(.iconst (-1), .int (-1))] (Nat.le_of_ble_eq_true rfl) (by decide +kernel) ?_
      refine gx_iconst ((gx_nil ?_))
      refine g_end (some (.int _)) rfl ⟨by decide +kernel, _, rfl, rfl⟩ ?_
      refine Or.inr ⟨?_, ?_, rfl⟩
      · rw [bI_f (p := (nI 0 ≤ code ∧ code ≤ nI 9999) ∧ (nI 1 ≤ wt ∧ wt ≤ nI 50)) (fun z => absurd c9 (Int32.not_lt.mpr z.2.1)), rT_1]; decide
      · rw [bI_f (p := (nI 0 ≤ code ∧ code ≤ nI 9999) ∧ (nI 1 ≤ wt ∧ wt ≤ nI 50)) (fun z => absurd c9 (Int32.not_lt.mpr z.2.1)), rT_1]; rfl
    · try simp only [bI_0, Decidable.not_not] at c9
      refine g_blk [(.iload_n 2, .null), (.bipush 50, .int (nI 50))] (Nat.le_of_ble_eq_true rfl) (by decide +kernel) ?_
      refine gx_iload_n_2 (gx_bipush ((gx_nil ?_)))
      refine g_icmp_le (off := 5) (tgt := 20) (by decide +kernel) (by decide) (fun c15 => ?_) (fun c15 => ?_)
      · try simp only [bI_0, Decidable.not_not] at c15
        refine g_blk [(.aload_n 0, .null)] (Nat.le_of_ble_eq_true rfl) (by decide +kernel) ?_
        refine gx_aload_n_0 ((gx_nil ?_))
        refine g_getf fX4_12 (by decide +kernel) ho rfl ?_
        refine g_pV kX4_55 (al_size HL) (by decide +kernel) rfl rfl (al_cell HL) rfl (Nat.le_of_ble_eq_true rfl) (Nat.le_of_ble_eq_true rfl) (Nat.le_of_ble_eq_true rfl) rfl ?_
        simp only [Option.toList_some, List.cons_append, List.nil_append]
        rw [hlc]
        refine g_blk [(.bipush 20, .int (nI 20))] (Nat.le_of_ble_eq_true rfl) (by decide +kernel) ?_
        refine gx_bipush ((gx_nil ?_))
        refine g_icmp_lt (off := 6) (tgt := 35) (by decide +kernel) (by decide) (fun c29 => ?_) (fun c29 => ?_)
        · try simp only [bI_0, Decidable.not_not] at c29
          have hc20 : c < 20 := (nI_ltI (by omega) (by omega)).mp c29
          refine g_new nX4_63 (rc' := 1) (rs' := 64) (by decide +kernel) (by omega) (by simp) (fun a ha => ?_)
          have H1 := gOx_kp H (gAll_up (e := .inr (6, [.int 0, .int 0, .int 0, .int 0, .int 0, .int 0, .int 0])) ha) (fun _ _ y => y) (fun _ y => y.elim)
          have ho1 := H1.1
          refine g_blk [(.dup, .null), (.aload_n 0, .null)] (Nat.le_of_ble_eq_true rfl) (by decide +kernel) ?_
          refine gx_dupr (gx_aload_n_0 ((gx_nil ?_)))
          refine g_getf fX4_42 (by decide +kernel) ho1 rfl ?_
          refine g_blk [(.iload_n 1, .null), (.iload_n 2, .null), (.iload_n 3, .null)] (Nat.le_of_ble_eq_true rfl) (by decide +kernel) ?_
          refine gx_iload_n_1 (gx_iload_n_2 (gx_iload_n_3 ((gx_nil ?_))))
          refine g_callI (rc' := 1) (rs' := 64) kX4_81 (le_init (gUp_s _ _ _) (N 2) code wt (nI p) (pr_nar hpr).1 (pr_nar hpr).2) (by decide +kernel) rfl rfl rfl (Nat.le_of_ble_eq_true rfl) (Nat.le_of_ble_eq_true rfl) (Nat.le_of_ble_eq_true rfl) (by omega) (by omega) rfl (fun _ _ z => z.elim) (fun v9 h5 hz => ?_)
          obtain ⟨rfl, h5e⟩ := hz
          have ha5 : h5 a = some (gJ 6 [.int (N 2), .int code, .int wt, .int (nI p), .int 0, .int (-1), .int (-1)]) := by rw [h5e, gUp_s]
          have hall : gAll h h5 := by rw [h5e, gUp_gUp]; exact gAll_up ha
          clear h5e
          have H5 := gOx_kp H hall (fun _ _ y => y) (fun _ y => y.elim)
          have ho5 := H5.1
          simp only [Option.toList_some, Option.toList_none, List.cons_append, List.nil_append]
          refine g_blk [(.astore 4, .null), (.aload_n 0, .null), (.dup, .null)] (Nat.le_of_ble_eq_true rfl) (by decide +kernel) ?_
          refine gx_astore_4 rfl (gx_aload_n_0 (gx_dupr ((gx_nil ?_))))
          refine g_getf fX4_42 (by decide +kernel) ho5 rfl ?_
          refine g_blk [(.iconst 1, .int (nI 1)), (.iadd, .null)] (Nat.le_of_ble_eq_true rfl) (by decide +kernel) ?_
          refine gx_iconst (gx_iadd ((gx_nil ?_)))
          refine g_putf fX4_42 (by decide +kernel) ho5 (by simp) rfl rfl ?_
          have eO : ∀ q, q ≠ 2 → q ≠ 3 → ¬ (62 + 7 * c ≤ q ∧ q < 62 + 7 * c + 7) → rAcc N code wt (nI p) c q = N q := fun q q1 q2 q3 => by
            unfold rAcc
            rw [pk_un (by omega), pk_un (by omega), pk_un (by omega), pk_un (by omega), pk_un (by omega), pk_un (by omega), pk_un (by omega), pk_un (by omega), pk_un (by omega)]
          have e2 : rAcc N code wt (nI p) c 2 = N 2 + nI 1 := by
            unfold rAcc
            rw [pk_us]
            repeat rw [pk_un (by omega)]
          have H6 := gOx_upO H5 (N' := rAcc N code wt (nI p) c) (fun q q1 q2 => (eO q (by omega) (by omega) (by unfold gRel at q1; omega)).symm) (cell := gJ 7 [.ref la, .ref ta, .ref ca, .ref da, .ref ba, .int (N 0), .int (N 1), .int (N 2 + nI 1), .int (N 5), .int (N 6), .int (N 7)]) (by
            rw [e2, eO 0 (by omega) (by omega) (by omega), eO 1 (by omega) (by omega) (by omega), eO 5 (by omega) (by omega) (by omega), eO 6 (by omega) (by omega) (by omega), eO 7 (by omega) (by omega) (by omega)])
          have hoa : a ≠ o := fun z => by rw [z, ho5] at ha5; cases ha5
          have ha6 := (gUp_n (h := h5) (a := o) (gJ 7 [.ref la, .ref ta, .ref ca, .ref da, .ref ba, .int (N 0), .int (N 1), .int (N 2 + nI 1), .int (N 5), .int (N 6), .int (N 7)]) hoa).trans ha5
          have k6 : gKeep (fun q => q ∈ gFp o ta ca da ba fl fq ls) h (gUp h5 o (gJ 7 [.ref la, .ref ta, .ref ca, .ref da, .ref ba, .int (N 0), .int (N 1), .int (N 2 + nI 1), .int (N 5), .int (N 6), .int (N 7)])) := gK_up (gK_all hall) (Or.inl memO)
          refine g_hp (h1 := gUp h5 o (gJ 7 [.ref la, .ref ta, .ref ca, .ref da, .ref ba, .int (N 0), .int (N 1), .int (N 2 + nI 1), .int (N 5), .int (N 6), .int (N 7)])) rfl ?_
          revert H6 ha6 k6
          generalize gUp h5 o (gJ 7 [.ref la, .ref ta, .ref ca, .ref da, .ref ba, .int (N 0), .int (N 1), .int (N 2 + nI 1), .int (N 5), .int (N 6), .int (N 7)]) = h6
          intro H6 ha6 k6
          have H60 := H6
          obtain ⟨ho6, HL6, -, hls6, -⟩ := H60
          refine g_blk [(.aload_n 0, .null)] (Nat.le_of_ble_eq_true rfl) (by decide +kernel) ?_
          refine gx_aload_n_0 ((gx_nil ?_))
          refine g_getf fX4_12 (by decide +kernel) ho6 rfl ?_
          refine g_blk [(.aload 4, .null)] (Nat.le_of_ble_eq_true rfl) (by decide +kernel) ?_
          refine gx_aload_4 ((gx_nil ?_))
          refine g_callV (rc' := 0) (rs' := 0) kX4_69 (al_add (x := a) hp HL6 (by rw [hlc]; omega) gCi_6 (by decide) (gEl_le hls6) ⟨_, ha6⟩) (by decide +kernel) rfl rfl (al_cell HL6) rfl (Nat.le_of_ble_eq_true rfl) (Nat.le_of_ble_eq_true rfl) (Nat.le_of_ble_eq_true rfl) (by omega) (by omega) rfl (fun _ _ z => z.elim) (fun v9 h7 hz => ?_)
          obtain ⟨rfl, fl', kA, kB, kC⟩ := hz
          have hafl : a ∉ fl := fun z => by
            rcases gAL_nk HL6 a z with ⟨fs, y⟩ | ⟨n, f, y⟩ <;> (rw [ha6] at y; cases y)
          have hals : a ∉ ls := fun z => by
            obtain ⟨j, hj⟩ := List.getElem?_of_mem z
            have y := hls j a hj
            unfold gLet at y
            rw [ha] at y; cases y
          have ha7 := kC a _ hafl ha6
          have S := gOx_addL H6 g kC kA (a := a) (by
            unfold gLet gBg
            have f0 : rAcc N code wt (nI p) c (62 + 7 * c) = N 2 := by unfold rAcc; repeat (first | rw [pk_us] | rw [pk_un (by omega)])
            have f1 : rAcc N code wt (nI p) c (62 + 7 * c + 1) = code := by unfold rAcc; repeat (first | rw [pk_us] | rw [pk_un (by omega)])
            have f2 : rAcc N code wt (nI p) c (62 + 7 * c + 2) = wt := by unfold rAcc; repeat (first | rw [pk_us] | rw [pk_un (by omega)])
            have f3 : rAcc N code wt (nI p) c (62 + 7 * c + 3) = nI p := by unfold rAcc; repeat (first | rw [pk_us] | rw [pk_un (by omega)])
            have f4 : rAcc N code wt (nI p) c (62 + 7 * c + 4) = 0 := by
              unfold rAcc
              repeat (first | rw [pk_us] | rw [pk_un (by omega)])
              exact z0
            have f5 : rAcc N code wt (nI p) c (62 + 7 * c + 5) = -1 := by unfold rAcc; repeat (first | rw [pk_us] | rw [pk_un (by omega)])
            rw [f0, f1, f2, f3, f4, f5, if_pos rfl]
            exact ha7) hals kB
          have fr : ∀ q ∈ gFp o ta ca da ba fl' fq (ls ++ [a]), q ∈ gFp o ta ca da ba fl fq ls ∨ h q = none := fun q hq => by
            rcases gFp_m.mp hq with z | z | z | z | z | z | z | z
            · exact Or.inl (gFp_m.mpr (by simp [z]))
            · exact Or.inl (gFp_m.mpr (by simp [z]))
            · exact Or.inl (gFp_m.mpr (by simp [z]))
            · exact Or.inl (gFp_m.mpr (by simp [z]))
            · exact Or.inl (gFp_m.mpr (by simp [z]))
            · rcases kB q z with y | y
              · exact Or.inl (gFp_m.mpr (by simp [y]))
              · exact Or.inr (gK_no k6 (fun z9 y9 => by
                  have y8 := gFp_kind H6 z9 y9
                  exact y8.imp (fun _ x => x.1)) y)
            · exact Or.inl (gFp_m.mpr (by simp [z]))
            · rcases List.mem_append.mp z with y | y
              · exact Or.inl (gFp_m.mpr (by simp [y]))
              · rw [List.mem_singleton.mp y]; exact Or.inr ha
          have kS : gKeep (fun q => q ∈ gFp o ta ca da ba fl fq ls) h h7 := gK_tr k6 kC (fun z y => Or.inl (gFp_m.mpr (by simp [y])))
          simp only [Option.toList_some, Option.toList_none, List.cons_append, List.nil_append]
          refine g_blk [(.pop, .null), (.aload 4, .null)] (Nat.le_of_ble_eq_true rfl) (by decide +kernel) ?_
          refine gx_popi (gx_aload_4 ((gx_nil ?_)))
          refine g_getf fX4_84 (by decide +kernel) ha7 rfl ?_
          refine g_end (some (.int _)) rfl ⟨by decide +kernel, _, rfl, rfl⟩ ?_
          refine Or.inl ⟨?_, rfl, fl', fq, ls ++ [a], ps, S.1, gNd_to S.1 S.2, fr, kS⟩
          rw [bI_t (p := (nI 0 ≤ code ∧ code ≤ nI 9999) ∧ (nI 1 ≤ wt ∧ wt ≤ nI 50)) ⟨c4, Int32.not_lt.mp c9, c15⟩, bI_t (p := N 3 < nI 20) (by rw [h3]; exact c29), rT_0]
        · try simp only [bI_0, Decidable.not_not] at c29
          refine g_blk [(.bipush (-4), .int (-4))] (Nat.le_of_ble_eq_true rfl) (by decide +kernel) ?_
          refine gx_bipush ((gx_nil ?_))
          refine g_end (some (.int _)) rfl ⟨by decide +kernel, _, rfl, rfl⟩ ?_
          refine Or.inr ⟨?_, ?_, rfl⟩
          · rw [bI_t (p := (nI 0 ≤ code ∧ code ≤ nI 9999) ∧ (nI 1 ≤ wt ∧ wt ≤ nI 50)) ⟨c4, Int32.not_lt.mp c9, c15⟩, bI_f (p := N 3 < nI 20) (fun z => c29 (by rw [← h3]; exact z)), rT_2]; decide
          · rw [bI_t (p := (nI 0 ≤ code ∧ code ≤ nI 9999) ∧ (nI 1 ≤ wt ∧ wt ≤ nI 50)) ⟨c4, Int32.not_lt.mp c9, c15⟩, bI_f (p := N 3 < nI 20) (fun z => c29 (by rw [← h3]; exact z)), rT_2]; rfl
      · try simp only [bI_0, Decidable.not_not] at c15
        refine g_blk [(.iconst (-1), .int (-1))] (Nat.le_of_ble_eq_true rfl) (by decide +kernel) ?_
        refine gx_iconst ((gx_nil ?_))
        refine g_end (some (.int _)) rfl ⟨by decide +kernel, _, rfl, rfl⟩ ?_
        refine Or.inr ⟨?_, ?_, rfl⟩
        · rw [bI_f (p := (nI 0 ≤ code ∧ code ≤ nI 9999) ∧ (nI 1 ≤ wt ∧ wt ≤ nI 50)) (fun z => c15 z.2.2), rT_1]; decide
        · rw [bI_f (p := (nI 0 ≤ code ∧ code ≤ nI 9999) ∧ (nI 1 ≤ wt ∧ wt ≤ nI 50)) (fun z => c15 z.2.2), rT_1]; rfl
theorem of_enter {o c t la ta ca da ba pa ep : Nat} {fl fq ls ps : List Nat} {N : Nat → Int32} {mi : Nat} (hp : gPall Γ de mi) (H : gOx Γ de h o N c t la ta ca da ba pa ep fl fq ls ps) (nd : (gFp o ta ca da ba fl fq ls).Nodup) (ht : t ≤ 12) (h4 : N 4 = nI t) (hu : rUp N t) (dg ln rt : Int32) : gC Γ M_X8_enter [.ref ta, .int dg, .int ln, .int rt] h 8 2 69 (cmdZ Γ de h o la ta ca da ba pa ep (gFp o ta ca da ba fl fq ls) (rT (bI (rPx dg ln = true)) (bI (nI 0 ≤ rt ∧ rt ≤ nI 5)) (bI (N 4 < nI 12 ∧ rFind N dg ln t = -1))) (N 4 + nI 1) (ccd (-1) (-2) (-4)) (rAddN N dg ln rt t) c (t + 1)) (fun _ _ => False) := by
  have H0 := H
  obtain ⟨ho, HL, hlc, hls, hta, HP, hpc, hps, hep, ⟨fc, hca, hfc⟩, ⟨fd, hda, hfd⟩, ⟨fb, hba, hfb⟩⟩ := H0
  have g := gNd_of nd
  refine gC_of (by decide) rfl (Nat.le_of_ble_eq_true rfl) [some (.ref ta), some (.int dg), some (.int ln), some (.int rt)] rfl ?_
  refine g_blk [(.iload_n 1, .null), (.iload_n 2, .null)] (Nat.le_of_ble_eq_true rfl) (by decide +kernel) ?_
  refine gx_iload_n_1 (gx_iload_n_2 ((gx_nil ?_)))
  refine g_pSN kX8_39 (pc_isPrefix _ _) (by decide +kernel) rfl rfl (Nat.le_of_ble_eq_true rfl) (Nat.le_of_ble_eq_true rfl) (Nat.le_of_ble_eq_true rfl) rfl ?_
  try simp only [Option.toList_some, Option.toList_none, List.cons_append, List.nil_append, bI_0, n1_0, n0_0, Decidable.not_not, not_true_eq_false, not_false_eq_true]
  refine g_if_ne (off := 5) (tgt := 10) (by decide +kernel) (by decide) (fun c5 => ?_) (fun c5 => ?_)
  · try simp only [bI_0, Decidable.not_not] at c5
    refine g_blk [(.iload_n 3, .null)] (Nat.le_of_ble_eq_true rfl) (by decide +kernel) ?_
    refine gx_iload_n_3 ((gx_nil ?_))
    refine g_pSN kX8_43 (pc_isRoute _) (by decide +kernel) rfl rfl (Nat.le_of_ble_eq_true rfl) (Nat.le_of_ble_eq_true rfl) (Nat.le_of_ble_eq_true rfl) rfl ?_
    try simp only [Option.toList_some, Option.toList_none, List.cons_append, List.nil_append, bI_0, n1_0, n0_0, Decidable.not_not, not_true_eq_false, not_false_eq_true]
    refine g_if_ne (off := 6) (tgt := 20) (by decide +kernel) (by decide) (fun c14 => ?_) (fun c14 => ?_)
    · try simp only [bI_0, Decidable.not_not] at c14
      refine g_blk [(.aload_n 0, .null)] (Nat.le_of_ble_eq_true rfl) (by decide +kernel) ?_
      refine gx_aload_n_0 ((gx_nil ?_))
      refine g_getf fX8_12 (by decide +kernel) hta rfl ?_
      refine g_pV kX8_27 (al_size HP) (by decide +kernel) rfl rfl (al_cell HP) rfl (Nat.le_of_ble_eq_true rfl) (Nat.le_of_ble_eq_true rfl) (Nat.le_of_ble_eq_true rfl) rfl ?_
      simp only [Option.toList_some, List.cons_append, List.nil_append]
      rw [hpc]
      refine g_blk [(.bipush 12, .int (nI 12))] (Nat.le_of_ble_eq_true rfl) (by decide +kernel) ?_
      refine gx_bipush ((gx_nil ?_))
      refine g_icmp_ge (off := 13) (tgt := 42) (by decide +kernel) (by decide) (fun c29 => ?_) (fun c29 => ?_)
      · try simp only [bI_0, Decidable.not_not] at c29
        refine g_blk [(.bipush (-4), .int (-4))] (Nat.le_of_ble_eq_true rfl) (by decide +kernel) ?_
        refine gx_bipush ((gx_nil ?_))
        refine g_end (some (.int _)) rfl ⟨by decide +kernel, _, rfl, rfl⟩ ?_
        refine Or.inr ⟨?_, ?_, rfl⟩
        · rw [bI_t c5, bI_t c14, bI_f (p := N 4 < nI 12 ∧ rFind N dg _ t = -1) (fun z => absurd z.1 (by rw [h4]; exact Int32.not_lt.mpr c29)), rT_3]; decide
        · rw [bI_t c5, bI_t c14, bI_f (p := N 4 < nI 12 ∧ rFind N dg _ t = -1) (fun z => absurd z.1 (by rw [h4]; exact Int32.not_lt.mpr c29)), rT_3]; rfl
      · try simp only [bI_0, Decidable.not_not] at c29
        refine g_blk [(.aload_n 0, .null), (.iload_n 1, .null), (.iload_n 2, .null)] (Nat.le_of_ble_eq_true rfl) (by decide +kernel) ?_
        refine gx_aload_n_0 (gx_iload_n_1 (gx_iload_n_2 ((gx_nil ?_))))
        refine g_pV kX8_47 (tb_positionOf hta HP hpc hps ht hu _ _) (by decide +kernel) rfl rfl hta rfl (Nat.le_of_ble_eq_true rfl) (Nat.le_of_ble_eq_true rfl) (Nat.le_of_ble_eq_true rfl) rfl ?_
        try simp only [Option.toList_some, Option.toList_none, List.cons_append, List.nil_append, bI_0, n1_0, n0_0, Decidable.not_not, not_true_eq_false, not_false_eq_true]
        refine g_blk [(.iconst (-1), .int (-1))] (Nat.le_of_ble_eq_true rfl) (by decide +kernel) ?_
        refine gx_iconst ((gx_nil ?_))
        refine g_icmp_eq (off := 6) (tgt := 45) (by decide +kernel) (by decide) (fun c39 => ?_) (fun c39 => ?_)
        · try simp only [bI_0, Decidable.not_not] at c39
          refine g_blk [(.aload_n 0, .null)] (Nat.le_of_ble_eq_true rfl) (by decide +kernel) ?_
          refine gx_aload_n_0 ((gx_nil ?_))
          refine g_getf fX8_12 (by decide +kernel) hta rfl ?_
          have ht12 : t < 12 := (nI_ltI (by omega) (by omega)).mp (Int32.not_le.mp c29)
          have hpx := of_decide_eq_true c5
          obtain ⟨k, hk4, rfl⟩ := nI_of2 (M := nI 4) (n := 4) (by decide) (fun z => by
            have := Int32.lt_of_lt_of_le z (show (0 : Int32) ≤ nI 1 by decide)
            exact absurd hpx.1.1 (Int32.not_le.mpr this)) hpx.1.2
          refine g_new nX8_18 (rc' := 1) (rs' := 64) (by decide +kernel) (by omega) (by simp) (fun p hp9 => ?_)
          refine g_blk [(.dup, .null), (.iload_n 1, .null), (.iload_n 2, .null), (.iload_n 3, .null)] (Nat.le_of_ble_eq_true rfl) (by decide +kernel) ?_
          refine gx_dupr (gx_iload_n_1 (gx_iload_n_2 (gx_iload_n_3 ((gx_nil ?_)))))
          refine g_callI (rc' := 1) (rs' := 64) kX8_20 (pr_init (gUp_s _ _ _) dg rt hk4) (by decide +kernel) rfl rfl rfl (Nat.le_of_ble_eq_true rfl) (Nat.le_of_ble_eq_true rfl) (Nat.le_of_ble_eq_true rfl) (by omega) (by omega) rfl (fun _ _ z => z.elim) (fun v9 h5 hz => ?_)
          obtain ⟨rfl, h5e⟩ := hz
          have hp5 : h5 p = some (gJ 9 [.int dg, .int (nI k), .int rt, .int (nI (10 ^ (4 - k))), .int (dg * nI (10 ^ (4 - k)))]) := by rw [h5e, gUp_s]
          have hall : gAll h h5 := by rw [h5e, gUp_gUp]; exact gAll_up hp9
          clear h5e
          have H5 := gOx_kp H hall (fun _ _ y => y) (fun _ y => y.elim)
          have H50 := H5
          obtain ⟨-, -, -, -, hta5, HP5, -, hps5, -⟩ := H50
          simp only [Option.toList_some, Option.toList_none, List.cons_append, List.nil_append]
          refine g_callV (rc' := 0) (rs' := 0) kX8_35 (al_add (x := p) hp HP5 (by rw [hpc]; omega) gCi_9 (by decide) (gEl_pr hps5 (fun x hx => hx)) ⟨_, hp5⟩) (by decide +kernel) rfl rfl (al_cell HP5) rfl (Nat.le_of_ble_eq_true rfl) (Nat.le_of_ble_eq_true rfl) (Nat.le_of_ble_eq_true rfl) (by omega) (by omega) rfl (fun _ _ z => z.elim) (fun v9 h7 hz => ?_)
          obtain ⟨rfl, fq', kA, kB, kC⟩ := hz
          have hpfq : p ∉ fq := fun z => by
            rcases gAL_nk HP5 p z with ⟨fs, y⟩ | ⟨n, f, y⟩ <;> (rw [hp5] at y; cases y)
          have eO : ∀ q, q ≠ 4 → ¬ (26 + 3 * t ≤ q ∧ q < 26 + 3 * t + 3) → rAddN N dg (nI k) rt t q = N q := fun q q1 q2 => by
            unfold rAddN
            rw [pk_un (by omega), pk_un (by omega), pk_un (by omega), pk_un (by omega)]
          have S := gOx_setP2 H5 g (N' := rAddN N dg (nI k) rt t) (t' := t + 1) (fun q q1 => (eO q (by unfold gRel at q1; omega) (by unfold gRel at q1; omega)).symm) kC kA (by rw [List.length_append, hpc]; rfl) (fun j b hb => by
            by_cases z : j < ps.length
            · rw [List.getElem?_append_left z] at hb
              exact gPre_cong (kC b _ (fun y => by
                have y8 := hps5 j b hb
                unfold gPre at y8
                rcases gAL_nk HP5 b y with ⟨fs, y⟩ | ⟨n, f, y⟩ <;> (rw [y8] at y; cases y)) (hps5 j b hb)) (fun q q1 q2 => (eO q (by omega) (by omega)).symm)
            · rw [List.getElem?_append_right (by omega)] at hb
              have hj : j - ps.length = 0 := by
                have := (List.getElem?_eq_some_iff.mp hb).1
                have h1 : [p].length = 1 := rfl
                omega
              rw [hj] at hb
              cases hb
              rw [show j = t by omega]
              unfold gPre gSpan
              have f0 : rAddN N dg (nI k) rt t (26 + 3 * t) = dg := by unfold rAddN; repeat (first | rw [pk_us] | rw [pk_un (by omega)])
              have f1 : rAddN N dg (nI k) rt t (26 + 3 * t + 1) = nI k := by unfold rAddN; repeat (first | rw [pk_us] | rw [pk_un (by omega)])
              have f2 : rAddN N dg (nI k) rt t (26 + 3 * t + 2) = rt := by unfold rAddN; repeat (first | rw [pk_us] | rw [pk_un (by omega)])
              rw [f0, f1, f2, nI_subN hk4, rTens_n (by omega)]
              exact kC p _ hpfq hp5) kB
          have fr : ∀ q ∈ gFp o ta ca da ba fl fq' ls, q ∈ gFp o ta ca da ba fl fq ls ∨ h q = none := fun q hq => by
            rcases gFp_m.mp hq with z | z | z | z | z | z | z | z
            · exact Or.inl (gFp_m.mpr (by simp [z]))
            · exact Or.inl (gFp_m.mpr (by simp [z]))
            · exact Or.inl (gFp_m.mpr (by simp [z]))
            · exact Or.inl (gFp_m.mpr (by simp [z]))
            · exact Or.inl (gFp_m.mpr (by simp [z]))
            · exact Or.inl (gFp_m.mpr (by simp [z]))
            · rcases kB q z with y | y
              · exact Or.inl (gFp_m.mpr (by simp [y]))
              · exact Or.inr (gAll_no hall y)
            · exact Or.inl (gFp_m.mpr (by simp [z]))
          have kS : gKeep (fun q => q ∈ gFp o ta ca da ba fl fq ls) h h7 := gK_tr (gK_all hall) kC (fun z y => Or.inl (gFp_m.mpr (by simp [y])))
          have hta7 := S.1.2.2.2.2.1
          have HP7 := S.1.2.2.2.2.2.1
          simp only [Option.toList_some, Option.toList_none, List.cons_append, List.nil_append]
          refine g_blk [(.pop, .null), (.aload_n 0, .null)] (Nat.le_of_ble_eq_true rfl) (by decide +kernel) ?_
          refine gx_popi (gx_aload_n_0 ((gx_nil ?_)))
          refine g_getf fX8_12 (by decide +kernel) hta7 rfl ?_
          refine g_pV kX8_27 (al_size HP7) (by decide +kernel) rfl rfl (al_cell HP7) rfl (Nat.le_of_ble_eq_true rfl) (Nat.le_of_ble_eq_true rfl) (Nat.le_of_ble_eq_true rfl) rfl ?_
          simp only [Option.toList_some, List.cons_append, List.nil_append]
          rw [S.1.2.2.2.2.2.2.1]
          refine g_end (some (.int _)) rfl ⟨by decide +kernel, _, rfl, rfl⟩ ?_
          refine Or.inl ⟨?_, ?_, fl, fq', ls, ps ++ [p], S.1, gNd_to S.1 S.2, fr, kS⟩
          · rw [bI_t c5, bI_t c14, bI_t (p := N 4 < nI 12 ∧ rFind N dg _ t = -1) ⟨by rw [h4]; exact Int32.not_le.mp c29, c39⟩, rT_0]
          · rw [h4, nI_add]
        · try simp only [bI_0, Decidable.not_not] at c39
          refine g_blk [(.bipush (-4), .int (-4))] (Nat.le_of_ble_eq_true rfl) (by decide +kernel) ?_
          refine gx_bipush ((gx_nil ?_))
          refine g_end (some (.int _)) rfl ⟨by decide +kernel, _, rfl, rfl⟩ ?_
          refine Or.inr ⟨?_, ?_, rfl⟩
          · rw [bI_t c5, bI_t c14, bI_f (p := N 4 < nI 12 ∧ rFind N dg _ t = -1) (fun z => c39 z.2), rT_3]; decide
          · rw [bI_t c5, bI_t c14, bI_f (p := N 4 < nI 12 ∧ rFind N dg _ t = -1) (fun z => c39 z.2), rT_3]; rfl
    · try simp only [bI_0, Decidable.not_not] at c14
      refine g_blk [(.bipush (-2), .int (-2))] (Nat.le_of_ble_eq_true rfl) (by decide +kernel) ?_
      refine gx_bipush ((gx_nil ?_))
      refine g_end (some (.int _)) rfl ⟨by decide +kernel, _, rfl, rfl⟩ ?_
      refine Or.inr ⟨?_, ?_, rfl⟩
      · rw [bI_t c5, bI_f c14, rT_2]; decide
      · rw [bI_t c5, bI_f c14, rT_2]; rfl
  · try simp only [bI_0, Decidable.not_not] at c5
    refine g_blk [(.iconst (-1), .int (-1))] (Nat.le_of_ble_eq_true rfl) (by decide +kernel) ?_
    refine gx_iconst ((gx_nil ?_))
    refine g_end (some (.int _)) rfl ⟨by decide +kernel, _, rfl, rfl⟩ ?_
    refine Or.inr ⟨?_, ?_, rfl⟩
    · rw [bI_f c5, rT_1]; decide
    · rw [bI_f c5, rT_1]; rfl
theorem of_strike {o c t la ta ca da ba pa ep : Nat} {fl fq ls ps : List Nat} {N : Nat → Int32} (H : gOx Γ de h o N c t la ta ca da ba pa ep fl fq ls ps) (nd : (gFp o ta ca da ba fl fq ls).Nodup) (ht : t ≤ 12) (hu : rUp N t) (dg ln : Int32) : gC Γ M_X8_strike [.ref ta, .int dg, .int ln] h 4 0 0 (cmdZ Γ de h o la ta ca da ba pa ep (gFp o ta ca da ba fl fq ls) (rT (bI (rPx dg ln = true)) (bI (¬ rFind N dg ln t = -1)) (nI 1)) (N (26 + 3 * (rFind N dg ln t).toNatClampNeg + 2)) (ccd (-1) (-3) 0) (rRm N (rFind N dg ln t).toNatClampNeg) c (t - 1)) (fun _ _ => False) := by
  have H0 := H
  obtain ⟨ho, HL, hlc, hls, hta, HP, hpc, hps, hep, ⟨fc, hca, hfc⟩, ⟨fd, hda, hfd⟩, ⟨fb, hba, hfb⟩⟩ := H0
  have g := gNd_of nd
  refine gC_of (by decide) rfl (Nat.le_of_ble_eq_true rfl) [some (.ref ta), some (.int dg), some (.int ln), none] rfl ?_
  refine g_blk [(.iload_n 1, .null), (.iload_n 2, .null)] (Nat.le_of_ble_eq_true rfl) (by decide +kernel) ?_
  refine gx_iload_n_1 (gx_iload_n_2 ((gx_nil ?_)))
  refine g_pSN kX8_39 (pc_isPrefix _ _) (by decide +kernel) rfl rfl (Nat.le_of_ble_eq_true rfl) (Nat.le_of_ble_eq_true rfl) (Nat.le_of_ble_eq_true rfl) rfl ?_
  try simp only [Option.toList_some, Option.toList_none, List.cons_append, List.nil_append, bI_0, n1_0, n0_0, Decidable.not_not, not_true_eq_false, not_false_eq_true]
  refine g_if_ne (off := 5) (tgt := 10) (by decide +kernel) (by decide) (fun c5 => ?_) (fun c5 => ?_)
  · try simp only [bI_0, Decidable.not_not] at c5
    refine g_blk [(.aload_n 0, .null), (.iload_n 1, .null), (.iload_n 2, .null)] (Nat.le_of_ble_eq_true rfl) (by decide +kernel) ?_
    refine gx_aload_n_0 (gx_iload_n_1 (gx_iload_n_2 ((gx_nil ?_))))
    refine g_pV kX8_47 (tb_positionOf hta HP hpc hps ht hu _ _) (by decide +kernel) rfl rfl hta rfl (Nat.le_of_ble_eq_true rfl) (Nat.le_of_ble_eq_true rfl) (Nat.le_of_ble_eq_true rfl) rfl ?_
    try simp only [Option.toList_some, Option.toList_none, List.cons_append, List.nil_append, bI_0, n1_0, n0_0, Decidable.not_not, not_true_eq_false, not_false_eq_true]
    refine g_blk [(.istore_n 3, .null), (.iload_n 3, .null)] (Nat.le_of_ble_eq_true rfl) (by decide +kernel) ?_
    refine gx_istore_n_3 rfl (gx_iload_n_3 ((gx_nil ?_)))
    refine g_if_lt (off := 14) (tgt := 32) (by decide +kernel) (by decide) (fun c18 => ?_) (fun c18 => ?_)
    · try simp only [bI_0, Decidable.not_not] at c18
      refine g_blk [(.bipush (-3), .int (-3))] (Nat.le_of_ble_eq_true rfl) (by decide +kernel) ?_
      refine gx_bipush ((gx_nil ?_))
      refine g_end (some (.int _)) rfl ⟨by decide +kernel, _, rfl, rfl⟩ ?_
      have no : ¬ ¬ rFind N dg ln t = -1 := fun z => by
          obtain ⟨k, hk, e⟩ := rFind_in.resolve_left z
          rw [e] at c18
          exact absurd c18 (nI_pos (by omega))
      refine Or.inr ⟨?_, ?_, rfl⟩
      · rw [bI_t c5, bI_f no, rT_2]; decide
      · rw [bI_t c5, bI_f no, rT_2]; rfl
    · try simp only [bI_0, Decidable.not_not] at c18
      have hne : ¬ rFind N dg ln t = -1 := fun z => by rw [z] at c18; exact c18 (by decide)
      obtain ⟨k, hk, ek⟩ := rFind_in.resolve_left hne
      obtain ⟨p9, hx9⟩ : ∃ z, ps[k]? = some z := ⟨_, List.getElem?_eq_getElem (by omega)⟩
      have hp9 := hps k p9 hx9
      refine g_lcl (L' := [some (.ref ta), some (.int dg), some (.int ln), some (.int (nI k))]) (by rw [ek]) ?_
      refine g_blk [(.iload_n 3, .null), (.aload_n 0, .null)] (Nat.le_of_ble_eq_true rfl) (by decide +kernel) ?_
      refine gx_iload_n_3 (gx_aload_n_0 ((gx_nil ?_)))
      refine g_getf fX8_12 (by decide +kernel) hta rfl ?_
      refine g_pV kX8_27 (al_size HP) (by decide +kernel) rfl rfl (al_cell HP) rfl (Nat.le_of_ble_eq_true rfl) (Nat.le_of_ble_eq_true rfl) (Nat.le_of_ble_eq_true rfl) rfl ?_
      simp only [Option.toList_some, List.cons_append, List.nil_append]
      rw [hpc]
      refine g_icmp_lt (off := 6) (tgt := 35) (by decide +kernel) (by decide) (fun c29 => ?_) (fun c29 => ?_)
      · try simp only [bI_0, Decidable.not_not] at c29
        refine g_blk [(.aload_n 0, .null)] (Nat.le_of_ble_eq_true rfl) (by decide +kernel) ?_
        refine gx_aload_n_0 ((gx_nil ?_))
        refine g_getf fX8_12 (by decide +kernel) hta rfl ?_
        refine g_blk [(.iload_n 3, .null)] (Nat.le_of_ble_eq_true rfl) (by decide +kernel) ?_
        refine gx_iload_n_3 ((gx_nil ?_))
        refine g_callV (rc' := 0) (rs' := 0) kX8_51 (al_remove HP hx9 gCi_9 (gEl_pr hps (fun x hx => hx)) (by decide)) (by decide +kernel) rfl rfl (al_cell HP) rfl (Nat.le_of_ble_eq_true rfl) (Nat.le_of_ble_eq_true rfl) (Nat.le_of_ble_eq_true rfl) (by omega) (by omega) rfl (fun _ _ z => z.elim) (fun v9 h5 hz => ?_)
        obtain ⟨rfl, kA, kC⟩ := hz
        have eO : ∀ q, q ≠ 4 → q < 26 ∨ 62 ≤ q → rRm N k q = N q := fun q q1 q2 => by
          unfold rRm rShf
          rw [pk_un q1, if_neg (by omega)]
        have hp7 := kC p9 _ (fun y => by
          unfold gPre at hp9
          rcases gAL_nk HP p9 y with ⟨fs, y⟩ | ⟨n, f, y⟩ <;> (rw [hp9] at y; cases y)) hp9
        have S := gOx_setP2 H g (N' := rRm N k) (t' := t - 1) (fun q q1 => (eO q (by unfold gRel at q1; omega) (by unfold gRel at q1; omega)).symm) kC kA (by rw [List.length_eraseIdx, if_pos (by omega), hpc]) (fun j b hb => by
          have hjl := (List.getElem?_eq_some_iff.mp hb).1
          rw [List.length_eraseIdx, if_pos (by omega), hpc] at hjl
          rw [List.getElem?_eraseIdx] at hb
          have nk : ∀ j9, gPre h N j9 b → gPre h5 N j9 b := fun j9 y8 => kC b _ (fun y => by
            unfold gPre at y8
            rcases gAL_nk HP b y with ⟨fs, y⟩ | ⟨n, f, y⟩ <;> (rw [y8] at y; cases y)) y8
          by_cases z : j < k
          · rw [if_pos z] at hb
            refine gPre_cong (nk j (hps j b hb)) (fun q q1 q2 => ?_)
            unfold rRm rShf
            rw [pk_un (by omega), if_neg (by omega)]
          · rw [if_neg z] at hb
            have y := nk (j + 1) (hps (j + 1) b hb)
            have f : ∀ i, i < 3 → rRm N k (26 + 3 * j + i) = N (26 + 3 * (j + 1) + i) := fun i hi => by
              unfold rRm rShf
              rw [pk_un (by omega), if_pos (by omega)]
              congr 1; omega
            unfold gPre gSpan at y ⊢
            have f0 := f 0 (by omega)
            rw [Nat.add_zero, Nat.add_zero] at f0
            rw [f0, f 1 (by omega), f 2 (by omega)]
            exact y) (fun q hq => Or.inl hq)
        have kS : gKeep (fun q => q ∈ gFp o ta ca da ba fl fq ls) h h5 := gK_tr gKeep.rf kC (fun z y => Or.inl (gFp_m.mpr (by simp [y])))
        simp only [Option.toList_some, Option.toList_none, List.cons_append, List.nil_append]
        refine g_castO hp7 rfl rfl (clX8_18) (by decide +kernel) ?_
        refine g_getf fX8_54 (by decide +kernel) hp7 rfl ?_
        refine g_end (some (.int _)) rfl ⟨by decide +kernel, _, rfl, rfl⟩ ?_
        refine Or.inl ⟨?_, ?_, fl, fq, ls, ps.eraseIdx k, by rw [ek, nI_clamp (by omega)]; exact S.1, gNd_to S.1 S.2, fun q hq => Or.inl hq, kS⟩
        · rw [bI_t c5, bI_t hne, rT_0]
        · rw [ek, nI_clamp (by omega)]
      · try simp only [bI_0, Decidable.not_not] at c29
        exact absurd (nI_lt hk (by omega)) c29
  · try simp only [bI_0, Decidable.not_not] at c5
    refine g_blk [(.iconst (-1), .int (-1))] (Nat.le_of_ble_eq_true rfl) (by decide +kernel) ?_
    refine gx_iconst ((gx_nil ?_))
    refine g_end (some (.int _)) rfl ⟨by decide +kernel, _, rfl, rfl⟩ ?_
    refine Or.inr ⟨?_, ?_, rfl⟩
    · rw [bI_f c5, rT_1]; decide
    · rw [bI_f c5, rT_1]; rfl
end GTk
