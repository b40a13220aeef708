/-! AN OFFICE COPIED -/
section GDu
variable {Γ : gE} {de : Nat} {h : gHp}
/-- nothing that was there is changed -/
abbrev gAll (h h' : gHp) : Prop := gKeep (fun _ => False) h h'
theorem gK_all {S : Nat → Prop} {h h' : gHp} (k : gAll h h') : gKeep S h h' := fun a e _ z => k a e (fun y => y) z
theorem gAll_up {h : gHp} {a : Nat} {e : va_E} (ha : h a = none) : gAll h (gUp h a e) := fun z e9 _ z2 => by
  rw [gUp_n _ _ (fun y => by rw [y, ha] at z2; cases z2)]; exact z2
theorem gAll_no {h h1 : gHp} {q : Nat} (k : gAll h h1) (hq : h1 q = none) : h q = none := gK_no k (fun _ z => z.elim) hq
theorem gAll_tr {S : Nat → Prop} {h h1 h2 : gHp} (k : gAll h h1) (k1 : gKeep S h1 h2) (hs : ∀ z, S z → h z = none) : gAll h h2 := gK_tr k k1 (fun z y => Or.inr (hs z y))
theorem pr_nar {pr : Nat} (h : pr ≤ 1) : narrow FieldType.boolean (.int (nI pr)) = .int (nI pr) ∧ fits FieldType.boolean (.int (nI pr)) = true := by
  rcases (show pr = 0 ∨ pr = 1 by omega) with rfl | rfl <;> exact ⟨rfl, rfl⟩
theorem le_dup {N : Nat → Int32} {i a pr : Nat} (hl9 : gLet h N i a) (hp : N (62 + 7 * i + 3) = nI pr) (hpr : pr ≤ 1) : gC Γ M_X3_duplicate [.ref a] h 3 1 7 (fun v h' => ∃ b, v = some (.ref b) ∧ h b = none ∧ gLet h' N i b ∧ gAll h h') (fun _ _ => False) := by
  refine gC_of (by decide) rfl (Nat.le_of_ble_eq_true rfl) [some (.ref a), none] rfl ?_
  refine g_new nX3_10 (rc' := 0) (rs' := 0) (by decide +kernel) (by omega) (by simp) (fun b hb => ?_)
  have hab : a ≠ b := fun z => by unfold gLet at hl9; rw [z, hb] at hl9; cases hl9
  have hl1 : gUp h b (.inr (6, [.int 0, .int 0, .int 0, .int 0, .int 0, .int 0, .int 0])) a = some (gJ 6 [.int (N (62 + 7 * i)), .int (N (62 + 7 * i + 1)), .int (N (62 + 7 * i + 2)), .int (N (62 + 7 * i + 3)), .int (N (62 + 7 * i + 4)), .int (N (62 + 7 * i + 5)), .int (gBg N i)]) := by rw [gUp_n _ _ hab]; exact hl9
  refine g_blk [(.dup, .null), (.aload_n 0, .null)] (Nat.le_of_ble_eq_true rfl) (by decide +kernel) ?_
  refine gx_dupr (gx_aload_n_0 ((gx_nil ?_)))
  refine g_getf fX3_21 (by decide +kernel) hl1 rfl ?_
  refine g_blk [(.aload_n 0, .null)] (Nat.le_of_ble_eq_true rfl) (by decide +kernel) ?_
  refine gx_aload_n_0 ((gx_nil ?_))
  refine g_getf fX3_24 (by decide +kernel) hl1 rfl ?_
  refine g_blk [(.aload_n 0, .null)] (Nat.le_of_ble_eq_true rfl) (by decide +kernel) ?_
  refine gx_aload_n_0 ((gx_nil ?_))
  refine g_getf fX3_27 (by decide +kernel) hl1 rfl ?_
  refine g_blk [(.aload_n 0, .null)] (Nat.le_of_ble_eq_true rfl) (by decide +kernel) ?_
  refine gx_aload_n_0 ((gx_nil ?_))
  refine g_getf fX3_30 (by decide +kernel) hl1 rfl ?_
  refine g_callI (rc' := 0) (rs' := 0) kX3_34 (le_init (gUp_s _ _ _) _ _ _ _ (by rw [hp]; exact (pr_nar hpr).1) (by rw [hp]; exact (pr_nar hpr).2)) (by decide +kernel) rfl rfl rfl (Nat.le_of_ble_eq_true rfl) (Nat.le_of_ble_eq_true rfl) (Nat.le_of_ble_eq_true rfl) (by omega) (by omega) rfl (fun _ _ z => z.elim) (fun v9 h5 hz => ?_)
  obtain ⟨rfl, rfl⟩ := hz
  have hl2 : gUp (gUp h b (.inr (6, [.int 0, .int 0, .int 0, .int 0, .int 0, .int 0, .int 0]))) b (gJ 6 [.int (N (62 + 7 * i)), .int (N (62 + 7 * i + 1)), .int (N (62 + 7 * i + 2)), .int (N (62 + 7 * i + 3)), .int 0, .int (-1), .int (-1)]) a = some (gJ 6 [.int (N (62 + 7 * i)), .int (N (62 + 7 * i + 1)), .int (N (62 + 7 * i + 2)), .int (N (62 + 7 * i + 3)), .int (N (62 + 7 * i + 4)), .int (N (62 + 7 * i + 5)), .int (gBg N i)]) := by rw [gUp_n _ _ hab]; exact hl1
  simp only [Option.toList_some, Option.toList_none, List.cons_append, List.nil_append]
  refine g_blk [(.astore_n 1, .null), (.aload_n 1, .null), (.aload_n 0, .null)] (Nat.le_of_ble_eq_true rfl) (by decide +kernel) ?_
  refine gx_astore_n_1 rfl (gx_aload_n_1 (gx_aload_n_0 ((gx_nil ?_))))
  refine g_getf fX3_9 (by decide +kernel) hl2 rfl ?_
  refine g_putf fX3_9 (by decide +kernel) (gUp_s _ _ _) (by simp) rfl rfl ?_
  refine g_blk [(.aload_n 1, .null), (.aload_n 0, .null)] (Nat.le_of_ble_eq_true rfl) (by decide +kernel) ?_
  refine gx_aload_n_1 (gx_aload_n_0 ((gx_nil ?_)))
  refine g_getf fX3_15 (by decide +kernel) ((gUp_n _ _ hab).trans hl2) rfl ?_
  refine g_putf fX3_15 (by decide +kernel) (gUp_s _ _ _) (by simp) rfl rfl ?_
  refine g_blk [(.aload_n 1, .null), (.aload_n 0, .null)] (Nat.le_of_ble_eq_true rfl) (by decide +kernel) ?_
  refine gx_aload_n_1 (gx_aload_n_0 ((gx_nil ?_)))
  refine g_getf fX3_18 (by decide +kernel) ((gUp_n _ _ hab).trans ((gUp_n _ _ hab).trans hl2)) rfl ?_
  refine g_putf fX3_18 (by decide +kernel) (gUp_s _ _ _) (by simp) rfl rfl ?_
  refine g_blk [(.aload_n 1, .null)] (Nat.le_of_ble_eq_true rfl) (by decide +kernel) ?_
  refine gx_aload_n_1 ((gx_nil ?_))
  refine g_end (some (.ref _)) rfl ⟨by decide +kernel, _, rfl, Or.inl ⟨_, rfl⟩⟩ ?_
  refine ⟨b, rfl, hb, ?_, ?_⟩
  · unfold gLet
    rw [gUp_s]
    rfl
  · simp only [gUp_gUp]
    exact gAll_up hb
theorem gEl_pr {N : Nat → Int32} {ps xs : List Nat} (hps : ∀ j p, ps[j]? = some p → gPre h N j p) (hx : ∀ x ∈ xs, x ∈ ps) : gEl h 9 xs := fun y hy => by
  obtain ⟨j, hj⟩ := List.getElem?_of_mem (hx y hy)
  exact ⟨_, hps j y hj⟩
theorem gEl_le {N : Nat → Int32} {ls : List Nat} (hls : ∀ j p, ls[j]? = some p → gLet h N j p) : gEl h 6 ls := fun y hy => by
  obtain ⟨j, hj⟩ := List.getElem?_of_mem hy
  exact ⟨_, hls j y hj⟩
theorem take_s {l : List Nat} {i a : Nat} (h : l[i]? = some a) : l.take (i + 1) = l.take i ++ [a] := by
  rw [List.take_add_one, h]
  rfl
theorem tb_copyInto {t ta pa ep tb pb eb mi : Nat} {fq ps : List Nat} {N : Nat → Int32} (hp : gPall Γ de mi) (hta : h ta = some (gJ 11 [.ref pa, .ref ep])) (HP : gAL Γ de h pa fq ps) (hpc : ps.length = t) (hps : ∀ j p, ps[j]? = some p → gPre h N j p) (ht : t ≤ 12) (htb : h tb = some (gJ 11 [.ref pb, .ref eb])) (HB : gAL Γ de h pb [pb] []) (hpb : pb ∉ fq) : gC Γ M_X8_copyInto [.ref ta, .ref tb] h 8 12 768 (fun v h' => v = none ∧ ∃ fb, gAL Γ de h' pb fb ps ∧ (∀ q ∈ fb, q = pb ∨ h q = none) ∧ gKeep (fun z => z = pb) h h') (fun _ _ => False) := by
  have loop : ∀ n i hk fb, i + n = t → gAL Γ de hk pb fb (ps.take i) → (∀ q ∈ fb, q = pb ∨ h q = none) → gKeep (fun z => z = pb) h hk → G Γ M_X8_copyInto 8 12 768 (fun v h' => v = none ∧ ∃ fb, gAL Γ de h' pb fb ps ∧ (∀ q ∈ fb, q = pb ∨ h q = none) ∧ gKeep (fun z => z = pb) h h') (fun _ _ => False) n (64 * n) 2 [some (.ref ta), some (.ref tb), some (.int (nI i))] [] hk := by
    intro n
    induction n with
    | zero =>
      intro i hk fb hi k1 k2 k3
      obtain rfl : i = t := by omega
      have k4 := k3 ta _ (fun z => by obtain ⟨_, _, _, _, ⟨y9, -⟩, -⟩ := HB; rw [z, y9] at hta; cases hta) hta
      have k5 := gAL_kp HP k3 (fun q hq z => hpb (by rw [← z]; exact hq))
      refine g_blk [(.iload_n 2, .null), (.aload_n 0, .null)] (Nat.le_of_ble_eq_true rfl) (by decide +kernel) ?_
      refine gx_iload_n_2 (gx_aload_n_0 ((gx_nil ?_)))
      refine g_getf fX8_12 (by decide +kernel) k4 rfl ?_
      refine g_pV kX8_27 (al_size k5) (by decide +kernel) rfl rfl (al_cell k5) rfl (Nat.le_of_ble_eq_true rfl) (Nat.le_of_ble_eq_true rfl) (Nat.le_of_ble_eq_true rfl) rfl ?_
      simp only [Option.toList_some, List.cons_append, List.nil_append]
      rw [hpc]
      refine g_icmp_ge (off := 28) (tgt := 38) (by decide +kernel) (by decide) (fun c10 => ?_) (fun c10 => ?_)
      · try simp only [bI_0, Decidable.not_not] at c10
        refine g_end none rfl ⟨by decide +kernel, rfl⟩ ?_
        refine ⟨rfl, fb, ?_, k2, k3⟩
        rw [← hpc, List.take_length] at k1
        exact k1
      · try simp only [bI_0, Decidable.not_not] at c10
        exact absurd (nI_le (by omega) (by omega)) c10
    | succ n ih =>
      intro i hk fb hi k1 k2 k3
      have tpb : tb ≠ pb := fun z => by obtain ⟨_, _, _, _, ⟨y9, -⟩, -⟩ := HB; rw [z, y9] at htb; cases htb
      have k4 := k3 ta _ (fun z => by obtain ⟨_, _, _, _, ⟨y9, -⟩, -⟩ := HB; rw [z, y9] at hta; cases hta) hta
      have k5 := gAL_kp HP k3 (fun q hq z => hpb (by rw [← z]; exact hq))
      have k6 := k3 tb _ tpb htb
      have k7 : ∀ j p, ps[j]? = some p → gPre hk N j p := fun j p hj => k3 p _ (fun z => by obtain ⟨_, _, _, _, ⟨y9, -⟩, -⟩ := HB; have y8 := hps j p hj; unfold gPre at y8; rw [z, y9] at y8; cases y8) (hps j p hj)
      obtain ⟨p9, hx9⟩ : ∃ z, ps[i]? = some z := ⟨_, List.getElem?_eq_getElem (by omega)⟩
      have hp9 := k7 i p9 hx9
      refine g_blk [(.iload_n 2, .null), (.aload_n 0, .null)] (Nat.le_of_ble_eq_true rfl) (by decide +kernel) ?_
      refine gx_iload_n_2 (gx_aload_n_0 ((gx_nil ?_)))
      refine g_getf fX8_12 (by decide +kernel) k4 rfl ?_
      refine g_pV kX8_27 (al_size k5) (by decide +kernel) rfl rfl (al_cell k5) rfl (Nat.le_of_ble_eq_true rfl) (Nat.le_of_ble_eq_true rfl) (Nat.le_of_ble_eq_true rfl) rfl ?_
      simp only [Option.toList_some, List.cons_append, List.nil_append]
      rw [hpc]
      refine g_icmp_ge (off := 28) (tgt := 38) (by decide +kernel) (by decide) (fun c10 => ?_) (fun c10 => ?_)
      · try simp only [bI_0, Decidable.not_not] at c10
        exact absurd c10 (nI_ge (by omega) (by omega))
      · try simp only [bI_0, Decidable.not_not] at c10
        refine g_blk [(.aload_n 1, .null)] (Nat.le_of_ble_eq_true rfl) (by decide +kernel) ?_
        refine gx_aload_n_1 ((gx_nil ?_))
        refine g_getf fX8_12 (by decide +kernel) k6 rfl ?_
        refine g_blk [(.aload_n 0, .null)] (Nat.le_of_ble_eq_true rfl) (by decide +kernel) ?_
        refine gx_aload_n_0 ((gx_nil ?_))
        refine g_getf fX8_12 (by decide +kernel) k4 rfl ?_
        refine g_blk [(.iload_n 2, .null)] (Nat.le_of_ble_eq_true rfl) (by decide +kernel) ?_
        refine gx_iload_n_2 ((gx_nil ?_))
        refine g_pV kX8_31 (al_get k5 hx9) (by decide +kernel) rfl rfl (al_cell k5) rfl (Nat.le_of_ble_eq_true rfl) (Nat.le_of_ble_eq_true rfl) (Nat.le_of_ble_eq_true rfl) rfl ?_
        try simp only [Option.toList_some, Option.toList_none, List.cons_append, List.nil_append, bI_0, n1_0, n0_0, Decidable.not_not, not_true_eq_false, not_false_eq_true, nI_add, Nat.add_zero, Nat.zero_add, Nat.reduceAdd]
        refine g_castO hp9 rfl rfl (clX8_18) (by decide +kernel) ?_
        refine g_callV (rc' := n) (rs' := 64 * n) kX8_35 (al_add (x := p9) hp k1 (by rw [List.length_take]; omega) gCi_9 (by decide) (gEl_pr k7 (fun x hx => List.mem_of_mem_take hx)) ⟨_, hp9⟩) (by decide +kernel) rfl rfl (al_cell k1) rfl (Nat.le_of_ble_eq_true rfl) (Nat.le_of_ble_eq_true rfl) (Nat.le_of_ble_eq_true rfl) (by omega) (by omega) rfl (fun _ _ z => z.elim) (fun v9 h6 hz => ?_)
        obtain ⟨rfl, fb', kA, kB, kC⟩ := hz
        simp only [Option.toList_some, Option.toList_none, List.cons_append, List.nil_append]
        refine g_blk [(.pop, .null), (.iinc 2 1, .int (nI 1)), (.goto (-33), .retAddr 2)] (Nat.le_of_ble_eq_true rfl) (by decide +kernel) ?_
        refine gx_popi (gx_iinc_2 rfl (gx_goto ((gx_nil ?_))))
        try simp only [nI_add, Nat.add_zero, Nat.zero_add, Nat.reduceAdd]
        refine ih (i + 1) h6 fb' (by omega) (by rw [take_s hx9]; exact kA) (fun q hq => ?_) (gK_tr k3 kC k2)
        rcases kB q hq with z | z
        · exact k2 q z
        · exact Or.inr (gK_no k3 (fun z9 y9 => by
            obtain ⟨_, _, _, _, ⟨y8, -⟩, -⟩ := k1
            exact ⟨_, by rw [y9]; exact y8⟩) z)
  refine gC_of (by decide) rfl (Nat.le_of_ble_eq_true rfl) [some (.ref ta), some (.ref tb), none] rfl ?_
  refine g_blk [(.iconst 0, .int (nI 0)), (.istore_n 2, .null)] (Nat.le_of_ble_eq_true rfl) (by decide +kernel) ?_
  refine gx_iconst (gx_istore_n_2 rfl ((gx_nil ?_)))
  exact g_weak (by simp [gLe]) (by omega) (by omega) (loop t 0 h [pb] (by omega) HB (fun q hq => Or.inl (List.mem_singleton.mp hq)) gKeep.rf)
end GDu
