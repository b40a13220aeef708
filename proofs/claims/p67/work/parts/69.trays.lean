section GTr
variable {Γ : gE} {de : Nat} {h : gHp}
theorem gBf_e {N : Nat → Int32} {i c : Nat} {rt : Int32} (h : rGo N i rt c (rOp N rt) = true) : gBf N i rt c = rBag N rt (N (62 + 7 * i + 2)) c (rOp N rt) := if_pos h
def gAd (ls : List Nat) (i : Nat) : Nat := (ls[i]?).getD 0
theorem gAd_at {ls : List Nat} {i a : Nat} (h : ls[i]? = some a) : gAd ls i = a := by unfold gAd; rw [h]; rfl
theorem of_addTray {o c t la ta ca da ba pa ep : Nat} {fl fq ls ps : List Nat} {N : Nat → Int32} {mi tr p : Nat} {ft xs : List Nat} (hp : gPall Γ de mi) (H : gOx Γ de h o N c t la ta ca da ba pa ep fl fq ls ps) (hc : c ≤ 20) (HT : gAL Γ de h tr ft xs) (hx : ∀ x ∈ xs, x ∈ ls) (hxl : xs.length ≤ 20) (hd : ∀ q ∈ gFp o ta ca da ba fl fq ls, q ∉ ft) (hw : rLv1 N c) : gC Γ M_X4_addTrayLetters [.ref o, .ref tr, .int (nI p)] h 8 20 1280 (fun v h' => v = none ∧ ∃ ft', gAL Γ de h' tr ft' (xs ++ (gTI N (nI p) c).map (gAd ls)) ∧ (∀ q ∈ ft', q ∈ ft ∨ h q = none) ∧ gKeep (fun q => q ∈ ft) h h') (fun _ _ => False) := by
  have H0 := H
  obtain ⟨ho, HL, hlc, hls, hta, HP, hpc, hps, hep, ⟨fc, hca, hfc⟩, ⟨fd, hda, hfd⟩, ⟨fb, hba, hfb⟩⟩ := H0
  have loop : ∀ n i fk hk, i + n = c → gAL Γ de hk tr fk (xs ++ (gTI N (nI p) i).map (gAd ls)) → (∀ q ∈ fk, q ∈ ft ∨ h q = none) → gKeep (fun q => q ∈ ft) h hk → G Γ M_X4_addTrayLetters 8 20 1280 (fun v h' => v = none ∧ ∃ ft', gAL Γ de h' tr ft' (xs ++ (gTI N (nI p) c).map (gAd ls)) ∧ (∀ q ∈ ft', q ∈ ft ∨ h q = none) ∧ gKeep (fun q => q ∈ ft) h h') (fun _ _ => False) n (64 * n) 2 [some (.ref o), some (.ref tr), some (.int (nI p)), some (.int (nI i)), none] [] hk := by
    intro n
    induction n with
    | zero =>
      intro i fk hk hi K1 K2 K3
      obtain rfl : i = c := by omega
      have Hk := gOx_kp H K3 hd (fun q z fs y => by
        rcases gAL_nk HT q z with ⟨fs, y2⟩ | ⟨n, f, y2⟩ <;> (rw [y2] at y; cases y))
      obtain ⟨ho, HL, hlc, hls, -⟩ := Hk
      refine g_blk [(.iload_n 3, .null), (.aload_n 0, .null)] (Nat.le_of_ble_eq_true rfl) (by decide +kernel) ?_
      refine gx_iload_n_3 (gx_aload_n_0 ((gx_nil ?_)))
      refine g_getf fX4_12 (by decide +kernel) ho rfl ?_
      refine g_pV kX4_55 (al_size HL) (by decide +kernel) rfl rfl (al_cell HL) rfl (Nat.le_of_ble_eq_true rfl) (Nat.le_of_ble_eq_true rfl) (Nat.le_of_ble_eq_true rfl) rfl ?_
      simp only [Option.toList_some, List.cons_append, List.nil_append]
      rw [hlc]
      refine g_icmp_ge (off := 46) (tgt := 56) (by decide +kernel) (by decide) (fun c10 => ?_) (fun c10 => ?_)
      · try simp only [bI_0, Decidable.not_not] at c10
        refine g_end none rfl ⟨by decide +kernel, rfl⟩ ?_
        exact ⟨rfl, fk, K1, K2, K3⟩
      · try simp only [bI_0, Decidable.not_not] at c10
        exact absurd (nI_le (Nat.le_refl _) (by omega)) c10
    | succ n ih =>
      intro i fk hk hi K1 K2 K3
      have Hk := gOx_kp H K3 hd (fun q z fs y => by
        rcases gAL_nk HT q z with ⟨fs, y2⟩ | ⟨n, f, y2⟩ <;> (rw [y2] at y; cases y))
      obtain ⟨ho, HL, hlc, hls, -⟩ := Hk
      obtain ⟨a9, hx9⟩ : ∃ z, ls[i]? = some z := ⟨_, List.getElem?_eq_getElem (by omega)⟩
      have hl9 := hls i a9 hx9
      have hm : ∀ x ∈ xs ++ (gTI N (nI p) i).map (gAd ls), x ∈ ls := fun x hm => by
        rcases List.mem_append.mp hm with z | z
        · exact hx x z
        · obtain ⟨j, hj, rfl⟩ := List.mem_map.mp z
          have hji := (gTI_m hj).1
          obtain ⟨b, hb⟩ : ∃ z, ls[j]? = some z := ⟨_, List.getElem?_eq_getElem (by omega)⟩
          rw [gAd_at hb]
          exact List.mem_of_getElem? hb
      have hll : (xs ++ (gTI N (nI p) i).map (gAd ls)).length ≤ 40 := by
        rw [List.length_append, List.length_map]
        have := gTI_len (N := N) (p := nI p) (c := i)
        omega
      refine g_blk [(.iload_n 3, .null), (.aload_n 0, .null)] (Nat.le_of_ble_eq_true rfl) (by decide +kernel) ?_
      refine gx_iload_n_3 (gx_aload_n_0 ((gx_nil ?_)))
      refine g_getf fX4_12 (by decide +kernel) ho rfl ?_
      refine g_pV kX4_55 (al_size HL) (by decide +kernel) rfl rfl (al_cell HL) rfl (Nat.le_of_ble_eq_true rfl) (Nat.le_of_ble_eq_true rfl) (Nat.le_of_ble_eq_true rfl) rfl ?_
      simp only [Option.toList_some, List.cons_append, List.nil_append]
      rw [hlc]
      refine g_icmp_ge (off := 46) (tgt := 56) (by decide +kernel) (by decide) (fun c10 => ?_) (fun c10 => ?_)
      · try simp only [bI_0, Decidable.not_not] at c10
        exact absurd c10 (nI_ge (by omega) (by omega))
      · try simp only [bI_0, Decidable.not_not] at c10
        refine g_blk [(.aload_n 0, .null)] (Nat.le_of_ble_eq_true rfl) (by decide +kernel) ?_
        refine gx_aload_n_0 ((gx_nil ?_))
        refine g_getf fX4_12 (by decide +kernel) ho rfl ?_
        refine g_blk [(.iload_n 3, .null)] (Nat.le_of_ble_eq_true rfl) (by decide +kernel) ?_
        refine gx_iload_n_3 ((gx_nil ?_))
        refine g_pV kX4_59 (al_get HL hx9) (by decide +kernel) rfl rfl (al_cell HL) rfl (Nat.le_of_ble_eq_true rfl) (Nat.le_of_ble_eq_true rfl) (Nat.le_of_ble_eq_true rfl) rfl ?_
        try simp only [Option.toList_some, Option.toList_none, List.cons_append, List.nil_append, bI_0, n1_0, n0_0, Decidable.not_not, not_true_eq_false, not_false_eq_true, nI_add, Nat.add_zero, Nat.zero_add, Nat.reduceAdd]
        refine g_castO hl9 rfl rfl (clX4_63) (by decide +kernel) ?_
        refine g_blk [(.astore 4, .null), (.aload 4, .null)] (Nat.le_of_ble_eq_true rfl) (by decide +kernel) ?_
        refine gx_astore_4 rfl (gx_aload_4 ((gx_nil ?_)))
        refine g_pV kX4_102 (le_inTray hl9) (by decide +kernel) rfl rfl hl9 rfl (Nat.le_of_ble_eq_true rfl) (Nat.le_of_ble_eq_true rfl) (Nat.le_of_ble_eq_true rfl) rfl ?_
        try simp only [Option.toList_some, Option.toList_none, List.cons_append, List.nil_append, bI_0, n1_0, n0_0, Decidable.not_not, not_true_eq_false, not_false_eq_true, nI_add, Nat.add_zero, Nat.zero_add, Nat.reduceAdd]
        refine g_if_eq (off := 19) (tgt := 50) (by decide +kernel) (by decide) (fun c31 => ?_) (fun c31 => ?_)
        · try simp only [bI_0, Decidable.not_not] at c31
          refine g_blk [(.iinc 3 1, .int (nI 1)), (.goto (-51), .retAddr 2)] (Nat.le_of_ble_eq_true rfl) (by decide +kernel) ?_
          refine gx_iinc_3 rfl (gx_goto ((gx_nil ?_)))
          try simp only [nI_add, Nat.add_zero, Nat.zero_add, Nat.reduceAdd]
          have eI : gTI N (nI p) (i + 1) = gTI N (nI p) i := by
            show gTI N (nI p) i ++ (if gTy N (nI p) i = true then [i] else []) = _
            rw [if_neg (show ¬ gTy N (nI p) i = true from fun z => c31 (of_decide_eq_true z).1), List.append_nil]
          exact g_weak (by simp [gLe]) (by omega) (by omega) (ih (i + 1) fk hk (by omega) (by rw [eI]; exact K1) K2 K3)
        · try simp only [bI_0, Decidable.not_not] at c31
          refine g_blk [(.aload 4, .null)] (Nat.le_of_ble_eq_true rfl) (by decide +kernel) ?_
          refine gx_aload_4 ((gx_nil ?_))
          refine g_getf fX4_137 (by decide +kernel) hl9 rfl ?_
          refine g_blk [(.iload_n 2, .null)] (Nat.le_of_ble_eq_true rfl) (by decide +kernel) ?_
          refine gx_iload_n_2 ((gx_nil ?_))
          refine g_icmp_ne (off := 10) (tgt := 50) (by decide +kernel) (by decide) (fun c40 => ?_) (fun c40 => ?_)
          · try simp only [bI_0, Decidable.not_not] at c40
            refine g_blk [(.iinc 3 1, .int (nI 1)), (.goto (-51), .retAddr 2)] (Nat.le_of_ble_eq_true rfl) (by decide +kernel) ?_
            refine gx_iinc_3 rfl (gx_goto ((gx_nil ?_)))
            try simp only [nI_add, Nat.add_zero, Nat.zero_add, Nat.reduceAdd]
            have eI : gTI N (nI p) (i + 1) = gTI N (nI p) i := by
              show gTI N (nI p) i ++ (if gTy N (nI p) i = true then [i] else []) = _
              rw [if_neg (show ¬ gTy N (nI p) i = true from fun z => c40 (of_decide_eq_true z).2), List.append_nil]
            exact g_weak (by simp [gLe]) (by omega) (by omega) (ih (i + 1) fk hk (by omega) (by rw [eI]; exact K1) K2 K3)
          · try simp only [bI_0, Decidable.not_not] at c40
            refine g_blk [(.aload_n 1, .null), (.aload 4, .null)] (Nat.le_of_ble_eq_true rfl) (by decide +kernel) ?_
            refine gx_aload_n_1 (gx_aload_4 ((gx_nil ?_)))
            refine g_callV (rc' := n) (rs' := (64 * n)) kX4_69 (al_add hp K1 hll gCi_6 (by decide) (fun y hy => gEl_le hls y (hm y hy)) ⟨_, hl9⟩) (by decide +kernel) rfl rfl (al_cell K1) rfl (Nat.le_of_ble_eq_true rfl) (Nat.le_of_ble_eq_true rfl) (Nat.le_of_ble_eq_true rfl) (by omega) (by omega) rfl (fun _ _ z => z.elim) (fun v9 h5 hz => ?_)
            obtain ⟨rfl, fk', kA, kB, kC⟩ := hz
            simp only [Option.toList_some, Option.toList_none, List.cons_append, List.nil_append]
            refine g_blk [(.pop, .null), (.iinc 3 1, .int (nI 1)), (.goto (-51), .retAddr 2)] (Nat.le_of_ble_eq_true rfl) (by decide +kernel) ?_
            refine gx_popi (gx_iinc_3 rfl (gx_goto ((gx_nil ?_))))
            try simp only [nI_add, Nat.add_zero, Nat.zero_add, Nat.reduceAdd]
            have eI : gTI N (nI p) (i + 1) = gTI N (nI p) i ++ [i] := by
              show gTI N (nI p) i ++ (if gTy N (nI p) i = true then [i] else []) = _
              rw [if_pos (show gTy N (nI p) i = true from decide_eq_true ⟨c31, c40⟩)]
            exact g_wk (by simp [gLe]) (ih (i + 1) fk' h5 (by omega) (by
              rw [eI, List.map_append, ← List.append_assoc]
              show gAL Γ de h5 tr fk' (_ ++ [gAd ls i])
              rw [gAd_at hx9]
              exact kA) (gFr_tr K2 K3 kB) (gKeep_tr2 K2 K3 kC))
  refine gC_of (by decide) rfl (Nat.le_of_ble_eq_true rfl) [some (.ref o), some (.ref tr), some (.int (nI p)), none, none] rfl ?_
  refine g_blk [(.iconst 0, .int (nI 0)), (.istore_n 3, .null)] (Nat.le_of_ble_eq_true rfl) (by decide +kernel) ?_
  refine gx_iconst (gx_istore_n_3 rfl ((gx_nil ?_)))
  exact g_weak (by simp [gLe]) (by omega) (by omega) (loop c 0 ft h (by omega) (by show gAL Γ de h tr ft (xs ++ []); rw [List.append_nil]; exact HT) (fun q z => Or.inl z) gKeep.rf)
theorem of_orderedTray {o c t la ta ca da ba pa ep : Nat} {fl fq ls ps : List Nat} {N : Nat → Int32} {mi : Nat} (hp : gPall Γ de mi) (H : gOx Γ de h o N c t la ta ca da ba pa ep fl fq ls ps) (hc : c ≤ 20) (hw : rLv1 N c) : gC Γ M_X4_orderedTray [.ref o] h 9 41 2563 (fun v h' => ∃ tr ft, v = some (.ref tr) ∧ gAL Γ de h' tr ft ((gTI N (nI 1) c ++ gTI N (nI 0) c).map (gAd ls)) ∧ (∀ q ∈ ft, h q = none) ∧ gAll h h') (fun _ _ => False) := by
  have hk0 := gFp_kind H
  refine gC_of (by decide) rfl (Nat.le_of_ble_eq_true rfl) [some (.ref o), none] rfl ?_
  refine g_new nX4_9 (rc' := 40) (rs' := 2560) (by decide +kernel) (by omega) (by simp) (fun tr htr => ?_)
  refine g_blk [(.dup, .null)] (Nat.le_of_ble_eq_true rfl) (by decide +kernel) ?_
  refine gx_dupr ((gx_nil ?_))
  refine g_callI (rc' := 40) (rs' := 2560) kX4_11 (al_init hp.1 (gUp_s _ _ _)) (by decide +kernel) rfl rfl rfl (Nat.le_of_ble_eq_true rfl) (Nat.le_of_ble_eq_true rfl) (Nat.le_of_ble_eq_true rfl) (by omega) (by omega) rfl (fun _ _ z => z.elim) (fun v9 h5 hz => ?_)
  obtain ⟨rfl, T1, k5⟩ := hz
  have a5 : gAll h h5 := gAll_tr (gAll_up (e := .inr (4, [.int 0, .null, .int 0])) htr) k5 (fun z y => by rw [y]; exact htr)
  have H5 := gOx_kp H a5 (fun _ _ y => y) (fun _ y => y.elim)
  have ho1 := H5.1
  have d5 : ∀ q ∈ gFp o ta ca da ba fl fq ls, q ∉ [tr] := fun q hq z => by
    obtain ⟨e, he, -⟩ := hk0 q hq
    rw [List.mem_singleton.mp z, htr] at he; cases he
  simp only [Option.toList_some, Option.toList_none, List.cons_append, List.nil_append]
  refine g_blk [(.astore_n 1, .null), (.aload_n 0, .null), (.aload_n 1, .null), (.iconst 1, .int (nI 1))] (Nat.le_of_ble_eq_true rfl) (by decide +kernel) ?_
  refine gx_astore_n_1 rfl (gx_aload_n_0 (gx_aload_n_1 (gx_iconst ((gx_nil ?_)))))
  refine g_callV (rc' := 20) (rs' := 1280) kX4_171 (of_addTray (p := 1) hp H5 hc T1 (xs := []) (fun x z => by cases z) (by simp) d5 hw) (by decide +kernel) rfl rfl ho1 rfl (Nat.le_of_ble_eq_true rfl) (Nat.le_of_ble_eq_true rfl) (Nat.le_of_ble_eq_true rfl) (by omega) (by omega) rfl (fun _ _ z => z.elim) (fun v9 h6 hz => ?_)
  obtain ⟨rfl, f6, T2, b6, k6⟩ := hz
  have n6 : ∀ q ∈ f6, h q = none := fun q hq => by
    rcases b6 q hq with z | z
    · rw [List.mem_singleton.mp z]; exact htr
    · exact gAll_no a5 z
  have a6 : gAll h h6 := gAll_tr a5 k6 (fun z y => by rw [List.mem_singleton.mp y]; exact htr)
  have H6 := gOx_kp H a6 (fun _ _ y => y) (fun _ y => y.elim)
  have ho2 := H6.1
  rw [List.nil_append] at T2
  have d6 : ∀ q ∈ gFp o ta ca da ba fl fq ls, q ∉ f6 := fun q hq z => by
    obtain ⟨e, he, -⟩ := hk0 q hq
    rw [n6 q z] at he; cases he
  simp only [Option.toList_some, Option.toList_none, List.cons_append, List.nil_append]
  refine g_blk [(.aload_n 0, .null), (.aload_n 1, .null), (.iconst 0, .int (nI 0))] (Nat.le_of_ble_eq_true rfl) (by decide +kernel) ?_
  refine gx_aload_n_0 (gx_aload_n_1 (gx_iconst ((gx_nil ?_))))
  refine g_callV (rc' := 0) (rs' := 0) kX4_171 (of_addTray (p := 0) hp H6 hc T2 (fun x hx => by
    obtain ⟨j, hj, rfl⟩ := List.mem_map.mp hx
    have hji := (gTI_m hj).1
    have hlc := H.2.2.1
    obtain ⟨b, hb⟩ : ∃ z, ls[j]? = some z := ⟨_, List.getElem?_eq_getElem (by omega)⟩
    rw [gAd_at hb]
    exact List.mem_of_getElem? hb) (by rw [List.length_map]; exact Nat.le_trans gTI_len hc) d6 hw) (by decide +kernel) rfl rfl ho2 rfl (Nat.le_of_ble_eq_true rfl) (Nat.le_of_ble_eq_true rfl) (Nat.le_of_ble_eq_true rfl) (by omega) (by omega) rfl (fun _ _ z => z.elim) (fun v9 h7 hz => ?_)
  obtain ⟨rfl, f7, T3, b7, k7⟩ := hz
  have a7 : gAll h h7 := gAll_tr a6 k7 (fun z y => n6 z y)
  simp only [Option.toList_some, Option.toList_none, List.cons_append, List.nil_append]
  refine g_blk [(.aload_n 1, .null)] (Nat.le_of_ble_eq_true rfl) (by decide +kernel) ?_
  refine gx_aload_n_1 ((gx_nil ?_))
  refine g_end (some (.ref _)) rfl ⟨by decide +kernel, _, rfl, Or.inl ⟨_, rfl⟩⟩ ?_
  refine ⟨tr, f7, rfl, by rw [List.map_append]; exact T3, fun q hq => ?_, a7⟩
  rcases b7 q hq with z | z
  · exact n6 q z
  · exact gAll_no a6 z
theorem of_sortTray {o c t la ta ca da ba pa ep : Nat} {fl fq ls ps : List Nat} {N : Nat → Int32} {mi : Nat} (hp : gPall Γ de mi) (H : gOx Γ de h o N c t la ta ca da ba pa ep fl fq ls ps) (nd : (gFp o ta ca da ba fl fq ls).Nodup) (hc : c ≤ 20) (ht : t ≤ 12) (hk9 : gSk N c t) : gC Γ M_X4_sortTray [.ref o] h 10 41 2563 (fun v h' => v = some (.int (rSA N c t).2) ∧ gPost Γ de h o la ta ca da ba pa ep (gFp o ta ca da ba fl fq ls) (rSA N c t).1 c t h') (fun _ _ => False) := by
  have hk0 := gFp_kind H
  have hlc := H.2.2.1
  obtain ⟨Y, hY⟩ : ∃ Y, rSA N c t = Y := ⟨_, rfl⟩
  rw [hY]
  rw [rSA_f] at hY
  obtain ⟨ix, hix⟩ : ∃ ix, gTI N (nI 1) c ++ gTI N (nI 0) c = ix := ⟨_, rfl⟩
  have hlen : ix.length ≤ 40 := by
    rw [← hix, List.length_append]
    have q1 := gTI_len (N := N) (p := nI 1) (c := c)
    have q2 := gTI_len (N := N) (p := nI 0) (c := c)
    omega
  have hlt : ∀ i ∈ ix, i < c := fun i hi => by
    rw [← hix] at hi
    rcases List.mem_append.mp hi with z | z <;> exact (gTI_m z).1
  rw [hix] at hY
  have loop : ∀ tr ft h1, (∀ q ∈ ft, h q = none) → gAll h h1 → ∀ n j X hk, j + n = ix.length → gOx Γ de hk o X.1 c t la ta ca da ba pa ep fl fq ls ps → gSk X.1 c t → gAL Γ de hk tr ft (ix.map (gAd ls)) → gKeep (fun q => q ∈ gFp o ta ca da ba fl fq ls) h hk → gSf c t X (ix.drop j) = Y → G Γ M_X4_sortTray 10 41 2563 (fun v h' => v = some (.int Y.2) ∧ gPost Γ de h o la ta ca da ba pa ep (gFp o ta ca da ba fl fq ls) Y.1 c t h') (fun _ _ => False) 0 0 9 [some (.ref o), some (.ref tr), some (.int X.2), some (.int (nI j))] [] hk := by
    intro tr ft h1 hft ha1 n
    induction n with
    | zero =>
      intro j X hk hj Hk hkk T kk eX
      have ez : X = Y := by
        rw [List.drop_eq_nil_of_le (by omega)] at eX
        exact eX
      subst ez
      refine g_blk [(.iload_n 3, .null), (.aload_n 1, .null)] (Nat.le_of_ble_eq_true rfl) (by decide +kernel) ?_
      refine gx_iload_n_3 (gx_aload_n_1 ((gx_nil ?_)))
      refine g_pV kX4_55 (al_size T) (by decide +kernel) rfl rfl (al_cell T) rfl (Nat.le_of_ble_eq_true rfl) (Nat.le_of_ble_eq_true rfl) (Nat.le_of_ble_eq_true rfl) rfl ?_
      simp only [Option.toList_some, List.cons_append, List.nil_append]
      rw [List.length_map]
      refine g_icmp_ge (off := 29) (tgt := 43) (by decide +kernel) (by decide) (fun c14 => ?_) (fun c14 => ?_)
      · try simp only [bI_0, Decidable.not_not] at c14
        refine g_blk [(.iload_n 2, .null)] (Nat.le_of_ble_eq_true rfl) (by decide +kernel) ?_
        refine gx_iload_n_2 ((gx_nil ?_))
        refine g_end (some (.int _)) rfl ⟨by decide +kernel, _, rfl, rfl⟩ ?_
        exact ⟨rfl, gPost_same Hk nd kk⟩
      · try simp only [bI_0, Decidable.not_not] at c14
        exact absurd (nI_le (by omega) (by omega)) c14
    | succ n ih =>
      intro j X hk hj Hk hkk T kk eX
      obtain ⟨i, hi⟩ : ∃ z, ix[j]? = some z := ⟨_, List.getElem?_eq_getElem (by omega)⟩
      have hic := hlt i (List.mem_of_getElem? hi)
      obtain ⟨a9, hx9⟩ : ∃ z, ls[i]? = some z := ⟨_, List.getElem?_eq_getElem (by omega)⟩
      have hz9 : (ix.map (gAd ls))[j]? = some a9 := by
        rw [List.getElem?_map, hi]
        exact congrArg some (gAd_at hx9)
      have ho := Hk.1
      have hl9 := Hk.2.2.2.1 i a9 hx9
      have eX2 : gSf c t (gS1 c t X i) (ix.drop (j + 1)) = Y := by
        have hjl : j < ix.length := by omega
        rw [List.drop_eq_getElem_cons hjl] at eX
        have e9 : ix[j] = i := by
          rw [List.getElem?_eq_getElem hjl] at hi
          exact Option.some.inj hi
        rw [e9] at eX
        exact eX
      refine g_blk [(.iload_n 3, .null), (.aload_n 1, .null)] (Nat.le_of_ble_eq_true rfl) (by decide +kernel) ?_
      refine gx_iload_n_3 (gx_aload_n_1 ((gx_nil ?_)))
      refine g_pV kX4_55 (al_size T) (by decide +kernel) rfl rfl (al_cell T) rfl (Nat.le_of_ble_eq_true rfl) (Nat.le_of_ble_eq_true rfl) (Nat.le_of_ble_eq_true rfl) rfl ?_
      simp only [Option.toList_some, List.cons_append, List.nil_append]
      rw [List.length_map]
      refine g_icmp_ge (off := 29) (tgt := 43) (by decide +kernel) (by decide) (fun c14 => ?_) (fun c14 => ?_)
      · try simp only [bI_0, Decidable.not_not] at c14
        exact absurd c14 (nI_ge (by omega) (by omega))
      · try simp only [bI_0, Decidable.not_not] at c14
        refine g_blk [(.aload_n 0, .null), (.aload_n 1, .null), (.iload_n 3, .null)] (Nat.le_of_ble_eq_true rfl) (by decide +kernel) ?_
        refine gx_aload_n_0 (gx_aload_n_1 (gx_iload_n_3 ((gx_nil ?_))))
        refine g_pV kX4_59 (al_get T hz9) (by decide +kernel) rfl rfl (al_cell T) rfl (Nat.le_of_ble_eq_true rfl) (Nat.le_of_ble_eq_true rfl) (Nat.le_of_ble_eq_true rfl) rfl ?_
        try simp only [Option.toList_some, Option.toList_none, List.cons_append, List.nil_append, bI_0, n1_0, n0_0, Decidable.not_not, not_true_eq_false, not_false_eq_true, nI_add, Nat.add_zero, Nat.zero_add, Nat.reduceAdd]
        refine g_castO hl9 rfl rfl (clX4_63) (by decide +kernel) ?_
        refine g_callV (rc' := 0) (rs' := 0) kX4_91 (of_putByCode Hk nd hc ht hkk.1 hkk.2.1 hkk.2.2 hx9) (by decide +kernel) rfl rfl ho rfl (Nat.le_of_ble_eq_true rfl) (Nat.le_of_ble_eq_true rfl) (Nat.le_of_ble_eq_true rfl) (by omega) (by omega) rfl (fun _ _ z => z.elim) (fun v9 h5 hz => ?_)
        have hv9 : ∃ x, v9 = some (.int x) := by
          rcases hz with ⟨-, e, -⟩ | ⟨-, e, -⟩ <;> exact ⟨_, e⟩
        obtain ⟨x9, hv9⟩ := hv9
        rw [hv9]
        simp only [Option.toList_some, Option.toList_none, List.cons_append, List.nil_append]
        refine g_blk [(.bipush (-4), .int (-4))] (Nat.le_of_ble_eq_true rfl) (by decide +kernel) ?_
        refine gx_bipush ((gx_nil ?_))
        refine g_icmp_eq (off := 6) (tgt := 37) (by decide +kernel) (by decide) (fun c31 => ?_) (fun c31 => ?_)
        · try simp only [bI_0, Decidable.not_not] at c31
          refine g_blk [(.iinc 3 1, .int (nI 1)), (.goto (-31), .retAddr 9)] (Nat.le_of_ble_eq_true rfl) (by decide +kernel) ?_
          refine gx_iinc_3 rfl (gx_goto ((gx_nil ?_)))
          try simp only [nI_add, Nat.add_zero, Nat.zero_add, Nat.reduceAdd]
          rcases hz with ⟨y1, y2, rfl⟩ | ⟨y1, y2, y3, y4⟩
          · have eS : gS1 c t X i = X := if_neg (fun z => gBf_ne.mpr z y1)
            exact g_wk (by simp [gLe]) (ih (j + 1) X _ (by omega) Hk hkk T kk (by rw [← eX2, eS]))
          · rw [hv9] at y2
            have y5 : gBf X.1 i (rLR X.1 i t) c = -4 := by cases y2; exact c31
            have y6 := gBf_ne.mp y1
            rw [gBf_e y6] at y5
            obtain ⟨k, hk2, ek⟩ := rBag_in (hkk.2.2.get _).1 (of_decide_eq_true y6).2.2.2
            rw [ek] at y5
            exact absurd (show nI k < 0 by rw [y5]; decide) (nI_pos (by omega))
        · try simp only [bI_0, Decidable.not_not] at c31
          refine g_blk [(.iinc 2 1, .int (nI 1)), (.iinc 3 1, .int (nI 1)), (.goto (-31), .retAddr 9)] (Nat.le_of_ble_eq_true rfl) (by decide +kernel) ?_
          refine gx_iinc_2 rfl (gx_iinc_3 rfl (gx_goto ((gx_nil ?_))))
          try simp only [nI_add, Nat.add_zero, Nat.zero_add, Nat.reduceAdd]
          rcases hz with ⟨y1, y2, rfl⟩ | ⟨y1, y2, y3, y4⟩
          · rw [hv9] at y2
            cases y2
            exact absurd rfl c31
          · have y6 := gBf_ne.mp y1
            have eS : gS1 c t X i = (rInto X.1 i (rLR X.1 i t) c (rOp X.1 (rLR X.1 i t)), X.2 + nI 1) := if_pos y6
            have kS := gSk_1 (i := i) ht hkk
            rw [eS] at kS eX2
            exact g_wk (by simp [gLe]) (ih (j + 1) (rInto X.1 i (rLR X.1 i t) c (rOp X.1 (rLR X.1 i t)), X.2 + nI 1) h5 (by omega) y3 kS (gAL_kp T y4 (fun q hq z => by
              obtain ⟨e, he, -⟩ := hk0 q z
              rw [hft q hq] at he; cases he)) (gK_tr kk y4 (fun z y => Or.inl y)) eX2)
  have ho := H.1
  refine gC_of (by decide) rfl (Nat.le_of_ble_eq_true rfl) [some (.ref o), none, none, none] rfl ?_
  refine g_blk [(.aload_n 0, .null)] (Nat.le_of_ble_eq_true rfl) (by decide +kernel) ?_
  refine gx_aload_n_0 ((gx_nil ?_))
  refine g_callV (rc' := 0) (rs' := 0) kX4_112 (of_orderedTray hp H hc hk9.2.1) (by decide +kernel) rfl rfl ho rfl (Nat.le_of_ble_eq_true rfl) (Nat.le_of_ble_eq_true rfl) (Nat.le_of_ble_eq_true rfl) (by omega) (by omega) rfl (fun _ _ z => z.elim) (fun v9 h5 hz => ?_)
  obtain ⟨tr, ft, rfl, T5, n5, a5⟩ := hz
  simp only [Option.toList_some, Option.toList_none, List.cons_append, List.nil_append]
  refine g_blk [(.astore_n 1, .null), (.iconst 0, .int (nI 0)), (.istore_n 2, .null), (.iconst 0, .int (nI 0)), (.istore_n 3, .null)] (Nat.le_of_ble_eq_true rfl) (by decide +kernel) ?_
  refine gx_astore_n_1 rfl (gx_iconst (gx_istore_n_2 rfl (gx_iconst (gx_istore_n_3 rfl ((gx_nil ?_))))))
  exact loop tr ft h5 n5 a5 ix.length 0 (N, nI 0) h5 (by omega) (gOx_kp H a5 (fun _ _ y => y) (fun _ y => y.elim)) hk9 (by rw [← hix]; exact T5) (gK_all a5) hY
end GTr
