section GTd
variable {Γ : gE} {de : Nat} {h : gHp}
theorem dg_jp {fc j : Nat} (hc : fc < 10000) (h : j ≤ 3) : nI fc / nI (10 ^ (3 - j)) - nI fc / nI (10 ^ (3 - j)) / nI 10 * nI 10 = nI (fc / 10 ^ (3 - j) % 10) := by
  have := dg_j (cd := fc) (j := j) (by omega) h
  rwa [(pwj_3 j h).1] at this
theorem fc_lt {dg ln : Nat} (h2 : ln ≤ 4) (h3 : dg < 10 ^ ln) : dg * 10 ^ (4 - ln) < 10000 ∧ dg * 10 ^ (4 - ln) / 10 ^ (4 - ln) = dg := by
  have : ln = 0 ∨ ln = 1 ∨ ln = 2 ∨ ln = 3 ∨ ln = 4 := by omega
  rcases this with rfl | rfl | rfl | rfl | rfl <;> (simp only [Nat.reduceSub, Nat.reducePow] at *; refine ⟨?_, ?_⟩ <;> omega)
def tGz (Γ : gE) (h : gHp) (tt ch ro k : Nat) (lo : Nat → Nat → Int32) : Option Value → gHp → Prop := fun v h' => v = none ∧ ∃ C' R' k', gTR Γ h' tt ch ro C' R' k' ∧ tI C' R' k' lo ∧ k' ≤ k + 4 ∧ gKeep (tS tt ch ro) h h'
theorem tr_grow {tt ch ro k : Nat} {C : Nat → Nat} {R : Nat → Int32} (H : gTR Γ h tt ch ro C R k) {lo : Nat → Nat → Int32} (hI : tI C R k lo) {p dg ln : Nat} {rt : Int32} (hp9 : h p = some (gJ 9 [.int (nI dg), .int (nI ln), .int rt, .int (nI (10 ^ (4 - ln))), .int (nI dg * nI (10 ^ (4 - ln)))])) (h1 : 1 ≤ ln) (h2 : ln ≤ 4) (h3 : dg < 10 ^ ln) (hk : k + 4 ≤ 49) : gC Γ M_X7_grow [.ref tt, .ref p] h 2 0 0 (tGz Γ h tt ch ro k (fun l v => if l = ln ∧ v = dg then rt else lo l v)) (fun _ _ => False) := by
  obtain ⟨hfc, hfd⟩ := fc_lt h2 h3
  rw [pk_mul] at hp9
  obtain ⟨fc, efc⟩ : ∃ z, dg * 10 ^ (4 - ln) = z := ⟨_, rfl⟩
  rw [efc] at hfc hfd hp9
  have loop : ∀ n j nd C R k9 hk, j + n = ln → k9 ≤ k + j → gTR Γ hk tt ch ro C R k9 → tI C R k9 lo → wk C j (fc / 10 ^ (4 - j)) = some nd → gKeep (tS tt ch ro) h hk → G Γ M_X7_grow 2 0 0 (tGz Γ h tt ch ro k (fun l v => if l = ln ∧ v = dg then rt else lo l v)) (fun _ _ => False) 0 0 9 [some (.ref tt), some (.ref p), some (.int (nI nd)), some (.int (nI (pwj j))), some (.int (nI j)), none, none] [] hk := by
    intro n
    induction n with
    | zero =>
      intro j nd C R k9 hk hj hkj K KI hw kk
      obtain rfl : j = ln := by omega
      have K0 := K
      obtain ⟨htt, ⟨f, hch, hf⟩, ⟨g, hro, hg⟩, hcr⟩ := K0
      have hp9k := kk p _ (fun z => by
        rcases tS_no H z with ⟨fs, y⟩ | ⟨n, f, y⟩ <;> (rw [hp9] at y; cases y)) hp9
      rw [hfd] at hw
      have hnd := KI.2.1 j dg nd h3 hw
      have hkk := KI.1.2
      have hn0 : nd ≠ 0 := fun z => by have := hnd.2.2 z; omega
      refine g_blk [(.iload 4, .null), (.aload_n 1, .null)] (Nat.le_of_ble_eq_true rfl) (by decide +kernel) ?_
      refine gx_iload_4 (gx_aload_n_1 ((gx_nil ?_)))
      refine g_getf fX7_51 (by decide +kernel) hp9k rfl ?_
      refine g_icmp_ge (off := 61) (tgt := 76) (by decide +kernel) (by decide) (fun c15 => ?_) (fun c15 => ?_)
      · try simp only [bI_0, Decidable.not_not] at c15
        refine g_blk [(.iload_n 2, .null)] (Nat.le_of_ble_eq_true rfl) (by decide +kernel) ?_
        refine gx_iload_n_2 ((gx_nil ?_))
        refine g_if_le (off := 22) (tgt := 99) (by decide +kernel) (by decide) (fun c77 => ?_) (fun c77 => ?_)
        · try simp only [bI_0, Decidable.not_not] at c77
          exact absurd c77 (nI_nle (by omega) (by omega))
        · try simp only [bI_0, Decidable.not_not] at c77
          refine g_blk [(.iload_n 2, .null), (.aload_n 0, .null)] (Nat.le_of_ble_eq_true rfl) (by decide +kernel) ?_
          refine gx_iload_n_2 (gx_aload_n_0 ((gx_nil ?_)))
          refine g_getf fX7_15 (by decide +kernel) htt rfl ?_
          refine g_alen_i (by decide +kernel) hro ?_
          refine g_icmp_ge (off := 13) (tgt := 99) (by decide +kernel) (by decide) (fun c86 => ?_) (fun c86 => ?_)
          · try simp only [bI_0, Decidable.not_not] at c86
            exact absurd (show nI 49 ≤ nI nd from c86) (nI_ge (by omega) (by omega))
          · try simp only [bI_0, Decidable.not_not] at c86
            refine g_blk [(.aload_n 0, .null)] (Nat.le_of_ble_eq_true rfl) (by decide +kernel) ?_
            refine gx_aload_n_0 ((gx_nil ?_))
            refine g_getf fX7_15 (by decide +kernel) htt rfl ?_
            refine g_blk [(.iload_n 2, .null), (.aload_n 1, .null)] (Nat.le_of_ble_eq_true rfl) (by decide +kernel) ?_
            refine gx_iload_n_2 (gx_aload_n_1 ((gx_nil ?_)))
            refine g_getf fX7_61 (by decide +kernel) hp9k rfl ?_
            refine g_iastore (by decide +kernel) hro (vp_in_nI (by omega) (by omega)) ?_
            rw [nI_clamp (by omega)]
            have K2 := gTR_ro K (f := upd g nd rt) (R' := upd R nd rt) (fun q hq => by
              unfold upd
              split
              · rfl
              · exact hg q hq)
            refine g_end none rfl ⟨by decide +kernel, rfl⟩ ?_
            exact ⟨rfl, C, _, k9, K2.1, tI_set KI h3 hw, by omega, kk.tr K2.2⟩
      · try simp only [bI_0, Decidable.not_not] at c15
        exact absurd (nI_le (by omega) (by omega)) c15
    | succ n ih =>
      intro j nd C R k9 hk hj hkj K KI hw kk
      have hj3 : j ≤ 3 := by omega
      have K0 := K
      obtain ⟨htt, ⟨f, hch, hf⟩, ⟨g, hro, hg⟩, hcr⟩ := K0
      have hp9k := kk p _ (fun z => by
        rcases tS_no H z with ⟨fs, y⟩ | ⟨n, f, y⟩ <;> (rw [hp9] at y; cases y)) hp9
      have hnd := (KI.2.1 j _ nd (cdp_lt hfc (by omega)) hw).1
      have hkk := KI.1.2
      obtain ⟨d9, hd9⟩ : ∃ z, fc / 10 ^ (3 - j) % 10 = z := ⟨_, rfl⟩
      have hd10 : d9 < 10 := by omega
      have hm48 := KI.2.2.2.2 (10 * nd + d9) (by omega)
      obtain ⟨m, hm⟩ : ∃ z, C (10 * nd + d9) = z := ⟨_, rfl⟩
      have hpw := pwj_3 j hj3
      have e10 : 10 * (fc / 10 ^ (4 - j)) + d9 = fc / 10 ^ (4 - (j + 1)) := by
        have := cdp_s (cd := fc) hj3
        omega
      rw [hm] at hm48
      refine g_blk [(.iload 4, .null), (.aload_n 1, .null)] (Nat.le_of_ble_eq_true rfl) (by decide +kernel) ?_
      refine gx_iload_4 (gx_aload_n_1 ((gx_nil ?_)))
      refine g_getf fX7_51 (by decide +kernel) hp9k rfl ?_
      refine g_icmp_ge (off := 61) (tgt := 76) (by decide +kernel) (by decide) (fun c15 => ?_) (fun c15 => ?_)
      · try simp only [bI_0, Decidable.not_not] at c15
        exact absurd c15 (nI_ge (by omega) (by omega))
      · try simp only [bI_0, Decidable.not_not] at c15
        refine g_blk [(.iload_n 3, .null)] (Nat.le_of_ble_eq_true rfl) (by decide +kernel) ?_
        refine gx_iload_n_3 ((gx_nil ?_))
        refine g_if_le (off := 57) (tgt := 76) (by decide +kernel) (by decide) (fun c19 => ?_) (fun c19 => ?_)
        · try simp only [bI_0, Decidable.not_not] at c19
          exact absurd c19 (nI_nle hpw.2.1 hpw.2.2)
        · try simp only [bI_0, Decidable.not_not] at c19
          refine g_blk [(.aload_n 1, .null)] (Nat.le_of_ble_eq_true rfl) (by decide +kernel) ?_
          refine gx_aload_n_1 ((gx_nil ?_))
          refine g_getf fX7_54 (by decide +kernel) hp9k rfl ?_
          refine g_blk [(.iload_n 3, .null)] (Nat.le_of_ble_eq_true rfl) (by decide +kernel) ?_
          refine gx_iload_n_3 ((gx_nil ?_))
          refine g_idiv (pwj_n hj3) (by decide +kernel) ?_
          refine g_blk [(.bipush 10, .int (nI 10))] (Nat.le_of_ble_eq_true rfl) (by decide +kernel) ?_
          refine gx_bipush ((gx_nil ?_))
          refine g_irem (by decide) (by decide +kernel) ?_
          rw [dg_j (by omega) hj3, hd9]
          refine g_blk [(.istore 5, .null), (.iload_n 3, .null), (.bipush 10, .int (nI 10))] (Nat.le_of_ble_eq_true rfl) (by decide +kernel) ?_
          refine gx_istore_5 rfl (gx_iload_n_3 (gx_bipush ((gx_nil ?_))))
          refine g_idiv (by decide) (by decide +kernel) ?_
          rw [pwj_s j hj3]
          refine g_blk [(.istore_n 3, .null), (.aload_n 0, .null), (.iload_n 2, .null), (.iload 5, .null)] (Nat.le_of_ble_eq_true rfl) (by decide +kernel) ?_
          refine gx_istore_n_3 rfl (gx_aload_n_0 (gx_iload_n_2 (gx_iload_5 ((gx_nil ?_)))))
          refine g_pV kX7_47 (tr_child K (n := nd) (d := d9) (by omega) hd10) (by decide +kernel) rfl rfl htt rfl (Nat.le_of_ble_eq_true rfl) (Nat.le_of_ble_eq_true rfl) (Nat.le_of_ble_eq_true rfl) rfl ?_
          simp only [Option.toList_some, List.cons_append, List.nil_append]
          rw [hm]
          refine g_blk [(.istore 6, .null), (.iload 6, .null)] (Nat.le_of_ble_eq_true rfl) (by decide +kernel) ?_
          refine gx_istore_6 rfl (gx_iload_6 ((gx_nil ?_)))
          refine g_if_ne (off := 18) (tgt := 67) (by decide +kernel) (by decide) (fun c49 => ?_) (fun c49 => ?_)
          · try simp only [bI_0, Decidable.not_not] at c49
            refine g_blk [(.iload 6, .null), (.istore_n 2, .null), (.iinc 4 1, .int (nI 1)), (.goto (-64), .retAddr 9)] (Nat.le_of_ble_eq_true rfl) (by decide +kernel) ?_
            refine gx_iload_6 (gx_istore_n_2 rfl (gx_iinc_4 rfl (gx_goto ((gx_nil ?_)))))
            try simp only [nI_add, Nat.add_zero, Nat.zero_add, Nat.reduceAdd]
            have m0 : ¬ m = 0 := fun z => by rw [z] at c49; exact c49 (by decide)
            have W2 : wk C (j + 1) (fc / 10 ^ (4 - (j + 1))) = some m := by
              rw [wk_some (n := nd) (by rw [(cdp_s hj3).1]; exact hw), (cdp_s hj3).2, hd9, hm, if_neg m0]
            exact g_wk (by simp [gLe]) (ih (j + 1) m C R k9 hk (by omega) (by omega) K KI W2 kk)
          · try simp only [bI_0, Decidable.not_not] at c49
            refine g_blk [(.aload_n 0, .null)] (Nat.le_of_ble_eq_true rfl) (by decide +kernel) ?_
            refine gx_aload_n_0 ((gx_nil ?_))
            refine g_callV (rc' := 0) (rs' := 0) kX7_22 (tr_add K (by omega)) (by decide +kernel) rfl rfl htt rfl (Nat.le_of_ble_eq_true rfl) (Nat.le_of_ble_eq_true rfl) (Nat.le_of_ble_eq_true rfl) (by omega) (by omega) rfl (fun _ _ z => z.elim) (fun v9 h5 hz => ?_)
            obtain ⟨rfl, K5, k5⟩ := hz
            have htt5 := K5.1
            simp only [Option.toList_some, Option.toList_none, List.cons_append, List.nil_append]
            refine g_blk [(.istore 6, .null), (.aload_n 0, .null), (.iload_n 2, .null), (.iload 5, .null), (.iload 6, .null)] (Nat.le_of_ble_eq_true rfl) (by decide +kernel) ?_
            refine gx_istore_6 rfl (gx_aload_n_0 (gx_iload_n_2 (gx_iload_5 (gx_iload_6 ((gx_nil ?_))))))
            refine g_callV (rc' := 0) (rs' := 0) kX7_57 (tr_link K5 (n := nd) (d := d9) (m := k9) (by omega) hd10) (by decide +kernel) rfl rfl htt5 rfl (Nat.le_of_ble_eq_true rfl) (Nat.le_of_ble_eq_true rfl) (Nat.le_of_ble_eq_true rfl) (by omega) (by omega) rfl (fun _ _ z => z.elim) (fun v9 h6 hz => ?_)
            obtain ⟨rfl, K6, k6⟩ := hz
            simp only [Option.toList_some, Option.toList_none, List.cons_append, List.nil_append]
            refine g_blk [(.iload 6, .null), (.istore_n 2, .null), (.iinc 4 1, .int (nI 1)), (.goto (-64), .retAddr 9)] (Nat.le_of_ble_eq_true rfl) (by decide +kernel) ?_
            refine gx_iload_6 (gx_istore_n_2 rfl (gx_iinc_4 rfl (gx_goto ((gx_nil ?_)))))
            try simp only [nI_add, Nat.add_zero, Nat.zero_add, Nat.reduceAdd]
            have m0 : m = 0 := by
              have := (nI_eq (a := m) (b := 0) (by omega) (by decide)).mp (by rw [c49]; decide)
              exact this
            rw [m0] at hm
            obtain ⟨W1, W2⟩ := tI_new KI (cdp_lt hfc (by omega)) hw hd10 hm (by omega)
            rw [e10] at W2
            exact g_wk (by simp [gLe]) (ih (j + 1) k9 _ _ (k9 + 1) h6 (by omega) (by omega) K6 W1 W2 ((kk.tr k5).tr k6))
  refine gC_of (by decide) rfl (Nat.le_of_ble_eq_true rfl) [some (.ref tt), some (.ref p), none, none, none, none, none] rfl ?_
  refine g_blk [(.iconst 0, .int (nI 0)), (.istore_n 2, .null), (.sipush 1000, .int (nI 1000)), (.istore_n 3, .null), (.iconst 0, .int (nI 0)), (.istore 4, .null)] (Nat.le_of_ble_eq_true rfl) (by decide +kernel) ?_
  refine gx_iconst (gx_istore_n_2 rfl (gx_sipush (gx_istore_n_3 rfl (gx_iconst (gx_istore_4 rfl ((gx_nil ?_)))))))
  exact g_wk (by simp [gLe, pwj]) (loop ln 0 0 C R k h (by omega) (by omega) H hI rfl gKeep.rf)
theorem gTb_kp {h1 : gHp} {tt ch ro k ta pa ep : Nat} {C : Nat → Nat} {R : Nat → Int32} {fq ps : List Nat} {N : Nat → Int32} (H : gTR Γ h tt ch ro C R k) (kk : gKeep (tS tt ch ro) h h1) (hta : h ta = some (gJ 11 [.ref pa, .ref ep])) (HP : gAL Γ de h pa fq ps) (hps : ∀ j p, ps[j]? = some p → gPre h N j p) : h1 ta = some (gJ 11 [.ref pa, .ref ep]) ∧ gAL Γ de h1 pa fq ps ∧ ∀ j p, ps[j]? = some p → gPre h1 N j p := by
  refine ⟨kk ta _ (fun z => ?_) hta, gAL_kp HP kk (fun q hq z => ?_), fun j p hj => kk p _ (fun z => ?_) (hps j p hj)⟩
  · rcases tS_no H z with ⟨fs, y⟩ | ⟨n, f, y⟩ <;> (rw [hta] at y; cases y)
  · rcases tS_no H z with ⟨fs, y⟩ | ⟨n, f, y⟩
    · rcases gAL_nk HP q hq with ⟨fs2, x⟩ | ⟨n2, f2, x⟩ <;> (rw [y] at x; cases x)
    · rcases gAL_nk HP q hq with ⟨fs2, x⟩ | ⟨n2, f2, x⟩
      · rw [y] at x; cases x
      · rw [y] at x; exact gI_O (Option.some.inj x)
  · have x := hps j p hj
    unfold gPre at x
    rcases tS_no H z with ⟨fs, y⟩ | ⟨n, f, y⟩ <;> (rw [x] at y; cases y)
theorem tr_build {tt ch ro k : Nat} {C : Nat → Nat} {R : Nat → Int32} (H : gTR Γ h tt ch ro C R k) (hC : ∀ q, q < 490 → C q ≤ 48) {t ta pa ep : Nat} {fq ps : List Nat} {N : Nat → Int32} (hta : h ta = some (gJ 11 [.ref pa, .ref ep])) (HP : gAL Γ de h pa fq ps) (hpc : ps.length = t) (hps : ∀ j p, ps[j]? = some p → gPre h N j p) (ht : t ≤ 12) (hv : rPv N t) : gC Γ M_X7_build [.ref tt, .ref ta] h 3 0 0 (fun v h' => v = none ∧ ∃ C' R' k', gTR Γ h' tt ch ro C' R' k' ∧ tI C' R' k' (lkN N t) ∧ gKeep (tS tt ch ro) h h') (fun _ _ => False) := by
  have H0 := H
  obtain ⟨htt, ⟨f, hch, hf⟩, ⟨g, hro, hg⟩, hcr⟩ := H0
  have loop : ∀ n i C R k9 hk, i + n = t → k9 ≤ 1 + 4 * i → gTR Γ hk tt ch ro C R k9 → tI C R k9 (lkN N i) → gKeep (tS tt ch ro) h hk → G Γ M_X7_build 3 0 0 (fun v h' => v = none ∧ ∃ C' R' k', gTR Γ h' tt ch ro C' R' k' ∧ tI C' R' k' (lkN N t) ∧ gKeep (tS tt ch ro) h h') (fun _ _ => False) 0 0 12 [some (.ref tt), some (.ref ta), some (.int (nI i))] [] hk := by
    intro n
    induction n with
    | zero =>
      intro i C R k9 hk hi hk9 K KI kk
      obtain rfl : i = t := by omega
      have hT := gTb_kp H kk hta HP hps
      obtain ⟨hta5, HP5, hps5⟩ := hT
      refine g_blk [(.iload_n 2, .null), (.aload_n 1, .null)] (Nat.le_of_ble_eq_true rfl) (by decide +kernel) ?_
      refine gx_iload_n_2 (gx_aload_n_1 ((gx_nil ?_)))
      refine g_getf fX7_26 (by decide +kernel) hta5 rfl ?_
      refine g_pV kX7_32 (al_size HP5) (by decide +kernel) rfl rfl (al_cell HP5) rfl (Nat.le_of_ble_eq_true rfl) (Nat.le_of_ble_eq_true rfl) (Nat.le_of_ble_eq_true rfl) rfl ?_
      simp only [Option.toList_some, List.cons_append, List.nil_append]
      rw [hpc]
      refine g_icmp_ge (off := 24) (tgt := 44) (by decide +kernel) (by decide) (fun c20 => ?_) (fun c20 => ?_)
      · try simp only [bI_0, Decidable.not_not] at c20
        refine g_end none rfl ⟨by decide +kernel, rfl⟩ ?_
        exact ⟨rfl, C, R, k9, K, KI, kk⟩
      · try simp only [bI_0, Decidable.not_not] at c20
        exact absurd (nI_le (by omega) (by omega)) c20
    | succ n ih =>
      intro i C R k9 hk hi hk9 K KI kk
      have hT := gTb_kp H kk hta HP hps
      obtain ⟨hta5, HP5, hps5⟩ := hT
      have htt := K.1
      obtain ⟨p9, hx9⟩ : ∃ z, ps[i]? = some z := ⟨_, List.getElem?_eq_getElem (by omega)⟩
      have hp9 := hps5 i p9 hx9
      obtain ⟨dg, ln, rt, e1, e2, e3, b1, b2, b3, b4⟩ := hv i (by omega)
      unfold gPre gSpan at hp9
      rw [e1, e2, nI_subN b2, rTens_n (by omega)] at hp9
      have hdl : dg < 10000 := by
        have : ln = 1 ∨ ln = 2 ∨ ln = 3 ∨ ln = 4 := by omega
        rcases this with rfl | rfl | rfl | rfl <;> (simp only [Nat.reducePow] at b3; omega)
      refine g_blk [(.iload_n 2, .null), (.aload_n 1, .null)] (Nat.le_of_ble_eq_true rfl) (by decide +kernel) ?_
      refine gx_iload_n_2 (gx_aload_n_1 ((gx_nil ?_)))
      refine g_getf fX7_26 (by decide +kernel) hta5 rfl ?_
      refine g_pV kX7_32 (al_size HP5) (by decide +kernel) rfl rfl (al_cell HP5) rfl (Nat.le_of_ble_eq_true rfl) (Nat.le_of_ble_eq_true rfl) (Nat.le_of_ble_eq_true rfl) rfl ?_
      simp only [Option.toList_some, List.cons_append, List.nil_append]
      rw [hpc]
      refine g_icmp_ge (off := 24) (tgt := 44) (by decide +kernel) (by decide) (fun c20 => ?_) (fun c20 => ?_)
      · try simp only [bI_0, Decidable.not_not] at c20
        exact absurd c20 (nI_ge (by omega) (by omega))
      · try simp only [bI_0, Decidable.not_not] at c20
        refine g_blk [(.aload_n 0, .null), (.aload_n 1, .null)] (Nat.le_of_ble_eq_true rfl) (by decide +kernel) ?_
        refine gx_aload_n_0 (gx_aload_n_1 ((gx_nil ?_)))
        refine g_getf fX7_26 (by decide +kernel) hta5 rfl ?_
        refine g_blk [(.iload_n 2, .null)] (Nat.le_of_ble_eq_true rfl) (by decide +kernel) ?_
        refine gx_iload_n_2 ((gx_nil ?_))
        refine g_pV kX7_37 (al_get HP5 hx9) (by decide +kernel) rfl rfl (al_cell HP5) rfl (Nat.le_of_ble_eq_true rfl) (Nat.le_of_ble_eq_true rfl) (Nat.le_of_ble_eq_true rfl) rfl ?_
        try simp only [Option.toList_some, Option.toList_none, List.cons_append, List.nil_append, bI_0, n1_0, n0_0, Decidable.not_not, not_true_eq_false, not_false_eq_true, nI_add, Nat.add_zero, Nat.zero_add, Nat.reduceAdd]
        refine g_castO hp9 rfl rfl (clX7_41) (by decide +kernel) ?_
        refine g_callV (rc' := 0) (rs' := 0) kX7_43 (tr_grow K KI hp9 b1 b2 b3 (by omega)) (by decide +kernel) rfl rfl htt rfl (Nat.le_of_ble_eq_true rfl) (Nat.le_of_ble_eq_true rfl) (Nat.le_of_ble_eq_true rfl) (by omega) (by omega) rfl (fun _ _ z => z.elim) (fun v9 h5 hz => ?_)
        obtain ⟨rfl, C5, R5, k5, K5, KI5, hk5, kk5⟩ := hz
        simp only [Option.toList_some, Option.toList_none, List.cons_append, List.nil_append]
        refine g_blk [(.iinc 2 1, .int (nI 1)), (.goto (-29), .retAddr 12)] (Nat.le_of_ble_eq_true rfl) (by decide +kernel) ?_
        refine gx_iinc_2 rfl (gx_goto ((gx_nil ?_)))
        try simp only [nI_add, Nat.add_zero, Nat.zero_add, Nat.reduceAdd]
        exact ih (i + 1) C5 R5 k5 h5 (by omega) (by omega) K5 (by rw [lkN_s e1 e2 (by omega) (by omega)]; exact KI5) (kk.tr kk5)
  refine gC_of (by decide) rfl (Nat.le_of_ble_eq_true rfl) [some (.ref tt), some (.ref ta), none] rfl ?_
  refine g_blk [(.aload_n 0, .null), (.iconst 0, .int (nI 0))] (Nat.le_of_ble_eq_true rfl) (by decide +kernel) ?_
  refine gx_aload_n_0 (gx_iconst ((gx_nil ?_)))
  refine g_putf fX7_18 (by decide +kernel) htt (by simp) rfl rfl ?_
  have K1 := gTR_tt (k' := 0) H
  refine g_hp (h1 := gUp h tt (gJ 10 [.ref ch, .ref ro, .int (nI 0)])) rfl ?_
  revert K1
  generalize gUp h tt (gJ 10 [.ref ch, .ref ro, .int (nI 0)]) = h1
  intro K1
  obtain ⟨K1, k1⟩ := K1
  have htt1 := K1.1
  refine g_blk [(.aload_n 0, .null)] (Nat.le_of_ble_eq_true rfl) (by decide +kernel) ?_
  refine gx_aload_n_0 ((gx_nil ?_))
  refine g_callV (rc' := 0) (rs' := 0) kX7_22 (tr_add K1 (by omega)) (by decide +kernel) rfl rfl htt1 rfl (Nat.le_of_ble_eq_true rfl) (Nat.le_of_ble_eq_true rfl) (Nat.le_of_ble_eq_true rfl) (by omega) (by omega) rfl (fun _ _ z => z.elim) (fun v9 h5 hz => ?_)
  obtain ⟨rfl, K2, k2⟩ := hz
  simp only [Option.toList_some, Option.toList_none, List.cons_append, List.nil_append]
  refine g_blk [(.pop, .null), (.iconst 0, .int (nI 0)), (.istore_n 2, .null)] (Nat.le_of_ble_eq_true rfl) (by decide +kernel) ?_
  refine gx_popi (gx_iconst (gx_istore_n_2 rfl ((gx_nil ?_))))
  exact loop t 0 (tZ C 0) (upd R 0 (-1)) 1 h5 (by omega) (by omega) K2 (tI_0 hC) (k1.tr k2)
theorem tr_init {tt : Nat} {y0 y1 : Value} {y2 : Int32} (htt : h tt = some (gJ 10 [y0, y1, .int y2])) : gC Γ M_X7_init [.ref tt] h 1 2 539 (fun v h' => v = none ∧ ∃ ch ro, h ch = none ∧ h ro = none ∧ gTR Γ h' tt ch ro (fun _ => 0) (fun _ => 0) 0 ∧ gKeep (fun q => q = tt) h h') (fun _ _ => False) := by
  refine gC_of (by decide) rfl (Nat.le_of_ble_eq_true rfl) [some (.ref tt)] rfl ?_
  refine g_blk [(.aload_n 0, .null)] (Nat.le_of_ble_eq_true rfl) (by decide +kernel) ?_
  refine gx_aload_n_0 ((gx_nil ?_))
  refine g_objInit wOIRX7 wOI1 wOI2 (by decide +kernel) (by omega) (by decide) ?_
  refine g_blk [(.aload_n 0, .null), (.sipush 490, .int (nI 490))] (Nat.le_of_ble_eq_true rfl) (by decide +kernel) ?_
  refine gx_aload_n_0 (gx_sipush ((gx_nil ?_)))
  refine g_newarr_i (N := 490) (rc' := 1) (rs' := 49) (by decide +kernel) wAI (by decide) (nI_clamp (by decide)) (by decide) (by omega) (by omega) (fun ch hch => ?_)
  have ct : tt ≠ ch := fun z => by rw [← z, htt] at hch; cases hch
  refine g_putfF fX7_11 fin10_0 rfl (by decide +kernel) ((gUp_n _ _ ct).trans htt) (by simp) rfl rfl ?_
  have u1 : gUp (gUp h ch (gI Γ 490 (fun _ => 0))) tt (gJ 10 [.ref ch, y1, .int y2]) tt = _ := gUp_s _ _ _
  have u2 : gUp (gUp h ch (gI Γ 490 (fun _ => 0))) tt (gJ 10 [.ref ch, y1, .int y2]) ch = _ := (gUp_n _ _ ct.symm).trans (gUp_s _ _ _)
  have uk : gKeep (fun q => q = tt) h (gUp (gUp h ch (gI Γ 490 (fun _ => 0))) tt (gJ 10 [.ref ch, y1, .int y2])) := gK_up (gK_up gKeep.rf (Or.inr hch)) (Or.inl rfl)
  refine g_hp (h1 := gUp (gUp h ch (gI Γ 490 (fun _ => 0))) tt (gJ 10 [.ref ch, y1, .int y2])) rfl ?_
  revert u1 u2 uk
  generalize gUp (gUp h ch (gI Γ 490 (fun _ => 0))) tt (gJ 10 [.ref ch, y1, .int y2]) = h1
  intro u1 u2 uk
  refine g_blk [(.aload_n 0, .null), (.bipush 49, .int (nI 49))] (Nat.le_of_ble_eq_true rfl) (by decide +kernel) ?_
  refine gx_aload_n_0 (gx_bipush ((gx_nil ?_)))
  refine g_newarr_i (N := 49) (rc' := 0) (rs' := 0) (by decide +kernel) wAI (by decide) (nI_clamp (by decide)) (by decide) (by omega) (by omega) (fun ro hro => ?_)
  have rt : tt ≠ ro := fun z => by rw [← z, u1] at hro; cases hro
  have rc9 : ch ≠ ro := fun z => by rw [← z, u2] at hro; cases hro
  refine g_putfF fX7_15 fin10_1 rfl (by decide +kernel) ((gUp_n _ _ rt).trans u1) (by simp) rfl rfl ?_
  have w1 : gUp (gUp h1 ro (gI Γ 49 (fun _ => 0))) tt (gJ 10 [.ref ch, .ref ro, .int y2]) tt = _ := gUp_s _ _ _
  have w2 : gUp (gUp h1 ro (gI Γ 49 (fun _ => 0))) tt (gJ 10 [.ref ch, .ref ro, .int y2]) ch = _ := ((gUp_n _ _ ct.symm).trans (gUp_n _ _ rc9)).trans u2
  have w3 : gUp (gUp h1 ro (gI Γ 49 (fun _ => 0))) tt (gJ 10 [.ref ch, .ref ro, .int y2]) ro = _ := (gUp_n _ _ rt.symm).trans (gUp_s _ _ _)
  have hro0 : h ro = none := gK_no uk (fun z y => by rw [y]; exact ⟨_, u1⟩) hro
  have wk9 : gKeep (fun q => q = tt) h (gUp (gUp h1 ro (gI Γ 49 (fun _ => 0))) tt (gJ 10 [.ref ch, .ref ro, .int y2])) := gK_up (gK_up uk (Or.inr hro0)) (Or.inl rfl)
  refine g_hp (h1 := gUp (gUp h1 ro (gI Γ 49 (fun _ => 0))) tt (gJ 10 [.ref ch, .ref ro, .int y2])) rfl ?_
  revert w1 w2 w3 wk9
  generalize gUp (gUp h1 ro (gI Γ 49 (fun _ => 0))) tt (gJ 10 [.ref ch, .ref ro, .int y2]) = h2
  intro w1 w2 w3 wk9
  refine g_blk [(.aload_n 0, .null), (.iconst 0, .int (nI 0))] (Nat.le_of_ble_eq_true rfl) (by decide +kernel) ?_
  refine gx_aload_n_0 (gx_iconst ((gx_nil ?_)))
  refine g_putf fX7_18 (by decide +kernel) w1 (by simp) rfl rfl ?_
  refine g_end none rfl ⟨by decide +kernel, rfl⟩ ?_
  refine ⟨rfl, ch, ro, hch, hro0, ⟨gUp_s _ _ _, ⟨_, (gUp_n _ _ ct.symm).trans w2, fun q _ => rfl⟩, ⟨_, (gUp_n _ _ rt.symm).trans w3, fun q _ => rfl⟩, rc9⟩, gK_up wk9 (Or.inl rfl)⟩
end GTd
