/-! THE FACE: UNDO, SAVE, RESTORE, THE BUFFER, THE LINE -/
section GFy
variable {Γ : gE} {de mi : Nat} {h h' h1 : gHp} {m B : Nat} {V : Nat → Int32} {F : Nat → Nat → Int32} {ex : List oT}
theorem vU_2 {a x : Int32} {k j : Nat} (hj : j < 13) : vU (vU V 13 a) k x j = vU V k x j := by
  by_cases e : j = k
  · subst e
    rw [vU_s, vU_s]
  · rw [vU_n e, vU_n e, vU_n (by omega)]
section Mo
variable {hl tt bu sb o : Nat} {sv : Value} {bl e8 f8 : Int32}
theorem mo_errorPosition (hm : gMc h m o sv hl tt bu bl sb e8 f8) (hx : ¬ e8 = -1) : pC Γ M_X9_errorPosition [.ref m] h 0 (some (.int e8)) := by
  refine pC_of (by decide) rfl (Nat.le_of_ble_eq_true rfl) [some (.ref m)] rfl ?_
  refine g_blk [(.aload_n 0, .null)] (Nat.le_of_ble_eq_true rfl) (by decide +kernel) ?_
  refine gx_aload_n_0 ((gx_nil ?_))
  refine g_getf fX9_48 (by decide +kernel) hm rfl ?_
  refine g_blk [(.iconst (-1), .int (-1))] (Nat.le_of_ble_eq_true rfl) (by decide +kernel) ?_
  refine gx_iconst ((gx_nil ?_))
  refine g_icmp_ne (off := 14) (tgt := 19) (by decide +kernel) (by decide) (fun c5 => ?_) (fun c5 => ?_)
  · try simp only [bI_0, Decidable.not_not] at c5
    refine g_blk [(.aload_n 0, .null)] (Nat.le_of_ble_eq_true rfl) (by decide +kernel) ?_
    refine gx_aload_n_0 ((gx_nil ?_))
    refine g_getf fX9_48 (by decide +kernel) hm rfl ?_
    refine g_end (some (.int _)) rfl ⟨by decide +kernel, _, rfl, rfl⟩ ⟨?_, rfl⟩
    rfl
  · try simp only [bI_0, Decidable.not_not] at c5
    exact absurd c5 hx
theorem mo_errorPosition_no (hp : gPxs Γ) (hm : gMc h m o sv hl tt bu bl sb e8 f8) (hx : e8 = -1) : gC Γ M_X9_errorPosition [.ref m] h 6 1 6 (fun _ _ => False) (fun E h' => E = xNS ∧ h' = h) := by
  refine gC_of (by decide) rfl (Nat.le_of_ble_eq_true rfl) [some (.ref m)] rfl ?_
  refine g_blk [(.aload_n 0, .null)] (Nat.le_of_ble_eq_true rfl) (by decide +kernel) ?_
  refine gx_aload_n_0 ((gx_nil ?_))
  refine g_getf fX9_48 (by decide +kernel) hm rfl ?_
  refine g_blk [(.iconst (-1), .int (-1))] (Nat.le_of_ble_eq_true rfl) (by decide +kernel) ?_
  refine gx_iconst ((gx_nil ?_))
  refine g_icmp_ne (off := 14) (tgt := 19) (by decide +kernel) (by decide) (fun c5 => ?_) (fun c5 => ?_)
  · try simp only [bI_0, Decidable.not_not] at c5
    exact absurd hx c5
  · try simp only [bI_0, Decidable.not_not] at c5
    obtain ⟨sa, hsa⟩ := hp.at (k := 393) (tx := "no program was malformed so far") (by decide)
    exact g_throwXW thr_ns hp.1 hsa (by decide +kernel) (by decide +kernel) (by decide +kernel) (by decide +kernel) (by decide +kernel) rfl (by decide) (Nat.le_of_ble_eq_true rfl) (by omega) (by omega) ⟨rfl, rfl⟩
theorem mo_failedCommand (hm : gMc h m o sv hl tt bu bl sb e8 f8) (hx : ¬ f8 = -1) : pC Γ M_X9_failedCommand [.ref m] h 0 (some (.int f8)) := by
  refine pC_of (by decide) rfl (Nat.le_of_ble_eq_true rfl) [some (.ref m)] rfl ?_
  refine g_blk [(.aload_n 0, .null)] (Nat.le_of_ble_eq_true rfl) (by decide +kernel) ?_
  refine gx_aload_n_0 ((gx_nil ?_))
  refine g_getf fX9_51 (by decide +kernel) hm rfl ?_
  refine g_blk [(.iconst (-1), .int (-1))] (Nat.le_of_ble_eq_true rfl) (by decide +kernel) ?_
  refine gx_iconst ((gx_nil ?_))
  refine g_icmp_ne (off := 14) (tgt := 19) (by decide +kernel) (by decide) (fun c5 => ?_) (fun c5 => ?_)
  · try simp only [bI_0, Decidable.not_not] at c5
    refine g_blk [(.aload_n 0, .null)] (Nat.le_of_ble_eq_true rfl) (by decide +kernel) ?_
    refine gx_aload_n_0 ((gx_nil ?_))
    refine g_getf fX9_51 (by decide +kernel) hm rfl ?_
    refine g_end (some (.int _)) rfl ⟨by decide +kernel, _, rfl, rfl⟩ ⟨?_, rfl⟩
    rfl
  · try simp only [bI_0, Decidable.not_not] at c5
    exact absurd c5 hx
theorem mo_failedCommand_no (hp : gPxs Γ) (hm : gMc h m o sv hl tt bu bl sb e8 f8) (hx : f8 = -1) : gC Γ M_X9_failedCommand [.ref m] h 6 1 6 (fun _ _ => False) (fun E h' => E = xNS ∧ h' = h) := by
  refine gC_of (by decide) rfl (Nat.le_of_ble_eq_true rfl) [some (.ref m)] rfl ?_
  refine g_blk [(.aload_n 0, .null)] (Nat.le_of_ble_eq_true rfl) (by decide +kernel) ?_
  refine gx_aload_n_0 ((gx_nil ?_))
  refine g_getf fX9_51 (by decide +kernel) hm rfl ?_
  refine g_blk [(.iconst (-1), .int (-1))] (Nat.le_of_ble_eq_true rfl) (by decide +kernel) ?_
  refine gx_iconst ((gx_nil ?_))
  refine g_icmp_ne (off := 14) (tgt := 19) (by decide +kernel) (by decide) (fun c5 => ?_) (fun c5 => ?_)
  · try simp only [bI_0, Decidable.not_not] at c5
    exact absurd hx c5
  · try simp only [bI_0, Decidable.not_not] at c5
    obtain ⟨sa, hsa⟩ := hp.at (k := 395) (tx := "no command failed so far") (by decide)
    exact g_throwXW thr_ns hp.1 hsa (by decide +kernel) (by decide +kernel) (by decide +kernel) (by decide +kernel) (by decide +kernel) rfl (by decide) (Nat.le_of_ble_eq_true rfl) (by omega) (by omega) ⟨rfl, rfl⟩
theorem mo_restore_no (hp : gPxs Γ) (hm : gMc h m o .null hl tt bu bl sb e8 f8) : gC Γ M_X9_restore [.ref m] h 6 1 6 (fun _ _ => False) (fun E h' => E = xIS ∧ h' = h) := by
  refine gC_of (by decide) rfl (Nat.le_of_ble_eq_true rfl) [some (.ref m)] rfl ?_
  refine g_blk [(.aload_n 0, .null)] (Nat.le_of_ble_eq_true rfl) (by decide +kernel) ?_
  refine gx_aload_n_0 ((gx_nil ?_))
  refine g_getf fX9_16 (by decide +kernel) hm rfl ?_
  refine g_ifnonnullN (off := 14) (by decide +kernel) ?_
  obtain ⟨sa, hsa⟩ := hp.at (k := 399) (tx := "there is no saved copy") (by decide)
  exact g_throwW thr_is hp.1 hsa (by decide +kernel) (by decide +kernel) (by decide +kernel) (by decide +kernel) (by decide +kernel) rfl (by decide) (Nat.le_of_ble_eq_true rfl) (by omega) (by omega) ⟨rfl, rfl⟩
end Mo
theorem mo_lineChar {hl tt bu sb o : Nat} {sv : Value} {bl e8 f8 : Int32} {d1 d10 : Nat} {vf : Value} (hps : gPsb Γ d1 d10 vf) (hm : gMc h m o sv hl tt bu bl sb e8 f8) {lv lm p x : Nat} {xs : List Nat} (HS : gSB Γ h sb lv lm xs) (hl9 : xs.length ≤ 60) (hx : xs[p]? = some x) (hx8 : x < 128) : pC Γ M_X9_lineChar [.ref m, .int (nI p)] h 4 (some (.int (nI x))) := by
  have hpl : p < xs.length := (List.getElem?_eq_some_iff.mp hx).1
  have hsb : ∃ fs, h sb = some (gJ 1 fs) := by obtain ⟨ml, f, z, -⟩ := HS; exact ⟨_, z⟩
  obtain ⟨fsb, hsb⟩ := hsb
  refine pC_of (by decide) rfl (Nat.le_of_ble_eq_true rfl) [some (.ref m), some (.int (nI p))] rfl ?_
  refine g_blk [(.iload_n 1, .null)] (Nat.le_of_ble_eq_true rfl) (by decide +kernel) ?_
  refine gx_iload_n_1 ((gx_nil ?_))
  refine g_if_lt (off := 14) (tgt := 15) (by decide +kernel) (by decide) (fun c1 => ?_) (fun c1 => ?_)
  · try simp only [bI_0, Decidable.not_not] at c1
    exact absurd c1 (nI_nn (by omega))
  · try simp only [bI_0, Decidable.not_not] at c1
    refine g_blk [(.iload_n 1, .null), (.aload_n 0, .null)] (Nat.le_of_ble_eq_true rfl) (by decide +kernel) ?_
    refine gx_iload_n_1 (gx_aload_n_0 ((gx_nil ?_)))
    refine g_getf fX9_44 (by decide +kernel) hm rfl ?_
    refine g_pV kX9_357 (sb_len HS) (by decide +kernel) rfl rfl hsb rfl (Nat.le_of_ble_eq_true rfl) (Nat.le_of_ble_eq_true rfl) (Nat.le_of_ble_eq_true rfl) rfl ?_
    simp only [Option.toList_some, Option.toList_none, List.cons_append, List.nil_append]
    refine g_icmp_lt (off := 14) (tgt := 26) (by decide +kernel) (by decide) (fun c12 => ?_) (fun c12 => ?_)
    · try simp only [bI_0, Decidable.not_not] at c12
      refine g_blk [(.aload_n 0, .null)] (Nat.le_of_ble_eq_true rfl) (by decide +kernel) ?_
      refine gx_aload_n_0 ((gx_nil ?_))
      refine g_getf fX9_44 (by decide +kernel) hm rfl ?_
      refine g_blk [(.iload_n 1, .null)] (Nat.le_of_ble_eq_true rfl) (by decide +kernel) ?_
      refine gx_iload_n_1 ((gx_nil ?_))
      refine g_pV kX9_361 (sb_charAt hps HS hx hx8) (by decide +kernel) rfl rfl hsb rfl (Nat.le_of_ble_eq_true rfl) (Nat.le_of_ble_eq_true rfl) (Nat.le_of_ble_eq_true rfl) rfl ?_
      simp only [Option.toList_some, Option.toList_none, List.cons_append, List.nil_append]
      refine g_end (some (.int _)) rfl ⟨by decide +kernel, _, rfl, nar_c hx8⟩ ⟨?_, rfl⟩
      rfl
    · try simp only [bI_0, Decidable.not_not] at c12
      exact absurd (Int32.not_lt.mp c12) (fun z => by have := (nI_leI (by omega) (by omega)).mp z; omega)
theorem mo_lineChar_no {hl tt bu sb o : Nat} {sv : Value} {bl e8 f8 : Int32} (hp : gPxs Γ) (hm : gMc h m o sv hl tt bu bl sb e8 f8) {lv lm : Nat} {x : Int32} {xs : List Nat} (HS : gSB Γ h sb lv lm xs) (hl9 : xs.length ≤ 60) (hx : ¬ (nI 0 ≤ x ∧ x ≤ nI xs.length - nI 1)) : gC Γ M_X9_lineChar [.ref m, .int x] h 6 1 6 (fun _ _ => False) (fun E h' => E = xIO ∧ h' = h) := by
  have hsb : ∃ fs, h sb = some (gJ 1 fs) := by obtain ⟨ml, f, z, -⟩ := HS; exact ⟨_, z⟩
  obtain ⟨fsb, hsb⟩ := hsb
  refine gC_of (by decide) rfl (Nat.le_of_ble_eq_true rfl) [some (.ref m), some (.int x)] rfl ?_
  refine g_blk [(.iload_n 1, .null)] (Nat.le_of_ble_eq_true rfl) (by decide +kernel) ?_
  refine gx_iload_n_1 ((gx_nil ?_))
  refine g_if_lt (off := 14) (tgt := 15) (by decide +kernel) (by decide) (fun c1 => ?_) (fun c1 => ?_)
  · try simp only [bI_0, Decidable.not_not] at c1
    obtain ⟨sa, hsa⟩ := hp.at (k := 359) (tx := "the line has no such index") (by decide)
    exact g_throwW thr_io hp.1 hsa (by decide +kernel) (by decide +kernel) (by decide +kernel) (by decide +kernel) (by decide +kernel) rfl (by decide) (Nat.le_of_ble_eq_true rfl) (by omega) (by omega) ⟨rfl, rfl⟩
  · try simp only [bI_0, Decidable.not_not] at c1
    refine g_blk [(.iload_n 1, .null), (.aload_n 0, .null)] (Nat.le_of_ble_eq_true rfl) (by decide +kernel) ?_
    refine gx_iload_n_1 (gx_aload_n_0 ((gx_nil ?_)))
    refine g_getf fX9_44 (by decide +kernel) hm rfl ?_
    refine g_pV kX9_357 (sb_len HS) (by decide +kernel) rfl rfl hsb rfl (Nat.le_of_ble_eq_true rfl) (Nat.le_of_ble_eq_true rfl) (Nat.le_of_ble_eq_true rfl) rfl ?_
    simp only [Option.toList_some, Option.toList_none, List.cons_append, List.nil_append]
    refine g_icmp_lt (off := 14) (tgt := 26) (by decide +kernel) (by decide) (fun c12 => ?_) (fun c12 => ?_)
    · try simp only [bI_0, Decidable.not_not] at c12
      exact absurd (rg_of c1 (Int32.not_le.mpr c12) (by omega)) hx
    · try simp only [bI_0, Decidable.not_not] at c12
      obtain ⟨sa, hsa⟩ := hp.at (k := 359) (tx := "the line has no such index") (by decide)
      exact g_throwW thr_io hp.1 hsa (by decide +kernel) (by decide +kernel) (by decide +kernel) (by decide +kernel) (by decide +kernel) rfl (by decide) (Nat.le_of_ble_eq_true rfl) (by omega) (by omega) ⟨rfl, rfl⟩
theorem fa_errorPosition (hp : gPxs Γ) (G : gMO Γ de h m V F B) (hB9 : B ≤ 9000) : fC Γ M_X9_errorPosition [.ref m] h 6 (if V 7 = -1 then nI 1 else nI 0) (.int (if V 7 = -1 then nI 0 else V 7)) (nmOf xNS xNS xNS) (fP Γ de h m (vU V 13 (if V 7 = -1 then nI 1 else nI 0)) (F) B) := by
  obtain ⟨nx, o, svv, hl, tt, bu, sb, la, ta, ca, da, ba, pa, ep, fl, fq, ls, ps, hm, H, I, hB⟩ := G.rd
  have hc := I.hc
  have ht := I.ht
  have hw := I.lv (by omega)
  have hlen := H.2.2.1
  by_cases h0 : V 7 = -1
  · refine fC_no (mo_errorPosition_no hp hm h0) (by decide) (by decide) (by decide) ?_ nm_s G.self
    rw [if_pos h0]
    exact n1x
  · have e0 : (if V 7 = -1 then nI 1 else nI 0) = 0 := by rw [if_neg h0]; exact z0
    refine fC_x (fC_pure (mo_errorPosition hm h0) (by decide) e0 G.self) (fun _ => ?_)
    rw [if_neg h0]
theorem fa_failedCommand (hp : gPxs Γ) (G : gMO Γ de h m V F B) (hB9 : B ≤ 9000) : fC Γ M_X9_failedCommand [.ref m] h 6 (if V 8 = -1 then nI 1 else nI 0) (.int (if V 8 = -1 then nI 0 else V 8)) (nmOf xNS xNS xNS) (fP Γ de h m (vU V 13 (if V 8 = -1 then nI 1 else nI 0)) (F) B) := by
  obtain ⟨nx, o, svv, hl, tt, bu, sb, la, ta, ca, da, ba, pa, ep, fl, fq, ls, ps, hm, H, I, hB⟩ := G.rd
  have hc := I.hc
  have ht := I.ht
  have hw := I.lv (by omega)
  have hlen := H.2.2.1
  by_cases h0 : V 8 = -1
  · refine fC_no (mo_failedCommand_no hp hm h0) (by decide) (by decide) (by decide) ?_ nm_s G.self
    rw [if_pos h0]
    exact n1x
  · have e0 : (if V 8 = -1 then nI 1 else nI 0) = 0 := by rw [if_neg h0]; exact z0
    refine fC_x (fC_pure (mo_failedCommand hm h0) (by decide) e0 G.self) (fun _ => ?_)
    rw [if_neg h0]
theorem fa_restore0 (hp : gPxs Γ) (G : gMO Γ de h m V F B) (h5 : V 5 = nI 0) : fC Γ M_X9_restore [.ref m] h 6 (nI 1) (.int (nI 0)) (nmOf xIS xIS xIS) (fP Γ de h m (vU V 13 (nI 1)) F B) := by
  have hm : ∃ o hl tt bu sb, gMc h m o .null hl tt bu (V 10) sb (V 7) (V 8) := by
    obtain ⟨o, fo, sv, fr, svv, hl, tt, bu, sb, fl, a1, a2, a3, a4, -⟩ := id G
    rcases a4 with ⟨-, -, rfl⟩ | ⟨e, -⟩
    · exact ⟨o, hl, tt, bu, sb, a1⟩
    · rw [h5] at e; exact absurd e (by decide)
  obtain ⟨o, hl, tt, bu, sb, hm⟩ := hm
  exact fC_no (mo_restore_no hp hm) (by decide) (by decide) (by decide) n1x nm_s G.self
theorem fa_save (hpl : gPall Γ de mi) (G : gMO Γ de h m V F B) (hB9 : B ≤ 9000) : fN Γ M_X9_save [.ref m] h 2230 (.int (F 0 3)) (fP Γ de h m (vU (vU V 13 (nI 0)) 5 (nI 1)) (fR F 3 (F 0)) B) := by
  obtain ⟨nx, o, svv, hl, tt, bu, sb, fo, hm, H, I, hB⟩ := G.ro
  obtain ⟨la, ta, ca, da, ba, ho⟩ := H.cell
  refine gC_wide (d := 10) (mc := 60) (ms := 2230) ?_ (by decide) (by decide) (by decide)
  refine gC_of (by decide) rfl (Nat.le_of_ble_eq_true rfl) [some (.ref m)] rfl ?_
  refine g_blk [(.aload_n 0, .null), (.aload_n 0, .null)] (Nat.le_of_ble_eq_true rfl) (by decide +kernel) ?_
  refine gx_aload_n_0 (gx_aload_n_0 ((gx_nil ?_)))
  refine g_getf fX9_10 (by decide +kernel) hm rfl ?_
  refine g_callV (rc' := 0) (rs' := 0) kX9_54 (H.dup hpl I (by omega)) (by decide +kernel) rfl rfl ho rfl (Nat.le_of_ble_eq_true rfl) (Nat.le_of_ble_eq_true rfl) (Nat.le_of_ble_eq_true rfl) (by omega) (by omega) rfl (fun _ _ z => z.elim) (fun v9 h5 hz => ?_)
  obtain ⟨b, fpb, rfl, Hb, hfr, ka⟩ := hz
  obtain ⟨o5, svv5, hl5, tt5, bu5, sb5, hm5, G6, k6⟩ := (gMX.dup G Hb I hB hfr ka).sv
  simp only [Option.toList_some, Option.toList_none, List.cons_append, List.nil_append]
  refine g_putf fX9_16 (by decide +kernel) hm5 (by simp) rfl rfl ?_
  refine g_hp (h1 := gUp h5 m (gJ 12 [.ref o5, .ref b, .ref hl5, .ref tt5, .ref bu5, .int (V 10), .ref sb5, .int (V 7), .int (V 8)])) rfl ?_
  obtain ⟨nx6, o6, svv6, hl6, tt6, bu6, sb6, la6, ta6, ca6, da6, ba6, pa6, ep6, fl6, fq6, ls6, ps6, hm6, H6, I6, hB6⟩ := gMO.rd G6
  obtain ⟨ho6, HL6, hlc6, -⟩ := H6
  refine g_blk [(.aload_n 0, .null)] (Nat.le_of_ble_eq_true rfl) (by decide +kernel) ?_
  refine gx_aload_n_0 ((gx_nil ?_))
  refine g_getf fX9_10 (by decide +kernel) hm6 rfl ?_
  refine g_getf fX9_150 (by decide +kernel) ho6 rfl ?_
  refine g_pV kX9_133 (al_size HL6) (by decide +kernel) rfl rfl (al_cell HL6) rfl (Nat.le_of_ble_eq_true rfl) (Nat.le_of_ble_eq_true rfl) (Nat.le_of_ble_eq_true rfl) rfl ?_
  simp only [Option.toList_some, Option.toList_none, List.cons_append, List.nil_append]
  rw [hlc6]
  refine g_end (some (.int _)) rfl ⟨by decide +kernel, _, rfl, rfl⟩ ?_
  exact ⟨by rw [show (F 0 3) = nI (rc (F 0)) from I.h3]; rfl, gMX.eqv G6 (fun j hj => vU_2 hj) (fun _ _ => rfl), (gFr.all ka).tr k6⟩
theorem fa_restore1 (hpl : gPall Γ de mi) (G : gMO Γ de h m V F B) (hB9 : B ≤ 9000) (h5 : V 5 = nI 1) : fC Γ M_X9_restore [.ref m] h 2230 (nI 0) (.int (F 3 3)) (nmOf xIS xIS xIS) (fP Γ de h m (vU (vU V 13 (nI 0)) 6 (nI 0)) (fR F 0 (F 3)) B) := by
  have hm : ∃ o os fs hl tt bu sb, gMc h m o (.ref os) hl tt bu (V 10) sb (V 7) (V 8) ∧ gOne Γ de h B (F 3, os, fs) := by
    obtain ⟨o, fo, sv, fr, svv, hl, tt, bu, sb, fl, a1, a2, a3, a4, -⟩ := id G
    rcases a4 with ⟨e, -⟩ | ⟨e, os, fs, rfl, rfl⟩
    · rw [h5] at e; exact absurd e (by decide)
    · exact ⟨o, os, fs, hl, tt, bu, sb, a1, a2 _ (by simp)⟩
  obtain ⟨o, os, fs, hl, tt, bu, sb, hm, ⟨c3, t3, nx3, H3, I3, hB3⟩⟩ := hm
  obtain ⟨la, ta, ca, da, ba, hos⟩ := H3.cell
  refine gC_wide (d := 10) (mc := 60) (ms := 2230) ?_ (by decide) (by decide) (by decide)
  refine gC_of (by decide) rfl (Nat.le_of_ble_eq_true rfl) [some (.ref m)] rfl ?_
  refine g_blk [(.aload_n 0, .null)] (Nat.le_of_ble_eq_true rfl) (by decide +kernel) ?_
  refine gx_aload_n_0 ((gx_nil ?_))
  refine g_getf fX9_16 (by decide +kernel) hm rfl ?_
  refine g_ifnonnull (off := 14) (tgt := 18) (by decide +kernel) (by decide) ?_
  refine g_blk [(.aload_n 0, .null), (.aload_n 0, .null)] (Nat.le_of_ble_eq_true rfl) (by decide +kernel) ?_
  refine gx_aload_n_0 (gx_aload_n_0 ((gx_nil ?_)))
  refine g_getf fX9_16 (by decide +kernel) hm rfl ?_
  refine g_callV (rc' := 0) (rs' := 0) kX9_54 (H3.dup hpl I3 (by omega)) (by decide +kernel) rfl rfl hos rfl (Nat.le_of_ble_eq_true rfl) (Nat.le_of_ble_eq_true rfl) (Nat.le_of_ble_eq_true rfl) (by omega) (by omega) rfl (fun _ _ z => z.elim) (fun v9 h6 hz => ?_)
  obtain ⟨b, fpb, rfl, Hb, hfr, ka⟩ := hz
  have hm6 : gMc h6 m o (.ref os) hl tt bu (V 10) sb (V 7) (V 8) := ka _ _ (fun z => z) hm
  obtain ⟨G7, k7⟩ := gMX.rs (gMX.dup G Hb I3 hB3 hfr ka) h5 hm6
  obtain ⟨o8, svv8, hl8, tt8, bu8, sb8, fl8, xs8, hm8, HL8, hC8⟩ := G7.cl
  simp only [Option.toList_some, Option.toList_none, List.cons_append, List.nil_append]
  refine g_putf fX9_10 (by decide +kernel) hm6 (by simp) rfl rfl ?_
  refine g_hp (h1 := gUp h6 m (gJ 12 [.ref b, .ref os, .ref hl, .ref tt, .ref bu, .int (V 10), .ref sb, .int (V 7), .int (V 8)])) rfl ?_
  refine g_blk [(.aload_n 0, .null)] (Nat.le_of_ble_eq_true rfl) (by decide +kernel) ?_
  refine gx_aload_n_0 ((gx_nil ?_))
  refine g_getf fX9_22 (by decide +kernel) hm8 rfl ?_
  refine g_callV (rc' := 0) (rs' := 0) kX9_401 (al_clear HL8) (by decide +kernel) rfl rfl (al_cell HL8) rfl (Nat.le_of_ble_eq_true rfl) (Nat.le_of_ble_eq_true rfl) (Nat.le_of_ble_eq_true rfl) (by omega) (by omega) rfl (fun _ _ z => z.elim) (fun v9 h9 hz => ?_)
  obtain ⟨rfl, HLe, hke⟩ := hz
  obtain ⟨G9, k9⟩ := hC8 h9 HLe hke
  obtain ⟨nx9, o9, svv9, hl9, tt9, bu9, sb9, la9, ta9, ca9, da9, ba9, pa9, ep9, fl9, fq9, ls9, ps9, hm9, H9, I9, hB9⟩ := gMO.rd G9
  obtain ⟨ho9, HL9, hlc9, -⟩ := H9
  simp only [Option.toList_some, Option.toList_none, List.cons_append, List.nil_append]
  refine g_blk [(.aload_n 0, .null)] (Nat.le_of_ble_eq_true rfl) (by decide +kernel) ?_
  refine gx_aload_n_0 ((gx_nil ?_))
  refine g_getf fX9_10 (by decide +kernel) hm9 rfl ?_
  refine g_getf fX9_150 (by decide +kernel) ho9 rfl ?_
  refine g_pV kX9_133 (al_size HL9) (by decide +kernel) rfl rfl (al_cell HL9) rfl (Nat.le_of_ble_eq_true rfl) (Nat.le_of_ble_eq_true rfl) (Nat.le_of_ble_eq_true rfl) rfl ?_
  simp only [Option.toList_some, Option.toList_none, List.cons_append, List.nil_append]
  rw [hlc9]
  refine g_end (some (.int _)) rfl ⟨by decide +kernel, _, rfl, rfl⟩ ?_
  exact ⟨z0, by rw [show F 3 3 = nI (rc (F 3)) from (show F 3 3 = nI c3 from I3.h3).trans (by rw [show rc (F 3) = c3 from I3.c_eq])]; rfl, gMX.eqv G9 (fun j hj => vU_2 hj) (fun _ _ => rfl), ((gFr.all ka).tr k7).tr k9⟩
end GFy
