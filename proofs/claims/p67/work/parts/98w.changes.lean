/-! THE FACE: THE TEN CHANGES -/
section GFw
variable {Γ : gE} {de mi : Nat} {h h' h1 : gHp} {m B : Nat} {V : Nat → Int32} {F : Nat → Nat → Int32}
theorem xO1 : xOf (-1) = xIA := if_pos rfl
theorem xO2 : xOf (-2) = xIO := by unfold xOf; rw [if_neg (by decide), if_pos rfl]
theorem xO3 : xOf (-3) = xNS := by unfold xOf; rw [if_neg (by decide), if_neg (by decide), if_pos rfl]
theorem xO4 : xOf (-4) = xIS := by unfold xOf; rw [if_neg (by decide), if_neg (by decide), if_neg (by decide)]
theorem cI1 : cdI (-1) ∧ xIA = xOf (-1) := ⟨Or.inl rfl, xO1.symm⟩
theorem cI2 : cdI (-2) ∧ xIO = xOf (-2) := ⟨Or.inr (Or.inl rfl), xO2.symm⟩
theorem cI3 : cdI (-3) ∧ xNS = xOf (-3) := ⟨Or.inr (Or.inr (Or.inl rfl)), xO3.symm⟩
theorem cI4 : cdI (-4) ∧ xIS = xOf (-4) := ⟨Or.inr (Or.inr (Or.inr rfl)), xO4.symm⟩
theorem rT_in (a b c : Int32) : rT a b c = 0 ∨ rT a b c = nI 1 ∨ (rT a b c = nI 2 ∧ b = 0) ∨ (rT a b c = nI 3 ∧ c = 0) := by
  unfold rT
  split
  · exact Or.inr (Or.inl rfl)
  · split
    · next h => exact Or.inr (Or.inr (Or.inl ⟨rfl, h⟩))
    · split
      · next h => exact Or.inr (Or.inr (Or.inr ⟨rfl, h⟩))
      · exact Or.inl z0
theorem ch_cd {c1 c2 c3 a b c : Int32} {e1 e2 e3 : String} (k1 : cdI c1 ∧ e1 = xOf c1) (k2 : b = 0 → cdI c2 ∧ e2 = xOf c2) (k3 : c = 0 → cdI c3 ∧ e3 = xOf c3) (h : ¬ rT a b c = 0) : cdI (ccd c1 c2 c3 (rT a b c)) ∧ nmOf e1 e2 e3 (rT a b c) = xOf (ccd c1 c2 c3 (rT a b c)) := by
  rcases rT_in a b c with y | y | ⟨y, z⟩ | ⟨y, z⟩
  · exact absurd y h
  · rw [y, nm1, show ccd c1 c2 c3 (nI 1) = c1 from if_pos rfl]; exact k1
  · rw [y, nm2, show ccd c1 c2 c3 (nI 2) = c2 from by unfold ccd; rw [if_neg (by decide), if_pos rfl]]; exact k2 z
  · rw [y, nm3, show ccd c1 c2 c3 (nI 3) = c3 from by unfold ccd; rw [if_neg (by decide), if_neg (by decide)]]; exact k3 z
theorem fN_of {M : gM} {av : List Value} {W : Nat} {x : Value} {nm : Int32 → String} {P : gHp → Prop} (c : fC Γ M av h W (nI 0) x nm P) : fN Γ M av h W x P :=
  gC_post c (fun v h' z => z.2) (fun _ _ z => absurd z0 z.1)
section Ops
variable {N : Nat → Int32} {c t o nx : Nat} {fp : List Nat}
theorem gOf.cell (H : gOf Γ de h N c t o fp) : ∃ la ta ca da ba, h o = some (gJ 7 [.ref la, .ref ta, .ref ca, .ref da, .ref ba, .int (N 0), .int (N 1), .int (N 2), .int (N 5), .int (N 6), .int (N 7)]) := by
  obtain ⟨la, ta, ca, da, ba, pa, ep, fl, fq, ls, ps, H, rfl, nd⟩ := H
  exact ⟨la, ta, ca, da, ba, H.1⟩
theorem gOf.takeIn {p : Nat} (hpl : gPall Γ de mi) (H : gOf Γ de h N c t o fp) (I : rIV N c t nx) (hn : nx < 100000) (code wt : Int32) (hp : p ≤ 1) : gC Γ M_X4_takeIn [.ref o, .int code, .int wt, .int (nI p)] h 8 2 71 (chZ Γ de h o fp nx (tAcc N code wt (nI p) c) (ccd (-1) (-4) 0)) (fun _ _ => False) := by
  obtain ⟨la, ta, ca, da, ba, pa, ep, fl, fq, ls, ps, H, rfl, nd⟩ := H
  exact gC_post (of_takeIn hpl H nd I.hc I.ht I.h3 code wt hp) (fun v h9 z => chZ_of (X := tAcc N code wt (nI p) c) z (fun e => tAcc_G I hn hp e)) (fun _ _ z => z)
theorem gOf.sortById (H : gOf Γ de h N c t o fp) (I : rIV N c t nx) (hn : nx < 100000) (id : Int32) : gC Γ M_X4_sortById [.ref o, .int id] h 7 0 0 (chZ Γ de h o fp nx (tSrt N id c t) (ccd (-3) (-4) 0)) (fun _ _ => False) := by
  obtain ⟨la, ta, ca, da, ba, pa, ep, fl, fq, ls, ps, H, rfl, nd⟩ := H
  exact gC_post (of_sortById H nd I.hc I.ht I.pv (I.lv (by omega)) I.OK I.uq id) (fun v h9 z => chZ_of (X := tSrt N id c t) z (fun e => tSrt_G I (by omega) e)) (fun _ _ z => z)
theorem gOf.placeById (H : gOf Γ de h N c t o fp) (I : rIV N c t nx) (hn : nx < 100000) (id rt : Int32) : gC Γ M_X4_placeById [.ref o, .int id, .int rt] h 6 0 0 (chZ Γ de h o fp nx (tPlc N id rt c) (ccd (-3) (-2) (-4))) (fun _ _ => False) := by
  obtain ⟨la, ta, ca, da, ba, pa, ep, fl, fq, ls, ps, H, rfl, nd⟩ := H
  exact gC_post (of_placeById H nd I.hc I.ht I.pv (I.lv (by omega)) I.OK I.uq id rt) (fun v h9 z => chZ_of (X := tPlc N id rt c) z (fun e => tPlc_G I (by omega) e)) (fun _ _ z => z)
theorem gOf.takeOut (H : gOf Γ de h N c t o fp) (I : rIV N c t nx) (hn : nx < 100000) (id : Int32) : gC Γ M_X4_takeOut [.ref o, .int id] h 4 0 0 (chZ Γ de h o fp nx (tPul N id c) (ccd (-3) (-4) 0)) (fun _ _ => False) := by
  obtain ⟨la, ta, ca, da, ba, pa, ep, fl, fq, ls, ps, H, rfl, nd⟩ := H
  exact gC_post (of_takeOut H nd I.hc I.ht I.pv (I.lv (by omega)) I.uq id) (fun v h9 z => chZ_of (X := tPul N id c) z (fun e => tPul_G I (by omega) e)) (fun _ _ z => z)
theorem gOf.changeCutoff (H : gOf Γ de h N c t o fp) (I : rIV N c t nx) (hn : nx < 100000) (rt hr : Int32) : gC Γ M_X4_changeCutoff [.ref o, .int rt, .int hr] h 2 0 0 (chZ Γ de h o fp nx (tSet N rt 0 hr (nI 24)) (ccd (-2) (-1) 0)) (fun _ _ => False) := by
  obtain ⟨la, ta, ca, da, ba, pa, ep, fl, fq, ls, ps, H, rfl, nd⟩ := H
  exact gC_post (of_changeCutoff H nd rt hr) (fun v h9 z => chZ_of (X := tSet N rt 0 hr (nI 24)) z (fun e => tSet_G (k := 0) I (by decide) e)) (fun _ _ z => z)
theorem gOf.changeDeparture (H : gOf Γ de h N c t o fp) (I : rIV N c t nx) (hn : nx < 100000) (rt hr : Int32) : gC Γ M_X4_changeDeparture [.ref o, .int rt, .int hr] h 2 0 0 (chZ Γ de h o fp nx (tSet N rt 1 hr (nI 23)) (ccd (-2) (-1) 0)) (fun _ _ => False) := by
  obtain ⟨la, ta, ca, da, ba, pa, ep, fl, fq, ls, ps, H, rfl, nd⟩ := H
  exact gC_post (of_changeDeparture H nd rt hr) (fun v h9 z => chZ_of (X := tSet N rt 1 hr (nI 23)) z (fun e => tSet_G (k := 1) I (by decide) e)) (fun _ _ z => z)
theorem gOf.passHours (H : gOf Γ de h N c t o fp) (I : rIV N c t nx) (hn : nx < 100000) (hrs : Int32) : gC Γ M_X4_passHours [.ref o, .int hrs] h 8 0 0 (chZ Γ de h o fp nx (tWait N hrs) (ccd (-1) 0 0)) (fun _ _ => False) := by
  obtain ⟨la, ta, ca, da, ba, pa, ep, fl, fq, ls, ps, H, rfl, nd⟩ := H
  exact gC_post (of_passHours H nd I.hc I.ht I.h3 I.h4 I.pv (I.lv (by omega)) I.hh hrs) (fun v h9 z => chZ_of (X := tWait N hrs) z (fun e => tWait_G I)) (fun _ _ z => z)
theorem gOf.sortTray (hpl : gPall Γ de mi) (H : gOf Γ de h N c t o fp) (I : rIV N c t nx) (hn : nx < 100000) : gC Γ M_X4_sortTray [.ref o] h 10 41 2563 (chZ Γ de h o fp nx (tAll N c t) (ccd 0 0 0)) (fun _ _ => False) := by
  obtain ⟨la, ta, ca, da, ba, pa, ep, fl, fq, ls, ps, H, rfl, nd⟩ := H
  refine gC_post (of_sortTray hpl H nd I.hc I.ht ⟨I.pv, I.lv (by omega), I.OK⟩) (fun v h9 z => ?_) (fun _ _ z => z)
  obtain ⟨fp', y1, y2, y3⟩ := z.2.of
  exact Or.inl ⟨z0, z.1, c, t, fp', tAll_G I (by omega), y1, y2, y3⟩
theorem gOf.tabl (hpl : gPall Γ de mi) (H : gOf Γ de h N c t o fp) (I : rIV N c t nx) (hn : nx < 100000) : ∃ la ta ca da ba tf, h o = some (gJ 7 [.ref la, .ref ta, .ref ca, .ref da, .ref ba, .int (N 0), .int (N 1), .int (N 2), .int (N 5), .int (N 6), .int (N 7)]) ∧ h ta = some (gJ 11 tf) ∧ (∀ dg ln rt : Int32, gC Γ M_X8_enter [.ref ta, .int dg, .int ln, .int rt] h 8 2 69 (chZ Γ de h o fp nx (tAdd N dg ln rt t) (ccd (-1) (-2) (-4))) (fun _ _ => False)) ∧ ∀ dg ln : Int32, gC Γ M_X8_strike [.ref ta, .int dg, .int ln] h 4 0 0 (chZ Γ de h o fp nx (tRm N dg ln t) (ccd (-1) (-3) 0)) (fun _ _ => False) := by
  obtain ⟨la, ta, ca, da, ba, pa, ep, fl, fq, ls, ps, H, rfl, nd⟩ := H
  exact ⟨la, ta, ca, da, ba, _, H.1, H.2.2.2.2.1, fun dg ln rt => gC_post (of_enter hpl H nd I.ht I.h4 I.up dg ln rt) (fun v h9 z => chZ_of (X := tAdd N dg ln rt t) z (fun e => tAdd_G I e)) (fun _ _ z => z), fun dg ln => gC_post (of_strike H nd I.ht I.up dg ln) (fun v h9 z => chZ_of (X := tRm N dg ln t) z (fun e => tRm_G I e)) (fun _ _ z => z)⟩
end Ops
theorem fb_accept (hp : gPxs Γ) (hpl : gPall Γ de mi) (G : gMO Γ de h m V F B) (hB9 : B ≤ 9000) (p0 : Int32) (p1 : Int32) {pr : Nat} (hpr : pr ≤ 1) {r : Nat} (hV6 : V 6 = nI r) (hr : r ≤ 8) : fC Γ M_X9_accept [.ref m, .int p0, .int p1, .int (nI pr)] h 5000 (tAcc (F 0) p0 p1 (nI pr) (rc (F 0))).1 (.int (if (tAcc (F 0) p0 p1 (nI pr) (rc (F 0))).1 = 0 then (tAcc (F 0) p0 p1 (nI pr) (rc (F 0))).2.1 else nI 0)) (nmOf xIA xIS xIS) (fP Γ de h m (cV V (tAcc (F 0) p0 p1 (nI pr) (rc (F 0))).1 r) (cF F (tAcc (F 0) p0 p1 (nI pr) (rc (F 0))).1 (tAcc (F 0) p0 p1 (nI pr) (rc (F 0))).2.2 r) (B + 1)) := by
  obtain ⟨nx, o, svv, hl, tt, bu, sb, fo, hm, H, I, hB⟩ := G.ro
  obtain ⟨la, ta, ca, da, ba, ho⟩ := H.cell
  refine gC_wide (d := 12) (mc := 110) (ms := 5000) ?_ (by decide) (by decide) (by decide)
  refine gC_of (by decide) rfl (Nat.le_of_ble_eq_true rfl) [some (.ref m), some (.int p0), some (.int p1), some (.int (nI pr)), none] rfl ?_
  refine g_blk [(.aload_n 0, .null)] (Nat.le_of_ble_eq_true rfl) (by decide +kernel) ?_
  refine gx_aload_n_0 ((gx_nil ?_))
  refine g_getf fX9_10 (by decide +kernel) hm rfl ?_
  refine g_callV (rc' := 50) (rs' := 2770) kX9_54 (H.dup hpl I (by omega)) (by decide +kernel) rfl rfl ho rfl (Nat.le_of_ble_eq_true rfl) (Nat.le_of_ble_eq_true rfl) (Nat.le_of_ble_eq_true rfl) (by omega) (by omega) rfl (fun _ _ z => z.elim) (fun v9 h5 hz => ?_)
  obtain ⟨b, fpb, rfl, Hb, hfr, ka⟩ := hz
  have G5 := gMX.dup G Hb I hB hfr ka
  obtain ⟨o5, fo5, nx5, svv5, hl5, tt5, bu5, sb5, hm5, H5, I5, hB5, op5⟩ := G5.op
  obtain ⟨la5, ta5, ca5, da5, ba5, ho5⟩ := H5.cell
  simp only [Option.toList_some, Option.toList_none, List.cons_append, List.nil_append]
  refine g_blk [(.astore 4, .null), (.aload_n 0, .null), (.aload 4, .null), (.aload_n 0, .null)] (Nat.le_of_ble_eq_true rfl) (by decide +kernel) ?_
  refine gx_astore_4 rfl (gx_aload_n_0 (gx_aload_4 (gx_aload_n_0 ((gx_nil ?_)))))
  refine g_getf fX9_10 (by decide +kernel) hm5 rfl ?_
  refine g_blk [(.iload_n 1, .null), (.iload_n 2, .null), (.iload_n 3, .null)] (Nat.le_of_ble_eq_true rfl) (by decide +kernel) ?_
  refine gx_iload_n_1 (gx_iload_n_2 (gx_iload_n_3 ((gx_nil ?_))))
  refine g_callV (rc' := 3) (rs' := 200) kX9_58 (H5.takeIn hpl I5 (by omega) p0 p1 hpr) (by decide +kernel) rfl rfl ho5 rfl (Nat.le_of_ble_eq_true rfl) (Nat.le_of_ble_eq_true rfl) (Nat.le_of_ble_eq_true rfl) (by omega) (by omega) rfl (fun _ _ z => z.elim) (fun v9 h6 hz => ?_)
  obtain ⟨z9, hv9⟩ : ∃ z, v9 = some (.int z) := by rcases hz with ⟨-, y, -⟩ | ⟨-, y, -⟩ <;> exact ⟨_, y⟩
  subst hv9
  simp only [Option.toList_some, Option.toList_none, List.cons_append, List.nil_append]
  exact ch_tail (x := (F 0, b, fpb)) (X := tAcc (F 0) p0 p1 (nI pr) (rc (F 0))) (code := ccd (-1) (-4) 0) hp hpl kX9_62 (by decide +kernel) ⟨by decide +kernel, _, rfl, rfl⟩ rfl (by decide) (by omega) (by omega) G5 rfl hV6 hr op5 hB5 (gFr.all ka) hz rfl (fun e => ch_cd cI1 (fun _ => cI4) (fun z => absurd z n1x) e) (fun e => if_pos e)
theorem fb_addPrefix (hp : gPxs Γ) (hpl : gPall Γ de mi) (G : gMO Γ de h m V F B) (hB9 : B ≤ 9000) (p0 : Int32) (p1 : Int32) (p2 : Int32) {r : Nat} (hV6 : V 6 = nI r) (hr : r ≤ 8) : fC Γ M_X9_addPrefix [.ref m, .int p0, .int p1, .int p2] h 5000 (tAdd (F 0) p0 p1 p2 (rtt (F 0))).1 (.int (if (tAdd (F 0) p0 p1 p2 (rtt (F 0))).1 = 0 then (tAdd (F 0) p0 p1 p2 (rtt (F 0))).2.1 else nI 0)) (nmOf xIA xIO xIS) (fP Γ de h m (cV V (tAdd (F 0) p0 p1 p2 (rtt (F 0))).1 r) (cF F (tAdd (F 0) p0 p1 p2 (rtt (F 0))).1 (tAdd (F 0) p0 p1 p2 (rtt (F 0))).2.2 r) (B + 1)) := by
  obtain ⟨nx, o, svv, hl, tt, bu, sb, fo, hm, H, I, hB⟩ := G.ro
  obtain ⟨la, ta, ca, da, ba, ho⟩ := H.cell
  refine gC_wide (d := 12) (mc := 110) (ms := 5000) ?_ (by decide) (by decide) (by decide)
  refine gC_of (by decide) rfl (Nat.le_of_ble_eq_true rfl) [some (.ref m), some (.int p0), some (.int p1), some (.int p2), none] rfl ?_
  refine g_blk [(.aload_n 0, .null)] (Nat.le_of_ble_eq_true rfl) (by decide +kernel) ?_
  refine gx_aload_n_0 ((gx_nil ?_))
  refine g_getf fX9_10 (by decide +kernel) hm rfl ?_
  refine g_callV (rc' := 50) (rs' := 2770) kX9_54 (H.dup hpl I (by omega)) (by decide +kernel) rfl rfl ho rfl (Nat.le_of_ble_eq_true rfl) (Nat.le_of_ble_eq_true rfl) (Nat.le_of_ble_eq_true rfl) (by omega) (by omega) rfl (fun _ _ z => z.elim) (fun v9 h5 hz => ?_)
  obtain ⟨b, fpb, rfl, Hb, hfr, ka⟩ := hz
  have G5 := gMX.dup G Hb I hB hfr ka
  obtain ⟨o5, fo5, nx5, svv5, hl5, tt5, bu5, sb5, hm5, H5, I5, hB5, op5⟩ := G5.op
  obtain ⟨la5, ta5, ca5, da5, ba5, tf5, ho5, hta5, ct1, ct2⟩ := H5.tabl hpl I5 (by omega)
  simp only [Option.toList_some, Option.toList_none, List.cons_append, List.nil_append]
  refine g_blk [(.astore 4, .null), (.aload_n 0, .null), (.aload 4, .null), (.aload_n 0, .null)] (Nat.le_of_ble_eq_true rfl) (by decide +kernel) ?_
  refine gx_astore_4 rfl (gx_aload_n_0 (gx_aload_4 (gx_aload_n_0 ((gx_nil ?_)))))
  refine g_getf fX9_10 (by decide +kernel) hm5 rfl ?_
  refine g_getf fX9_66 (by decide +kernel) ho5 rfl ?_
  refine g_blk [(.iload_n 1, .null), (.iload_n 2, .null), (.iload_n 3, .null)] (Nat.le_of_ble_eq_true rfl) (by decide +kernel) ?_
  refine gx_iload_n_1 (gx_iload_n_2 (gx_iload_n_3 ((gx_nil ?_))))
  refine g_callV (rc' := 3) (rs' := 200) kX9_70 (ct1 p0 p1 p2) (by decide +kernel) rfl rfl hta5 rfl (Nat.le_of_ble_eq_true rfl) (Nat.le_of_ble_eq_true rfl) (Nat.le_of_ble_eq_true rfl) (by omega) (by omega) rfl (fun _ _ z => z.elim) (fun v9 h6 hz => ?_)
  obtain ⟨z9, hv9⟩ : ∃ z, v9 = some (.int z) := by rcases hz with ⟨-, y, -⟩ | ⟨-, y, -⟩ <;> exact ⟨_, y⟩
  subst hv9
  simp only [Option.toList_some, Option.toList_none, List.cons_append, List.nil_append]
  exact ch_tail (x := (F 0, b, fpb)) (X := tAdd (F 0) p0 p1 p2 (rtt (F 0))) (code := ccd (-1) (-2) (-4)) hp hpl kX9_62 (by decide +kernel) ⟨by decide +kernel, _, rfl, rfl⟩ rfl (by decide) (by omega) (by omega) G5 rfl hV6 hr op5 hB5 (gFr.all ka) hz rfl (fun e => ch_cd cI1 (fun _ => cI2) (fun _ => cI4) e) (fun e => if_pos e)
theorem fb_removePrefix (hp : gPxs Γ) (hpl : gPall Γ de mi) (G : gMO Γ de h m V F B) (hB9 : B ≤ 9000) (p0 : Int32) (p1 : Int32) {r : Nat} (hV6 : V 6 = nI r) (hr : r ≤ 8) : fC Γ M_X9_removePrefix [.ref m, .int p0, .int p1] h 5000 (tRm (F 0) p0 p1 (rtt (F 0))).1 (.int (if (tRm (F 0) p0 p1 (rtt (F 0))).1 = 0 then (tRm (F 0) p0 p1 (rtt (F 0))).2.1 else nI 0)) (nmOf xIA xNS xNS) (fP Γ de h m (cV V (tRm (F 0) p0 p1 (rtt (F 0))).1 r) (cF F (tRm (F 0) p0 p1 (rtt (F 0))).1 (tRm (F 0) p0 p1 (rtt (F 0))).2.2 r) (B + 1)) := by
  obtain ⟨nx, o, svv, hl, tt, bu, sb, fo, hm, H, I, hB⟩ := G.ro
  obtain ⟨la, ta, ca, da, ba, ho⟩ := H.cell
  refine gC_wide (d := 12) (mc := 110) (ms := 5000) ?_ (by decide) (by decide) (by decide)
  refine gC_of (by decide) rfl (Nat.le_of_ble_eq_true rfl) [some (.ref m), some (.int p0), some (.int p1), none] rfl ?_
  refine g_blk [(.aload_n 0, .null)] (Nat.le_of_ble_eq_true rfl) (by decide +kernel) ?_
  refine gx_aload_n_0 ((gx_nil ?_))
  refine g_getf fX9_10 (by decide +kernel) hm rfl ?_
  refine g_callV (rc' := 50) (rs' := 2770) kX9_54 (H.dup hpl I (by omega)) (by decide +kernel) rfl rfl ho rfl (Nat.le_of_ble_eq_true rfl) (Nat.le_of_ble_eq_true rfl) (Nat.le_of_ble_eq_true rfl) (by omega) (by omega) rfl (fun _ _ z => z.elim) (fun v9 h5 hz => ?_)
  obtain ⟨b, fpb, rfl, Hb, hfr, ka⟩ := hz
  have G5 := gMX.dup G Hb I hB hfr ka
  obtain ⟨o5, fo5, nx5, svv5, hl5, tt5, bu5, sb5, hm5, H5, I5, hB5, op5⟩ := G5.op
  obtain ⟨la5, ta5, ca5, da5, ba5, tf5, ho5, hta5, ct1, ct2⟩ := H5.tabl hpl I5 (by omega)
  simp only [Option.toList_some, Option.toList_none, List.cons_append, List.nil_append]
  refine g_blk [(.astore_n 3, .null), (.aload_n 0, .null), (.aload_n 3, .null), (.aload_n 0, .null)] (Nat.le_of_ble_eq_true rfl) (by decide +kernel) ?_
  refine gx_astore_n_3 rfl (gx_aload_n_0 (gx_aload_n_3 (gx_aload_n_0 ((gx_nil ?_)))))
  refine g_getf fX9_10 (by decide +kernel) hm5 rfl ?_
  refine g_getf fX9_66 (by decide +kernel) ho5 rfl ?_
  refine g_blk [(.iload_n 1, .null), (.iload_n 2, .null)] (Nat.le_of_ble_eq_true rfl) (by decide +kernel) ?_
  refine gx_iload_n_1 (gx_iload_n_2 ((gx_nil ?_)))
  refine g_callV (rc' := 3) (rs' := 200) kX9_76 (ct2 p0 p1) (by decide +kernel) rfl rfl hta5 rfl (Nat.le_of_ble_eq_true rfl) (Nat.le_of_ble_eq_true rfl) (Nat.le_of_ble_eq_true rfl) (by omega) (by omega) rfl (fun _ _ z => z.elim) (fun v9 h6 hz => ?_)
  obtain ⟨z9, hv9⟩ : ∃ z, v9 = some (.int z) := by rcases hz with ⟨-, y, -⟩ | ⟨-, y, -⟩ <;> exact ⟨_, y⟩
  subst hv9
  simp only [Option.toList_some, Option.toList_none, List.cons_append, List.nil_append]
  exact ch_tail (x := (F 0, b, fpb)) (X := tRm (F 0) p0 p1 (rtt (F 0))) (code := ccd (-1) (-3) 0) hp hpl kX9_62 (by decide +kernel) ⟨by decide +kernel, _, rfl, rfl⟩ rfl (by decide) (by omega) (by omega) G5 rfl hV6 hr op5 hB5 (gFr.all ka) hz rfl (fun e => ch_cd cI1 (fun _ => cI3) (fun z => absurd z n1x) e) (fun e => if_pos e)
theorem fb_sort (hp : gPxs Γ) (hpl : gPall Γ de mi) (G : gMO Γ de h m V F B) (hB9 : B ≤ 9000) (p0 : Int32) {r : Nat} (hV6 : V 6 = nI r) (hr : r ≤ 8) : fC Γ M_X9_sort [.ref m, .int p0] h 5000 (tSrt (F 0) p0 (rc (F 0)) (rtt (F 0))).1 (.int (if (tSrt (F 0) p0 (rc (F 0)) (rtt (F 0))).1 = 0 then (tSrt (F 0) p0 (rc (F 0)) (rtt (F 0))).2.1 else nI 0)) (nmOf xNS xIS xIS) (fP Γ de h m (cV V (tSrt (F 0) p0 (rc (F 0)) (rtt (F 0))).1 r) (cF F (tSrt (F 0) p0 (rc (F 0)) (rtt (F 0))).1 (tSrt (F 0) p0 (rc (F 0)) (rtt (F 0))).2.2 r) (B + 1)) := by
  obtain ⟨nx, o, svv, hl, tt, bu, sb, fo, hm, H, I, hB⟩ := G.ro
  obtain ⟨la, ta, ca, da, ba, ho⟩ := H.cell
  refine gC_wide (d := 12) (mc := 110) (ms := 5000) ?_ (by decide) (by decide) (by decide)
  refine gC_of (by decide) rfl (Nat.le_of_ble_eq_true rfl) [some (.ref m), some (.int p0), none] rfl ?_
  refine g_blk [(.aload_n 0, .null)] (Nat.le_of_ble_eq_true rfl) (by decide +kernel) ?_
  refine gx_aload_n_0 ((gx_nil ?_))
  refine g_getf fX9_10 (by decide +kernel) hm rfl ?_
  refine g_callV (rc' := 50) (rs' := 2770) kX9_54 (H.dup hpl I (by omega)) (by decide +kernel) rfl rfl ho rfl (Nat.le_of_ble_eq_true rfl) (Nat.le_of_ble_eq_true rfl) (Nat.le_of_ble_eq_true rfl) (by omega) (by omega) rfl (fun _ _ z => z.elim) (fun v9 h5 hz => ?_)
  obtain ⟨b, fpb, rfl, Hb, hfr, ka⟩ := hz
  have G5 := gMX.dup G Hb I hB hfr ka
  obtain ⟨o5, fo5, nx5, svv5, hl5, tt5, bu5, sb5, hm5, H5, I5, hB5, op5⟩ := G5.op
  obtain ⟨la5, ta5, ca5, da5, ba5, ho5⟩ := H5.cell
  simp only [Option.toList_some, Option.toList_none, List.cons_append, List.nil_append]
  refine g_blk [(.astore_n 2, .null), (.aload_n 0, .null), (.aload_n 2, .null), (.aload_n 0, .null)] (Nat.le_of_ble_eq_true rfl) (by decide +kernel) ?_
  refine gx_astore_n_2 rfl (gx_aload_n_0 (gx_aload_n_2 (gx_aload_n_0 ((gx_nil ?_)))))
  refine g_getf fX9_10 (by decide +kernel) hm5 rfl ?_
  refine g_blk [(.iload_n 1, .null)] (Nat.le_of_ble_eq_true rfl) (by decide +kernel) ?_
  refine gx_iload_n_1 ((gx_nil ?_))
  refine g_callV (rc' := 3) (rs' := 200) kX9_80 (H5.sortById I5 (by omega) p0) (by decide +kernel) rfl rfl ho5 rfl (Nat.le_of_ble_eq_true rfl) (Nat.le_of_ble_eq_true rfl) (Nat.le_of_ble_eq_true rfl) (by omega) (by omega) rfl (fun _ _ z => z.elim) (fun v9 h6 hz => ?_)
  obtain ⟨z9, hv9⟩ : ∃ z, v9 = some (.int z) := by rcases hz with ⟨-, y, -⟩ | ⟨-, y, -⟩ <;> exact ⟨_, y⟩
  subst hv9
  simp only [Option.toList_some, Option.toList_none, List.cons_append, List.nil_append]
  exact ch_tail (x := (F 0, b, fpb)) (X := tSrt (F 0) p0 (rc (F 0)) (rtt (F 0))) (code := ccd (-3) (-4) 0) hp hpl kX9_62 (by decide +kernel) ⟨by decide +kernel, _, rfl, rfl⟩ rfl (by decide) (by omega) (by omega) G5 rfl hV6 hr op5 hB5 (gFr.all ka) hz rfl (fun e => ch_cd cI3 (fun _ => cI4) (fun z => absurd z n1x) e) (fun e => if_pos e)
theorem fb_sortAll (hp : gPxs Γ) (hpl : gPall Γ de mi) (G : gMO Γ de h m V F B) (hB9 : B ≤ 9000) {r : Nat} (hV6 : V 6 = nI r) (hr : r ≤ 8) : fC Γ M_X9_sortAll [.ref m] h 5000 (tAll (F 0) (rc (F 0)) (rtt (F 0))).1 (.int (if (tAll (F 0) (rc (F 0)) (rtt (F 0))).1 = 0 then (tAll (F 0) (rc (F 0)) (rtt (F 0))).2.1 else nI 0)) (nmOf xNS xNS xNS) (fP Γ de h m (cV V (tAll (F 0) (rc (F 0)) (rtt (F 0))).1 r) (cF F (tAll (F 0) (rc (F 0)) (rtt (F 0))).1 (tAll (F 0) (rc (F 0)) (rtt (F 0))).2.2 r) (B + 1)) := by
  obtain ⟨nx, o, svv, hl, tt, bu, sb, fo, hm, H, I, hB⟩ := G.ro
  obtain ⟨la, ta, ca, da, ba, ho⟩ := H.cell
  refine gC_wide (d := 12) (mc := 110) (ms := 5000) ?_ (by decide) (by decide) (by decide)
  refine gC_of (by decide) rfl (Nat.le_of_ble_eq_true rfl) [some (.ref m), none] rfl ?_
  refine g_blk [(.aload_n 0, .null)] (Nat.le_of_ble_eq_true rfl) (by decide +kernel) ?_
  refine gx_aload_n_0 ((gx_nil ?_))
  refine g_getf fX9_10 (by decide +kernel) hm rfl ?_
  refine g_callV (rc' := 50) (rs' := 2770) kX9_54 (H.dup hpl I (by omega)) (by decide +kernel) rfl rfl ho rfl (Nat.le_of_ble_eq_true rfl) (Nat.le_of_ble_eq_true rfl) (Nat.le_of_ble_eq_true rfl) (by omega) (by omega) rfl (fun _ _ z => z.elim) (fun v9 h5 hz => ?_)
  obtain ⟨b, fpb, rfl, Hb, hfr, ka⟩ := hz
  have G5 := gMX.dup G Hb I hB hfr ka
  obtain ⟨o5, fo5, nx5, svv5, hl5, tt5, bu5, sb5, hm5, H5, I5, hB5, op5⟩ := G5.op
  obtain ⟨la5, ta5, ca5, da5, ba5, ho5⟩ := H5.cell
  simp only [Option.toList_some, Option.toList_none, List.cons_append, List.nil_append]
  refine g_blk [(.astore_n 1, .null), (.aload_n 0, .null), (.aload_n 1, .null), (.aload_n 0, .null)] (Nat.le_of_ble_eq_true rfl) (by decide +kernel) ?_
  refine gx_astore_n_1 rfl (gx_aload_n_0 (gx_aload_n_1 (gx_aload_n_0 ((gx_nil ?_)))))
  refine g_getf fX9_10 (by decide +kernel) hm5 rfl ?_
  refine g_callV (rc' := 3) (rs' := 200) kX9_84 (H5.sortTray hpl I5 (by omega)) (by decide +kernel) rfl rfl ho5 rfl (Nat.le_of_ble_eq_true rfl) (Nat.le_of_ble_eq_true rfl) (Nat.le_of_ble_eq_true rfl) (by omega) (by omega) rfl (fun _ _ z => z.elim) (fun v9 h6 hz => ?_)
  obtain ⟨z9, hv9⟩ : ∃ z, v9 = some (.int z) := by rcases hz with ⟨-, y, -⟩ | ⟨-, y, -⟩ <;> exact ⟨_, y⟩
  subst hv9
  simp only [Option.toList_some, Option.toList_none, List.cons_append, List.nil_append]
  exact ch_tail (x := (F 0, b, fpb)) (X := tAll (F 0) (rc (F 0)) (rtt (F 0))) (code := ccd 0 0 0) hp hpl kX9_62 (by decide +kernel) ⟨by decide +kernel, _, rfl, rfl⟩ rfl (by decide) (by omega) (by omega) G5 rfl hV6 hr op5 hB5 (gFr.all ka) hz rfl (fun e => absurd z0 e) (fun e => if_pos e)
theorem fb_place (hp : gPxs Γ) (hpl : gPall Γ de mi) (G : gMO Γ de h m V F B) (hB9 : B ≤ 9000) (p0 : Int32) (p1 : Int32) {r : Nat} (hV6 : V 6 = nI r) (hr : r ≤ 8) : fC Γ M_X9_place [.ref m, .int p0, .int p1] h 5000 (tPlc (F 0) p0 p1 (rc (F 0))).1 (.int (if (tPlc (F 0) p0 p1 (rc (F 0))).1 = 0 then (tPlc (F 0) p0 p1 (rc (F 0))).2.1 else nI 0)) (nmOf xNS xIO xIS) (fP Γ de h m (cV V (tPlc (F 0) p0 p1 (rc (F 0))).1 r) (cF F (tPlc (F 0) p0 p1 (rc (F 0))).1 (tPlc (F 0) p0 p1 (rc (F 0))).2.2 r) (B + 1)) := by
  obtain ⟨nx, o, svv, hl, tt, bu, sb, fo, hm, H, I, hB⟩ := G.ro
  obtain ⟨la, ta, ca, da, ba, ho⟩ := H.cell
  refine gC_wide (d := 12) (mc := 110) (ms := 5000) ?_ (by decide) (by decide) (by decide)
  refine gC_of (by decide) rfl (Nat.le_of_ble_eq_true rfl) [some (.ref m), some (.int p0), some (.int p1), none] rfl ?_
  refine g_blk [(.aload_n 0, .null)] (Nat.le_of_ble_eq_true rfl) (by decide +kernel) ?_
  refine gx_aload_n_0 ((gx_nil ?_))
  refine g_getf fX9_10 (by decide +kernel) hm rfl ?_
  refine g_callV (rc' := 50) (rs' := 2770) kX9_54 (H.dup hpl I (by omega)) (by decide +kernel) rfl rfl ho rfl (Nat.le_of_ble_eq_true rfl) (Nat.le_of_ble_eq_true rfl) (Nat.le_of_ble_eq_true rfl) (by omega) (by omega) rfl (fun _ _ z => z.elim) (fun v9 h5 hz => ?_)
  obtain ⟨b, fpb, rfl, Hb, hfr, ka⟩ := hz
  have G5 := gMX.dup G Hb I hB hfr ka
  obtain ⟨o5, fo5, nx5, svv5, hl5, tt5, bu5, sb5, hm5, H5, I5, hB5, op5⟩ := G5.op
  obtain ⟨la5, ta5, ca5, da5, ba5, ho5⟩ := H5.cell
  simp only [Option.toList_some, Option.toList_none, List.cons_append, List.nil_append]
  refine g_blk [(.astore_n 3, .null), (.aload_n 0, .null), (.aload_n 3, .null), (.aload_n 0, .null)] (Nat.le_of_ble_eq_true rfl) (by decide +kernel) ?_
  refine gx_astore_n_3 rfl (gx_aload_n_0 (gx_aload_n_3 (gx_aload_n_0 ((gx_nil ?_)))))
  refine g_getf fX9_10 (by decide +kernel) hm5 rfl ?_
  refine g_blk [(.iload_n 1, .null), (.iload_n 2, .null)] (Nat.le_of_ble_eq_true rfl) (by decide +kernel) ?_
  refine gx_iload_n_1 (gx_iload_n_2 ((gx_nil ?_)))
  refine g_callV (rc' := 3) (rs' := 200) kX9_88 (H5.placeById I5 (by omega) p0 p1) (by decide +kernel) rfl rfl ho5 rfl (Nat.le_of_ble_eq_true rfl) (Nat.le_of_ble_eq_true rfl) (Nat.le_of_ble_eq_true rfl) (by omega) (by omega) rfl (fun _ _ z => z.elim) (fun v9 h6 hz => ?_)
  obtain ⟨z9, hv9⟩ : ∃ z, v9 = some (.int z) := by rcases hz with ⟨-, y, -⟩ | ⟨-, y, -⟩ <;> exact ⟨_, y⟩
  subst hv9
  simp only [Option.toList_some, Option.toList_none, List.cons_append, List.nil_append]
  exact ch_tail (x := (F 0, b, fpb)) (X := tPlc (F 0) p0 p1 (rc (F 0))) (code := ccd (-3) (-2) (-4)) hp hpl kX9_62 (by decide +kernel) ⟨by decide +kernel, _, rfl, rfl⟩ rfl (by decide) (by omega) (by omega) G5 rfl hV6 hr op5 hB5 (gFr.all ka) hz rfl (fun e => ch_cd cI3 (fun _ => cI2) (fun _ => cI4) e) (fun e => if_pos e)
theorem fb_pull (hp : gPxs Γ) (hpl : gPall Γ de mi) (G : gMO Γ de h m V F B) (hB9 : B ≤ 9000) (p0 : Int32) {r : Nat} (hV6 : V 6 = nI r) (hr : r ≤ 8) : fC Γ M_X9_pull [.ref m, .int p0] h 5000 (tPul (F 0) p0 (rc (F 0))).1 (.int (if (tPul (F 0) p0 (rc (F 0))).1 = 0 then (tPul (F 0) p0 (rc (F 0))).2.1 else nI 0)) (nmOf xNS xIS xIS) (fP Γ de h m (cV V (tPul (F 0) p0 (rc (F 0))).1 r) (cF F (tPul (F 0) p0 (rc (F 0))).1 (tPul (F 0) p0 (rc (F 0))).2.2 r) (B + 1)) := by
  obtain ⟨nx, o, svv, hl, tt, bu, sb, fo, hm, H, I, hB⟩ := G.ro
  obtain ⟨la, ta, ca, da, ba, ho⟩ := H.cell
  refine gC_wide (d := 12) (mc := 110) (ms := 5000) ?_ (by decide) (by decide) (by decide)
  refine gC_of (by decide) rfl (Nat.le_of_ble_eq_true rfl) [some (.ref m), some (.int p0), none] rfl ?_
  refine g_blk [(.aload_n 0, .null)] (Nat.le_of_ble_eq_true rfl) (by decide +kernel) ?_
  refine gx_aload_n_0 ((gx_nil ?_))
  refine g_getf fX9_10 (by decide +kernel) hm rfl ?_
  refine g_callV (rc' := 50) (rs' := 2770) kX9_54 (H.dup hpl I (by omega)) (by decide +kernel) rfl rfl ho rfl (Nat.le_of_ble_eq_true rfl) (Nat.le_of_ble_eq_true rfl) (Nat.le_of_ble_eq_true rfl) (by omega) (by omega) rfl (fun _ _ z => z.elim) (fun v9 h5 hz => ?_)
  obtain ⟨b, fpb, rfl, Hb, hfr, ka⟩ := hz
  have G5 := gMX.dup G Hb I hB hfr ka
  obtain ⟨o5, fo5, nx5, svv5, hl5, tt5, bu5, sb5, hm5, H5, I5, hB5, op5⟩ := G5.op
  obtain ⟨la5, ta5, ca5, da5, ba5, ho5⟩ := H5.cell
  simp only [Option.toList_some, Option.toList_none, List.cons_append, List.nil_append]
  refine g_blk [(.astore_n 2, .null), (.aload_n 0, .null), (.aload_n 2, .null), (.aload_n 0, .null)] (Nat.le_of_ble_eq_true rfl) (by decide +kernel) ?_
  refine gx_astore_n_2 rfl (gx_aload_n_0 (gx_aload_n_2 (gx_aload_n_0 ((gx_nil ?_)))))
  refine g_getf fX9_10 (by decide +kernel) hm5 rfl ?_
  refine g_blk [(.iload_n 1, .null)] (Nat.le_of_ble_eq_true rfl) (by decide +kernel) ?_
  refine gx_iload_n_1 ((gx_nil ?_))
  refine g_callV (rc' := 3) (rs' := 200) kX9_91 (H5.takeOut I5 (by omega) p0) (by decide +kernel) rfl rfl ho5 rfl (Nat.le_of_ble_eq_true rfl) (Nat.le_of_ble_eq_true rfl) (Nat.le_of_ble_eq_true rfl) (by omega) (by omega) rfl (fun _ _ z => z.elim) (fun v9 h6 hz => ?_)
  obtain ⟨z9, hv9⟩ : ∃ z, v9 = some (.int z) := by rcases hz with ⟨-, y, -⟩ | ⟨-, y, -⟩ <;> exact ⟨_, y⟩
  subst hv9
  simp only [Option.toList_some, Option.toList_none, List.cons_append, List.nil_append]
  exact ch_tail (x := (F 0, b, fpb)) (X := tPul (F 0) p0 (rc (F 0))) (code := ccd (-3) (-4) 0) hp hpl kX9_62 (by decide +kernel) ⟨by decide +kernel, _, rfl, rfl⟩ rfl (by decide) (by omega) (by omega) G5 rfl hV6 hr op5 hB5 (gFr.all ka) hz rfl (fun e => ch_cd cI3 (fun _ => cI4) (fun z => absurd z n1x) e) (fun e => if_pos e)
theorem fb_setCutoff (hp : gPxs Γ) (hpl : gPall Γ de mi) (G : gMO Γ de h m V F B) (hB9 : B ≤ 9000) (p0 : Int32) (p1 : Int32) {r : Nat} (hV6 : V 6 = nI r) (hr : r ≤ 8) : fC Γ M_X9_setCutoff [.ref m, .int p0, .int p1] h 5000 (tSet (F 0) p0 0 p1 (nI 24)).1 (.int (if (tSet (F 0) p0 0 p1 (nI 24)).1 = 0 then (tSet (F 0) p0 0 p1 (nI 24)).2.1 else nI 0)) (nmOf xIO xIA xIA) (fP Γ de h m (cV V (tSet (F 0) p0 0 p1 (nI 24)).1 r) (cF F (tSet (F 0) p0 0 p1 (nI 24)).1 (tSet (F 0) p0 0 p1 (nI 24)).2.2 r) (B + 1)) := by
  obtain ⟨nx, o, svv, hl, tt, bu, sb, fo, hm, H, I, hB⟩ := G.ro
  obtain ⟨la, ta, ca, da, ba, ho⟩ := H.cell
  refine gC_wide (d := 12) (mc := 110) (ms := 5000) ?_ (by decide) (by decide) (by decide)
  refine gC_of (by decide) rfl (Nat.le_of_ble_eq_true rfl) [some (.ref m), some (.int p0), some (.int p1), none] rfl ?_
  refine g_blk [(.aload_n 0, .null)] (Nat.le_of_ble_eq_true rfl) (by decide +kernel) ?_
  refine gx_aload_n_0 ((gx_nil ?_))
  refine g_getf fX9_10 (by decide +kernel) hm rfl ?_
  refine g_callV (rc' := 50) (rs' := 2770) kX9_54 (H.dup hpl I (by omega)) (by decide +kernel) rfl rfl ho rfl (Nat.le_of_ble_eq_true rfl) (Nat.le_of_ble_eq_true rfl) (Nat.le_of_ble_eq_true rfl) (by omega) (by omega) rfl (fun _ _ z => z.elim) (fun v9 h5 hz => ?_)
  obtain ⟨b, fpb, rfl, Hb, hfr, ka⟩ := hz
  have G5 := gMX.dup G Hb I hB hfr ka
  obtain ⟨o5, fo5, nx5, svv5, hl5, tt5, bu5, sb5, hm5, H5, I5, hB5, op5⟩ := G5.op
  obtain ⟨la5, ta5, ca5, da5, ba5, ho5⟩ := H5.cell
  simp only [Option.toList_some, Option.toList_none, List.cons_append, List.nil_append]
  refine g_blk [(.astore_n 3, .null), (.aload_n 0, .null), (.aload_n 3, .null), (.aload_n 0, .null)] (Nat.le_of_ble_eq_true rfl) (by decide +kernel) ?_
  refine gx_astore_n_3 rfl (gx_aload_n_0 (gx_aload_n_3 (gx_aload_n_0 ((gx_nil ?_)))))
  refine g_getf fX9_10 (by decide +kernel) hm5 rfl ?_
  refine g_blk [(.iload_n 1, .null), (.iload_n 2, .null)] (Nat.le_of_ble_eq_true rfl) (by decide +kernel) ?_
  refine gx_iload_n_1 (gx_iload_n_2 ((gx_nil ?_)))
  refine g_callV (rc' := 3) (rs' := 200) kX9_94 (H5.changeCutoff I5 (by omega) p0 p1) (by decide +kernel) rfl rfl ho5 rfl (Nat.le_of_ble_eq_true rfl) (Nat.le_of_ble_eq_true rfl) (Nat.le_of_ble_eq_true rfl) (by omega) (by omega) rfl (fun _ _ z => z.elim) (fun v9 h6 hz => ?_)
  obtain ⟨z9, hv9⟩ : ∃ z, v9 = some (.int z) := by rcases hz with ⟨-, y, -⟩ | ⟨-, y, -⟩ <;> exact ⟨_, y⟩
  subst hv9
  simp only [Option.toList_some, Option.toList_none, List.cons_append, List.nil_append]
  exact ch_tail (x := (F 0, b, fpb)) (X := tSet (F 0) p0 0 p1 (nI 24)) (code := ccd (-2) (-1) 0) hp hpl kX9_62 (by decide +kernel) ⟨by decide +kernel, _, rfl, rfl⟩ rfl (by decide) (by omega) (by omega) G5 rfl hV6 hr op5 hB5 (gFr.all ka) hz rfl (fun e => ch_cd cI2 (fun _ => cI1) (fun z => absurd z n1x) e) (fun e => if_pos e)
theorem fb_setDeparture (hp : gPxs Γ) (hpl : gPall Γ de mi) (G : gMO Γ de h m V F B) (hB9 : B ≤ 9000) (p0 : Int32) (p1 : Int32) {r : Nat} (hV6 : V 6 = nI r) (hr : r ≤ 8) : fC Γ M_X9_setDeparture [.ref m, .int p0, .int p1] h 5000 (tSet (F 0) p0 1 p1 (nI 23)).1 (.int (if (tSet (F 0) p0 1 p1 (nI 23)).1 = 0 then (tSet (F 0) p0 1 p1 (nI 23)).2.1 else nI 0)) (nmOf xIO xIA xIA) (fP Γ de h m (cV V (tSet (F 0) p0 1 p1 (nI 23)).1 r) (cF F (tSet (F 0) p0 1 p1 (nI 23)).1 (tSet (F 0) p0 1 p1 (nI 23)).2.2 r) (B + 1)) := by
  obtain ⟨nx, o, svv, hl, tt, bu, sb, fo, hm, H, I, hB⟩ := G.ro
  obtain ⟨la, ta, ca, da, ba, ho⟩ := H.cell
  refine gC_wide (d := 12) (mc := 110) (ms := 5000) ?_ (by decide) (by decide) (by decide)
  refine gC_of (by decide) rfl (Nat.le_of_ble_eq_true rfl) [some (.ref m), some (.int p0), some (.int p1), none] rfl ?_
  refine g_blk [(.aload_n 0, .null)] (Nat.le_of_ble_eq_true rfl) (by decide +kernel) ?_
  refine gx_aload_n_0 ((gx_nil ?_))
  refine g_getf fX9_10 (by decide +kernel) hm rfl ?_
  refine g_callV (rc' := 50) (rs' := 2770) kX9_54 (H.dup hpl I (by omega)) (by decide +kernel) rfl rfl ho rfl (Nat.le_of_ble_eq_true rfl) (Nat.le_of_ble_eq_true rfl) (Nat.le_of_ble_eq_true rfl) (by omega) (by omega) rfl (fun _ _ z => z.elim) (fun v9 h5 hz => ?_)
  obtain ⟨b, fpb, rfl, Hb, hfr, ka⟩ := hz
  have G5 := gMX.dup G Hb I hB hfr ka
  obtain ⟨o5, fo5, nx5, svv5, hl5, tt5, bu5, sb5, hm5, H5, I5, hB5, op5⟩ := G5.op
  obtain ⟨la5, ta5, ca5, da5, ba5, ho5⟩ := H5.cell
  simp only [Option.toList_some, Option.toList_none, List.cons_append, List.nil_append]
  refine g_blk [(.astore_n 3, .null), (.aload_n 0, .null), (.aload_n 3, .null), (.aload_n 0, .null)] (Nat.le_of_ble_eq_true rfl) (by decide +kernel) ?_
  refine gx_astore_n_3 rfl (gx_aload_n_0 (gx_aload_n_3 (gx_aload_n_0 ((gx_nil ?_)))))
  refine g_getf fX9_10 (by decide +kernel) hm5 rfl ?_
  refine g_blk [(.iload_n 1, .null), (.iload_n 2, .null)] (Nat.le_of_ble_eq_true rfl) (by decide +kernel) ?_
  refine gx_iload_n_1 (gx_iload_n_2 ((gx_nil ?_)))
  refine g_callV (rc' := 3) (rs' := 200) kX9_97 (H5.changeDeparture I5 (by omega) p0 p1) (by decide +kernel) rfl rfl ho5 rfl (Nat.le_of_ble_eq_true rfl) (Nat.le_of_ble_eq_true rfl) (Nat.le_of_ble_eq_true rfl) (by omega) (by omega) rfl (fun _ _ z => z.elim) (fun v9 h6 hz => ?_)
  obtain ⟨z9, hv9⟩ : ∃ z, v9 = some (.int z) := by rcases hz with ⟨-, y, -⟩ | ⟨-, y, -⟩ <;> exact ⟨_, y⟩
  subst hv9
  simp only [Option.toList_some, Option.toList_none, List.cons_append, List.nil_append]
  exact ch_tail (x := (F 0, b, fpb)) (X := tSet (F 0) p0 1 p1 (nI 23)) (code := ccd (-2) (-1) 0) hp hpl kX9_62 (by decide +kernel) ⟨by decide +kernel, _, rfl, rfl⟩ rfl (by decide) (by omega) (by omega) G5 rfl hV6 hr op5 hB5 (gFr.all ka) hz rfl (fun e => ch_cd cI2 (fun _ => cI1) (fun z => absurd z n1x) e) (fun e => if_pos e)
theorem fb_pass (hp : gPxs Γ) (hpl : gPall Γ de mi) (G : gMO Γ de h m V F B) (hB9 : B ≤ 9000) (p0 : Int32) {r : Nat} (hV6 : V 6 = nI r) (hr : r ≤ 8) : fC Γ M_X9_pass [.ref m, .int p0] h 5000 (tWait (F 0) p0).1 (.int (if (tWait (F 0) p0).1 = 0 then (tWait (F 0) p0).2.1 else nI 0)) (nmOf xIA xIA xIA) (fP Γ de h m (cV V (tWait (F 0) p0).1 r) (cF F (tWait (F 0) p0).1 (tWait (F 0) p0).2.2 r) (B + 1)) := by
  obtain ⟨nx, o, svv, hl, tt, bu, sb, fo, hm, H, I, hB⟩ := G.ro
  obtain ⟨la, ta, ca, da, ba, ho⟩ := H.cell
  refine gC_wide (d := 12) (mc := 110) (ms := 5000) ?_ (by decide) (by decide) (by decide)
  refine gC_of (by decide) rfl (Nat.le_of_ble_eq_true rfl) [some (.ref m), some (.int p0), none] rfl ?_
  refine g_blk [(.aload_n 0, .null)] (Nat.le_of_ble_eq_true rfl) (by decide +kernel) ?_
  refine gx_aload_n_0 ((gx_nil ?_))
  refine g_getf fX9_10 (by decide +kernel) hm rfl ?_
  refine g_callV (rc' := 50) (rs' := 2770) kX9_54 (H.dup hpl I (by omega)) (by decide +kernel) rfl rfl ho rfl (Nat.le_of_ble_eq_true rfl) (Nat.le_of_ble_eq_true rfl) (Nat.le_of_ble_eq_true rfl) (by omega) (by omega) rfl (fun _ _ z => z.elim) (fun v9 h5 hz => ?_)
  obtain ⟨b, fpb, rfl, Hb, hfr, ka⟩ := hz
  have G5 := gMX.dup G Hb I hB hfr ka
  obtain ⟨o5, fo5, nx5, svv5, hl5, tt5, bu5, sb5, hm5, H5, I5, hB5, op5⟩ := G5.op
  obtain ⟨la5, ta5, ca5, da5, ba5, ho5⟩ := H5.cell
  simp only [Option.toList_some, Option.toList_none, List.cons_append, List.nil_append]
  refine g_blk [(.astore_n 2, .null), (.aload_n 0, .null), (.aload_n 2, .null), (.aload_n 0, .null)] (Nat.le_of_ble_eq_true rfl) (by decide +kernel) ?_
  refine gx_astore_n_2 rfl (gx_aload_n_0 (gx_aload_n_2 (gx_aload_n_0 ((gx_nil ?_)))))
  refine g_getf fX9_10 (by decide +kernel) hm5 rfl ?_
  refine g_blk [(.iload_n 1, .null)] (Nat.le_of_ble_eq_true rfl) (by decide +kernel) ?_
  refine gx_iload_n_1 ((gx_nil ?_))
  refine g_callV (rc' := 3) (rs' := 200) kX9_100 (H5.passHours I5 (by omega) p0) (by decide +kernel) rfl rfl ho5 rfl (Nat.le_of_ble_eq_true rfl) (Nat.le_of_ble_eq_true rfl) (Nat.le_of_ble_eq_true rfl) (by omega) (by omega) rfl (fun _ _ z => z.elim) (fun v9 h6 hz => ?_)
  obtain ⟨z9, hv9⟩ : ∃ z, v9 = some (.int z) := by rcases hz with ⟨-, y, -⟩ | ⟨-, y, -⟩ <;> exact ⟨_, y⟩
  subst hv9
  simp only [Option.toList_some, Option.toList_none, List.cons_append, List.nil_append]
  exact ch_tail (x := (F 0, b, fpb)) (X := tWait (F 0) p0) (code := ccd (-1) 0 0) hp hpl kX9_62 (by decide +kernel) ⟨by decide +kernel, _, rfl, rfl⟩ rfl (by decide) (by omega) (by omega) G5 rfl hV6 hr op5 hB5 (gFr.all ka) hz rfl (fun e => ch_cd cI1 (fun z => absurd z n1x) (fun z => absurd z n1x) e) (fun e => if_pos e)
end GFw
