/-! THE LAW: the whole walk -/
section GLo
variable {Γ : gE} {bm de mi : Nat} {h : gHp} {m B : Nat} {N : Nat → Int32} {c t nx : Nat} {V : Nat → Int32} {F : Nat → Nat → Int32} {d1 d10 sr ss : Nat} {vf : Value} {sc L mc ms : Nat} {xs : Nat → Int32}
def M_L_law : gM := (yL_law, cL_law, 7, some .boolean, [])
abbrev lwZ : Option Value → gHp → Prop := fun v _ => v = some (.int (nI 1))
abbrev lwX : String → gHp → Prop := fun _ _ => False
theorem lP.ws (H : lP bm Γ de h m N c t nx) : gWs Γ de h m bm := by
  obtain ⟨V, F, B, G, -, -, -, -, hbm⟩ := H
  exact ⟨V, F, G.mono hbm⟩
theorem lw_save (hpl : gPall Γ de mi) (G : gMO Γ de h m V F B) (hB : B ≤ 9000) : gC Γ M_X9_save [.ref m] h 30 62 2230 (fun v h' => v = some (.int (F 0 3)) ∧ gMO Γ de h' m (vU (vU V 13 (nI 0)) 5 (nI 1)) (fR F 3 (F 0)) B) (fun _ _ => False) :=
  gC_post (fa_save hpl G hB) (fun _ _ z => ⟨z.1, z.2.1⟩) (fun _ _ z => z)
theorem lw_can (hd : gDi Γ) (hpl : gPall Γ de mi) (G : gMO Γ de h m V F B) (hB : B ≤ 9000) : gC Γ M_X9_sortableCount [.ref m] h 30 134 4793 (fun v h' => v = some (.int (rSA (F 0) (rc (F 0)) (rtt (F 0))).2) ∧ gMO Γ de h' m (vU V 13 (nI 0)) (fR F 2 (F 0)) B) (fun _ _ => False) :=
  gC_post (fa_sortableCount hd hpl G hB) (fun _ _ z => ⟨z.1, z.2.1⟩) (fun _ _ z => z)
theorem lw_sortAll (hp : gPxs Γ) (hpl : gPall Γ de mi) (G : gMO Γ de h m V F B) (hB : B ≤ 9000) (h5 : V 5 = nI 1) : gC Γ M_X9_sortAll [.ref m] h 30 139 5000 (fun v h' => v = some (.int (rSA (F 0) (rc (F 0)) (rtt (F 0))).2) ∧ ∃ V' F', gMO Γ de h' m V' F' (B + 1) ∧ V' 5 = nI 1) (fun _ _ => False) := by
  obtain ⟨r, hr, hV6⟩ := G.six
  have e0 : (tAll (F 0) (rc (F 0)) (rtt (F 0))).1 = 0 := z0
  refine gC_post (fb_sortAll hp hpl G hB hV6 hr) (fun v h' z => ?_) (fun E h' z => absurd e0 z.1)
  obtain ⟨-, z1, z2, -⟩ := z
  rw [if_pos e0] at z1
  refine ⟨z1, _, _, z2, ?_⟩
  have e : cV V (tAll (F 0) (rc (F 0)) (rtt (F 0))).1 r = vU (vU V 13 (tAll (F 0) (rc (F 0)) (rtt (F 0))).1) 6 (nI (rMr r)) := if_pos e0
  rw [e]
  exact h5
theorem lw_restore (hpl : gPall Γ de mi) (G : gMO Γ de h m V F B) (hB : B ≤ 9000) (h5 : V 5 = nI 1) : gC Γ M_X9_restore [.ref m] h 30 62 2230 (fun v h' => v = some (.int (F 3 3)) ∧ gMO Γ de h' m (vU (vU V 13 (nI 0)) 6 (nI 0)) (fR F 0 (F 3)) B) (fun _ _ => False) :=
  gC_post (fa_restore1 hpl G hB h5) (fun _ _ z => ⟨z.2.1, z.2.2.1⟩) (fun _ _ z => absurd z0 z.1)
/-- all that the law's run stands on -/
def gHl (Γ : gE) (de mi d1 d10 : Nat) (vf : Value) (sr ss : Nat) : Prop := gDi Γ ∧ gPall Γ de mi ∧ gPxs Γ ∧ gPsb Γ d1 d10 vf ∧ gPtx Γ sr ss ∧ gPlw Γ ∧ gPnc Γ
set_option maxRecDepth 100000 in
theorem kL_312 : gLkI RL 312 M_X9_init 0 := ⟨(gIn (List.mem_of_getElem? (i := 73) (by decide +kernel)) (by decide +kernel)), rfl, rfl, (gIn (List.mem_of_getElem? (i := 74) (by decide +kernel)) (by decide +kernel)), (gIn (List.mem_of_getElem? (i := 34) (by decide +kernel)) (by decide +kernel)), (gIn (List.mem_of_getElem? (i := 75) (by decide +kernel)) (by decide +kernel)), rfl, ⟨by decide +kernel, by decide +kernel, by decide +kernel⟩⟩
set_option maxRecDepth 100000 in
theorem kL_313 : gLkS RL 313 M_L_lay 2 := ⟨(gIn (List.mem_of_getElem? (i := 647) (by decide +kernel)) (by decide +kernel)), (gIn (List.mem_of_getElem? (i := 648) (by decide +kernel)) (by decide +kernel)), (gIn (List.mem_of_getElem? (i := 33) (by decide +kernel)) (by decide +kernel)), (gIn (List.mem_of_getElem? (i := 649) (by decide +kernel)) (by decide +kernel)), rfl, ⟨by decide +kernel, by decide +kernel, by decide +kernel⟩⟩
set_option maxRecDepth 100000 in
theorem kL_317 : gLkS RL 317 M_L_any 3 := ⟨(gIn (List.mem_of_getElem? (i := 965) (by decide +kernel)) (by decide +kernel)), (gIn (List.mem_of_getElem? (i := 966) (by decide +kernel)) (by decide +kernel)), (gIn (List.mem_of_getElem? (i := 33) (by decide +kernel)) (by decide +kernel)), (gIn (List.mem_of_getElem? (i := 967) (by decide +kernel)) (by decide +kernel)), rfl, ⟨by decide +kernel, by decide +kernel, by decide +kernel⟩⟩
set_option maxRecDepth 100000 in
theorem kL_320 : gLkV RL 320 12 M_X9_save 0 := ⟨TX9, 9, rfl, (gIn (List.mem_of_getElem? (i := 634) (by decide +kernel)) (by decide +kernel)), (gIn (List.mem_of_getElem? (i := 635) (by decide +kernel)) (by decide +kernel)), (gIn (List.mem_of_getElem? (i := 636) (by decide +kernel)) (by decide +kernel)), (gIn (List.mem_of_getElem? (i := 34) (by decide +kernel)) (by decide +kernel)), (gIn (List.mem_of_getElem? (i := 637) (by decide +kernel)) (by decide +kernel)), rfl, ⟨by decide +kernel, by decide +kernel, by decide +kernel⟩⟩
set_option maxRecDepth 100000 in
theorem kL_323 : gLkV RL 323 12 M_X9_sortableCount 0 := ⟨TX9, 9, rfl, (gIn (List.mem_of_getElem? (i := 630) (by decide +kernel)) (by decide +kernel)), (gIn (List.mem_of_getElem? (i := 631) (by decide +kernel)) (by decide +kernel)), (gIn (List.mem_of_getElem? (i := 632) (by decide +kernel)) (by decide +kernel)), (gIn (List.mem_of_getElem? (i := 34) (by decide +kernel)) (by decide +kernel)), (gIn (List.mem_of_getElem? (i := 633) (by decide +kernel)) (by decide +kernel)), rfl, ⟨by decide +kernel, by decide +kernel, by decide +kernel⟩⟩
set_option maxRecDepth 100000 in
theorem kL_326 : gLkV RL 326 12 M_X9_restore 0 := ⟨TX9, 9, rfl, (gIn (List.mem_of_getElem? (i := 638) (by decide +kernel)) (by decide +kernel)), (gIn (List.mem_of_getElem? (i := 639) (by decide +kernel)) (by decide +kernel)), (gIn (List.mem_of_getElem? (i := 640) (by decide +kernel)) (by decide +kernel)), (gIn (List.mem_of_getElem? (i := 34) (by decide +kernel)) (by decide +kernel)), (gIn (List.mem_of_getElem? (i := 641) (by decide +kernel)) (by decide +kernel)), rfl, ⟨by decide +kernel, by decide +kernel, by decide +kernel⟩⟩
set_option maxRecDepth 100000 in
theorem kL_329 : gLkS RL 329 M_L_areRoutesRight 3 := ⟨(gIn (List.mem_of_getElem? (i := 981) (by decide +kernel)) (by decide +kernel)), (gIn (List.mem_of_getElem? (i := 982) (by decide +kernel)) (by decide +kernel)), (gIn (List.mem_of_getElem? (i := 33) (by decide +kernel)) (by decide +kernel)), (gIn (List.mem_of_getElem? (i := 983) (by decide +kernel)) (by decide +kernel)), rfl, ⟨by decide +kernel, by decide +kernel, by decide +kernel⟩⟩
set_option maxRecDepth 100000 in
theorem kL_333 : gLkS RL 333 M_L_areBagsRight 1 := ⟨(gIn (List.mem_of_getElem? (i := 1175) (by decide +kernel)) (by decide +kernel)), (gIn (List.mem_of_getElem? (i := 1176) (by decide +kernel)) (by decide +kernel)), (gIn (List.mem_of_getElem? (i := 33) (by decide +kernel)) (by decide +kernel)), (gIn (List.mem_of_getElem? (i := 1177) (by decide +kernel)) (by decide +kernel)), rfl, ⟨by decide +kernel, by decide +kernel, by decide +kernel⟩⟩
set_option maxRecDepth 100000 in
theorem kL_337 : gLkS RL 337 M_L_areLettersRight 1 := ⟨(gIn (List.mem_of_getElem? (i := 1215) (by decide +kernel)) (by decide +kernel)), (gIn (List.mem_of_getElem? (i := 1216) (by decide +kernel)) (by decide +kernel)), (gIn (List.mem_of_getElem? (i := 33) (by decide +kernel)) (by decide +kernel)), (gIn (List.mem_of_getElem? (i := 1217) (by decide +kernel)) (by decide +kernel)), rfl, ⟨by decide +kernel, by decide +kernel, by decide +kernel⟩⟩
set_option maxRecDepth 100000 in
theorem kL_340 : gLkS RL 340 M_L_areRanksRight 1 := ⟨(gIn (List.mem_of_getElem? (i := 1591) (by decide +kernel)) (by decide +kernel)), (gIn (List.mem_of_getElem? (i := 1592) (by decide +kernel)) (by decide +kernel)), (gIn (List.mem_of_getElem? (i := 33) (by decide +kernel)) (by decide +kernel)), (gIn (List.mem_of_getElem? (i := 1593) (by decide +kernel)) (by decide +kernel)), rfl, ⟨by decide +kernel, by decide +kernel, by decide +kernel⟩⟩
set_option maxRecDepth 100000 in
theorem kL_343 : gLkS RL 343 M_L_areCodesRight 1 := ⟨(gIn (List.mem_of_getElem? (i := 1172) (by decide +kernel)) (by decide +kernel)), (gIn (List.mem_of_getElem? (i := 1173) (by decide +kernel)) (by decide +kernel)), (gIn (List.mem_of_getElem? (i := 33) (by decide +kernel)) (by decide +kernel)), (gIn (List.mem_of_getElem? (i := 1174) (by decide +kernel)) (by decide +kernel)), rfl, ⟨by decide +kernel, by decide +kernel, by decide +kernel⟩⟩
theorem law_loop (HH : gHl Γ de mi d1 d10 vf sr ss) (hsa : gPa Γ .int sc L (fun j => .int (xs j))) (hL : L ≤ 260) : ∀ (n k : Nat) (h : gHp), k + n = 14 → gWs Γ de h m (70 + 2 * k) → G Γ M_L_law 44 mc ms lwZ lwX (9059 * n) (310011 * n) 15 [some (.ref sc), some (.ref m), some (.int (nI k)), none, none, none, none] [] h := by
  obtain ⟨hd, hpl, hp, hps, hpt, hpw, hnc⟩ := HH
  intro n
  induction n with
  | zero =>
    intro k h hk W9
    obtain ⟨fs, hm⟩ := W9.at12
    refine g_blk [(.iload_n 2, .null), (.bipush 14, .int (nI 14))] (Nat.le_of_ble_eq_true rfl) (by decide +kernel) ?_
    refine gx_iload_n_2 (gx_bipush ((gx_nil ?_)))
    refine g_icmp_ge (off := 114) (tgt := 132) (by decide +kernel) (by decide) (fun c18 => ?_) (fun c18 => ?_)
    · try simp only [bI_0, Decidable.not_not] at c18
      refine g_blk [(.iconst 1, .int (nI 1))] (Nat.le_of_ble_eq_true rfl) (by decide +kernel) ?_
      refine gx_iconst ((gx_nil ?_))
      refine g_end (some (.int _)) rfl ⟨by decide +kernel, _, rfl, (by first | rfl | exact bI_nar _)⟩ ?_
      rfl
    · try simp only [bI_0, Decidable.not_not] at c18
      exact absurd (nI_le (by omega) (by omega)) c18
  | succ n ih =>
    intro k h hk W9
    obtain ⟨fs, hm⟩ := W9.at12
    refine g_blk [(.iload_n 2, .null), (.bipush 14, .int (nI 14))] (Nat.le_of_ble_eq_true rfl) (by decide +kernel) ?_
    refine gx_iload_n_2 (gx_bipush ((gx_nil ?_)))
    refine g_icmp_ge (off := 114) (tgt := 132) (by decide +kernel) (by decide) (fun c18 => ?_) (fun c18 => ?_)
    · try simp only [bI_0, Decidable.not_not] at c18
      exact absurd ((nI_leI (by omega) (by omega)).mp c18) (by omega)
    · try simp only [bI_0, Decidable.not_not] at c18
      refine g_blk [(.aload_n 1, .null), (.aload_n 0, .null), (.sipush 800, .int (nI 800)), (.bipush 9, .int (nI 9)), (.iload_n 2, .null), (.imul, .null), (.iadd, .null)] (Nat.le_of_ble_eq_true rfl) (by decide +kernel) ?_
      refine gx_aload_n_1 (gx_aload_n_0 (gx_sipush (gx_bipush (gx_iload_n_2 (gx_imul (gx_iadd ((gx_nil ?_))))))))
      try simp only [nI_add, pk_mul, Nat.add_zero, Nat.zero_add, Nat.reduceAdd, Nat.reduceMul]
      refine g_callS (rc' := 9059 * n + 8920) (rs' := 310011 * n + 305011) kL_317 (la_any hp hpl hnc hsa hL W9 (by omega) (k := 800 + 9 * k) (by omega)) (by decide +kernel) rfl rfl (Nat.le_of_ble_eq_true rfl) (Nat.le_of_ble_eq_true rfl) (Nat.le_of_ble_eq_true rfl) (by omega) (by omega) rfl (fun _ _ z => z.elim) (fun v9 k5 hz => ?_)
      obtain ⟨xA, rfl, W8⟩ := hz
      obtain ⟨VA, FA, GA⟩ := W8
      obtain ⟨fsA, hmA⟩ := GA.at12
      simp only [Option.toList_some, Option.toList_none, List.cons_append, List.nil_append]
      refine g_blk [(.istore_n 3, .null), (.aload_n 1, .null)] (Nat.le_of_ble_eq_true rfl) (by decide +kernel) ?_
      refine gx_istore_n_3 rfl (gx_aload_n_1 ((gx_nil ?_)))
      refine g_callV (rc' := 9059 * n + 8858) (rs' := 310011 * n + 302781) kL_320 (lw_save hpl GA (by omega)) (by decide +kernel) rfl rfl hmA rfl (Nat.le_of_ble_eq_true rfl) (Nat.le_of_ble_eq_true rfl) (Nat.le_of_ble_eq_true rfl) (by omega) (by omega) rfl (fun _ _ z => z.elim) (fun v9 k6 hz => ?_)
      obtain ⟨rfl, GB⟩ := hz
      obtain ⟨fsGB, hmB⟩ := GB.at12
      simp only [Option.toList_some, Option.toList_none, List.cons_append, List.nil_append]
      refine g_blk [(.istore 4, .null), (.aload_n 1, .null)] (Nat.le_of_ble_eq_true rfl) (by decide +kernel) ?_
      refine gx_istore_4 rfl (gx_aload_n_1 ((gx_nil ?_)))
      refine g_callV (rc' := 9059 * n + 8724) (rs' := 310011 * n + 297988) kL_323 (lw_can hd hpl GB (by omega)) (by decide +kernel) rfl rfl hmB rfl (Nat.le_of_ble_eq_true rfl) (Nat.le_of_ble_eq_true rfl) (Nat.le_of_ble_eq_true rfl) (by omega) (by omega) rfl (fun _ _ z => z.elim) (fun v9 k7 hz => ?_)
      obtain ⟨rfl, GC⟩ := hz
      obtain ⟨fsGC, hmC⟩ := GC.at12
      simp only [Option.toList_some, Option.toList_none, List.cons_append, List.nil_append]
      refine g_blk [(.istore 5, .null), (.aload_n 1, .null)] (Nat.le_of_ble_eq_true rfl) (by decide +kernel) ?_
      refine gx_istore_5 rfl (gx_aload_n_1 ((gx_nil ?_)))
      refine g_callV (rc' := 9059 * n + 8585) (rs' := 310011 * n + 292988) kL_33 (lw_sortAll hp hpl GC (by omega) rfl) (by decide +kernel) rfl rfl hmC rfl (Nat.le_of_ble_eq_true rfl) (Nat.le_of_ble_eq_true rfl) (Nat.le_of_ble_eq_true rfl) (by omega) (by omega) rfl (fun _ _ z => z.elim) (fun v9 k8 hz => ?_)
      obtain ⟨rfl, VD, FD, GD, h5D⟩ := hz
      obtain ⟨fsD, hmD⟩ := GD.at12
      simp only [Option.toList_some, Option.toList_none, List.cons_append, List.nil_append]
      refine g_blk [(.iload 5, .null)] (Nat.le_of_ble_eq_true rfl) (by decide +kernel) ?_
      refine gx_iload_5 ((gx_nil ?_))
      refine g_icmp_ne (off := 7) (tgt := 60) (by decide +kernel) (by decide) (fun c53 => ?_) (fun c53 => ?_)
      · try simp only [bI_0, Decidable.not_not] at c53
        exact absurd (by first | rfl | trivial) c53
      · try simp only [bI_0, Decidable.not_not] at c53
        refine g_blk [(.iconst 1, .int (nI 1)), (.goto 4, .retAddr 61), (.istore 6, .null), (.aload_n 1, .null)] (Nat.le_of_ble_eq_true rfl) (by decide +kernel) ?_
        refine gx_iconst (gx_goto (gx_istore_6 rfl (gx_aload_n_1 ((gx_nil ?_)))))
        refine g_callV (rc' := 9059 * n + 8523) (rs' := 310011 * n + 290758) kL_326 (lw_restore hpl GD (by omega) h5D) (by decide +kernel) rfl rfl hmD rfl (Nat.le_of_ble_eq_true rfl) (Nat.le_of_ble_eq_true rfl) (Nat.le_of_ble_eq_true rfl) (by omega) (by omega) rfl (fun _ _ z => z.elim) (fun v9 k9 hz => ?_)
        obtain ⟨rfl, GE⟩ := hz
        obtain ⟨nxE, HE⟩ := GE.lp (by omega)
        obtain ⟨fsE, hmE⟩ := HE.at12
        simp only [Option.toList_some, Option.toList_none, List.cons_append, List.nil_append]
        refine g_blk [(.istore 4, .null), (.iload 6, .null)] (Nat.le_of_ble_eq_true rfl) (by decide +kernel) ?_
        refine gx_istore_4 rfl (gx_iload_6 ((gx_nil ?_)))
        refine g_if_eq (off := 53) (tgt := 124) (by decide +kernel) (by decide) (fun c71 => ?_) (fun c71 => ?_)
        · exact absurd c71 (by decide)
        · try simp only [bI_0, Decidable.not_not] at c71
          refine g_blk [(.aload_n 1, .null), (.aload_n 0, .null), (.sipush 200, .int (nI 200)), (.bipush 20, .int (nI 20)), (.iload_n 2, .null), (.imul, .null), (.iadd, .null)] (Nat.le_of_ble_eq_true rfl) (by decide +kernel) ?_
          refine gx_aload_n_1 (gx_aload_n_0 (gx_sipush (gx_bipush (gx_iload_n_2 (gx_imul (gx_iadd ((gx_nil ?_))))))))
          try simp only [nI_add, pk_mul, Nat.add_zero, Nat.zero_add, Nat.reduceAdd, Nat.reduceMul]
          refine g_callS (rc' := 9059 * n + 8483) (rs' := 310011 * n + 290518) kL_329 (la_areRoutesRight hp hnc hsa hL (k := 200 + 20 * k) (by omega) HE) (by decide +kernel) rfl rfl (Nat.le_of_ble_eq_true rfl) (Nat.le_of_ble_eq_true rfl) (Nat.le_of_ble_eq_true rfl) (by omega) (by omega) rfl (fun _ _ z => z.elim) (fun v9 k10 hz => ?_)
          obtain ⟨rfl, Hk10⟩ := hz
          obtain ⟨fsk10, hmk10⟩ := Hk10.at12
          simp only [Option.toList_some, Option.toList_none, List.cons_append, List.nil_append]
          refine g_if_eq (off := 37) (tgt := 124) (by decide +kernel) (by decide) (fun c87 => ?_) (fun c87 => ?_)
          · exact absurd c87 (by decide)
          · try simp only [bI_0, Decidable.not_not] at c87
            refine g_blk [(.aload_n 1, .null)] (Nat.le_of_ble_eq_true rfl) (by decide +kernel) ?_
            refine gx_aload_n_1 ((gx_nil ?_))
            refine g_callS (rc' := 9059 * n + 8303) (rs' := 310011 * n + 289418) kL_333 (la_areBagsRight hd hp hnc Hk10) (by decide +kernel) rfl rfl (Nat.le_of_ble_eq_true rfl) (Nat.le_of_ble_eq_true rfl) (Nat.le_of_ble_eq_true rfl) (by omega) (by omega) rfl (fun _ _ z => z.elim) (fun v9 k11 hz => ?_)
            obtain ⟨rfl, Hk11⟩ := hz
            obtain ⟨fsk11, hmk11⟩ := Hk11.at12
            simp only [Option.toList_some, Option.toList_none, List.cons_append, List.nil_append]
            refine g_if_eq (off := 30) (tgt := 124) (by decide +kernel) (by decide) (fun c94 => ?_) (fun c94 => ?_)
            · exact absurd c94 (by decide)
            · try simp only [bI_0, Decidable.not_not] at c94
              refine g_blk [(.aload_n 1, .null)] (Nat.le_of_ble_eq_true rfl) (by decide +kernel) ?_
              refine gx_aload_n_1 ((gx_nil ?_))
              refine g_callS (rc' := 9059 * n + 3) (rs' := 310011 * n + 18) kL_337 (la_areLettersRight hd hpl hp hnc hps hpt hpw Hk11) (by decide +kernel) rfl rfl (Nat.le_of_ble_eq_true rfl) (Nat.le_of_ble_eq_true rfl) (Nat.le_of_ble_eq_true rfl) (by omega) (by omega) rfl (fun _ _ z => z.elim) (fun v9 k12 hz => ?_)
              obtain ⟨rfl, Hk12⟩ := hz
              obtain ⟨fsk12, hmk12⟩ := Hk12.at12
              simp only [Option.toList_some, Option.toList_none, List.cons_append, List.nil_append]
              refine g_if_eq (off := 23) (tgt := 124) (by decide +kernel) (by decide) (fun c101 => ?_) (fun c101 => ?_)
              · exact absurd c101 (by decide)
              · try simp only [bI_0, Decidable.not_not] at c101
                refine g_blk [(.aload_n 1, .null)] (Nat.le_of_ble_eq_true rfl) (by decide +kernel) ?_
                refine gx_aload_n_1 ((gx_nil ?_))
                refine g_callS (rc' := 9059 * n + 1) (rs' := 310011 * n + 6) kL_340 (la_areRanksRight hp hnc Hk12) (by decide +kernel) rfl rfl (Nat.le_of_ble_eq_true rfl) (Nat.le_of_ble_eq_true rfl) (Nat.le_of_ble_eq_true rfl) (by omega) (by omega) rfl (fun _ _ z => z.elim) (fun v9 k13 hz => ?_)
                obtain ⟨rfl, Hk13⟩ := hz
                obtain ⟨fsk13, hmk13⟩ := Hk13.at12
                simp only [Option.toList_some, Option.toList_none, List.cons_append, List.nil_append]
                refine g_if_eq (off := 16) (tgt := 124) (by decide +kernel) (by decide) (fun c108 => ?_) (fun c108 => ?_)
                · exact absurd c108 (by decide)
                · try simp only [bI_0, Decidable.not_not] at c108
                  refine g_blk [(.iload_n 2, .null), (.bipush 7, .int (nI 7))] (Nat.le_of_ble_eq_true rfl) (by decide +kernel) ?_
                  refine gx_iload_n_2 (gx_bipush ((gx_nil ?_)))
                  refine g_icmp_ne (off := 12) (tgt := 126) (by decide +kernel) (by decide) (fun c114 => ?_) (fun c114 => ?_)
                  · try simp only [bI_0, Decidable.not_not] at c114
                    refine g_blk [(.iinc 2 1, .int (nI 1)), (.goto (-114), .retAddr 15)] (Nat.le_of_ble_eq_true rfl) (by decide +kernel) ?_
                    refine gx_iinc_2 rfl (gx_goto ((gx_nil ?_)))
                    try simp only [nI_add, pk_mul, Nat.add_zero, Nat.zero_add, Nat.reduceAdd, Nat.reduceMul]
                    refine g_weak (rc' := 9059 * n) (rs' := 310011 * n) (L' := [some (.ref sc), some (.ref m), some (.int (nI (k + 1))), none, none, none, none]) ⟨rfl, rfl, rfl, True.intro⟩ (by omega) (by omega) ?_
                    exact ih (k + 1) _ (by omega) (Hk13.ws.mono (by omega))
                  · try simp only [bI_0, Decidable.not_not] at c114
                    refine g_blk [(.aload_n 1, .null)] (Nat.le_of_ble_eq_true rfl) (by decide +kernel) ?_
                    refine gx_aload_n_1 ((gx_nil ?_))
                    refine g_callS (rc' := 9059 * n + 0) (rs' := 310011 * n + 0) kL_343 (la_areCodesRight hd hp Hk13) (by decide +kernel) rfl rfl (Nat.le_of_ble_eq_true rfl) (Nat.le_of_ble_eq_true rfl) (Nat.le_of_ble_eq_true rfl) (by omega) (by omega) rfl (fun _ _ z => z.elim) (fun v9 k14 hz => ?_)
                    obtain ⟨rfl, Hk14⟩ := hz
                    obtain ⟨fsk14, hmk14⟩ := Hk14.at12
                    simp only [Option.toList_some, Option.toList_none, List.cons_append, List.nil_append]
                    refine g_if_ne (off := 5) (tgt := 126) (by decide +kernel) (by decide) (fun c121 => ?_) (fun c121 => ?_)
                    · try simp only [bI_0, Decidable.not_not] at c121
                      refine g_blk [(.iinc 2 1, .int (nI 1)), (.goto (-114), .retAddr 15)] (Nat.le_of_ble_eq_true rfl) (by decide +kernel) ?_
                      refine gx_iinc_2 rfl (gx_goto ((gx_nil ?_)))
                      try simp only [nI_add, pk_mul, Nat.add_zero, Nat.zero_add, Nat.reduceAdd, Nat.reduceMul]
                      refine g_weak (rc' := 9059 * n) (rs' := 310011 * n) (L' := [some (.ref sc), some (.ref m), some (.int (nI (k + 1))), none, none, none, none]) ⟨rfl, rfl, rfl, True.intro⟩ (by omega) (by omega) ?_
                      exact ih (k + 1) _ (by omega) (Hk14.ws.mono (by omega))
                    · exact absurd c121 (by decide)
theorem law_G (HH : gHl Γ de mi d1 d10 vf sr ss) (hsa : gPa Γ .int sc L (fun j => .int (xs j))) (hL : L ≤ 260) : G Γ M_L_law 44 600390 7288600 lwZ lwX 600390 7288600 0 [some (.ref sc), none, none, none, none, none, none] [] h := by
  have HH0 := HH
  obtain ⟨hd, hpl, hp, hps, hpt, hpw, hnc⟩ := HH
  refine g_new (rc' := 600389) (rs' := 7288591) nL_16 (by decide +kernel) (by omega) (show _ + 9 ≤ _ by omega) (fun m hm => ?_)
  obtain ⟨h1, e1⟩ : ∃ z, z = gUp h m (gJ 12 [.null, .null, .null, .null, .null, .int 0, .null, .int 0, .int 0]) := ⟨_, rfl⟩
  refine g_hp e1 ?_
  have hm1 : h1 m = some (gJ 12 [.null, .null, .null, .null, .null, .int 0, .null, .int 0, .int 0]) := by rw [e1]; exact gUp_s _ _ _
  refine g_blk [(.dup, .null)] (Nat.le_of_ble_eq_true rfl) (by decide +kernel) ?_
  refine gx_dupr (gx_nil ?_)
  refine g_callI (rc' := 600374) (rs' := 7287891) kL_312 (mo_init hps hpl hm1) (by decide +kernel) rfl rfl rfl (Nat.le_of_ble_eq_true rfl) (Nat.le_of_ble_eq_true rfl) (Nat.le_of_ble_eq_true rfl) (by omega) (by omega) rfl (fun _ _ z => z.elim) (fun v2 h2 hz => ?_)
  obtain ⟨rfl, G2, -⟩ := hz
  have W2 : gWs Γ de h2 m 0 := ⟨_, _, G2⟩
  simp only [Option.toList_none, List.nil_append]
  refine g_blk [(.astore_n 1, .null), (.aload_n 1, .null), (.aload_n 0, .null)] (Nat.le_of_ble_eq_true rfl) (by decide +kernel) ?_
  refine gx_astore_n_1 rfl (gx_aload_n_1 (gx_aload_n_0 (gx_nil ?_)))
  refine g_callS (rc' := 590922) (rs' := 6947891) kL_313 (la_lay hp hpl hnc hsa hL W2 (by omega)) (by decide +kernel) rfl rfl (Nat.le_of_ble_eq_true rfl) (Nat.le_of_ble_eq_true rfl) (Nat.le_of_ble_eq_true rfl) (by omega) (by omega) rfl (fun _ _ z => z.elim) (fun v3 h3 hz => ?_)
  obtain ⟨rfl, W3⟩ := hz
  simp only [Option.toList_none, List.nil_append]
  refine g_blk [(.iconst 0, .int (nI 0)), (.istore_n 2, .null)] (Nat.le_of_ble_eq_true rfl) (by decide +kernel) ?_
  refine gx_iconst (gx_istore_n_2 rfl (gx_nil ?_))
  refine g_rcs (rc' := 9059 * 14) (rs' := 310011 * 14) (by omega) (by omega) ?_
  exact law_loop HH0 hsa hL 14 0 _ (by omega) (W3.mono (by omega))
end GLo
