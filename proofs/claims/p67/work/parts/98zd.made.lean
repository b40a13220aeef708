/-! THE FACE MADE -/
section GFzd
variable {Γ : gE} {de mi : Nat} {h : gHp} {m : Nat}
set_option maxRecDepth 100000 in
theorem wAC : Cond.arrayClass .char ∈ lw_good := (gIn (List.mem_of_getElem? (i := 257) (by decide +kernel)) (by decide +kernel))
theorem gN0_at : (∀ q, q < 8 → gN0 q = nI 0) ∧ (∀ r, r ≤ 5 → gN0 (8 + 3 * r) = nI 24 ∧ gN0 (8 + 3 * r + 1) = nI 6 ∧ gN0 (8 + 3 * r + 2) = nI 0) := by
  refine ⟨by decide +kernel, by decide +kernel⟩
theorem rIV_0 : rIV gN0 0 0 0 := by
  obtain ⟨a, b⟩ := gN0_at
  refine ⟨⟨by omega, a 3 (by omega)⟩, ⟨by omega, a 4 (by omega)⟩, ⟨0, by omega, a 0 (by omega)⟩, ⟨a 2 (by omega), 0, 0, a 5 (by omega), a 6 (by omega), rfl⟩, fun r hr => ?_, fun i j h1 h2 => by omega, fun j hj => by omega, ?_⟩
  · obtain ⟨b1, b2, b3⟩ := b r hr
    exact ⟨24, 6, 0, by omega, by omega, by omega, b1, b2, b3⟩
  · refine ⟨fun x hx => ?_, List.Pairwise.nil, fun a ha b hb => ?_⟩
    · cases hx
    · exact Nat.zero_le _
theorem gK_m {S : Nat → Prop} {h2 h3 h4 : gHp} (k : gKeep (fun z => z = m) h2 h3) (k1 : gKeep S h3 h4) (hs : ∀ z, S z → h2 z = none) : gKeep (fun z => z = m) h2 h4 := gK_tr k k1 (fun z hz => Or.inr (hs z hz))
theorem gK_mm {h2 h3 : gHp} {c : va_E} (k : gKeep (fun z => z = m) h2 h3) : gKeep (fun z => z = m) h2 (gUp h3 m c) := gK_tr k (gKeep.up rfl : gKeep (fun z => z = m) h3 (gUp h3 m c)) (fun _ hz => Or.inl hz)
theorem gK_mn {h2 h3 : gHp} {q : Nat} {c : va_E} (k : gKeep (fun z => z = m) h2 h3) (hq : h2 q = none) : gKeep (fun z => z = m) h2 (gUp h3 q c) := gK_tr k (gKeep.up rfl : gKeep (fun z => z = q) h3 (gUp h3 q c)) (fun z hz => Or.inr (by rw [hz]; exact hq))
theorem gK_mo {h2 h3 : gHp} {q : Nat} {fs : List Value} (k : gKeep (fun z => z = m) h2 h3) (hm : h3 m = some (gJ 12 fs)) (hq : h3 q = none) : h2 q = none := gK_no k (fun z hz => by subst hz; exact ⟨_, hm⟩) hq
theorem gK_12 {h2 h3 : gHp} {fs : List Value} (k : gKeep (fun z => z = m) h2 h3) (hm : h2 m = some (gJ 12 fs)) : gFr (fun e => tg e = 12) h2 h3 := gFr.of k (fun q hq e y => by rw [hq, hm] at y; cases y; rfl)
theorem gTR_k12 {tt ch ro k9 : Nat} {C : Nat → Nat} {R : Nat → Int32} {h1 : gHp} (H : gTR Γ h tt ch ro C R k9) (k : gFr (fun e => tg e = 12) h h1) : gTR Γ h1 tt ch ro C R k9 := by
  obtain ⟨a, ⟨f, b1, b2⟩, ⟨g, c1, c2⟩, d⟩ := H
  exact ⟨k _ _ a (by show ¬ (10 : Nat) = 12; decide), ⟨f, k _ _ b1 (by show ¬ (590 : Nat) = 12; decide), b2⟩, ⟨g, k _ _ c1 (by show ¬ (149 : Nat) = 12; decide), c2⟩, d⟩
theorem gSB_k12 {a v lm : Nat} {xs : List Nat} {h1 : gHp} (H : gSB Γ h a v lm xs) (k : gFr (fun e => tg e = 12) h h1) : gSB Γ h1 a v lm xs := by
  obtain ⟨ml, f, h1, h2, h3, h4, h5, h6, h7⟩ := H
  exact ⟨ml, f, k _ _ h1 (by show ¬ (1 : Nat) = 12; decide), k _ _ h2 (by show ¬ 100 + lm = 12; omega), h3, h4, h5, h6, h7⟩
theorem mo_init {d1 d10 : Nat} {vf : Value} (hps : gPsb Γ d1 d10 vf) (hpl : gPall Γ de mi) (hm : h m = some (gJ 12 [.null, .null, .null, .null, .null, .int 0, .null, .int 0, .int 0])) : gC Γ M_X9_init [.ref m] h 7 15 700 (fun v h' => v = none ∧ gMO Γ de h' m rV0 rF0 0 ∧ gFr (kC Γ) h h') (fun _ _ => False) := by
  refine gC_of (by decide) rfl (Nat.le_of_ble_eq_true rfl) [some (.ref m)] rfl ?_
  refine g_blk [(.aload_n 0, .null)] (Nat.le_of_ble_eq_true rfl) (by decide +kernel) ?_
  refine gx_aload_n_0 ((gx_nil ?_))
  refine g_objInit wOIRX9 wOI1 wOI2 (by decide +kernel) (by omega) (Nat.le_of_ble_eq_true rfl) ?_
  refine g_blk [(.aload_n 0, .null)] (Nat.le_of_ble_eq_true rfl) (by decide +kernel) ?_
  refine gx_aload_n_0 ((gx_nil ?_))
  refine g_new (rc' := 14) (rs' := 689) nX9_7 (by decide +kernel) (by omega) (by simp) (fun o hq_o => ?_)
  have hmq_o : m ≠ o := fun z => by rw [← z, hm] at hq_o; cases hq_o
  have f_h_o : h o = none := (gK_mo (gKeep.rf : gKeep (fun z => z = m) h h) hm hq_o)
  obtain ⟨g1, eg1⟩ : ∃ z, z = gUp h o (.inr (7, [.null, .null, .null, .null, .null, .int 0, .int 0, .int 0, .int 0, .int 0, .int 0])) := ⟨_, rfl⟩
  refine g_hp eg1 ?_
  have k_h_g1 : gKeep (fun z => z = m) h g1 := by rw [eg1]; exact gK_mn (gKeep.rf : gKeep (fun z => z = m) h h) f_h_o
  have hmg1 : g1 m = some (gJ 12 [.null, .null, .null, .null, .null, .int 0, .null, .int 0, .int 0]) := by rw [eg1, gUp_n _ _ hmq_o]; exact hm
  have hcg1 : g1 o = some (gJ 7 [.null, .null, .null, .null, .null, .int 0, .int 0, .int 0, .int 0, .int 0, .int 0]) := by rw [eg1]; exact gUp_s _ _ _
  refine g_blk [(.dup, .null)] (Nat.le_of_ble_eq_true rfl) (by decide +kernel) ?_
  refine gx_dupr ((gx_nil ?_))
  refine g_callI (rc' := 7) (rs' := 658) kX9_9 (of_init hpl.1 hcg1) (by decide +kernel) rfl rfl rfl (Nat.le_of_ble_eq_true rfl) (Nat.le_of_ble_eq_true rfl) (Nat.le_of_ble_eq_true rfl) (by omega) (by omega) rfl (fun _ _ z => z.elim) (fun v9 g2 hz => ?_)
  obtain ⟨rfl, la, ta, ca, da, ba, pa, ep, HO, hnd, hfo, kq_o⟩ := hz
  have k_h_g2 : gKeep (fun z => z = m) h g2 := gK_m k_h_g1 kq_o (fun z hz => by rw [hz]; exact f_h_o)
  have hmg2 : g2 m = some (gJ 12 [.null, .null, .null, .null, .null, .int 0, .null, .int 0, .int 0]) := kq_o _ _ hmq_o hmg1
  simp only [Option.toList_some, Option.toList_none, List.cons_append, List.nil_append]
  refine g_putf fX9_10 (by decide +kernel) hmg2 (by simp) rfl rfl ?_
  obtain ⟨g3, eg3⟩ : ∃ z, z = gUp g2 m (gJ 12 [.ref o, .null, .null, .null, .null, .int 0, .null, .int 0, .int 0]) := ⟨_, rfl⟩
  refine g_hp (h1 := g3) eg3 ?_
  have k_h_g3 : gKeep (fun z => z = m) h g3 := by rw [eg3]; exact gK_mm k_h_g2
  have k_g2_g3 : gKeep (fun z => z = m) g2 g3 := by rw [eg3]; exact gK_mm (gKeep.rf : gKeep (fun z => z = m) g2 g2)
  have hmg3 : g3 m = some (gJ 12 [.ref o, .null, .null, .null, .null, .int 0, .null, .int 0, .int 0]) := by rw [eg3]; exact gUp_s _ _ _
  refine g_blk [(.aload_n 0, .null), (.aconst_null, .null)] (Nat.le_of_ble_eq_true rfl) (by decide +kernel) ?_
  refine gx_aload_n_0 (gx_aconst_null ((gx_nil ?_)))
  refine g_putf fX9_16 (by decide +kernel) hmg3 (by simp) rfl rfl ?_
  obtain ⟨g4, eg4⟩ : ∃ z, z = gUp g3 m (gJ 12 [.ref o, .null, .null, .null, .null, .int 0, .null, .int 0, .int 0]) := ⟨_, rfl⟩
  refine g_hp (h1 := g4) eg4 ?_
  have k_h_g4 : gKeep (fun z => z = m) h g4 := by rw [eg4]; exact gK_mm k_h_g3
  have k_g2_g4 : gKeep (fun z => z = m) g2 g4 := by rw [eg4]; exact gK_mm k_g2_g3
  have hmg4 : g4 m = some (gJ 12 [.ref o, .null, .null, .null, .null, .int 0, .null, .int 0, .int 0]) := by rw [eg4]; exact gUp_s _ _ _
  refine g_blk [(.aload_n 0, .null)] (Nat.le_of_ble_eq_true rfl) (by decide +kernel) ?_
  refine gx_aload_n_0 ((gx_nil ?_))
  refine g_new (rc' := 6) (rs' := 655) nX9_19 (by decide +kernel) (by omega) (by simp) (fun hl hq_hl => ?_)
  have hmq_hl : m ≠ hl := fun z => by rw [← z, hmg4] at hq_hl; cases hq_hl
  have f_h_hl : h hl = none := (gK_mo k_h_g4 hmg4 hq_hl)
  have f_g2_hl : g2 hl = none := (gK_mo k_g2_g4 hmg4 hq_hl)
  obtain ⟨g5, eg5⟩ : ∃ z, z = gUp g4 hl (.inr (4, [.int 0, .null, .int 0])) := ⟨_, rfl⟩
  refine g_hp eg5 ?_
  have k_h_g5 : gKeep (fun z => z = m) h g5 := by rw [eg5]; exact gK_mn k_h_g4 f_h_hl
  have k_g2_g5 : gKeep (fun z => z = m) g2 g5 := by rw [eg5]; exact gK_mn k_g2_g4 f_g2_hl
  have hmg5 : g5 m = some (gJ 12 [.ref o, .null, .null, .null, .null, .int 0, .null, .int 0, .int 0]) := by rw [eg5, gUp_n _ _ hmq_hl]; exact hmg4
  have hcg5 : g5 hl = some (gJ 4 [.int 0, .null, .int 0]) := by rw [eg5]; exact gUp_s _ _ _
  refine g_blk [(.dup, .null)] (Nat.le_of_ble_eq_true rfl) (by decide +kernel) ?_
  refine gx_dupr ((gx_nil ?_))
  refine g_callI (rc' := 6) (rs' := 655) kX9_21 (al_init hpl.1 hcg5) (by decide +kernel) rfl rfl rfl (Nat.le_of_ble_eq_true rfl) (Nat.le_of_ble_eq_true rfl) (Nat.le_of_ble_eq_true rfl) (by omega) (by omega) rfl (fun _ _ z => z.elim) (fun v9 g6 hz => ?_)
  obtain ⟨rfl, HLL, kq_hl⟩ := hz
  have k_h_g6 : gKeep (fun z => z = m) h g6 := gK_m k_h_g5 kq_hl (fun z hz => by rw [hz]; exact f_h_hl)
  have k_g2_g6 : gKeep (fun z => z = m) g2 g6 := gK_m k_g2_g5 kq_hl (fun z hz => by rw [hz]; exact f_g2_hl)
  have hmg6 : g6 m = some (gJ 12 [.ref o, .null, .null, .null, .null, .int 0, .null, .int 0, .int 0]) := kq_hl _ _ hmq_hl hmg5
  simp only [Option.toList_some, Option.toList_none, List.cons_append, List.nil_append]
  refine g_putfF fX9_22 fin12_2 rfl (by decide +kernel) hmg6 (by simp) rfl rfl ?_
  obtain ⟨g7, eg7⟩ : ∃ z, z = gUp g6 m (gJ 12 [.ref o, .null, .ref hl, .null, .null, .int 0, .null, .int 0, .int 0]) := ⟨_, rfl⟩
  refine g_hp (h1 := g7) eg7 ?_
  have k_h_g7 : gKeep (fun z => z = m) h g7 := by rw [eg7]; exact gK_mm k_h_g6
  have k_g2_g7 : gKeep (fun z => z = m) g2 g7 := by rw [eg7]; exact gK_mm k_g2_g6
  have k_g6_g7 : gKeep (fun z => z = m) g6 g7 := by rw [eg7]; exact gK_mm (gKeep.rf : gKeep (fun z => z = m) g6 g6)
  have hmg7 : g7 m = some (gJ 12 [.ref o, .null, .ref hl, .null, .null, .int 0, .null, .int 0, .int 0]) := by rw [eg7]; exact gUp_s _ _ _
  refine g_blk [(.aload_n 0, .null)] (Nat.le_of_ble_eq_true rfl) (by decide +kernel) ?_
  refine gx_aload_n_0 ((gx_nil ?_))
  refine g_new (rc' := 5) (rs' := 652) nX9_26 (by decide +kernel) (by omega) (by simp) (fun tt hq_tt => ?_)
  have hmq_tt : m ≠ tt := fun z => by rw [← z, hmg7] at hq_tt; cases hq_tt
  have f_h_tt : h tt = none := (gK_mo k_h_g7 hmg7 hq_tt)
  have f_g2_tt : g2 tt = none := (gK_mo k_g2_g7 hmg7 hq_tt)
  have f_g6_tt : g6 tt = none := (gK_mo k_g6_g7 hmg7 hq_tt)
  obtain ⟨g8, eg8⟩ : ∃ z, z = gUp g7 tt (.inr (10, [.null, .null, .int 0])) := ⟨_, rfl⟩
  refine g_hp eg8 ?_
  have k_h_g8 : gKeep (fun z => z = m) h g8 := by rw [eg8]; exact gK_mn k_h_g7 f_h_tt
  have k_g2_g8 : gKeep (fun z => z = m) g2 g8 := by rw [eg8]; exact gK_mn k_g2_g7 f_g2_tt
  have k_g6_g8 : gKeep (fun z => z = m) g6 g8 := by rw [eg8]; exact gK_mn k_g6_g7 f_g6_tt
  have hmg8 : g8 m = some (gJ 12 [.ref o, .null, .ref hl, .null, .null, .int 0, .null, .int 0, .int 0]) := by rw [eg8, gUp_n _ _ hmq_tt]; exact hmg7
  have hcg8 : g8 tt = some (gJ 10 [.null, .null, .int 0]) := by rw [eg8]; exact gUp_s _ _ _
  refine g_blk [(.dup, .null)] (Nat.le_of_ble_eq_true rfl) (by decide +kernel) ?_
  refine gx_dupr ((gx_nil ?_))
  refine g_callIN (rc' := 3) (rs' := 113) kX9_28 (tr_init hcg8) (by decide +kernel) rfl rfl rfl (Nat.le_of_ble_eq_true rfl) (Nat.le_of_ble_eq_true rfl) (Nat.le_of_ble_eq_true rfl) (by omega) (by omega) rfl (fun _ _ z => z.elim) (fun v9 g9 hz => ?_)
  obtain ⟨rfl, ch, ro, hch, hro, HTT, kq_tt⟩ := hz
  have k_h_g9 : gKeep (fun z => z = m) h g9 := gK_m k_h_g8 kq_tt (fun z hz => by rw [hz]; exact f_h_tt)
  have k_g2_g9 : gKeep (fun z => z = m) g2 g9 := gK_m k_g2_g8 kq_tt (fun z hz => by rw [hz]; exact f_g2_tt)
  have k_g6_g9 : gKeep (fun z => z = m) g6 g9 := gK_m k_g6_g8 kq_tt (fun z hz => by rw [hz]; exact f_g6_tt)
  have hmg9 : g9 m = some (gJ 12 [.ref o, .null, .ref hl, .null, .null, .int 0, .null, .int 0, .int 0]) := kq_tt _ _ hmq_tt hmg8
  simp only [Option.toList_some, Option.toList_none, List.cons_append, List.nil_append]
  refine g_putfF fX9_29 fin12_3 rfl (by decide +kernel) hmg9 (by simp) rfl rfl ?_
  obtain ⟨g10, eg10⟩ : ∃ z, z = gUp g9 m (gJ 12 [.ref o, .null, .ref hl, .ref tt, .null, .int 0, .null, .int 0, .int 0]) := ⟨_, rfl⟩
  refine g_hp (h1 := g10) eg10 ?_
  have k_h_g10 : gKeep (fun z => z = m) h g10 := by rw [eg10]; exact gK_mm k_h_g9
  have k_g2_g10 : gKeep (fun z => z = m) g2 g10 := by rw [eg10]; exact gK_mm k_g2_g9
  have k_g6_g10 : gKeep (fun z => z = m) g6 g10 := by rw [eg10]; exact gK_mm k_g6_g9
  have k_g9_g10 : gKeep (fun z => z = m) g9 g10 := by rw [eg10]; exact gK_mm (gKeep.rf : gKeep (fun z => z = m) g9 g9)
  have hmg10 : g10 m = some (gJ 12 [.ref o, .null, .ref hl, .ref tt, .null, .int 0, .null, .int 0, .int 0]) := by rw [eg10]; exact gUp_s _ _ _
  refine g_blk [(.aload_n 0, .null), (.bipush 60, .int (nI 60))] (Nat.le_of_ble_eq_true rfl) (by decide +kernel) ?_
  refine gx_aload_n_0 (gx_bipush ((gx_nil ?_)))
  refine g_newarr_c (N := 60) (rc' := 2) (rs' := 53) (by decide +kernel) wAC (nI_nn (by omega)) (nI_clamp (by omega)) (by omega) (by omega) (by omega) (fun bu hq_bu => ?_)
  have hmq_bu : m ≠ bu := fun z => by rw [← z, hmg10] at hq_bu; cases hq_bu
  have f_h_bu : h bu = none := (gK_mo k_h_g10 hmg10 hq_bu)
  have f_g2_bu : g2 bu = none := (gK_mo k_g2_g10 hmg10 hq_bu)
  have f_g6_bu : g6 bu = none := (gK_mo k_g6_g10 hmg10 hq_bu)
  have f_g9_bu : g9 bu = none := (gK_mo k_g9_g10 hmg10 hq_bu)
  obtain ⟨g11, eg11⟩ : ∃ z, z = gUp g10 bu (gCh Γ 60 (fun _ => 0)) := ⟨_, rfl⟩
  refine g_hp eg11 ?_
  have k_h_g11 : gKeep (fun z => z = m) h g11 := by rw [eg11]; exact gK_mn k_h_g10 f_h_bu
  have k_g2_g11 : gKeep (fun z => z = m) g2 g11 := by rw [eg11]; exact gK_mn k_g2_g10 f_g2_bu
  have k_g6_g11 : gKeep (fun z => z = m) g6 g11 := by rw [eg11]; exact gK_mn k_g6_g10 f_g6_bu
  have k_g9_g11 : gKeep (fun z => z = m) g9 g11 := by rw [eg11]; exact gK_mn k_g9_g10 f_g9_bu
  have hmg11 : g11 m = some (gJ 12 [.ref o, .null, .ref hl, .ref tt, .null, .int 0, .null, .int 0, .int 0]) := by rw [eg11, gUp_n _ _ hmq_bu]; exact hmg10
  have hbu0 : g11 bu = some (gCh Γ 60 (fun _ => 0)) := by rw [eg11]; exact gUp_s _ _ _
  refine g_putfF fX9_33 fin12_4 rfl (by decide +kernel) hmg11 (by simp) rfl rfl ?_
  obtain ⟨g12, eg12⟩ : ∃ z, z = gUp g11 m (gJ 12 [.ref o, .null, .ref hl, .ref tt, .ref bu, .int 0, .null, .int 0, .int 0]) := ⟨_, rfl⟩
  refine g_hp (h1 := g12) eg12 ?_
  have k_h_g12 : gKeep (fun z => z = m) h g12 := by rw [eg12]; exact gK_mm k_h_g11
  have k_g2_g12 : gKeep (fun z => z = m) g2 g12 := by rw [eg12]; exact gK_mm k_g2_g11
  have k_g6_g12 : gKeep (fun z => z = m) g6 g12 := by rw [eg12]; exact gK_mm k_g6_g11
  have k_g9_g12 : gKeep (fun z => z = m) g9 g12 := by rw [eg12]; exact gK_mm k_g9_g11
  have k_g11_g12 : gKeep (fun z => z = m) g11 g12 := by rw [eg12]; exact gK_mm (gKeep.rf : gKeep (fun z => z = m) g11 g11)
  have hmg12 : g12 m = some (gJ 12 [.ref o, .null, .ref hl, .ref tt, .ref bu, .int 0, .null, .int 0, .int 0]) := by rw [eg12]; exact gUp_s _ _ _
  refine g_blk [(.aload_n 0, .null), (.iconst 0, .int (nI 0))] (Nat.le_of_ble_eq_true rfl) (by decide +kernel) ?_
  refine gx_aload_n_0 (gx_iconst ((gx_nil ?_)))
  refine g_putf fX9_37 (by decide +kernel) hmg12 (by simp) rfl rfl ?_
  obtain ⟨g13, eg13⟩ : ∃ z, z = gUp g12 m (gJ 12 [.ref o, .null, .ref hl, .ref tt, .ref bu, .int (nI 0), .null, .int 0, .int 0]) := ⟨_, rfl⟩
  refine g_hp (h1 := g13) eg13 ?_
  have k_h_g13 : gKeep (fun z => z = m) h g13 := by rw [eg13]; exact gK_mm k_h_g12
  have k_g2_g13 : gKeep (fun z => z = m) g2 g13 := by rw [eg13]; exact gK_mm k_g2_g12
  have k_g6_g13 : gKeep (fun z => z = m) g6 g13 := by rw [eg13]; exact gK_mm k_g6_g12
  have k_g9_g13 : gKeep (fun z => z = m) g9 g13 := by rw [eg13]; exact gK_mm k_g9_g12
  have k_g11_g13 : gKeep (fun z => z = m) g11 g13 := by rw [eg13]; exact gK_mm k_g11_g12
  have hmg13 : g13 m = some (gJ 12 [.ref o, .null, .ref hl, .ref tt, .ref bu, .int (nI 0), .null, .int 0, .int 0]) := by rw [eg13]; exact gUp_s _ _ _
  refine g_blk [(.aload_n 0, .null)] (Nat.le_of_ble_eq_true rfl) (by decide +kernel) ?_
  refine gx_aload_n_0 ((gx_nil ?_))
  refine g_new (rc' := 1) (rs' := 49) nX9_41 (by decide +kernel) (by omega) (by simp) (fun sb hq_sb => ?_)
  have hmq_sb : m ≠ sb := fun z => by rw [← z, hmg13] at hq_sb; cases hq_sb
  have f_h_sb : h sb = none := (gK_mo k_h_g13 hmg13 hq_sb)
  have f_g2_sb : g2 sb = none := (gK_mo k_g2_g13 hmg13 hq_sb)
  have f_g6_sb : g6 sb = none := (gK_mo k_g6_g13 hmg13 hq_sb)
  have f_g9_sb : g9 sb = none := (gK_mo k_g9_g13 hmg13 hq_sb)
  have f_g11_sb : g11 sb = none := (gK_mo k_g11_g13 hmg13 hq_sb)
  obtain ⟨g14, eg14⟩ : ∃ z, z = gUp g13 sb (.inr (1, [.null, .int 0, .int 0, .int 0])) := ⟨_, rfl⟩
  refine g_hp eg14 ?_
  have k_h_g14 : gKeep (fun z => z = m) h g14 := by rw [eg14]; exact gK_mn k_h_g13 f_h_sb
  have k_g2_g14 : gKeep (fun z => z = m) g2 g14 := by rw [eg14]; exact gK_mn k_g2_g13 f_g2_sb
  have k_g6_g14 : gKeep (fun z => z = m) g6 g14 := by rw [eg14]; exact gK_mn k_g6_g13 f_g6_sb
  have k_g9_g14 : gKeep (fun z => z = m) g9 g14 := by rw [eg14]; exact gK_mn k_g9_g13 f_g9_sb
  have k_g11_g14 : gKeep (fun z => z = m) g11 g14 := by rw [eg14]; exact gK_mn k_g11_g13 f_g11_sb
  have hmg14 : g14 m = some (gJ 12 [.ref o, .null, .ref hl, .ref tt, .ref bu, .int (nI 0), .null, .int 0, .int 0]) := by rw [eg14, gUp_n _ _ hmq_sb]; exact hmg13
  have hcg14 : g14 sb = some (gJ 1 [.null, .int 0, .int 0, .int 0]) := by rw [eg14]; exact gUp_s _ _ _
  refine g_blk [(.dup, .null)] (Nat.le_of_ble_eq_true rfl) (by decide +kernel) ?_
  refine gx_dupr ((gx_nil ?_))
  refine g_callI (rc' := 0) (rs' := 0) kX9_43 (sb_init hps hcg14) (by decide +kernel) rfl rfl rfl (Nat.le_of_ble_eq_true rfl) (Nat.le_of_ble_eq_true rfl) (Nat.le_of_ble_eq_true rfl) (by omega) (by omega) rfl (fun _ _ z => z.elim) (fun v9 g15 hz => ?_)
  obtain ⟨rfl, lv, hlv, HSS, kq_sb⟩ := hz
  have k_h_g15 : gKeep (fun z => z = m) h g15 := gK_m k_h_g14 kq_sb (fun z hz => by rw [hz]; exact f_h_sb)
  have k_g2_g15 : gKeep (fun z => z = m) g2 g15 := gK_m k_g2_g14 kq_sb (fun z hz => by rw [hz]; exact f_g2_sb)
  have k_g6_g15 : gKeep (fun z => z = m) g6 g15 := gK_m k_g6_g14 kq_sb (fun z hz => by rw [hz]; exact f_g6_sb)
  have k_g9_g15 : gKeep (fun z => z = m) g9 g15 := gK_m k_g9_g14 kq_sb (fun z hz => by rw [hz]; exact f_g9_sb)
  have k_g11_g15 : gKeep (fun z => z = m) g11 g15 := gK_m k_g11_g14 kq_sb (fun z hz => by rw [hz]; exact f_g11_sb)
  have hmg15 : g15 m = some (gJ 12 [.ref o, .null, .ref hl, .ref tt, .ref bu, .int (nI 0), .null, .int 0, .int 0]) := kq_sb _ _ hmq_sb hmg14
  simp only [Option.toList_some, Option.toList_none, List.cons_append, List.nil_append]
  refine g_putfF fX9_44 fin12_6 rfl (by decide +kernel) hmg15 (by simp) rfl rfl ?_
  obtain ⟨g16, eg16⟩ : ∃ z, z = gUp g15 m (gJ 12 [.ref o, .null, .ref hl, .ref tt, .ref bu, .int (nI 0), .ref sb, .int 0, .int 0]) := ⟨_, rfl⟩
  refine g_hp (h1 := g16) eg16 ?_
  have k_h_g16 : gKeep (fun z => z = m) h g16 := by rw [eg16]; exact gK_mm k_h_g15
  have k_g2_g16 : gKeep (fun z => z = m) g2 g16 := by rw [eg16]; exact gK_mm k_g2_g15
  have k_g6_g16 : gKeep (fun z => z = m) g6 g16 := by rw [eg16]; exact gK_mm k_g6_g15
  have k_g9_g16 : gKeep (fun z => z = m) g9 g16 := by rw [eg16]; exact gK_mm k_g9_g15
  have k_g11_g16 : gKeep (fun z => z = m) g11 g16 := by rw [eg16]; exact gK_mm k_g11_g15
  have k_g15_g16 : gKeep (fun z => z = m) g15 g16 := by rw [eg16]; exact gK_mm (gKeep.rf : gKeep (fun z => z = m) g15 g15)
  have hmg16 : g16 m = some (gJ 12 [.ref o, .null, .ref hl, .ref tt, .ref bu, .int (nI 0), .ref sb, .int 0, .int 0]) := by rw [eg16]; exact gUp_s _ _ _
  refine g_blk [(.aload_n 0, .null), (.iconst (-1), .int (-1))] (Nat.le_of_ble_eq_true rfl) (by decide +kernel) ?_
  refine gx_aload_n_0 (gx_iconst ((gx_nil ?_)))
  refine g_putf fX9_48 (by decide +kernel) hmg16 (by simp) rfl rfl ?_
  obtain ⟨g17, eg17⟩ : ∃ z, z = gUp g16 m (gJ 12 [.ref o, .null, .ref hl, .ref tt, .ref bu, .int (nI 0), .ref sb, .int (-1), .int 0]) := ⟨_, rfl⟩
  refine g_hp (h1 := g17) eg17 ?_
  have k_h_g17 : gKeep (fun z => z = m) h g17 := by rw [eg17]; exact gK_mm k_h_g16
  have k_g2_g17 : gKeep (fun z => z = m) g2 g17 := by rw [eg17]; exact gK_mm k_g2_g16
  have k_g6_g17 : gKeep (fun z => z = m) g6 g17 := by rw [eg17]; exact gK_mm k_g6_g16
  have k_g9_g17 : gKeep (fun z => z = m) g9 g17 := by rw [eg17]; exact gK_mm k_g9_g16
  have k_g11_g17 : gKeep (fun z => z = m) g11 g17 := by rw [eg17]; exact gK_mm k_g11_g16
  have k_g15_g17 : gKeep (fun z => z = m) g15 g17 := by rw [eg17]; exact gK_mm k_g15_g16
  have hmg17 : g17 m = some (gJ 12 [.ref o, .null, .ref hl, .ref tt, .ref bu, .int (nI 0), .ref sb, .int (-1), .int 0]) := by rw [eg17]; exact gUp_s _ _ _
  refine g_blk [(.aload_n 0, .null), (.iconst (-1), .int (-1))] (Nat.le_of_ble_eq_true rfl) (by decide +kernel) ?_
  refine gx_aload_n_0 (gx_iconst ((gx_nil ?_)))
  refine g_putf fX9_51 (by decide +kernel) hmg17 (by simp) rfl rfl ?_
  obtain ⟨g18, eg18⟩ : ∃ z, z = gUp g17 m (gJ 12 [.ref o, .null, .ref hl, .ref tt, .ref bu, .int (nI 0), .ref sb, .int (-1), .int (-1)]) := ⟨_, rfl⟩
  refine g_hp (h1 := g18) eg18 ?_
  have k_h_g18 : gKeep (fun z => z = m) h g18 := by rw [eg18]; exact gK_mm k_h_g17
  have k_g2_g18 : gKeep (fun z => z = m) g2 g18 := by rw [eg18]; exact gK_mm k_g2_g17
  have k_g6_g18 : gKeep (fun z => z = m) g6 g18 := by rw [eg18]; exact gK_mm k_g6_g17
  have k_g9_g18 : gKeep (fun z => z = m) g9 g18 := by rw [eg18]; exact gK_mm k_g9_g17
  have k_g11_g18 : gKeep (fun z => z = m) g11 g18 := by rw [eg18]; exact gK_mm k_g11_g17
  have k_g15_g18 : gKeep (fun z => z = m) g15 g18 := by rw [eg18]; exact gK_mm k_g15_g17
  have hmg18 : g18 m = some (gJ 12 [.ref o, .null, .ref hl, .ref tt, .ref bu, .int (nI 0), .ref sb, .int (-1), .int (-1)]) := by rw [eg18]; exact gUp_s _ _ _
  refine g_end none rfl ⟨by decide +kernel, rfl⟩ ?_
  have Hof : gOf Γ de g2 gN0 0 0 o (gFp o ta ca da ba [la] [pa] []) := ⟨la, ta, ca, da, ba, pa, ep, _, _, _, _, HO, rfl, gNd_to HO hnd⟩
  have t_of := gK_12 (k_g2_g18) hmg2
  have t_li := gK_12 (k_g6_g18) hmg6
  have t_tr := gK_12 (k_g9_g18) hmg9
  have t_bf := gK_12 (k_g11_g18) hmg11
  have t_ln := gK_12 (k_g15_g18) hmg15
  have one : gOne Γ de g18 0 (gN0, o, gFp o ta ca da ba [la] [pa] []) := ⟨0, 0, 0, Hof.ft t_of (fun e z => K12_no z), rIV_0, Nat.le_refl _⟩
  refine ⟨rfl, ⟨o, gFp o ta ca da ba [la] [pa] [], [], [], .null, hl, tt, bu, sb, [hl], hmg18, fun x hx => ?_, List.pairwise_singleton _ _, Or.inl ⟨rfl, rfl, rfl⟩, ⟨rfl, Nat.zero_le _, fun i x hi => by cases hi⟩, ⟨gAL_k12 HLL t_li, fun q hq x hx => ?_⟩, ⟨ch, ro, 0, _, _, gTR_k12 HTT t_tr, fun q hq => Nat.zero_le _⟩, ⟨0, fun _ => 0, _, rfl, Nat.zero_le _, t_bf _ _ hbu0 (by show ¬ (160 : Nat) = 12; decide), fun i hi => by omega⟩, ⟨lv, 16, [], gSB_k12 HSS t_ln, Nat.zero_le _, rfl, fun i x hi => by cases hi⟩⟩, gFr.of k_h_g18 (fun q hq e y => by rw [hq, hm] at y; cases y; exact kC_J (by decide))⟩
  · rw [List.mem_singleton.mp (show x ∈ [(rF0 0, o, gFp o ta ca da ba [la] [pa] [])] from hx)]
    exact one
  · rw [List.mem_singleton.mp (show x ∈ [(rF0 0, o, gFp o ta ca da ba [la] [pa] [])] from hx), List.mem_singleton.mp hq]
    intro z
    obtain ⟨e9, y9, -⟩ := Hof.tgs hl z
    rw [f_g2_hl] at y9
    cases y9
end GFzd
