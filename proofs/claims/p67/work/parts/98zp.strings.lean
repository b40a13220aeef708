/-! STRINGS THAT ARE MADE -/
section GSs
variable {Γ : gE} {h : gHp}
/-- a text that was made: the string's cell, its row of bytes, the letters -/
def gSX (Γ : gE) (h : gHp) (s r : Nat) (ws : List Nat) : Prop := ∃ y1 y2 g, h s = some (gJ 0 [.ref r, .int (nI 0), .int y1, .int y2]) ∧ h r = some (gB Γ ws.length g) ∧ (∀ i x, ws[i]? = some x → g i = nI x) ∧ (∀ x ∈ ws, x < 128) ∧ ∀ i, fits .byte (.int (g i)) = true
theorem gSX.keep {h' : gHp} {s r : Nat} {ws : List Nat} {S : Nat → Prop} (H : gSX Γ h s r ws) (k : gKeep S h h') (n1 : ¬ S s) (n2 : ¬ S r) : gSX Γ h' s r ws := by
  obtain ⟨y1, y2, g, a1, a2, a3⟩ := H
  exact ⟨y1, y2, g, k _ _ n1 a1, k _ _ n2 a2, a3⟩
theorem gSX.all {h' : gHp} {s r : Nat} {ws : List Nat} (H : gSX Γ h s r ws) (k : gAll h h') : gSX Γ h' s r ws := H.keep k (fun z => z) (fun z => z)
theorem rMin_le {a b : Nat} (hb : b ≤ a) (ha : a < 2 ^ 31) : rMin (nI a) (nI b) = nI b := by
  unfold rMin
  by_cases z : b < a
  · rw [if_pos (nI_lt z ha)]
  · have e : a = b := by omega
    subst e
    rw [if_neg (nI_nlt (Nat.le_refl _) ha)]
theorem ar_check {L : Nat} (hL : L ≤ 64) : pC Γ M_J7_checkLength_df160 [.int (nI 0), .int (nI L)] h 0 (none) := by
  refine pC_of (by decide) rfl (Nat.le_of_ble_eq_true rfl) [some (.int (nI 0)), some (.int (nI L))] rfl ?_
  refine g_blk [(.iload_n 1, .null), (.iload_n 0, .null)] (Nat.le_of_ble_eq_true rfl) (by decide +kernel) ?_
  refine gx_iload_n_1 (gx_iload_n_0 ((gx_nil ?_)))
  refine g_icmp_ge (off := 35) (tgt := 37) (by decide +kernel) (by decide) (fun c2 => ?_) (fun c2 => ?_)
  · try simp only [bI_0, Decidable.not_not] at c2
    refine g_end none rfl ⟨by decide +kernel, rfl⟩ ⟨?_, rfl⟩
    rfl
  · try simp only [bI_0, Decidable.not_not] at c2
    exact absurd (nI_le (Nat.zero_le _) (by omega)) c2
theorem ar_byte {v m L : Nat} {f : Nat → Int32} (hv : h v = some (gB Γ m f)) (hfit : ∀ i, fits .byte (.int (f i)) = true) (hL : L ≤ m) (hm : m ≤ 34) : gC Γ M_J7_copyOfRangeByte_39247 [.ref v, .int (nI 0), .int (nI L)] h 2 1 34 (fun v9 h' => ∃ r, v9 = some (.ref r) ∧ h r = none ∧ ∃ g, h' = gUp h r (gB Γ L g) ∧ (∀ i, i < L → g i = f i) ∧ ∀ i, fits .byte (.int (g i)) = true) (fun _ _ => False) := by
  have e0 : nI L - nI 0 = nI L := by rw [nI_subN (Nat.zero_le _)]; rfl
  have em : rMin (Int32.ofNat m - nI 0) (nI L) = nI L := by
    rw [show Int32.ofNat m - nI 0 = nI m from by rw [show Int32.ofNat m = nI m from rfl, nI_subN (Nat.zero_le _)]; rfl]
    exact rMin_le hL (by omega)
  refine gC_of (by decide) rfl (Nat.le_of_ble_eq_true rfl) [some (.ref v), some (.int (nI 0)), some (.int (nI L)), none, none] rfl ?_
  refine g_blk [(.iload_n 1, .null), (.iload_n 2, .null)] (Nat.le_of_ble_eq_true rfl) (by decide +kernel) ?_
  refine gx_iload_n_1 (gx_iload_n_2 ((gx_nil ?_)))
  refine g_pS kJ7_343 (ar_check (by omega)) (by decide +kernel) rfl rfl (Nat.le_of_ble_eq_true rfl) (Nat.le_of_ble_eq_true rfl) (Nat.le_of_ble_eq_true rfl) rfl ?_
  simp only [Option.toList_some, Option.toList_none, List.cons_append, List.nil_append]
  refine g_blk [(.iload_n 2, .null), (.iload_n 1, .null), (.isub, .null), (.istore_n 3, .null), (.iload_n 3, .null)] (Nat.le_of_ble_eq_true rfl) (by decide +kernel) ?_
  refine gx_iload_n_2 (gx_iload_n_1 (gx_isub (gx_istore_n_3 rfl (gx_iload_n_3 ((gx_nil ?_))))))
  rw [e0]
  refine g_newarr_b (N := L) (rc' := 0) (rs' := 0) (by decide +kernel) wAB (nI_pos (by omega)) (nI_clamp (by omega)) (by omega) (by omega) (by omega) (fun q hq => ?_)
  have hvq : v ≠ q := fun z => by rw [z, hq] at hv; cases hv
  have u1 : gUp h q (gB Γ L (fun _ => 0)) v = some (gB Γ m f) := (gUp_n _ _ hvq).trans hv
  refine g_blk [(.astore 4, .null), (.aload_n 0, .null), (.iload_n 1, .null), (.aload 4, .null), (.iconst 0, .int (nI 0)), (.aload_n 0, .null)] (Nat.le_of_ble_eq_true rfl) (by decide +kernel) ?_
  refine gx_astore_4 rfl (gx_aload_n_0 (gx_iload_n_1 (gx_aload_4 (gx_iconst (gx_aload_n_0 ((gx_nil ?_)))))))
  refine g_alen_b (by decide +kernel) u1 ?_
  refine g_blk [(.iload_n 1, .null), (.isub, .null), (.iload_n 3, .null)] (Nat.le_of_ble_eq_true rfl) (by decide +kernel) ?_
  refine gx_iload_n_1 (gx_isub (gx_iload_n_3 ((gx_nil ?_))))
  refine g_mmin kMJ7_304 (by decide +kernel) (by decide) (Nat.le_of_ble_eq_true rfl) ?_
  rw [em]
  refine g_copyb (by decide +kernel) wCP7b u1 (gUp_s _ _ _) (by decide) (by decide) (nI_pos (by omega)) (by rw [nI_clamp (n := L) (by omega), nI_clamp (n := 0) (by decide)]; omega) (by rw [nI_clamp (n := L) (by omega), nI_clamp (n := 0) (by decide)]; omega) (fun i _ => hfit _) (by omega) (by decide) ?_
  rw [gUp_gUp, nI_clamp (n := 0) (by decide), nI_clamp (n := L) (by omega)]
  refine g_blk [(.aload 4, .null)] (Nat.le_of_ble_eq_true rfl) (by decide +kernel) ?_
  refine gx_aload_4 ((gx_nil ?_))
  refine g_end (some (.ref _)) rfl ⟨by decide +kernel, _, rfl, Or.inr ⟨_, rfl⟩⟩ ?_
  exact ⟨q, rfl, hq, _, rfl, fun i hi => sb_cpy0 hi, sb_fitC hfit sb_fit0⟩
theorem ar_range {v m L : Nat} {f : Nat → Int32} (hv : h v = some (gB Γ m f)) (hfit : ∀ i, fits .byte (.int (f i)) = true) (hL : L ≤ m) (hm : m ≤ 34) : gC Γ M_J7_copyOfRange_39247 [.ref v, .int (nI 0), .int (nI L)] h 3 1 34 (fun v9 h' => ∃ r, v9 = some (.ref r) ∧ h r = none ∧ ∃ g, h' = gUp h r (gB Γ L g) ∧ (∀ i, i < L → g i = f i) ∧ ∀ i, fits .byte (.int (g i)) = true) (fun _ _ => False) := by
  by_cases hLm : L = m
  · subst hLm
    refine gC_of (by decide) rfl (Nat.le_of_ble_eq_true rfl) [some (.ref v), some (.int (nI 0)), some (.int (nI L))] rfl ?_
    refine g_blk [(.iload_n 1, .null)] (Nat.le_of_ble_eq_true rfl) (by decide +kernel) ?_
    refine gx_iload_n_1 ((gx_nil ?_))
    refine g_if_ne (off := 9) (tgt := 10) (by decide +kernel) (by decide) (fun c1 => ?_) (fun c1 => ?_)
    · try simp only [bI_0, Decidable.not_not] at c1
      exact absurd (by decide) c1
    · try simp only [bI_0, Decidable.not_not] at c1
      refine g_blk [(.iload_n 2, .null), (.aload_n 0, .null)] (Nat.le_of_ble_eq_true rfl) (by decide +kernel) ?_
      refine gx_iload_n_2 (gx_aload_n_0 ((gx_nil ?_)))
      refine g_alen_b (by decide +kernel) hv ?_
      refine g_icmp_eq (off := 10) (tgt := 17) (by decide +kernel) (by decide) (fun c7 => ?_) (fun c7 => ?_)
      · try simp only [bI_0, Decidable.not_not] at c7
        refine g_blk [(.aload_n 0, .null)] (Nat.le_of_ble_eq_true rfl) (by decide +kernel) ?_
        refine gx_aload_n_0 ((gx_nil ?_))
        refine g_cloneb (rc' := 0) (rs' := 0) wCl1 wCl2 wCl3 wCl4 wCl5 wCl6 (by decide +kernel) hv hfit (by omega) (by decide) (by omega) (by omega) (fun q hq => ?_)
        refine g_castb (gUp_s _ _ _) wCl7 (by decide +kernel) ?_
        refine g_end (some (.ref _)) rfl ⟨by decide +kernel, _, rfl, Or.inr ⟨_, rfl⟩⟩ ?_
        exact ⟨q, rfl, hq, _, rfl, fun i _ => rfl, hfit⟩
      · try simp only [bI_0, Decidable.not_not] at c7
        exact absurd rfl c7
  · skip
    refine gC_of (by decide) rfl (Nat.le_of_ble_eq_true rfl) [some (.ref v), some (.int (nI 0)), some (.int (nI L))] rfl ?_
    refine g_blk [(.iload_n 1, .null)] (Nat.le_of_ble_eq_true rfl) (by decide +kernel) ?_
    refine gx_iload_n_1 ((gx_nil ?_))
    refine g_if_ne (off := 9) (tgt := 10) (by decide +kernel) (by decide) (fun c1 => ?_) (fun c1 => ?_)
    · try simp only [bI_0, Decidable.not_not] at c1
      exact absurd (by decide) c1
    · try simp only [bI_0, Decidable.not_not] at c1
      refine g_blk [(.iload_n 2, .null), (.aload_n 0, .null)] (Nat.le_of_ble_eq_true rfl) (by decide +kernel) ?_
      refine gx_iload_n_2 (gx_aload_n_0 ((gx_nil ?_)))
      refine g_alen_b (by decide +kernel) hv ?_
      refine g_icmp_eq (off := 10) (tgt := 17) (by decide +kernel) (by decide) (fun c7 => ?_) (fun c7 => ?_)
      · try simp only [bI_0, Decidable.not_not] at c7
        exact absurd ((nI_eqI (by omega) (by omega)).mp c7) hLm
      · try simp only [bI_0, Decidable.not_not] at c7
        refine g_blk [(.aload_n 0, .null), (.iload_n 1, .null), (.iload_n 2, .null)] (Nat.le_of_ble_eq_true rfl) (by decide +kernel) ?_
        refine gx_aload_n_0 (gx_iload_n_1 (gx_iload_n_2 ((gx_nil ?_))))
        refine g_callS (rc' := 0) (rs' := 0) kJ7_339 (ar_byte hv hfit hL hm) (by decide +kernel) rfl rfl (Nat.le_of_ble_eq_true rfl) (Nat.le_of_ble_eq_true rfl) (Nat.le_of_ble_eq_true rfl) (by omega) (by omega) rfl (fun _ _ z => z.elim) (fun v9 h5 hz => ?_)
        obtain ⟨q, rfl, hz⟩ := hz
        simp only [Option.toList_some, Option.toList_none, List.cons_append, List.nil_append]
        refine g_end (some (.ref _)) rfl ⟨by decide +kernel, _, rfl, Or.inr ⟨_, rfl⟩⟩ ?_
        exact ⟨q, rfl, hz⟩
theorem sb_getValue {a v m : Nat} {xs : List Nat} (H : gSB Γ h a v m xs) : pC Γ M_J5_getValue_6d5f1 [.ref a] h 0 (some (.ref v)) := by
  obtain ⟨ml, f, ha, hv, hf, hlen, hm, hav, hfit⟩ := id H
  refine pC_of (by decide) rfl (Nat.le_of_ble_eq_true rfl) [some (.ref a)] rfl ?_
  refine g_blk [(.aload_n 0, .null)] (Nat.le_of_ble_eq_true rfl) (by decide +kernel) ?_
  refine gx_aload_n_0 ((gx_nil ?_))
  refine g_getf fJ5_15 (by decide +kernel) ha rfl ?_
  refine g_end (some (.ref _)) rfl ⟨by decide +kernel, _, rfl, Or.inr ⟨_, rfl⟩⟩ ⟨?_, rfl⟩
  rfl
theorem st_make0 {d1 d10 : Nat} {vf : Value} (hp : gPsb Γ d1 d10 vf) {a v m : Nat} {xs : List Nat} (H : gSB Γ h a v m xs) {s : Nat} (h8 : ∀ x ∈ xs, x < 128) (hs : h s = some (gJ 0 [.null, .int 0, .int 0, .int 0])) : gC Γ M_J0_init_db425 [.ref s, .ref a, .null] h 4 1 34 (fun r9 h' => r9 = none ∧ ∃ r, h r = none ∧ gSX Γ h' s r xs ∧ gKeep (fun z => z = s) h h') (fun _ _ => False) := by
  obtain ⟨ml, f, ha, hv, hf, hlen, hm, hav, hfit⟩ := id H
  have nsa : s ≠ a := fun z => by rw [z, ha] at hs; cases hs
  have nsv : v ≠ s := fun z => by rw [z, hs] at hv; cases hv
  refine gC_of (by decide) rfl (Nat.le_of_ble_eq_true rfl) [some (.ref s), some (.ref a), some (.null), none, none] rfl ?_
  refine g_blk [(.aload_n 0, .null)] (Nat.le_of_ble_eq_true rfl) (by decide +kernel) ?_
  refine gx_aload_n_0 ((gx_nil ?_))
  refine g_objInit wOIRJ0 wOI1 wOI2 (by decide +kernel) (by omega) (by decide) ?_
  refine g_blk [(.aload_n 1, .null)] (Nat.le_of_ble_eq_true rfl) (by decide +kernel) ?_
  refine gx_aload_n_1 ((gx_nil ?_))
  refine g_callU (rc' := 1) (rs' := 34) kJ0_552U (gC_pure (sb_getValue H)) (by decide +kernel) rfl rfl ha rfl (Nat.le_of_ble_eq_true rfl) (Nat.le_of_ble_eq_true rfl) (Nat.le_of_ble_eq_true rfl) (by omega) (by omega) rfl (fun _ _ z => z.elim) (fun v9 h5 hz => ?_)
  obtain ⟨rfl, e9⟩ := hz
  rw [e9]
  clear e9 h5
  simp only [Option.toList_some, Option.toList_none, List.cons_append, List.nil_append]
  refine g_blk [(.astore_n 3, .null), (.aload_n 1, .null)] (Nat.le_of_ble_eq_true rfl) (by decide +kernel) ?_
  refine gx_astore_n_3 rfl (gx_aload_n_1 ((gx_nil ?_)))
  refine g_callO (rc' := 1) (rs' := 34) kJ0_549O (gC_pure (sb_len H)) (by decide +kernel) rfl rfl ha rfl (Nat.le_of_ble_eq_true rfl) (Nat.le_of_ble_eq_true rfl) (Nat.le_of_ble_eq_true rfl) (by omega) (by omega) rfl (fun _ _ z => z.elim) (fun v9 h5 hz => ?_)
  obtain ⟨rfl, e9⟩ := hz
  rw [e9]
  clear e9 h5
  simp only [Option.toList_some, Option.toList_none, List.cons_append, List.nil_append]
  refine g_blk [(.istore 4, .null), (.aload_n 1, .null)] (Nat.le_of_ble_eq_true rfl) (by decide +kernel) ?_
  refine gx_istore_4 rfl (gx_aload_n_1 ((gx_nil ?_)))
  refine g_callU (rc' := 1) (rs' := 34) kJ0_1047U (gC_pure (sb_isLat hp ha)) (by decide +kernel) rfl rfl ha rfl (Nat.le_of_ble_eq_true rfl) (Nat.le_of_ble_eq_true rfl) (Nat.le_of_ble_eq_true rfl) (by omega) (by omega) rfl (fun _ _ z => z.elim) (fun v9 h5 hz => ?_)
  obtain ⟨rfl, e9⟩ := hz
  rw [e9]
  clear e9 h5
  simp only [Option.toList_some, Option.toList_none, List.cons_append, List.nil_append]
  refine g_if_eq (off := 22) (tgt := 41) (by decide +kernel) (by decide) (fun c19 => ?_) (fun c19 => ?_)
  · exact absurd c19 (by decide)
  · try simp only [bI_0, Decidable.not_not] at c19
    refine g_blk [(.aload_n 0, .null), (.iconst 0, .int (nI 0))] (Nat.le_of_ble_eq_true rfl) (by decide +kernel) ?_
    refine gx_aload_n_0 (gx_iconst ((gx_nil ?_)))
    refine g_putfF fJ0_15 fin0_1 rfl (by decide +kernel) hs (by simp) rfl rfl ?_
    have w1 : gUp h s (gJ 0 [.null, .int (nI 0), .int 0, .int 0]) s = some _ := gUp_s _ _ _
    have w2 : gUp h s (gJ 0 [.null, .int (nI 0), .int 0, .int 0]) v = some (gB Γ m f) := (gUp_n _ _ nsv).trans hv
    refine g_hp (h1 := gUp h s (gJ 0 [.null, .int (nI 0), .int 0, .int 0])) rfl ?_
    refine g_blk [(.aload_n 0, .null), (.aload_n 3, .null), (.iconst 0, .int (nI 0)), (.iload 4, .null)] (Nat.le_of_ble_eq_true rfl) (by decide +kernel) ?_
    refine gx_aload_n_0 (gx_aload_n_3 (gx_iconst (gx_iload_4 ((gx_nil ?_)))))
    refine g_callS (rc' := 0) (rs' := 0) kJ0_54 (ar_range w2 hfit hlen (by omega)) (by decide +kernel) rfl rfl (Nat.le_of_ble_eq_true rfl) (Nat.le_of_ble_eq_true rfl) (Nat.le_of_ble_eq_true rfl) (by omega) (by omega) rfl (fun _ _ z => z.elim) (fun v9 h5 hz => ?_)
    obtain ⟨q, rfl, hq, g, rfl, hg, hgf⟩ := hz
    simp only [Option.toList_some, Option.toList_none, List.cons_append, List.nil_append]
    have nsq : s ≠ q := fun z => by rw [← z, w1] at hq; cases hq
    refine g_putfF fJ0_9 fin0_0 rfl (by decide +kernel) ((gUp_n _ _ nsq).trans w1) (by simp) rfl rfl ?_
    refine g_blk [(.goto 59, .retAddr 97)] (Nat.le_of_ble_eq_true rfl) (by decide +kernel) ?_
    refine gx_goto ((gx_nil ?_))
    refine g_end none rfl ⟨by decide +kernel, rfl⟩ ?_
    refine ⟨rfl, q, (gUp_n _ _ nsq.symm).symm.trans hq, ⟨0, 0, g, gUp_s _ _ _, (gUp_n _ _ nsq.symm).trans (gUp_s _ _ _), fun i x hx => ?_, h8, hgf⟩, gK_up (gK_up (gK_up gKeep.rf (Or.inl rfl)) (Or.inr ((gUp_n _ _ nsq.symm).symm.trans hq))) (Or.inl rfl)⟩
    have hi := (List.getElem?_eq_some_iff.mp hx).1
    rw [hg i hi]
    exact hf i x hx
theorem st_make {d1 d10 : Nat} {vf : Value} (hp : gPsb Γ d1 d10 vf) {a v m : Nat} {xs : List Nat} (H : gSB Γ h a v m xs) {s : Nat} (h8 : ∀ x ∈ xs, x < 128) (hs : h s = some (gJ 0 [.null, .int 0, .int 0, .int 0])) : gC Γ M_J0_init_81219 [.ref s, .ref a] h 5 1 34 (fun r9 h' => r9 = none ∧ ∃ r, h r = none ∧ gSX Γ h' s r xs ∧ gKeep (fun z => z = s) h h') (fun _ _ => False) := by
  refine gC_of (by decide) rfl (Nat.le_of_ble_eq_true rfl) [some (.ref s), some (.ref a)] rfl ?_
  refine g_blk [(.aload_n 0, .null), (.aload_n 1, .null), (.aconst_null, .null)] (Nat.le_of_ble_eq_true rfl) (by decide +kernel) ?_
  refine gx_aload_n_0 (gx_aload_n_1 (gx_aconst_null ((gx_nil ?_))))
  refine g_callI (rc' := 0) (rs' := 0) kJ0_489 (st_make0 hp H h8 hs) (by decide +kernel) rfl rfl rfl (Nat.le_of_ble_eq_true rfl) (Nat.le_of_ble_eq_true rfl) (Nat.le_of_ble_eq_true rfl) (by omega) (by omega) rfl (fun _ _ z => z.elim) (fun v9 h5 hz => ?_)
  obtain ⟨rfl, hz⟩ := hz
  simp only [Option.toList_some, Option.toList_none, List.cons_append, List.nil_append]
  refine g_end none rfl ⟨by decide +kernel, rfl⟩ ?_
  exact ⟨rfl, hz⟩
set_option maxRecDepth 100000 in
theorem nJ4_18 : gNew RJ4 18 0 [.null, .int 0, .int 0, .int 0] := ⟨RJ0, TJ0, 4, tyJ0, rfl, inGJ0, (gIn (List.mem_of_getElem? (i := 1370) (by decide +kernel)) (by decide +kernel)), (gIn (List.mem_of_getElem? (i := 683) (by decide +kernel)) (by decide +kernel)), (gIn (List.mem_of_getElem? (i := 44) (by decide +kernel)) (by decide +kernel)), tyJ0_ok, by decide +kernel, rfl⟩
theorem sb_toString {d1 d10 : Nat} {vf : Value} (hp : gPsb Γ d1 d10 vf) {a v m : Nat} {xs : List Nat} (H : gSB Γ h a v m xs) (h8 : ∀ x ∈ xs, x < 128) : gC Γ M_J4_toString_0e30d [.ref a] h 6 2 38 (fun v9 h' => ∃ s r, v9 = some (.ref s) ∧ gSX Γ h' s r xs ∧ h s = none ∧ h r = none ∧ gAll h h') (fun _ _ => False) := by
  obtain ⟨ml, f, ha, hv, hf, hlen, hm, hav, hfit⟩ := id H
  refine gC_of (by decide) rfl (Nat.le_of_ble_eq_true rfl) [some (.ref a)] rfl ?_
  refine g_new nJ4_18 (rc' := 1) (rs' := 34) (by decide +kernel) (by omega) (by simp) (fun s hs => ?_)
  have nas : a ≠ s := fun z => by rw [z, hs] at ha; cases ha
  have nvs : v ≠ s := fun z => by rw [z, hs] at hv; cases hv
  have H1 : gSB Γ (gUp h s (gJ 0 [.null, .int 0, .int 0, .int 0])) a v m xs := ⟨ml, f, (gUp_n _ _ nas).trans ha, (gUp_n _ _ nvs).trans hv, hf, hlen, hm, hav, hfit⟩
  refine g_blk [(.dup, .null), (.aload_n 0, .null)] (Nat.le_of_ble_eq_true rfl) (by decide +kernel) ?_
  refine gx_dupr (gx_aload_n_0 ((gx_nil ?_)))
  refine g_callI (rc' := 0) (rs' := 0) kJ4_137 (st_make hp H1 h8 (gUp_s _ _ _)) (by decide +kernel) rfl rfl rfl (Nat.le_of_ble_eq_true rfl) (Nat.le_of_ble_eq_true rfl) (Nat.le_of_ble_eq_true rfl) (by omega) (by omega) rfl (fun _ _ z => z.elim) (fun v9 h5 hz => ?_)
  obtain ⟨rfl, r, hr, hx, kx⟩ := hz
  simp only [Option.toList_some, Option.toList_none, List.cons_append, List.nil_append]
  refine g_end (some (.ref _)) rfl ⟨by decide +kernel, _, rfl, Or.inl ⟨_, rfl⟩⟩ ?_
  exact ⟨s, r, rfl, hx, hs, gAll_no (gAll_up hs) hr, gAll_tr (gAll_up hs) kx (fun z y => by rw [y]; exact hs)⟩
theorem sx_coder {d1 d10 : Nat} {vf : Value} (hp : gPsb Γ d1 d10 vf) {s r : Nat} {ws : List Nat} {g : Nat → Int32} {y1 y2 : Int32} (hs1 : h s = some (gJ 0 [.ref r, .int (nI 0), .int y1, .int y2])) (hs2 : h r = some (gB Γ ws.length g)) : pC Γ M_J0_coder_7d493 [.ref s] h 0 (some (.int (nI 0))) := by
  refine pC_of (by decide) rfl (Nat.le_of_ble_eq_true rfl) [some (.ref s)] rfl ?_
  refine g_gets (o := _) hp.1 fzJ0_38 (Or.inl rfl) (by decide +kernel) ?_
  refine g_if_eq (off := 10) (tgt := 13) (by decide +kernel) (by decide) (fun c3 => ?_) (fun c3 => ?_)
  · exact absurd c3 (by decide)
  · try simp only [bI_0, Decidable.not_not] at c3
    refine g_blk [(.aload_n 0, .null)] (Nat.le_of_ble_eq_true rfl) (by decide +kernel) ?_
    refine gx_aload_n_0 ((gx_nil ?_))
    refine g_getf fJ0_15 (by decide +kernel) hs1 rfl ?_
    refine g_blk [(.goto 4, .retAddr 14)] (Nat.le_of_ble_eq_true rfl) (by decide +kernel) ?_
    refine gx_goto ((gx_nil ?_))
    refine g_end (some (.int _)) rfl ⟨by decide +kernel, _, rfl, rfl⟩ ⟨?_, rfl⟩
    rfl
theorem sx_len {d1 d10 : Nat} {vf : Value} (hp : gPsb Γ d1 d10 vf) {s r : Nat} {ws : List Nat} {g : Nat → Int32} {y1 y2 : Int32} (hs1 : h s = some (gJ 0 [.ref r, .int (nI 0), .int y1, .int y2])) (hs2 : h r = some (gB Γ ws.length g)) : pC Γ M_J0_length_8abf5 [.ref s] h 1 (some (.int (nI ws.length))) := by
  refine pC_of (by decide) rfl (Nat.le_of_ble_eq_true rfl) [some (.ref s)] rfl ?_
  refine g_blk [(.aload_n 0, .null)] (Nat.le_of_ble_eq_true rfl) (by decide +kernel) ?_
  refine gx_aload_n_0 ((gx_nil ?_))
  refine g_getf fJ0_9 (by decide +kernel) hs1 rfl ?_
  refine g_alen_b (by decide +kernel) hs2 ?_
  refine g_blk [(.aload_n 0, .null)] (Nat.le_of_ble_eq_true rfl) (by decide +kernel) ?_
  refine gx_aload_n_0 ((gx_nil ?_))
  refine g_callV (rc' := 0) (rs' := 0) kJ0_335 (gC_pure (sx_coder hp hs1 hs2)) (by decide +kernel) rfl rfl hs1 rfl (Nat.le_of_ble_eq_true rfl) (Nat.le_of_ble_eq_true rfl) (Nat.le_of_ble_eq_true rfl) (by omega) (by omega) rfl (fun _ _ z => z.elim) (fun v9 h5 hz => ?_)
  obtain ⟨rfl, e9⟩ := hz
  rw [e9]
  clear e9 h5
  simp only [Option.toList_some, Option.toList_none, List.cons_append, List.nil_append]
  rw [show nI 0 = (0 : Int32) by decide]
  refine g_blk [(.ishr, .null)] (Nat.le_of_ble_eq_true rfl) (by decide +kernel) ?_
  refine gx_ishr ((gx_nil ?_))
  try simp only [sb_shr0, sb_shl0]
  refine g_end (some (.int _)) rfl ⟨by decide +kernel, _, rfl, rfl⟩ ⟨?_, rfl⟩
  rfl
theorem sx_isLat {d1 d10 : Nat} {vf : Value} (hp : gPsb Γ d1 d10 vf) {s r : Nat} {ws : List Nat} {g : Nat → Int32} {y1 y2 : Int32} (hs1 : h s = some (gJ 0 [.ref r, .int (nI 0), .int y1, .int y2])) (hs2 : h r = some (gB Γ ws.length g)) : pC Γ M_J0_isLatin1_aae02 [.ref s] h 0 (some (.int (nI 1))) := by
  refine pC_of (by decide) rfl (Nat.le_of_ble_eq_true rfl) [some (.ref s)] rfl ?_
  refine g_gets (o := _) hp.1 fzJ0_38 (Or.inl rfl) (by decide +kernel) ?_
  refine g_if_eq (off := 14) (tgt := 17) (by decide +kernel) (by decide) (fun c3 => ?_) (fun c3 => ?_)
  · exact absurd c3 (by decide)
  · try simp only [bI_0, Decidable.not_not] at c3
    refine g_blk [(.aload_n 0, .null)] (Nat.le_of_ble_eq_true rfl) (by decide +kernel) ?_
    refine gx_aload_n_0 ((gx_nil ?_))
    refine g_getf fJ0_15 (by decide +kernel) hs1 rfl ?_
    refine g_if_ne (off := 7) (tgt := 17) (by decide +kernel) (by decide) (fun c10 => ?_) (fun c10 => ?_)
    · exact absurd (by decide) c10
    · try simp only [bI_0, Decidable.not_not] at c10
      refine g_blk [(.iconst 1, .int (nI 1)), (.goto 4, .retAddr 18)] (Nat.le_of_ble_eq_true rfl) (by decide +kernel) ?_
      refine gx_iconst (gx_goto ((gx_nil ?_)))
      refine g_end (some (.int _)) rfl ⟨by decide +kernel, _, rfl, by first | rfl | exact bI_nar _⟩ ⟨?_, rfl⟩
      rfl
theorem slx_charAt {d1 d10 : Nat} {vf : Value} (hp : gPsb Γ d1 d10 vf) {r n i x : Nat} {g : Nat → Int32} (hr : h r = some (gB Γ n g)) (hi : i < n) (hn : n ≤ 1000) (hx : g i = nI x) (hx8 : x < 128) : pC Γ M_J1_charAt_3b067 [.ref r, .int (nI i)] h 2 (some (.int (nI x))) := by
  refine pC_of (by decide) rfl (Nat.le_of_ble_eq_true rfl) [some (.ref r), some (.int (nI i))] rfl ?_
  refine g_blk [(.iload_n 1, .null), (.aload_n 0, .null)] (Nat.le_of_ble_eq_true rfl) (by decide +kernel) ?_
  refine gx_iload_n_1 (gx_aload_n_0 ((gx_nil ?_)))
  refine g_alen_b (by decide +kernel) hr ?_
  refine g_pS kJ1_9 (st_check hp hi (by omega)) (by decide +kernel) rfl rfl (Nat.le_of_ble_eq_true rfl) (Nat.le_of_ble_eq_true rfl) (Nat.le_of_ble_eq_true rfl) rfl ?_
  simp only [Option.toList_some, Option.toList_none, List.cons_append, List.nil_append]
  refine g_blk [(.aload_n 0, .null), (.iload_n 1, .null)] (Nat.le_of_ble_eq_true rfl) (by decide +kernel) ?_
  refine gx_aload_n_0 (gx_iload_n_1 ((gx_nil ?_)))
  refine g_baload (by decide +kernel) hr (vp_in_nI hi (by omega)) ?_
  simp only [nI_clamp (show i < 2 ^ 31 by omega), hx]
  refine g_blk [(.sipush 255, .int (nI 255)), (.iand, .null), (.i2c, .null)] (Nat.le_of_ble_eq_true rfl) (by decide +kernel) ?_
  refine gx_sipush (gx_iand (gx_i2c ((gx_nil ?_))))
  refine g_end (some (.int _)) rfl ⟨by decide +kernel, _, rfl, (by rw [nI_c2 hx8]; exact nar_c hx8)⟩ ⟨?_, rfl⟩
  rw [nI_c2 hx8]
theorem sx_charAt {d1 d10 : Nat} {vf : Value} (hp : gPsb Γ d1 d10 vf) {s r : Nat} {ws : List Nat} {g : Nat → Int32} {y1 y2 : Int32} (hs1 : h s = some (gJ 0 [.ref r, .int (nI 0), .int y1, .int y2])) (hs2 : h r = some (gB Γ ws.length g)) (hg : ∀ i x, ws[i]? = some x → g i = nI x) (hg8 : ∀ x ∈ ws, x < 128) {i x : Nat} (hx : ws[i]? = some x) (hl : ws.length ≤ 1000) : pC Γ M_J0_charAt_5068e [.ref s, .int (nI i)] h 3 (some (.int (nI x))) := by
  have hi := (List.getElem?_eq_some_iff.mp hx).1
  have hx8 := hg8 x (List.mem_of_getElem? hx)
  refine pC_of (by decide) rfl (Nat.le_of_ble_eq_true rfl) [some (.ref s), some (.int (nI i))] rfl ?_
  refine g_blk [(.aload_n 0, .null)] (Nat.le_of_ble_eq_true rfl) (by decide +kernel) ?_
  refine gx_aload_n_0 ((gx_nil ?_))
  refine g_callV (rc' := 0) (rs' := 0) kJ0_492 (gC_pure (sx_isLat hp hs1 hs2)) (by decide +kernel) rfl rfl hs1 rfl (Nat.le_of_ble_eq_true rfl) (Nat.le_of_ble_eq_true rfl) (Nat.le_of_ble_eq_true rfl) (by omega) (by omega) rfl (fun _ _ z => z.elim) (fun v9 h5 hz => ?_)
  obtain ⟨rfl, e9⟩ := hz
  rw [e9]
  clear e9 h5
  simp only [Option.toList_some, Option.toList_none, List.cons_append, List.nil_append]
  refine g_if_eq (off := 12) (tgt := 16) (by decide +kernel) (by decide) (fun c4 => ?_) (fun c4 => ?_)
  · exact absurd c4 (by decide)
  · try simp only [bI_0, Decidable.not_not] at c4
    refine g_blk [(.aload_n 0, .null)] (Nat.le_of_ble_eq_true rfl) (by decide +kernel) ?_
    refine gx_aload_n_0 ((gx_nil ?_))
    refine g_getf fJ0_9 (by decide +kernel) hs1 rfl ?_
    refine g_blk [(.iload_n 1, .null)] (Nat.le_of_ble_eq_true rfl) (by decide +kernel) ?_
    refine gx_iload_n_1 ((gx_nil ?_))
    refine g_pS kJ0_495 (slx_charAt hp hs2 hi hl (hg i x hx) hx8) (by decide +kernel) rfl rfl (Nat.le_of_ble_eq_true rfl) (Nat.le_of_ble_eq_true rfl) (Nat.le_of_ble_eq_true rfl) rfl ?_
    try simp only [Option.toList_some, Option.toList_none, List.cons_append, List.nil_append, bI_0, n1_0, n0_0, Decidable.not_not, not_true_eq_false, not_false_eq_true, nI_add, Nat.add_zero, Nat.zero_add, Nat.reduceAdd]
    refine g_end (some (.int _)) rfl ⟨by decide +kernel, _, rfl, nar_c hx8⟩ ⟨?_, rfl⟩
    rfl
theorem sx_getBytes {d1 d10 : Nat} {vf : Value} (hp : gPsb Γ d1 d10 vf) {s r : Nat} {ws : List Nat} {g : Nat → Int32} {y1 y2 : Int32} (hs1 : h s = some (gJ 0 [.ref r, .int (nI 0), .int y1, .int y2])) (hs2 : h r = some (gB Γ ws.length g)) (hgf : ∀ i, fits .byte (.int (g i)) = true) {v m L : Nat} {f : Nat → Int32} (hv : h v = some (gB Γ m f)) (hL : L + ws.length ≤ m) (hm : m ≤ 64) : gC Γ M_J0_getBytes_840e7 [.ref s, .ref v, .int (nI L), .int 0] h 1 0 0 (fun r9 h' => r9 = none ∧ h' = gUp h v (gB Γ m (va_cpy g f 0 L ws.length))) (fun _ _ => False) := by
  refine gC_of (by decide) rfl (Nat.le_of_ble_eq_true rfl) [some (.ref s), some (.ref v), some (.int (nI L)), some (.int 0)] rfl ?_
  refine g_blk [(.aload_n 0, .null)] (Nat.le_of_ble_eq_true rfl) (by decide +kernel) ?_
  refine gx_aload_n_0 ((gx_nil ?_))
  refine g_callV (rc' := 0) (rs' := 0) kJ0_335 (gC_pure (sx_coder hp hs1 hs2)) (by decide +kernel) rfl rfl hs1 rfl (Nat.le_of_ble_eq_true rfl) (Nat.le_of_ble_eq_true rfl) (Nat.le_of_ble_eq_true rfl) (by omega) (by omega) rfl (fun _ _ z => z.elim) (fun v9 h5 hz => ?_)
  obtain ⟨rfl, e9⟩ := hz
  rw [e9]
  clear e9 h5
  simp only [Option.toList_some, Option.toList_none, List.cons_append, List.nil_append]
  refine g_blk [(.iload_n 3, .null)] (Nat.le_of_ble_eq_true rfl) (by decide +kernel) ?_
  refine gx_iload_n_3 ((gx_nil ?_))
  refine g_icmp_ne (off := 23) (tgt := 28) (by decide +kernel) (by decide) (fun c5 => ?_) (fun c5 => ?_)
  · try simp only [bI_0, Decidable.not_not] at c5
    exact absurd rfl c5
  · try simp only [bI_0, Decidable.not_not] at c5
    refine g_blk [(.aload_n 0, .null)] (Nat.le_of_ble_eq_true rfl) (by decide +kernel) ?_
    refine gx_aload_n_0 ((gx_nil ?_))
    refine g_getf fJ0_9 (by decide +kernel) hs1 rfl ?_
    refine g_blk [(.iconst 0, .int (nI 0)), (.aload_n 1, .null), (.iload_n 2, .null), (.iload_n 3, .null), (.ishl, .null), (.aload_n 0, .null)] (Nat.le_of_ble_eq_true rfl) (by decide +kernel) ?_
    refine gx_iconst (gx_aload_n_1 (gx_iload_n_2 (gx_iload_n_3 (gx_ishl (gx_aload_n_0 ((gx_nil ?_)))))))
    try simp only [sb_shr0, sb_shl0]
    refine g_getf fJ0_9 (by decide +kernel) hs1 rfl ?_
    refine g_alen_b (by decide +kernel) hs2 ?_
    rw [show Int32.ofNat ws.length = nI ws.length from rfl]
    refine g_copyb (by decide +kernel) wCPst hs2 hv (by decide) (nI_pos (by omega)) (nI_pos (by omega)) (by rw [nI_clamp (n := ws.length) (by omega), nI_clamp (n := 0) (by decide)]; omega) (by rw [nI_clamp (n := ws.length) (by omega), nI_clamp (n := L) (by omega)]; exact hL) (fun i _ => hgf _) (by omega) (by decide) ?_
    rw [nI_clamp (n := 0) (by decide), nI_clamp (n := L) (by omega), nI_clamp (n := ws.length) (by omega)]
    refine g_blk [(.goto 18, .retAddr 43)] (Nat.le_of_ble_eq_true rfl) (by decide +kernel) ?_
    refine gx_goto ((gx_nil ?_))
    refine g_end none rfl ⟨by decide +kernel, rfl⟩ ?_
    exact ⟨rfl, rfl⟩
theorem sx_infl {d1 d10 : Nat} {vf : Value} (hp : gPsb Γ d1 d10 vf) {s r : Nat} {ws : List Nat} {g : Nat → Int32} {y1 y2 : Int32} (hs1 : h s = some (gJ 0 [.ref r, .int (nI 0), .int y1, .int y2])) (hs2 : h r = some (gB Γ ws.length g)) {a v : Nat} {ml n : Int32} (ha : h a = some (gJ 1 [.ref v, .int 0, .int ml, .int n])) : pC Γ M_J5_inflateIfNeededFor_a7421 [.ref a, .ref s] h 1 (none) := by
  refine pC_of (by decide) rfl (Nat.le_of_ble_eq_true rfl) [some (.ref a), some (.ref s)] rfl ?_
  refine g_gets (o := _) hp.1 fzJ5_18 (Or.inl rfl) (by decide +kernel) ?_
  refine g_if_eq (off := 18) (tgt := 21) (by decide +kernel) (by decide) (fun c3 => ?_) (fun c3 => ?_)
  · exact absurd c3 (by decide)
  · try simp only [bI_0, Decidable.not_not] at c3
    refine g_blk [(.aload_n 0, .null)] (Nat.le_of_ble_eq_true rfl) (by decide +kernel) ?_
    refine gx_aload_n_0 ((gx_nil ?_))
    refine g_getf fJ5_22 (by decide +kernel) ha rfl ?_
    refine g_blk [(.aload_n 1, .null)] (Nat.le_of_ble_eq_true rfl) (by decide +kernel) ?_
    refine gx_aload_n_1 ((gx_nil ?_))
    refine g_callV (rc' := 0) (rs' := 0) kJ5_40 (gC_pure (sx_coder hp hs1 hs2)) (by decide +kernel) rfl rfl hs1 rfl (Nat.le_of_ble_eq_true rfl) (Nat.le_of_ble_eq_true rfl) (Nat.le_of_ble_eq_true rfl) (by omega) (by omega) rfl (fun _ _ z => z.elim) (fun v9 h5 hz => ?_)
    obtain ⟨rfl, e9⟩ := hz
    rw [e9]
    clear e9 h5
    simp only [Option.toList_some, Option.toList_none, List.cons_append, List.nil_append]
    refine g_icmp_eq (off := 7) (tgt := 21) (by decide +kernel) (by decide) (fun c14 => ?_) (fun c14 => ?_)
    · try simp only [bI_0, Decidable.not_not] at c14
      refine g_end none rfl ⟨by decide +kernel, rfl⟩ ⟨?_, rfl⟩
      rfl
    · try simp only [bI_0, Decidable.not_not] at c14
      exact absurd rfl c14
theorem sx_putAt {d1 d10 : Nat} {vf : Value} (hp : gPsb Γ d1 d10 vf) {s r : Nat} {ws : List Nat} {g : Nat → Int32} {y1 y2 : Int32} (hs1 : h s = some (gJ 0 [.ref r, .int (nI 0), .int y1, .int y2])) (hs2 : h r = some (gB Γ ws.length g)) (hgf : ∀ i, fits .byte (.int (g i)) = true) {a v m L : Nat} {ml n : Int32} {f : Nat → Int32} (ha : h a = some (gJ 1 [.ref v, .int 0, .int ml, .int n])) (hv : h v = some (gB Γ m f)) (hL : L + ws.length ≤ m) (hm : m ≤ 64) : gC Γ M_J5_putStringAt_47b60 [.ref a, .int (nI L), .ref s] h 2 0 0 (fun r9 h' => r9 = none ∧ h' = gUp h v (gB Γ m (va_cpy g f 0 L ws.length))) (fun _ _ => False) := by
  refine gC_of (by decide) rfl (Nat.le_of_ble_eq_true rfl) [some (.ref a), some (.int (nI L)), some (.ref s)] rfl ?_
  refine g_blk [(.aload_n 0, .null), (.aload_n 2, .null)] (Nat.le_of_ble_eq_true rfl) (by decide +kernel) ?_
  refine gx_aload_n_0 (gx_aload_n_2 ((gx_nil ?_)))
  refine g_callUp (rc' := 0) (rs' := 0) kJ5_397 (hp.2.2.2.2.2.2.2 _ (by simp [pvy])) (gC_pure (sx_infl hp hs1 hs2 ha)) (by decide +kernel) rfl rfl ha rfl (Nat.le_of_ble_eq_true rfl) (Nat.le_of_ble_eq_true rfl) (Nat.le_of_ble_eq_true rfl) (by omega) (by omega) rfl (fun _ _ z => z.elim) (fun v9 h5 hz => ?_)
  obtain ⟨rfl, e9⟩ := hz
  rw [e9]
  clear e9 h5
  simp only [Option.toList_some, Option.toList_none, List.cons_append, List.nil_append]
  refine g_blk [(.aload_n 2, .null), (.aload_n 0, .null)] (Nat.le_of_ble_eq_true rfl) (by decide +kernel) ?_
  refine gx_aload_n_2 (gx_aload_n_0 ((gx_nil ?_)))
  refine g_getf fJ5_15 (by decide +kernel) ha rfl ?_
  refine g_blk [(.iload_n 1, .null), (.aload_n 0, .null)] (Nat.le_of_ble_eq_true rfl) (by decide +kernel) ?_
  refine gx_iload_n_1 (gx_aload_n_0 ((gx_nil ?_)))
  refine g_getf fJ5_22 (by decide +kernel) ha rfl ?_
  refine g_callV (rc' := 0) (rs' := 0) kJ5_399 (sx_getBytes hp hs1 hs2 hgf hv hL hm) (by decide +kernel) rfl rfl hs1 rfl (Nat.le_of_ble_eq_true rfl) (Nat.le_of_ble_eq_true rfl) (Nat.le_of_ble_eq_true rfl) (by omega) (by omega) rfl (fun _ _ z => z.elim) (fun v9 h5 hz => ?_)
  obtain ⟨rfl, rfl⟩ := hz
  simp only [Option.toList_some, Option.toList_none, List.cons_append, List.nil_append]
  refine g_end none rfl ⟨by decide +kernel, rfl⟩ ?_
  exact ⟨rfl, rfl⟩
theorem sx_appS0 {d1 d10 : Nat} {vf : Value} (hp : gPsb Γ d1 d10 vf) {a v m : Nat} {xs : List Nat} (H : gSB Γ h a v m xs) {s r : Nat} {ws : List Nat} (hs : gSX Γ h s r ws) (nrv : r ≠ v) (hl : xs.length + ws.length ≤ 34) : gC Γ M_J5_append_cf1ce [.ref a, .ref s] h 4 1 34 (sbZ Γ h a v (some (.ref a)) (xs ++ ws)) (fun _ _ => False) := by
  obtain ⟨ml, f, ha, hv, hf, hlen, hm, hav, hfit⟩ := id H
  obtain ⟨y1, y2, g, hs1, hs2, hg, hg8, hgf⟩ := hs
  have nsa : ¬ s = a := fun z => by rw [z, ha] at hs1; cases hs1
  have nsv : ¬ s = v := fun z => by rw [z, hv] at hs1; cases hs1
  have nra : ¬ r = a := fun z => by rw [z, ha] at hs2; cases hs2
  refine gC_of (by decide) rfl (Nat.le_of_ble_eq_true rfl) [some (.ref a), some (.ref s), none] rfl ?_
  refine g_blk [(.aload_n 1, .null)] (Nat.le_of_ble_eq_true rfl) (by decide +kernel) ?_
  refine gx_aload_n_1 ((gx_nil ?_))
  refine g_ifnonnull (off := 8) (tgt := 9) (by decide +kernel) (by decide) ?_
  refine g_blk [(.aload_n 1, .null)] (Nat.le_of_ble_eq_true rfl) (by decide +kernel) ?_
  refine gx_aload_n_1 ((gx_nil ?_))
  refine g_callV (rc' := 1) (rs' := 34) kJ5_32 (gC_pure (sx_len hp hs1 hs2)) (by decide +kernel) rfl rfl hs1 rfl (Nat.le_of_ble_eq_true rfl) (Nat.le_of_ble_eq_true rfl) (Nat.le_of_ble_eq_true rfl) (by omega) (by omega) rfl (fun _ _ z => z.elim) (fun v9 h5 hz => ?_)
  obtain ⟨rfl, e9⟩ := hz
  rw [e9]
  clear e9 h5
  simp only [Option.toList_some, Option.toList_none, List.cons_append, List.nil_append]
  refine g_blk [(.istore_n 2, .null), (.aload_n 0, .null), (.aload_n 0, .null)] (Nat.le_of_ble_eq_true rfl) (by decide +kernel) ?_
  refine gx_istore_n_2 rfl (gx_aload_n_0 (gx_aload_n_0 ((gx_nil ?_))))
  refine g_getf fJ5_79 (by decide +kernel) ha rfl ?_
  refine g_blk [(.iload_n 2, .null), (.iadd, .null)] (Nat.le_of_ble_eq_true rfl) (by decide +kernel) ?_
  refine gx_iload_n_2 (gx_iadd ((gx_nil ?_)))
  try simp only [nI_add, Nat.add_zero, Nat.zero_add, Nat.reduceAdd]
  refine g_callUp (rc' := 0) (rs' := 0) kJ5_100 (hp.2.2.2.2.2.2.2 _ (by simp [pvy])) (sb_ens hp H (q := xs.length + ws.length) (by omega)) (by decide +kernel) rfl rfl ha rfl (Nat.le_of_ble_eq_true rfl) (Nat.le_of_ble_eq_true rfl) (Nat.le_of_ble_eq_true rfl) (by omega) (by omega) rfl (fun _ _ z => z.elim) (fun v9 h5 hz => ?_)
  obtain ⟨rfl, v5, m5, H5, hq5, hv5, k5, ex5⟩ := hz
  obtain ⟨ml5, f5, ha5, hb5, hf5, hlen5, hm5, hav5, hfit5⟩ := id H5
  have ks1 := k5 s _ (fun z => z.elim nsa nsv) hs1
  have ks2 := k5 r _ (fun z => z.elim nra nrv) hs2
  simp only [Option.toList_some, Option.toList_none, List.cons_append, List.nil_append]
  refine g_blk [(.aload_n 0, .null), (.aload_n 0, .null)] (Nat.le_of_ble_eq_true rfl) (by decide +kernel) ?_
  refine gx_aload_n_0 (gx_aload_n_0 ((gx_nil ?_)))
  refine g_getf fJ5_79 (by decide +kernel) ha5 rfl ?_
  refine g_blk [(.aload_n 1, .null)] (Nat.le_of_ble_eq_true rfl) (by decide +kernel) ?_
  refine gx_aload_n_1 ((gx_nil ?_))
  refine g_callUp (rc' := 0) (rs' := 0) kJ5_208 (hp.2.2.2.2.2.2.2 _ (by simp [pvy])) (sx_putAt hp ks1 ks2 hgf ha5 hb5 (L := xs.length) hq5 (by omega)) (by decide +kernel) rfl rfl ha5 rfl (Nat.le_of_ble_eq_true rfl) (Nat.le_of_ble_eq_true rfl) (Nat.le_of_ble_eq_true rfl) (by omega) (by omega) rfl (fun _ _ z => z.elim) (fun v9 h6 hz => ?_)
  obtain ⟨rfl, rfl⟩ := hz
  have ha6 := (gUp_n (h := h5) (a := v5) (gB Γ m5 (va_cpy g f5 0 xs.length ws.length)) hav5).trans ha5
  simp only [Option.toList_some, Option.toList_none, List.cons_append, List.nil_append]
  refine g_blk [(.aload_n 0, .null), (.dup, .null)] (Nat.le_of_ble_eq_true rfl) (by decide +kernel) ?_
  refine gx_aload_n_0 (gx_dupr ((gx_nil ?_)))
  refine g_getf fJ5_79 (by decide +kernel) ha6 rfl ?_
  refine g_blk [(.iload_n 2, .null), (.iadd, .null)] (Nat.le_of_ble_eq_true rfl) (by decide +kernel) ?_
  refine gx_iload_n_2 (gx_iadd ((gx_nil ?_)))
  try simp only [nI_add, Nat.add_zero, Nat.zero_add, Nat.reduceAdd]
  refine g_putf fJ5_79 (by decide +kernel) ha6 (by simp) rfl rfl ?_
  refine g_blk [(.aload_n 0, .null)] (Nat.le_of_ble_eq_true rfl) (by decide +kernel) ?_
  refine gx_aload_n_0 ((gx_nil ?_))
  refine g_end (some (.ref _)) rfl ⟨by decide +kernel, _, rfl, Or.inl ⟨_, rfl⟩⟩ ?_
  refine ⟨rfl, v5, m5, gSB_put (ml := ml5) (f := va_cpy g f5 0 xs.length ws.length) (by rw [List.length_append]; exact gUp_s _ _ _) ((gUp_n _ _ hav5.symm).trans (gUp_s _ _ _)) (fun i x hx => ?_) (fun i x hx => ?_) (by rw [List.length_append]; exact hq5) hm5 hav5 (sb_fitC hgf hfit5), hv5, gK_up (gK_up k5 ?_) (Or.inl (Or.inl rfl)), gUp_ex (gUp_ex ex5)⟩
  · have hi := (List.getElem?_eq_some_iff.mp hx).1
    rw [pk_cpy_out (by omega)]; exact hf5 i x hx
  · have hi := (List.getElem?_eq_some_iff.mp hx).1
    rw [pk_cpy_in (by omega) (by omega), show 0 + (xs.length + i - xs.length) = i by omega]
    exact hg i x hx
  · rcases hv5 with z | z
    · exact Or.inl (Or.inr z)
    · exact Or.inr z
theorem sx_appS {d1 d10 : Nat} {vf : Value} (hp : gPsb Γ d1 d10 vf) {a v m : Nat} {xs : List Nat} (H : gSB Γ h a v m xs) {s r : Nat} {ws : List Nat} (hs : gSX Γ h s r ws) (nrv : r ≠ v) (hl : xs.length + ws.length ≤ 34) : gC Γ M_J4_append_15ec4 [.ref a, .ref s] h 5 1 34 (sbZ Γ h a v (some (.ref a)) (xs ++ ws)) (fun _ _ => False) := by
  obtain ⟨ml, f, ha, hv, hf, hlen, hm, hav, hfit⟩ := id H
  refine gC_of (by decide) rfl (Nat.le_of_ble_eq_true rfl) [some (.ref a), some (.ref s)] rfl ?_
  refine g_blk [(.aload_n 0, .null), (.aload_n 1, .null)] (Nat.le_of_ble_eq_true rfl) (by decide +kernel) ?_
  refine gx_aload_n_0 (gx_aload_n_1 ((gx_nil ?_)))
  refine g_callSU (rc' := 0) (rs' := 0) kJ4_29 (sx_appS0 hp H hs nrv hl) (by decide +kernel) rfl rfl ha rfl (Nat.le_of_ble_eq_true rfl) (Nat.le_of_ble_eq_true rfl) (Nat.le_of_ble_eq_true rfl) (by omega) (by omega) rfl (fun _ _ z => z.elim) (fun v9 h5 hz => ?_)
  obtain ⟨rfl, hz⟩ := hz
  simp only [Option.toList_some, Option.toList_none, List.cons_append, List.nil_append]
  refine g_blk [(.pop, .null), (.aload_n 0, .null)] (Nat.le_of_ble_eq_true rfl) (by decide +kernel) ?_
  refine gx_popr (gx_aload_n_0 ((gx_nil ?_)))
  refine g_end (some (.ref _)) rfl ⟨by decide +kernel, _, rfl, Or.inl ⟨_, rfl⟩⟩ ?_
  exact ⟨rfl, hz⟩
end GSs
