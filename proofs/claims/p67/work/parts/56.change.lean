/-! WHAT CHANGES AN OFFICE: letters, bags, hours -/
section GMu
variable {Γ : gE} {de : Nat} {h : gHp}
theorem gUp_gUp {h : gHp} {a : Nat} {x y : va_E} : gUp (gUp h a x) a y = gUp h a y := by
  funext z
  by_cases e : z = a
  · rw [e, gUp_s, gUp_s]
  · rw [gUp_n _ _ e, gUp_n _ _ e, gUp_n _ _ e]
theorem le_moveToBag {a : Nat} {x0 x1 x2 x3 x4 x5 x6 : Int32} (ha : h a = some (gJ 6 [.int x0, .int x1, .int x2, .int x3, .int x4, .int x5, .int x6])) (r b : Int32) : gC Γ M_X3_moveToBag [.ref a, .int r, .int b] h 0 0 0 (fun v h' => v = none ∧ h' = gUp h a (gJ 6 [.int x0, .int x1, .int x2, .int x3, .int x4, .int r, .int b])) (fun _ _ => False) := by
  refine gC_of (by decide) rfl (Nat.le_of_ble_eq_true rfl) [some (.ref a), some (.int r), some (.int b)] rfl ?_
  refine g_blk [(.aload_n 0, .null), (.iload_n 1, .null)] (Nat.le_of_ble_eq_true rfl) (by decide +kernel) ?_
  refine gx_aload_n_0 (gx_iload_n_1 ((gx_nil ?_)))
  refine g_putf fX3_15 (by decide +kernel) ha (by simp) rfl rfl ?_
  refine g_blk [(.aload_n 0, .null), (.iload_n 2, .null)] (Nat.le_of_ble_eq_true rfl) (by decide +kernel) ?_
  refine gx_aload_n_0 (gx_iload_n_2 ((gx_nil ?_)))
  refine g_putf fX3_18 (by decide +kernel) (gUp_s _ _ _) (by simp) rfl rfl ?_
  refine g_end none rfl ⟨by decide +kernel, rfl⟩ ?_
  exact ⟨rfl, gUp_gUp⟩
theorem le_moveToTray {a : Nat} {x0 x1 x2 x3 x4 x5 x6 : Int32} (ha : h a = some (gJ 6 [.int x0, .int x1, .int x2, .int x3, .int x4, .int x5, .int x6])) : gC Γ M_X3_moveToTray [.ref a] h 0 0 0 (fun v h' => v = none ∧ h' = gUp h a (gJ 6 [.int x0, .int x1, .int x2, .int x3, .int x4, .int (-1), .int (-1)])) (fun _ _ => False) := by
  refine gC_of (by decide) rfl (Nat.le_of_ble_eq_true rfl) [some (.ref a)] rfl ?_
  refine g_blk [(.aload_n 0, .null), (.iconst (-1), .int (-1))] (Nat.le_of_ble_eq_true rfl) (by decide +kernel) ?_
  refine gx_aload_n_0 (gx_iconst ((gx_nil ?_)))
  refine g_putf fX3_15 (by decide +kernel) ha (by simp) rfl rfl ?_
  refine g_blk [(.aload_n 0, .null), (.iconst (-1), .int (-1))] (Nat.le_of_ble_eq_true rfl) (by decide +kernel) ?_
  refine gx_aload_n_0 (gx_iconst ((gx_nil ?_)))
  refine g_putf fX3_18 (by decide +kernel) (gUp_s _ _ _) (by simp) rfl rfl ?_
  refine g_end none rfl ⟨by decide +kernel, rfl⟩ ?_
  exact ⟨rfl, gUp_gUp⟩
theorem le_comeBack {a : Nat} {x0 x1 x2 x3 x4 x5 x6 : Int32} (ha : h a = some (gJ 6 [.int x0, .int x1, .int x2, .int x3, .int x4, .int x5, .int x6])) : gC Γ M_X3_comeBack [.ref a] h 1 0 0 (fun v h' => v = none ∧ h' = gUp h a (gJ 6 [.int x0, .int x1, .int x2, .int x3, .int (x4 + nI 1), .int (-1), .int (-1)])) (fun _ _ => False) := by
  refine gC_of (by decide) rfl (Nat.le_of_ble_eq_true rfl) [some (.ref a)] rfl ?_
  refine g_blk [(.aload_n 0, .null), (.dup, .null)] (Nat.le_of_ble_eq_true rfl) (by decide +kernel) ?_
  refine gx_aload_n_0 (gx_dupr ((gx_nil ?_)))
  refine g_getf fX3_9 (by decide +kernel) ha rfl ?_
  refine g_blk [(.iconst 1, .int (nI 1)), (.iadd, .null)] (Nat.le_of_ble_eq_true rfl) (by decide +kernel) ?_
  refine gx_iconst (gx_iadd ((gx_nil ?_)))
  refine g_putf fX3_9 (by decide +kernel) ha (by simp) rfl rfl ?_
  refine g_blk [(.aload_n 0, .null)] (Nat.le_of_ble_eq_true rfl) (by decide +kernel) ?_
  refine gx_aload_n_0 ((gx_nil ?_))
  refine g_callV (rc' := 0) (rs' := 0) kX3_37 (le_moveToTray (x4 := x4 + nI 1) (gUp_s _ _ _)) (by decide +kernel) rfl rfl (gUp_s _ _ _) rfl (Nat.le_of_ble_eq_true rfl) (Nat.le_of_ble_eq_true rfl) (Nat.le_of_ble_eq_true rfl) (by omega) (by omega) rfl (fun _ _ z => z.elim) (fun v9 h5 hz => ?_)
  obtain ⟨rfl, rfl⟩ := hz
  simp only [Option.toList_some, Option.toList_none, List.cons_append, List.nil_append]
  refine g_end none rfl ⟨by decide +kernel, rfl⟩ ?_
  exact ⟨rfl, gUp_gUp⟩
def puZ (Γ : gE) (de : Nat) (h : gHp) (o : Nat) (N : Nat → Int32) (c t la ta ca da ba pa ep : Nat) (fl fq ls ps : List Nat) (i : Nat) (rt : Int32) : Option Value → gHp → Prop := fun v h' => (gBf N i rt c = -1 ∧ v = some (.int (-4)) ∧ h' = h) ∨ (¬ gBf N i rt c = -1 ∧ v = some (.int (gBf N i rt c)) ∧ gOx Γ de h' o (rInto N i rt c (rOp N rt)) c t la ta ca da ba pa ep fl fq ls ps ∧ gKeep (fun q => q ∈ gFp o ta ca da ba fl fq ls) h h')
theorem rBag_le {N : Nat → Int32} {rt w : Int32} {c b : Nat} (hb : b ≤ 3) (h : ¬ rBag N rt w c b = -1) : ∃ k, k ≤ b ∧ k ≤ 2 ∧ rBag N rt w c b = nI k := by
  obtain ⟨k, hk, e⟩ := rBag_in hb h
  refine ⟨k, ?_, hk, e⟩
  unfold rBag at e
  split at e
  · next i hi =>
    have key : ∀ (p : Nat → Bool) (b i : Nat), rFst p b = some i → i < b := by
      intro p b
      induction b with
      | zero => intro i h; cases h
      | succ b ih =>
        intro i h
        unfold rFst at h
        split at h
        · next k hk => cases h; exact Nat.lt_succ_of_lt (ih i hk)
        · split at h
          · cases h; exact Nat.lt_succ_self _
          · cases h
    have h1 := key _ _ _ hi
    have : i = k := (nI_eq (by omega) (by omega)).mp e
    omega
  · split at e
    · have : b = k := (nI_eq (by omega) (by omega)).mp e
      omega
    · exact absurd e.symm (nI_nm1 (by omega))
theorem memS {o ta ca da ba : Nat} {fl fq ls : List Nat} {a : Nat} (h : a ∈ ls) : a ∈ gFp o ta ca da ba fl fq ls := by unfold gFp; simp [h]
theorem memB {o ta ca da ba : Nat} {fl fq ls : List Nat} : ba ∈ gFp o ta ca da ba fl fq ls := by unfold gFp; simp
theorem memC {o ta ca da ba : Nat} {fl fq ls : List Nat} : ca ∈ gFp o ta ca da ba fl fq ls := by unfold gFp; simp
theorem memD {o ta ca da ba : Nat} {fl fq ls : List Nat} : da ∈ gFp o ta ca da ba fl fq ls := by unfold gFp; simp
theorem memO {o ta ca da ba : Nat} {fl fq ls : List Nat} : o ∈ gFp o ta ca da ba fl fq ls := by unfold gFp; simp
theorem of_put {o c t la ta ca da ba pa ep : Nat} {fl fq ls ps : List Nat} {N : Nat → Int32} (H : gOx Γ de h o N c t la ta ca da ba pa ep fl fq ls ps) (nd : (gFp o ta ca da ba fl fq ls).Nodup) (hc : c ≤ 20) (ht : t ≤ 12) (hv : rPv N t) (hw : rLv1 N c) (hOK : rOK N) {i a : Nat} (hx9 : ls[i]? = some a) (rt : Int32) : gC Γ M_X4_put [.ref o, .ref a, .int rt] h 5 0 0 (puZ Γ de h o N c t la ta ca da ba pa ep fl fq ls ps i rt) (fun _ _ => False) := by
  have H0 := H
  obtain ⟨ho, HL, hlc, hls, hta, HP, hpc, hps, hep, ⟨fc, hca, hfc⟩, ⟨fd, hda, hfd⟩, ⟨fb, hba, hfb⟩⟩ := H0
  have hic : i < c := by rw [← hlc]; exact (List.getElem?_eq_some_iff.mp hx9).1
  have hl9 := hls i a hx9
  obtain ⟨m, cd, w, pr, q, em, hm, ec, hcd, ew, hw1, hw2, ep', hpr, eq, hq, eA⟩ := hw i hic
  have hop := hOK.get rt
  have hx5 := rIx_le rt
  refine gC_of (by decide) rfl (Nat.le_of_ble_eq_true rfl) [some (.ref o), some (.ref a), some (.int rt), none] rfl ?_
  refine g_blk [(.aload_n 0, .null), (.aload_n 1, .null), (.iload_n 2, .null)] (Nat.le_of_ble_eq_true rfl) (by decide +kernel) ?_
  refine gx_aload_n_0 (gx_aload_n_1 (gx_iload_n_2 ((gx_nil ?_))))
  refine g_pV kX4_119 (of_bagFor H hc ht hv hw hOK hx9 rt) (by decide +kernel) rfl rfl ho rfl (Nat.le_of_ble_eq_true rfl) (Nat.le_of_ble_eq_true rfl) (Nat.le_of_ble_eq_true rfl) rfl ?_
  try simp only [Option.toList_some, Option.toList_none, List.cons_append, List.nil_append, bI_0, n1_0, n0_0, Decidable.not_not, not_true_eq_false, not_false_eq_true]
  refine g_blk [(.istore_n 3, .null), (.iload_n 3, .null), (.iconst (-1), .int (-1))] (Nat.le_of_ble_eq_true rfl) (by decide +kernel) ?_
  refine gx_istore_n_3 rfl (gx_iload_n_3 (gx_iconst ((gx_nil ?_))))
  refine g_icmp_eq (off := 10) (tgt := 19) (by decide +kernel) (by decide) (fun c9 => ?_) (fun c9 => ?_)
  · try simp only [bI_0, Decidable.not_not] at c9
    refine g_blk [(.bipush (-4), .int (-4))] (Nat.le_of_ble_eq_true rfl) (by decide +kernel) ?_
    refine gx_bipush ((gx_nil ?_))
    refine g_end (some (.int _)) rfl ⟨by decide +kernel, _, rfl, rfl⟩ ?_
    exact Or.inl ⟨c9, rfl, rfl⟩
  · try simp only [bI_0, Decidable.not_not] at c9
    have hgo := gBf_ne.mp c9
    have hgd := of_decide_eq_true hgo
    have hbe : gBf N i rt c = rBag N rt (N (62 + 7 * i + 2)) c (rOp N rt) := if_pos hgo
    obtain ⟨k, hkb, hk2, ek⟩ := rBag_le hop.1 hgd.2.2.2
    obtain ⟨r5, hr5, er5⟩ : ∃ r, r < 6 ∧ rt = nI r := ⟨rIx rt, (r5_lt hgd.2.1).2, (r5_lt hgd.2.1).1⟩
    have hcl : rt.toNatClampNeg = r5 := by rw [er5, nI_clamp (by omega)]
    have hix5 : rIx rt = r5 := by rw [er5, rIx_nI (by omega)]
    refine g_blk [(.iload_n 2, .null)] (Nat.le_of_ble_eq_true rfl) (by decide +kernel) ?_
    refine gx_iload_n_2 ((gx_nil ?_))
    refine g_pSN kX4_95 (pc_isRoute _) (by decide +kernel) rfl rfl (Nat.le_of_ble_eq_true rfl) (Nat.le_of_ble_eq_true rfl) (Nat.le_of_ble_eq_true rfl) rfl ?_
    try simp only [Option.toList_some, Option.toList_none, List.cons_append, List.nil_append, bI_0, n1_0, n0_0, Decidable.not_not, not_true_eq_false, not_false_eq_true]
    refine g_if_ne (off := 6) (tgt := 22) (by decide +kernel) (by decide) (fun c16 => ?_) (fun c16 => ?_)
    · try simp only [bI_0, Decidable.not_not] at c16
      refine g_blk [(.aload_n 1, .null), (.iload_n 2, .null), (.iload_n 3, .null)] (Nat.le_of_ble_eq_true rfl) (by decide +kernel) ?_
      refine gx_aload_n_1 (gx_iload_n_2 (gx_iload_n_3 ((gx_nil ?_))))
      refine g_callV (rc' := 0) (rs' := 0) kX4_122 (le_moveToBag hl9 rt (gBf N i rt c)) (by decide +kernel) rfl rfl hl9 rfl (Nat.le_of_ble_eq_true rfl) (Nat.le_of_ble_eq_true rfl) (Nat.le_of_ble_eq_true rfl) (by omega) (by omega) rfl (fun _ _ z => z.elim) (fun v9 h5 hz => ?_)
      obtain ⟨rfl, rfl⟩ := hz
      have H1 := gOx_upL H ht nd hx9 (N' := upd (upd N (62 + 7 * i + 5) rt) (62 + 7 * i + 6) (gBf N i rt c)) (fun q q1 q2 => by rw [pk_un (by omega), pk_un (by omega)]) (cell := gJ 6 [.int (N (62 + 7 * i)), .int (N (62 + 7 * i + 1)), .int (N (62 + 7 * i + 2)), .int (N (62 + 7 * i + 3)), .int (N (62 + 7 * i + 4)), .int rt, .int (gBf N i rt c)]) (by
        have hrn : ¬ rt = -1 := fun z => by rw [z] at hgd; exact absurd hgd.2.1.1 (by decide)
        have e5 : upd (upd N (62 + 7 * i + 5) rt) (62 + 7 * i + 6) (gBf N i rt c) (62 + 7 * i + 5) = rt := by rw [pk_un (by omega), pk_us]
        have e6 : upd (upd N (62 + 7 * i + 5) rt) (62 + 7 * i + 6) (gBf N i rt c) (62 + 7 * i + 6) = gBf N i rt c := pk_us
        unfold gBg
        rw [e5, if_neg hrn, e6]
        rw [pk_un (by omega), pk_un (by omega), pk_un (by omega), pk_un (by omega), pk_un (by omega), pk_un (by omega), pk_un (by omega), pk_un (by omega), pk_un (by omega), pk_un (by omega)])
      have hk1 := gUp_k (h := h) (a := a) (e := gJ 6 [.int (N (62 + 7 * i)), .int (N (62 + 7 * i + 1)), .int (N (62 + 7 * i + 2)), .int (N (62 + 7 * i + 3)), .int (N (62 + 7 * i + 4)), .int rt, .int (gBf N i rt c)])
      have hkS : gKeep (fun q => q ∈ gFp o ta ca da ba fl fq ls) h (gUp h a (gJ 6 [.int (N (62 + 7 * i)), .int (N (62 + 7 * i + 1)), .int (N (62 + 7 * i + 2)), .int (N (62 + 7 * i + 3)), .int (N (62 + 7 * i + 4)), .int rt, .int (gBf N i rt c)])) := gKeep.up (memS (List.mem_of_getElem? hx9))
      revert H1 hkS
      generalize gUp h a (gJ 6 [.int (N (62 + 7 * i)), .int (N (62 + 7 * i + 1)), .int (N (62 + 7 * i + 2)), .int (N (62 + 7 * i + 3)), .int (N (62 + 7 * i + 4)), .int rt, .int (gBf N i rt c)]) = h1
      intro H1 hkS
      have H19 := H1
      obtain ⟨ho1, -, -, -, -, -, -, -, -, -, -, ⟨fb1, hba1, hfb1⟩⟩ := H19
      have hfr : fb1 r5 = nI (rOp N rt) := by rw [hfb1 r5 hr5, pk_un (by omega), pk_un (by omega), ← hop.2, hix5]
      simp only [Option.toList_some, Option.toList_none, List.cons_append, List.nil_append]
      refine g_blk [(.iload_n 3, .null), (.aload_n 0, .null)] (Nat.le_of_ble_eq_true rfl) (by decide +kernel) ?_
      refine gx_iload_n_3 (gx_aload_n_0 ((gx_nil ?_)))
      refine g_getf fX4_32 (by decide +kernel) ho1 rfl ?_
      refine g_blk [(.iload_n 2, .null)] (Nat.le_of_ble_eq_true rfl) (by decide +kernel) ?_
      refine gx_iload_n_2 ((gx_nil ?_))
      refine g_iaload (by decide +kernel) hba1 (by rw [er5]; exact vp_in_nI hr5 (by omega)) ?_
      rw [hcl, hfr]
      refine g_icmp_ne (off := 13) (tgt := 48) (by decide +kernel) (by decide) (fun c35 => ?_) (fun c35 => ?_)
      · try simp only [bI_0, Decidable.not_not] at c35
        rw [hbe, ek] at c35
        have hkB : ¬ k = rOp N rt := fun z => c35 (by rw [z])
        refine g_blk [(.iload_n 3, .null)] (Nat.le_of_ble_eq_true rfl) (by decide +kernel) ?_
        refine gx_iload_n_3 ((gx_nil ?_))
        refine g_end (some (.int _)) rfl ⟨by decide +kernel, _, rfl, rfl⟩ ?_
        refine Or.inr ⟨c9, rfl, gOx_cong H1 (fun q q1 => ?_), hkS⟩
        unfold rInto
        rw [← hbe]
        by_cases z : q = 8 + 3 * rIx rt + 2
        · subst z
          rw [pk_us, pk_un (by omega), pk_un (by omega), hop.2, hbe, ek, nI_add]
          unfold rMax
          rw [if_neg (nI_nlt (by omega) (by omega))]
        · rw [pk_un z]
      · try simp only [bI_0, Decidable.not_not] at c35
        rw [hbe, ek] at c35
        have hkB : k = rOp N rt := (nI_eq (by omega) (by omega)).mp c35
        refine g_blk [(.aload_n 0, .null)] (Nat.le_of_ble_eq_true rfl) (by decide +kernel) ?_
        refine gx_aload_n_0 ((gx_nil ?_))
        refine g_getf fX4_32 (by decide +kernel) ho1 rfl ?_
        refine g_blk [(.iload_n 2, .null), (.dup2, .null)] (Nat.le_of_ble_eq_true rfl) (by decide +kernel) ?_
        refine gx_iload_n_2 (gx_dup2ir ((gx_nil ?_)))
        refine g_iaload (by decide +kernel) hba1 (by rw [er5]; exact vp_in_nI hr5 (by omega)) ?_
        rw [hcl, hfr]
        refine g_blk [(.iconst 1, .int (nI 1)), (.iadd, .null)] (Nat.le_of_ble_eq_true rfl) (by decide +kernel) ?_
        refine gx_iconst (gx_iadd ((gx_nil ?_)))
        rw [nI_add]
        refine g_iastore (by decide +kernel) hba1 (by rw [er5]; exact vp_in_nI hr5 (by omega)) ?_
        rw [hcl]
        refine g_blk [(.iload_n 3, .null)] (Nat.le_of_ble_eq_true rfl) (by decide +kernel) ?_
        refine gx_iload_n_3 ((gx_nil ?_))
        refine g_end (some (.int _)) rfl ⟨by decide +kernel, _, rfl, rfl⟩ ?_
        refine Or.inr ⟨c9, rfl, ?_, hkS.tr (gKeep.up memB)⟩
        rw [hkB] at ek
        have H2 := gOx_upB H1 nd (N' := rInto N i rt c (rOp N rt)) (f := upd fb1 r5 (nI (rOp N rt + 1))) (fun r hr => ?_) (fun q q1 q2 => ?_)
        · exact H2
        · unfold rInto
          rw [← hbe]
          by_cases z : r = r5
          · subst z
            rw [pk_us, hix5, pk_us, ← hix5, hop.2, hbe, ek, nI_add]
            unfold rMax
            rw [if_pos (nI_lt (by omega) (by omega))]
          · rw [pk_un z, hfb1 r hr]
            symm
            exact pk_un (by omega)
        · unfold rInto
          rw [← hbe]
          rw [pk_un (k := 8 + 3 * rIx rt + 2) (by omega)]
    · try simp only [bI_0, Decidable.not_not] at c16
      exact absurd hgd.2.1 c16
theorem of_putByCode {o c t la ta ca da ba pa ep : Nat} {fl fq ls ps : List Nat} {N : Nat → Int32} (H : gOx Γ de h o N c t la ta ca da ba pa ep fl fq ls ps) (nd : (gFp o ta ca da ba fl fq ls).Nodup) (hc : c ≤ 20) (ht : t ≤ 12) (hv : rPv N t) (hw : rLv1 N c) (hOK : rOK N) {i a : Nat} (hx9 : ls[i]? = some a) : gC Γ M_X4_putByCode [.ref o, .ref a] h 6 0 0 (puZ Γ de h o N c t la ta ca da ba pa ep fl fq ls ps i (rLR N i t)) (fun _ _ => False) := by
  have H0 := H
  obtain ⟨ho, HL, hlc, hls, hta, HP, hpc, hps, hep, ⟨fc, hca, hfc⟩, ⟨fd, hda, hfd⟩, ⟨fb, hba, hfb⟩⟩ := H0
  have hic : i < c := by rw [← hlc]; exact (List.getElem?_eq_some_iff.mp hx9).1
  have hl9 := hls i a hx9
  obtain ⟨m, cd, w, pr, q, em, hm, ec, hcd, ew, hw1, hw2, ep', hpr, eq, hq, eA⟩ := hw i hic
  refine gC_of (by decide) rfl (Nat.le_of_ble_eq_true rfl) [some (.ref o), some (.ref a)] rfl ?_
  refine g_blk [(.aload_n 0, .null), (.aload_n 1, .null), (.aload_n 0, .null), (.aload_n 1, .null)] (Nat.le_of_ble_eq_true rfl) (by decide +kernel) ?_
  refine gx_aload_n_0 (gx_aload_n_1 (gx_aload_n_0 (gx_aload_n_1 ((gx_nil ?_)))))
  refine g_pV kX4_116 (of_routeByCode H hc ht hv hw hx9) (by decide +kernel) rfl rfl ho rfl (Nat.le_of_ble_eq_true rfl) (Nat.le_of_ble_eq_true rfl) (Nat.le_of_ble_eq_true rfl) rfl ?_
  try simp only [Option.toList_some, Option.toList_none, List.cons_append, List.nil_append, bI_0, n1_0, n0_0, Decidable.not_not, not_true_eq_false, not_false_eq_true, nI_add, Nat.add_zero, Nat.zero_add, Nat.reduceAdd]
  refine g_callV (rc' := 0) (rs' := 0) kX4_98 (of_put H nd hc ht hv hw hOK hx9 (rLR N i t)) (by decide +kernel) rfl rfl ho rfl (Nat.le_of_ble_eq_true rfl) (Nat.le_of_ble_eq_true rfl) (Nat.le_of_ble_eq_true rfl) (by omega) (by omega) rfl (fun _ _ z => z.elim) (fun v9 h5 hz => ?_)
  have hz2 := hz
  have hv9 : ∃ x, v9 = some (.int x) := by
    rcases hz with ⟨-, e, -⟩ | ⟨-, e, -⟩ <;> exact ⟨_, e⟩
  obtain ⟨x9, rfl⟩ := hv9
  simp only [Option.toList_some, Option.toList_none, List.cons_append, List.nil_append]
  refine g_end (some (.int _)) rfl ⟨by decide +kernel, _, rfl, rfl⟩ ?_
  exact hz2
/-- what a command of an office answers: as the reference's exception says -/
def ccd (a b c : Int32) (τ : Int32) : Int32 := if τ = nI 1 then a else if τ = nI 2 then b else c
def cmdZ (Γ : gE) (de : Nat) (h : gHp) (o la ta ca da ba pa ep : Nat) (fp : List Nat) (τ x : Int32) (code : Int32 → Int32) (N' : Nat → Int32) (c' t' : Nat) : Option Value → gHp → Prop := fun v h' => (τ = 0 ∧ v = some (.int x) ∧ gPost Γ de h o la ta ca da ba pa ep fp N' c' t' h') ∨ (¬ τ = 0 ∧ v = some (.int (code τ)) ∧ h' = h)
theorem rT_1 {b c : Int32} : rT (nI 0) b c = nI 1 := if_pos (by decide)
theorem rT_2 {c : Int32} : rT (nI 1) (nI 0) c = nI 2 := by
  unfold rT
  rw [if_neg (by decide), if_pos (by decide)]
theorem rT_3 : rT (nI 1) (nI 1) (nI 0) = nI 3 := by decide
theorem rT_0 : rT (nI 1) (nI 1) (nI 1) = 0 := by decide
theorem gPost_same {o c t la ta ca da ba pa ep : Nat} {fl fq ls ps : List Nat} {N' : Nat → Int32} {h' : gHp} (H : gOx Γ de h' o N' c t la ta ca da ba pa ep fl fq ls ps) (nd : (gFp o ta ca da ba fl fq ls).Nodup) (k : gKeep (fun q => q ∈ gFp o ta ca da ba fl fq ls) h h') : gPost Γ de h o la ta ca da ba pa ep (gFp o ta ca da ba fl fq ls) N' c t h' := ⟨fl, fq, ls, ps, H, nd, fun _ z => Or.inl z, k⟩
theorem of_sortById {o c t la ta ca da ba pa ep : Nat} {fl fq ls ps : List Nat} {N : Nat → Int32} (H : gOx Γ de h o N c t la ta ca da ba pa ep fl fq ls ps) (nd : (gFp o ta ca da ba fl fq ls).Nodup) (hc : c ≤ 20) (ht : t ≤ 12) (hv : rPv N t) (hw : rLv1 N c) (hOK : rOK N) (hu : rUq N c) (id : Int32) : gC Γ M_X4_sortById [.ref o, .int id] h 7 0 0 (cmdZ Γ de h o la ta ca da ba pa ep (gFp o ta ca da ba fl fq ls) (rT (bI (¬ rPlace N id c = -1)) (bI (¬ rPlace N id c = -1 ∧ rGo N (rIdx N id c) (rSrt N id c t) c (rOp N (rSrt N id c t)) = true)) (nI 1)) (rBag N (rSrt N id c t) (N (62 + 7 * rIdx N id c + 2)) c (rOp N (rSrt N id c t))) (ccd (-3) (-4) 0) (rInto N (rIdx N id c) (rSrt N id c t) c (rOp N (rSrt N id c t))) c t) (fun _ _ => False) := by
  have H0 := H
  obtain ⟨ho, HL, hlc, hls, hta, HP, hpc, hps, hep, ⟨fc, hca, hfc⟩, ⟨fd, hda, hfd⟩, ⟨fb, hba, hfb⟩⟩ := H0
  refine gC_of (by decide) rfl (Nat.le_of_ble_eq_true rfl) [some (.ref o), some (.int id), none] rfl ?_
  by_cases hn : rPlace N id c = -1
  · have hpx : bI (¬ rPlace N id c = -1) = nI 0 := bI_f (fun z => z hn)
    refine g_blk [(.aload_n 0, .null), (.iload_n 1, .null)] (Nat.le_of_ble_eq_true rfl) (by decide +kernel) ?_
    refine gx_aload_n_0 (gx_iload_n_1 ((gx_nil ?_)))
    refine g_pV kX4_87 (of_letterWith H hc hu id) (by decide +kernel) rfl rfl ho rfl (Nat.le_of_ble_eq_true rfl) (Nat.le_of_ble_eq_true rfl) (Nat.le_of_ble_eq_true rfl) rfl ?_
    simp only [Option.toList_some, List.cons_append, List.nil_append]
    rw [gLw_no hn]
    refine g_blk [(.astore_n 2, .null), (.aload_n 2, .null)] (Nat.le_of_ble_eq_true rfl) (by decide +kernel) ?_
    refine gx_astoreN_n_2 rfl (gx_aloadN_n_2 ((gx_nil ?_)))
    refine g_ifnonnullN (off := 8) (by decide +kernel) ?_
    refine g_blk [(.bipush (-3), .int (-3)), (.goto 8, .retAddr 20)] (Nat.le_of_ble_eq_true rfl) (by decide +kernel) ?_
    refine gx_bipush (gx_goto ((gx_nil ?_)))
    refine g_end (some (.int _)) rfl ⟨by decide +kernel, _, rfl, rfl⟩ ?_
    refine Or.inr ⟨?_, ?_, rfl⟩
    · rw [hpx, rT_1]; decide
    · rw [hpx, rT_1]; rfl
  · obtain ⟨p, hp, ep9⟩ := rPlace_in.resolve_left hn
    have hix := rIdx_of (by omega) ep9
    obtain ⟨a, hx9⟩ : ∃ z, ls[p]? = some z := ⟨_, List.getElem?_eq_getElem (by omega)⟩
    have hl9 := hls p a hx9
    have hpx : bI (¬ rPlace N id c = -1) = nI 1 := bI_t hn
    refine g_blk [(.aload_n 0, .null), (.iload_n 1, .null)] (Nat.le_of_ble_eq_true rfl) (by decide +kernel) ?_
    refine gx_aload_n_0 (gx_iload_n_1 ((gx_nil ?_)))
    refine g_pV kX4_87 (of_letterWith H hc hu id) (by decide +kernel) rfl rfl ho rfl (Nat.le_of_ble_eq_true rfl) (Nat.le_of_ble_eq_true rfl) (Nat.le_of_ble_eq_true rfl) rfl ?_
    simp only [Option.toList_some, List.cons_append, List.nil_append]
    rw [gLw_at ep9 (by omega) hx9]
    refine g_blk [(.astore_n 2, .null), (.aload_n 2, .null)] (Nat.le_of_ble_eq_true rfl) (by decide +kernel) ?_
    refine gx_astore_n_2 rfl (gx_aload_n_2 ((gx_nil ?_)))
    refine g_ifnonnull (off := 8) (tgt := 15) (by decide +kernel) (by decide) ?_
    refine g_blk [(.aload_n 0, .null), (.aload_n 2, .null)] (Nat.le_of_ble_eq_true rfl) (by decide +kernel) ?_
    refine gx_aload_n_0 (gx_aload_n_2 ((gx_nil ?_)))
    refine g_callV (rc' := 0) (rs' := 0) kX4_91 (of_putByCode H nd hc ht hv hw hOK hx9) (by decide +kernel) rfl rfl ho rfl (Nat.le_of_ble_eq_true rfl) (Nat.le_of_ble_eq_true rfl) (Nat.le_of_ble_eq_true rfl) (by omega) (by omega) rfl (fun _ _ z => z.elim) (fun v9 h5 hz => ?_)
    have hsr : rSrt N id c t = rLR N p t := by unfold rSrt rLR; rw [hix]
    have hv9 : ∃ x, v9 = some (.int x) := by
      rcases hz with ⟨-, e, -⟩ | ⟨-, e, -⟩ <;> exact ⟨_, e⟩
    obtain ⟨x9, hv9⟩ := hv9
    rw [hv9]
    simp only [Option.toList_some, Option.toList_none, List.cons_append, List.nil_append]
    refine g_end (some (.int _)) rfl ⟨by decide +kernel, _, rfl, rfl⟩ ?_
    rw [← hv9]
    rw [hsr]
    rcases hz with ⟨y1, rfl, rfl⟩ | ⟨y1, rfl, y3, y4⟩
    · refine Or.inr ⟨?_, ?_, rfl⟩
      · rw [hpx, bI_f (p := ¬ rPlace N id c = -1 ∧ rGo N (rIdx N id c) (rLR N p t) c (rOp N (rLR N p t)) = true) (fun z => (gBf_ne.mpr (by have z2 := z.2; rw [hix] at z2; exact z2)) y1), rT_2]; decide
      · rw [hpx, bI_f (p := ¬ rPlace N id c = -1 ∧ rGo N (rIdx N id c) (rLR N p t) c (rOp N (rLR N p t)) = true) (fun z => (gBf_ne.mpr (by have z2 := z.2; rw [hix] at z2; exact z2)) y1), rT_2]; rfl
    · refine Or.inl ⟨?_, ?_, ?_⟩
      · rw [hpx, bI_t (p := ¬ rPlace N id c = -1 ∧ rGo N (rIdx N id c) (rLR N p t) c (rOp N (rLR N p t)) = true) ⟨hn, by rw [hix]; exact gBf_ne.mp y1⟩, rT_0]
      · rw [hix]; exact congrArg (fun x => some (Value.int x)) (if_pos (gBf_ne.mp y1))
      · rw [hix]; exact gPost_same y3 nd y4
end GMu
