/-! THE LAW: the whole walk -/
section GLzi
variable {Γ : gE} {de mi : Nat} {h : gHp} {m o out outD : Nat} {ad : Nat → Nat}
variable {sc L mc ms : Nat} {xs : Nat → Int32}
variable {d1 d10 sr ss nm ka sm : Nat} {vf : Value} {ks kss : Nat → Nat}
theorem wALg : Cond.arrayClass .long ∈ lw_good := (gIn (List.mem_of_getElem? (i := 2307) (by decide +kernel)) (by decide +kernel))
theorem wADb : Cond.arrayClass .double ∈ lw_good := (gIn (List.mem_of_getElem? (i := 2308) (by decide +kernel)) (by decide +kernel))
abbrev lwZ : Option Value → gHp → Prop := fun v _ => v = some (.int 1)
abbrev lwX : String → gHp → Prop := fun _ _ => False
theorem lp_gt {i L : Nat} (hL : L ≤ 2048) (hi : i ≤ 2100) : nI L - nI 4 < nI i ↔ L < i + 4 := by
  by_cases h4 : 4 ≤ L
  · rw [nI_subN h4, nI_ltI (by omega) (by omega)]
    omega
  · have e : nI L - nI 4 < 0 := by
      rcases (by omega : L = 0 ∨ L = 1 ∨ L = 2 ∨ L = 3) with z | z | z | z <;> subst z <;> decide
    exact ⟨fun _ => by omega, fun _ => Int32.lt_of_lt_of_le e (nI_pos' (by omega))⟩
theorem law_out {rc rs : Nat} {Ls : List (Option Value)} : G Γ M_L_law 32 mc ms lwZ lwX rc rs 3374 Ls [] h := by
  refine g_iconst (x := 1) dL_law_3374 rfl ?_
  exact g_end (some (.int 1)) rfl ⟨dL_law_3375, .boolean, rfl, rfl⟩ rfl
theorem law_loop (H : gHs Γ de mi d1 d10 vf sr ss nm ka sm ks kss) (hsa : gPa Γ .int sc L (fun j => .int (xs j))) (hL : L ≤ 2048) : ∀ (f : Nat) {h : gHp} {V : Nat → Int32} {F : Nat → Nat → Int32} {B n i : Nat}, LI Γ de h m o ad out outD V F B → V 10 = nI n → n ≤ 60 → L ≤ i + 4 * f + 3 → i ≤ 2060 → B + 12 * f ≤ 9000 → G Γ M_L_law 32 mc ms lwZ lwX (1000 * f) (13600 * f + 520 * n) 28 (L0 sc m o out outD i) [] h := by
  intro f
  induction f with
  | zero =>
    intro h V F B n i I h10 hn hf hi hB
    refine g_iload dL_law_28 rfl ?_
    refine g_aload_n dL_law_30 rfl ?_
    refine g_alenP hsa dL_law_31 ?_
    refine g_iconst (x := nI 4) dL_law_32 rfl ?_
    refine g_isub dL_law_33 ?_
    exact g_icmp_gt (tgt := 3374) dL_law_34 (by decide) (fun _ => law_out) (fun z => absurd ((lp_gt hL (by omega)).mpr (by omega)) z)
  | succ f ih =>
    intro h V F B n i I h10 hn hf hi hB
    refine g_iload dL_law_28 rfl ?_
    refine g_aload_n dL_law_30 rfl ?_
    refine g_alenP hsa dL_law_31 ?_
    refine g_iconst (x := nI 4) dL_law_32 rfl ?_
    refine g_isub dL_law_33 ?_
    refine g_icmp_gt (tgt := 3374) dL_law_34 (by decide) (fun _ => law_out) (fun z => ?_)
    have hi4 : i + 3 < L := by
      have := (not_congr (lp_gt hL (show i ≤ 2100 by omega))).mp z
      omega
    refine g_aload_n dL_law_37 rfl ?_
    refine g_iload dL_law_38 rfl ?_
    refine g_ialoadP hsa (vp_in_nI (by omega) (by omega)) dL_law_40 ?_
    refine g_bipush (x := nI 63) dL_law_41 rfl ?_
    refine g_iand dL_law_43 ?_
    have K : ∀ h' V1 F1 n', V1 10 = nI n' → LI Γ de h' m o ad out outD V1 F1 (B + 12) → G Γ M_L_law 32 mc ms lwZ lwX (1000 * f) (13600 * f + 520 * n') 3368 (L0 sc m o out outD i) [] h' := by
      intro h' V1 F1 n' h10' I'
      obtain ⟨n9, tx, e10, hn9, -⟩ := I'.1.tx9
      by_cases hn' : n' ≤ 60
      · refine g_iinc (k9 := nI 4) dL_law_3368 rfl (Nat.le_of_ble_eq_true rfl) rfl rfl ?_
        refine g_goto (tgt := 28) dL_law_3371 (by decide) ?_
        rw [nI_add]
        exact ih I' h10' hn' (by omega) (by omega) (by omega)
      · refine g_weak (rc' := 1000 * f) (rs' := 13600 * f + 520 * n9) (L' := L0 sc m o out outD i) ⟨rfl, rfl, rfl, rfl, rfl, rfl, True.intro⟩ (Nat.le_refl _) (by omega) ?_
        refine g_iinc (k9 := nI 4) dL_law_3368 rfl (Nat.le_of_ble_eq_true rfl) rfl rfl ?_
        refine g_goto (tgt := 28) dL_law_3371 (by decide) ?_
        rw [nI_add]
        exact ih I' e10 hn9 (by omega) (by omega) (by omega)
    obtain ⟨k, hk, ek⟩ := pk_andE (xs (nI i).toNatClampNeg) (m := nI 63) 6 rfl
    refine g_weak (rc' := 1000 * f + 1000) (rs' := 13600 * f + 13600 + 520 * n) (L' := L0 sc m o out outD i) ⟨rfl, rfl, rfl, rfl, rfl, rfl, True.intro⟩ (by omega) (by omega) ?_
    rw [ek]
    match k, hk with
    | 0, _ => exact g_tableIn (off := 272) (tgt := 316) dL_law_44 (by decide) (by decide) rfl (by decide) (lc_0 H hsa hL hi4 I (by omega) h10 hn K)
    | 1, _ => exact g_tableIn (off := 368) (tgt := 412) dL_law_44 (by decide) (by decide) rfl (by decide) (lc_1 H hsa hL hi4 I (by omega) h10 hn K)
    | 2, _ => exact g_tableIn (off := 448) (tgt := 492) dL_law_44 (by decide) (by decide) rfl (by decide) (lc_2 H hsa hL hi4 I (by omega) h10 hn K)
    | 3, _ => exact g_tableIn (off := 516) (tgt := 560) dL_law_44 (by decide) (by decide) rfl (by decide) (lc_3 H hsa hL hi4 I (by omega) h10 hn K)
    | 4, _ => exact g_tableIn (off := 572) (tgt := 616) dL_law_44 (by decide) (by decide) rfl (by decide) (lc_4 H hsa hL hi4 I (by omega) h10 hn K)
    | 5, _ => exact g_tableIn (off := 585) (tgt := 629) dL_law_44 (by decide) (by decide) rfl (by decide) (lc_5 H hsa hL hi4 I (by omega) h10 hn K)
    | 6, _ => exact g_tableIn (off := 653) (tgt := 697) dL_law_44 (by decide) (by decide) rfl (by decide) (lc_6 H hsa hL hi4 I (by omega) h10 hn K)
    | 7, _ => exact g_tableIn (off := 709) (tgt := 753) dL_law_44 (by decide) (by decide) rfl (by decide) (lc_7 H hsa hL hi4 I (by omega) h10 hn K)
    | 8, _ => exact g_tableIn (off := 777) (tgt := 821) dL_law_44 (by decide) (by decide) rfl (by decide) (lc_8 H hsa hL hi4 I (by omega) h10 hn K)
    | 9, _ => exact g_tableIn (off := 845) (tgt := 889) dL_law_44 (by decide) (by decide) rfl (by decide) (lc_9 H hsa hL hi4 I (by omega) h10 hn K)
    | 10, _ => exact g_tableIn (off := 901) (tgt := 945) dL_law_44 (by decide) (by decide) rfl (by decide) (lc_10 H hsa hL hi4 I (by omega) h10 hn K)
    | 11, _ => exact g_tableIn (off := 914) (tgt := 958) dL_law_44 (by decide) (by decide) rfl (by decide) (lc_11 H hsa hL hi4 I (by omega) h10 hn K)
    | 12, _ => exact g_tableIn (off := 927) (tgt := 971) dL_law_44 (by decide) (by decide) rfl (by decide) (lc_12 H hsa hL hi4 I (by omega) h10 hn K)
    | 13, _ => exact g_tableIn (off := 940) (tgt := 984) dL_law_44 (by decide) (by decide) rfl (by decide) (lc_13 H hsa hL hi4 I (by omega) h10 hn K)
    | 14, _ => exact g_tableIn (off := 965) (tgt := 1009) dL_law_44 (by decide) (by decide) rfl (by decide) (lc_14 H hsa hL hi4 I (by omega) h10 hn K)
    | 15, _ => exact g_tableIn (off := 1021) (tgt := 1065) dL_law_44 (by decide) (by decide) rfl (by decide) (lc_15 H hsa hL hi4 I (by omega) h10 hn K)
    | 16, _ => exact g_tableIn (off := 1077) (tgt := 1121) dL_law_44 (by decide) (by decide) rfl (by decide) (lc_16 H hsa hL hi4 I (by omega) h10 hn K)
    | 17, _ => exact g_tableIn (off := 1133) (tgt := 1177) dL_law_44 (by decide) (by decide) rfl (by decide) (lc_17 H hsa hL hi4 I (by omega) h10 hn K)
    | 18, _ => exact g_tableIn (off := 1196) (tgt := 1240) dL_law_44 (by decide) (by decide) rfl (by decide) (lc_18 H hsa hL hi4 I (by omega) h10 hn K)
    | 19, _ => exact g_tableIn (off := 1252) (tgt := 1296) dL_law_44 (by decide) (by decide) rfl (by decide) (lc_19 H hsa hL hi4 I (by omega) h10 hn K)
    | 20, _ => exact g_tableIn (off := 1315) (tgt := 1359) dL_law_44 (by decide) (by decide) rfl (by decide) (lc_20 H hsa hL hi4 I (by omega) h10 hn K)
    | 21, _ => exact g_tableIn (off := 1371) (tgt := 1415) dL_law_44 (by decide) (by decide) rfl (by decide) (lc_21 H hsa hL hi4 I (by omega) h10 hn K)
    | 22, _ => exact g_tableIn (off := 1427) (tgt := 1471) dL_law_44 (by decide) (by decide) rfl (by decide) (lc_22 H hsa hL hi4 I (by omega) h10 hn K)
    | 23, _ => exact g_tableIn (off := 1490) (tgt := 1534) dL_law_44 (by decide) (by decide) rfl (by decide) (lc_23 H hsa hL hi4 I (by omega) h10 hn K)
    | 24, _ => exact g_tableIn (off := 1553) (tgt := 1597) dL_law_44 (by decide) (by decide) rfl (by decide) (lc_24 H hsa hL hi4 I (by omega) h10 hn K)
    | 25, _ => exact g_tableIn (off := 1566) (tgt := 1610) dL_law_44 (by decide) (by decide) rfl (by decide) (lc_25 H hsa hL hi4 I (by omega) h10 hn K)
    | 26, _ => exact g_tableIn (off := 1579) (tgt := 1623) dL_law_44 (by decide) (by decide) rfl (by decide) (lc_26 H hsa hL hi4 I (by omega) h10 hn K)
    | 27, _ => exact g_tableIn (off := 1592) (tgt := 1636) dL_law_44 (by decide) (by decide) rfl (by decide) (lc_27 H hsa hL hi4 I (by omega) h10 hn K)
    | 28, _ => exact g_tableIn (off := 1648) (tgt := 1692) dL_law_44 (by decide) (by decide) rfl (by decide) (lc_28 H hsa hL hi4 I (by omega) h10 hn K)
    | 29, _ => exact g_tableIn (off := 1661) (tgt := 1705) dL_law_44 (by decide) (by decide) rfl (by decide) (lc_29 H hsa hL hi4 I (by omega) h10 hn K)
    | 30, _ => exact g_tableIn (off := 1736) (tgt := 1780) dL_law_44 (by decide) (by decide) rfl (by decide) (lc_30 H hsa hL hi4 I (by omega) h10 hn K)
    | 31, _ => exact g_tableIn (off := 1792) (tgt := 1836) dL_law_44 (by decide) (by decide) rfl (by decide) (lc_31 H hsa hL hi4 I (by omega) h10 hn K)
    | 32, _ => exact g_tableIn (off := 1848) (tgt := 1892) dL_law_44 (by decide) (by decide) rfl (by decide) (lc_32 H hsa hL hi4 I (by omega) h10 hn K)
    | 33, _ => exact g_tableIn (off := 1904) (tgt := 1948) dL_law_44 (by decide) (by decide) rfl (by decide) (lc_33 H hsa hL hi4 I (by omega) h10 hn K)
    | 34, _ => exact g_tableIn (off := 1960) (tgt := 2004) dL_law_44 (by decide) (by decide) rfl (by decide) (lc_34 H hsa hL hi4 I (by omega) h10 hn K)
    | 35, _ => exact g_tableIn (off := 2016) (tgt := 2060) dL_law_44 (by decide) (by decide) rfl (by decide) (lc_35 H hsa hL hi4 I (by omega) h10 hn K)
    | 36, _ => exact g_tableIn (off := 2084) (tgt := 2128) dL_law_44 (by decide) (by decide) rfl (by decide) (lc_36 H hsa hL hi4 I (by omega) h10 hn K)
    | 37, _ => exact g_tableIn (off := 2152) (tgt := 2196) dL_law_44 (by decide) (by decide) rfl (by decide) (lc_37 H hsa hL hi4 I (by omega) h10 hn K)
    | 38, _ => exact g_tableIn (off := 2208) (tgt := 2252) dL_law_44 (by decide) (by decide) rfl (by decide) (lc_38 H hsa hL hi4 I (by omega) h10 hn K)
    | 39, _ => exact g_tableIn (off := 2264) (tgt := 2308) dL_law_44 (by decide) (by decide) rfl (by decide) (lc_39 H hsa hL hi4 I (by omega) h10 hn K)
    | 40, _ => exact g_tableIn (off := 2320) (tgt := 2364) dL_law_44 (by decide) (by decide) rfl (by decide) (lc_40 H hsa hL hi4 I (by omega) h10 hn K)
    | 41, _ => exact g_tableIn (off := 2376) (tgt := 2420) dL_law_44 (by decide) (by decide) rfl (by decide) (lc_41 H hsa hL hi4 I (by omega) h10 hn K)
    | 42, _ => exact g_tableIn (off := 2432) (tgt := 2476) dL_law_44 (by decide) (by decide) rfl (by decide) (lc_42 H hsa hL hi4 I (by omega) h10 hn K)
    | 43, _ => exact g_tableIn (off := 2488) (tgt := 2532) dL_law_44 (by decide) (by decide) rfl (by decide) (lc_43 H hsa hL hi4 I (by omega) h10 hn K)
    | 44, _ => exact g_tableIn (off := 2544) (tgt := 2588) dL_law_44 (by decide) (by decide) rfl (by decide) (lc_44 H hsa hL hi4 I (by omega) h10 hn K)
    | 45, _ => exact g_tableIn (off := 2600) (tgt := 2644) dL_law_44 (by decide) (by decide) rfl (by decide) (lc_45 H hsa hL hi4 I (by omega) h10 hn K)
    | 46, _ => exact g_tableIn (off := 2656) (tgt := 2700) dL_law_44 (by decide) (by decide) rfl (by decide) (lc_46 H hsa hL hi4 I (by omega) h10 hn K)
    | 47, _ => exact g_tableIn (off := 2712) (tgt := 2756) dL_law_44 (by decide) (by decide) rfl (by decide) (lc_47 H hsa hL hi4 I (by omega) h10 hn K)
    | 48, _ => exact g_tableIn (off := 2725) (tgt := 2769) dL_law_44 (by decide) (by decide) rfl (by decide) (lc_48 H hsa hL hi4 I (by omega) h10 hn K)
    | 49, _ => exact g_tableIn (off := 2738) (tgt := 2782) dL_law_44 (by decide) (by decide) rfl (by decide) (lc_49 H hsa hL hi4 I (by omega) h10 hn K)
    | 50, _ => exact g_tableIn (off := 2751) (tgt := 2795) dL_law_44 (by decide) (by decide) rfl (by decide) (lc_50 H hsa hL hi4 I (by omega) h10 hn K)
    | 51, _ => exact g_tableIn (off := 2764) (tgt := 2808) dL_law_44 (by decide) (by decide) rfl (by decide) (lc_51 H hsa hL hi4 I (by omega) h10 hn K)
    | 52, _ => exact g_tableIn (off := 2829) (tgt := 2873) dL_law_44 (by decide) (by decide) rfl (by decide) (lc_52 H hsa hL hi4 I (by omega) h10 hn K)
    | 53, _ => exact g_tableIn (off := 2895) (tgt := 2939) dL_law_44 (by decide) (by decide) rfl (by decide) (lc_53 H hsa hL hi4 I (by omega) h10 hn K)
    | 54, _ => exact g_tableIn (off := 2908) (tgt := 2952) dL_law_44 (by decide) (by decide) rfl (by decide) (lc_54 H hsa hL hi4 I (by omega) h10 hn K)
    | 55, _ => exact g_tableIn (off := 2964) (tgt := 3008) dL_law_44 (by decide) (by decide) rfl (by decide) (lc_55 H hsa hL hi4 I (by omega) h10 hn K)
    | 56, _ => exact g_tableIn (off := 3020) (tgt := 3064) dL_law_44 (by decide) (by decide) rfl (by decide) (lc_56 H hsa hL hi4 I (by omega) h10 hn K)
    | 57, _ => exact g_tableIn (off := 3078) (tgt := 3122) dL_law_44 (by decide) (by decide) rfl (by decide) (lc_57 H hsa hL hi4 I (by omega) h10 hn K)
    | 58, _ => exact g_tableIn (off := 3122) (tgt := 3166) dL_law_44 (by decide) (by decide) rfl (by decide) (lc_58 H hsa hL hi4 I (by omega) h10 hn K)
    | 59, _ => exact g_tableIn (off := 3166) (tgt := 3210) dL_law_44 (by decide) (by decide) rfl (by decide) (lc_59 H hsa hL hi4 I (by omega) h10 hn K)
    | 60, _ => exact g_tableIn (off := 3210) (tgt := 3254) dL_law_44 (by decide) (by decide) rfl (by decide) (lc_60 H hsa hL hi4 I (by omega) h10 hn K)
    | 61, _ => exact g_tableIn (off := 3223) (tgt := 3267) dL_law_44 (by decide) (by decide) rfl (by decide) (lc_61 H hsa hL hi4 I (by omega) h10 hn K)
    | 62, _ => exact g_tableIn (off := 3267) (tgt := 3311) dL_law_44 (by decide) (by decide) rfl (by decide) (lc_62 H hsa hL hi4 I (by omega) h10 hn K)
    | 63, _ => exact g_tableIn (off := 3280) (tgt := 3324) dL_law_44 (by decide) (by decide) rfl (by decide) (lc_63 H hsa hL hi4 I (by omega) h10 hn K)
    | k + 64, hk => exact absurd hk (by omega)
set_option maxRecDepth 100000 in
theorem law_G (H : gHs Γ de mi d1 d10 vf sr ss nm ka sm ks kss) (hsa : gPa Γ .int sc L (fun j => .int (xs j))) (hL : L ≤ 2048) : G Γ M_L_law 32 603072 7194730 lwZ lwX 603072 7194730 0 [some (.ref sc), none, none, none, none, none, none, none, none] [] h := by
  have hd := H.1
  have hpl := H.2.1
  have hps := H.2.2.2.1
  refine g_new (rc' := 603071) (rs' := 7194721) nL_8 dL_law_0 (by omega) (by simp) (fun m hm => ?_)
  refine g_dup rfl dL_law_3 ?_
  obtain ⟨h1, e1⟩ : ∃ z, z = gUp h m (gJ 12 [.null, .null, .null, .null, .null, .int 0, .null, .int 0, .int 0]) := ⟨_, rfl⟩
  refine g_hp e1 ?_
  have hm1 : h1 m = some (gJ 12 [.null, .null, .null, .null, .null, .int 0, .null, .int 0, .int 0]) := by rw [e1]; exact gUp_s _ _ _
  refine g_callI (rc' := 603056) (rs' := 7194021) kL_174 (mo_init hps hpl hm1) dL_law_4 rfl rfl rfl (Nat.le_of_ble_eq_true rfl) (Nat.le_of_ble_eq_true rfl) (Nat.le_of_ble_eq_true rfl) (by omega) (by omega) rfl (fun _ _ z => z.elim) (fun v2 h2 hz => ?_)
  obtain ⟨rfl, G2, -⟩ := hz
  simp only [Option.toList_none, List.nil_append]
  refine g_astore_n dL_law_7 (Nat.le_of_ble_eq_true rfl) rfl ?_
  refine g_new (rc' := 603055) (rs' := 7194001) nL_175 dL_law_8 (by omega) (by simp) (fun o ho => ?_)
  refine g_dup rfl dL_law_11 ?_
  obtain ⟨h3, e3⟩ : ∃ z, z = gUp h2 o (gJ 13 mD0) := ⟨_, rfl⟩
  refine g_hp e3 ?_
  have ho3 : h3 o = some (gJ 13 mD0) := by rw [e3]; exact gUp_s _ _ _
  have k23 : gFr (kM Γ) h2 h3 := by
    rw [e3]
    exact gFr.of (gKeep.up rfl : gKeep (fun z => z = o) h2 (gUp h2 o (gJ 13 mD0))) (fun q hq e y => by rw [hq, ho] at y; cases y)
  refine g_callI (rc' := 603047) (rs' := 7191337) kL_177 (r_init ho3) dL_law_12 rfl rfl rfl (Nat.le_of_ble_eq_true rfl) (Nat.le_of_ble_eq_true rfl) (Nat.le_of_ble_eq_true rfl) (by omega) (by omega) rfl (fun _ _ z => z.elim) (fun v4 h4 hz => ?_)
  obtain ⟨rfl, ad, R4, -, k34⟩ := hz
  simp only [Option.toList_none, List.nil_append]
  have f34 : gFr (kM Γ) h3 h4 := gFr.of k34 (fun q hq e y => by
    rw [hq, ho3] at y; cases y; exact rfl)
  have G4 := G2.fr hd (k23.tr f34) (fun e z => z.1)
  refine g_astore_n dL_law_15 (Nat.le_of_ble_eq_true rfl) rfl ?_
  refine g_iconst (x := nI 1) dL_law_16 rfl ?_
  refine g_newarr_l (N := 1) (rc' := 603046) (rs' := 7191336) dL_law_17 wALg (nI_nn (by omega)) (nI_clamp (by omega)) (by omega) (by omega) (by omega) (fun out hq => ?_)
  obtain ⟨h5, e5⟩ : ∃ z, z = gUp h4 out (gLo Γ 1 (fun _ => 0)) := ⟨_, rfl⟩
  refine g_hp e5 ?_
  have hout : h5 out = some (gLo Γ 1 (fun _ => 0)) := by rw [e5]; exact gUp_s _ _ _
  have k45 : gFr (fun _ => False) h4 h5 := by
    rw [e5]
    exact gFr.of (gKeep.up rfl : gKeep (fun z => z = out) h4 (gUp h4 out (gLo Γ 1 (fun _ => 0)))) (fun q hz e y => by rw [hz, hq] at y; cases y)
  refine g_astore_n dL_law_19 (Nat.le_of_ble_eq_true rfl) rfl ?_
  refine g_iconst (x := nI 1) dL_law_20 rfl ?_
  refine g_newarr_d (N := 1) (rc' := 603045) (rs' := 7191335) dL_law_21 wADb (nI_nn (by omega)) (nI_clamp (by omega)) (by omega) (by omega) (by omega) (fun outD hq6 => ?_)
  obtain ⟨h6, e6⟩ : ∃ z, z = gUp h5 outD (gDo Γ 1 (fun _ => 0)) := ⟨_, rfl⟩
  refine g_hp e6 ?_
  have houtD : h6 outD = some (gDo Γ 1 (fun _ => 0)) := by rw [e6]; exact gUp_s _ _ _
  have k56 : gFr (fun _ => False) h5 h6 := by
    rw [e6]
    exact gFr.of (gKeep.up rfl : gKeep (fun z => z = outD) h5 (gUp h5 outD (gDo Γ 1 (fun _ => 0)))) (fun q hz e y => by rw [hz, hq6] at y; cases y)
  refine g_astore dL_law_23 (Nat.le_of_ble_eq_true rfl) rfl ?_
  refine g_iconst (x := nI 0) dL_law_25 rfl ?_
  refine g_istore dL_law_26 (Nat.le_of_ble_eq_true rfl) rfl ?_
  have I : LI Γ de h6 m o ad out outD rV0 rF0 0 := ⟨(G4.fr hd k45 (fun _ _ z => z)).fr hd k56 (fun _ _ z => z), (R4.fr k45 (fun _ _ z => z)).fr k56 (fun _ _ z => z), ⟨_, k56 _ _ hout (fun z => z)⟩, ⟨_, houtD⟩⟩
  refine g_weak (rc' := 1000 * 512) (rs' := 13600 * 512 + 520 * 0) (L' := L0 sc m o out outD 0) ⟨rfl, rfl, rfl, rfl, rfl, rfl, True.intro⟩ (by omega) (by omega) ?_
  exact law_loop H hsa hL 512 I rfl (by omega) (by omega) (by omega) (by omega)
end GLzi
