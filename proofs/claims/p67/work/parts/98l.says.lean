/-! THE FACE: WHAT A LETTER SAYS -/
section GFe
variable {Γ : gE} {de : Nat} {h : gHp} {m hl tt bu sb : Nat} {sv : Value} {bl e8 f8 : Int32}
theorem mo_codeOf {o c t la ta ca da ba pa ep : Nat} {fl fq ls ps : List Nat} {N : Nat → Int32} (hm : gMc h m o sv hl tt bu bl sb e8 f8) (H : gOx Γ de h o N c t la ta ca da ba pa ep fl fq ls ps) (hc : c ≤ 20) (hu : rUq N c) (id : Int32) {p a : Nat} (hx9 : ls[p]? = some a) (ep9 : rPlace N id c = nI p) : pC Γ M_X9_codeOf [.ref m, .int id] h 5 (some (.int (N (62 + 7 * p + 1)))) := by
  have H0 := H
  obtain ⟨ho, HL, hlc, hls, hta, HP, hpc, hps, hep, ⟨fc, hca, hfc⟩, ⟨fd, hda, hfd⟩, ⟨fb, hba, hfb⟩⟩ := H0
  have hl9 := hls p a hx9
  refine pC_of (by decide) rfl (Nat.le_of_ble_eq_true rfl) [some (.ref m), some (.int id)] rfl ?_
  refine g_blk [(.aload_n 0, .null), (.iload_n 1, .null)] (Nat.le_of_ble_eq_true rfl) (by decide +kernel) ?_
  refine gx_aload_n_0 (gx_iload_n_1 ((gx_nil ?_)))
  refine g_pV kX9_167 (mo_present hm H hc hu id hx9 ep9) (by decide +kernel) rfl rfl hm rfl (Nat.le_of_ble_eq_true rfl) (Nat.le_of_ble_eq_true rfl) (Nat.le_of_ble_eq_true rfl) rfl ?_
  try simp only [Option.toList_some, Option.toList_none, List.cons_append, List.nil_append, bI_0, n1_0, n0_0, Decidable.not_not, not_true_eq_false, not_false_eq_true]
  refine g_getf fX9_170 (by decide +kernel) hl9 rfl ?_
  refine g_end (some (.int _)) rfl ⟨by decide +kernel, _, rfl, rfl⟩ ⟨?_, rfl⟩
  rfl
theorem mo_codeOf_no {o c t la ta ca da ba pa ep : Nat} {fl fq ls ps : List Nat} {N : Nat → Int32} (hp : gPxs Γ) (hm : gMc h m o sv hl tt bu bl sb e8 f8) (H : gOx Γ de h o N c t la ta ca da ba pa ep fl fq ls ps) (hc : c ≤ 20) (hu : rUq N c) (id : Int32) (hn : rPlace N id c = -1) : gC Γ M_X9_codeOf [.ref m, .int id] h 7 1 6 (fun _ _ => False) (fun E h' => E = xNS ∧ h' = h) := by
  refine gC_of (by decide) rfl (Nat.le_of_ble_eq_true rfl) [some (.ref m), some (.int id)] rfl ?_
  refine g_blk [(.aload_n 0, .null), (.iload_n 1, .null)] (Nat.le_of_ble_eq_true rfl) (by decide +kernel) ?_
  refine gx_aload_n_0 (gx_iload_n_1 ((gx_nil ?_)))
  exact g_callV (rc' := 0) (rs' := 0) kX9_167 (mo_present_no hp hm H hc hu id hn) (by decide +kernel) rfl rfl hm rfl (Nat.le_of_ble_eq_true rfl) (Nat.le_of_ble_eq_true rfl) (Nat.le_of_ble_eq_true rfl) (Nat.le_refl _) (Nat.le_refl _) rfl (fun _ _ z => z) (fun _ _ z => z.elim)
theorem mo_weightOf {o c t la ta ca da ba pa ep : Nat} {fl fq ls ps : List Nat} {N : Nat → Int32} (hm : gMc h m o sv hl tt bu bl sb e8 f8) (H : gOx Γ de h o N c t la ta ca da ba pa ep fl fq ls ps) (hc : c ≤ 20) (hu : rUq N c) (id : Int32) {p a : Nat} (hx9 : ls[p]? = some a) (ep9 : rPlace N id c = nI p) : pC Γ M_X9_weightOf [.ref m, .int id] h 5 (some (.int (N (62 + 7 * p + 2)))) := by
  have H0 := H
  obtain ⟨ho, HL, hlc, hls, hta, HP, hpc, hps, hep, ⟨fc, hca, hfc⟩, ⟨fd, hda, hfd⟩, ⟨fb, hba, hfb⟩⟩ := H0
  have hl9 := hls p a hx9
  refine pC_of (by decide) rfl (Nat.le_of_ble_eq_true rfl) [some (.ref m), some (.int id)] rfl ?_
  refine g_blk [(.aload_n 0, .null), (.iload_n 1, .null)] (Nat.le_of_ble_eq_true rfl) (by decide +kernel) ?_
  refine gx_aload_n_0 (gx_iload_n_1 ((gx_nil ?_)))
  refine g_pV kX9_167 (mo_present hm H hc hu id hx9 ep9) (by decide +kernel) rfl rfl hm rfl (Nat.le_of_ble_eq_true rfl) (Nat.le_of_ble_eq_true rfl) (Nat.le_of_ble_eq_true rfl) rfl ?_
  try simp only [Option.toList_some, Option.toList_none, List.cons_append, List.nil_append, bI_0, n1_0, n0_0, Decidable.not_not, not_true_eq_false, not_false_eq_true]
  refine g_getf fX9_173 (by decide +kernel) hl9 rfl ?_
  refine g_end (some (.int _)) rfl ⟨by decide +kernel, _, rfl, rfl⟩ ⟨?_, rfl⟩
  rfl
theorem mo_weightOf_no {o c t la ta ca da ba pa ep : Nat} {fl fq ls ps : List Nat} {N : Nat → Int32} (hp : gPxs Γ) (hm : gMc h m o sv hl tt bu bl sb e8 f8) (H : gOx Γ de h o N c t la ta ca da ba pa ep fl fq ls ps) (hc : c ≤ 20) (hu : rUq N c) (id : Int32) (hn : rPlace N id c = -1) : gC Γ M_X9_weightOf [.ref m, .int id] h 7 1 6 (fun _ _ => False) (fun E h' => E = xNS ∧ h' = h) := by
  refine gC_of (by decide) rfl (Nat.le_of_ble_eq_true rfl) [some (.ref m), some (.int id)] rfl ?_
  refine g_blk [(.aload_n 0, .null), (.iload_n 1, .null)] (Nat.le_of_ble_eq_true rfl) (by decide +kernel) ?_
  refine gx_aload_n_0 (gx_iload_n_1 ((gx_nil ?_)))
  exact g_callV (rc' := 0) (rs' := 0) kX9_167 (mo_present_no hp hm H hc hu id hn) (by decide +kernel) rfl rfl hm rfl (Nat.le_of_ble_eq_true rfl) (Nat.le_of_ble_eq_true rfl) (Nat.le_of_ble_eq_true rfl) (Nat.le_refl _) (Nat.le_refl _) rfl (fun _ _ z => z) (fun _ _ z => z.elim)
theorem mo_returnsOf {o c t la ta ca da ba pa ep : Nat} {fl fq ls ps : List Nat} {N : Nat → Int32} (hm : gMc h m o sv hl tt bu bl sb e8 f8) (H : gOx Γ de h o N c t la ta ca da ba pa ep fl fq ls ps) (hc : c ≤ 20) (hu : rUq N c) (id : Int32) {p a : Nat} (hx9 : ls[p]? = some a) (ep9 : rPlace N id c = nI p) : pC Γ M_X9_returnsOf [.ref m, .int id] h 5 (some (.int (N (62 + 7 * p + 4)))) := by
  have H0 := H
  obtain ⟨ho, HL, hlc, hls, hta, HP, hpc, hps, hep, ⟨fc, hca, hfc⟩, ⟨fd, hda, hfd⟩, ⟨fb, hba, hfb⟩⟩ := H0
  have hl9 := hls p a hx9
  refine pC_of (by decide) rfl (Nat.le_of_ble_eq_true rfl) [some (.ref m), some (.int id)] rfl ?_
  refine g_blk [(.aload_n 0, .null), (.iload_n 1, .null)] (Nat.le_of_ble_eq_true rfl) (by decide +kernel) ?_
  refine gx_aload_n_0 (gx_iload_n_1 ((gx_nil ?_)))
  refine g_pV kX9_167 (mo_present hm H hc hu id hx9 ep9) (by decide +kernel) rfl rfl hm rfl (Nat.le_of_ble_eq_true rfl) (Nat.le_of_ble_eq_true rfl) (Nat.le_of_ble_eq_true rfl) rfl ?_
  try simp only [Option.toList_some, Option.toList_none, List.cons_append, List.nil_append, bI_0, n1_0, n0_0, Decidable.not_not, not_true_eq_false, not_false_eq_true]
  refine g_getf fX9_180 (by decide +kernel) hl9 rfl ?_
  refine g_end (some (.int _)) rfl ⟨by decide +kernel, _, rfl, rfl⟩ ⟨?_, rfl⟩
  rfl
theorem mo_returnsOf_no {o c t la ta ca da ba pa ep : Nat} {fl fq ls ps : List Nat} {N : Nat → Int32} (hp : gPxs Γ) (hm : gMc h m o sv hl tt bu bl sb e8 f8) (H : gOx Γ de h o N c t la ta ca da ba pa ep fl fq ls ps) (hc : c ≤ 20) (hu : rUq N c) (id : Int32) (hn : rPlace N id c = -1) : gC Γ M_X9_returnsOf [.ref m, .int id] h 7 1 6 (fun _ _ => False) (fun E h' => E = xNS ∧ h' = h) := by
  refine gC_of (by decide) rfl (Nat.le_of_ble_eq_true rfl) [some (.ref m), some (.int id)] rfl ?_
  refine g_blk [(.aload_n 0, .null), (.iload_n 1, .null)] (Nat.le_of_ble_eq_true rfl) (by decide +kernel) ?_
  refine gx_aload_n_0 (gx_iload_n_1 ((gx_nil ?_)))
  exact g_callV (rc' := 0) (rs' := 0) kX9_167 (mo_present_no hp hm H hc hu id hn) (by decide +kernel) rfl rfl hm rfl (Nat.le_of_ble_eq_true rfl) (Nat.le_of_ble_eq_true rfl) (Nat.le_of_ble_eq_true rfl) (Nat.le_refl _) (Nat.le_refl _) rfl (fun _ _ z => z) (fun _ _ z => z.elim)
end GFe
