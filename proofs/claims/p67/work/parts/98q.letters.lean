/-! THE FACE: LETTERS -/
section GFq
variable {Γ : gE} {de : Nat} {h : gHp} {m hl tt bu sb : Nat} {sv : Value} {bl e8 f8 : Int32}
theorem rg_of {x : Int32} {c : Nat} (h1 : ¬ x < 0) (h2 : ¬ nI c ≤ x) (hc : c ≤ 2000) : nI 0 ≤ x ∧ x ≤ nI c - nI 1 := by
  have h3 : x < nI c := Int32.not_le.mp h2
  refine ⟨by rw [z0]; exact Int32.not_lt.mp h1, ?_⟩
  cases c with
  | zero => exact absurd (by rw [z0] at h3; exact h3) h1
  | succ k =>
    rw [nI_subN (by omega)]
    exact (le_lt (by omega)).mp h3
theorem mo_isPresent {o c t la ta ca da ba pa ep : Nat} {fl fq ls ps : List Nat} {N : Nat → Int32} (hm : gMc h m o sv hl tt bu bl sb e8 f8) (H : gOx Γ de h o N c t la ta ca da ba pa ep fl fq ls ps) (hc : c ≤ 20) (hu : rUq N c) (id : Int32) {p a : Nat} (hx9 : ls[p]? = some a) (ep9 : rPlace N id c = nI p) : pC Γ M_X9_isPresent [.ref m, .int id] h 4 (some (.int (nI 1))) := by
  have H0 := H
  obtain ⟨ho, HL, hlc, hls, hta, HP, hpc, hps, hep, ⟨fc, hca, hfc⟩, ⟨fd, hda, hfd⟩, ⟨fb, hba, hfb⟩⟩ := H0
  have hpc : p < c := by rw [← hlc]; exact (List.getElem?_eq_some_iff.mp hx9).1
  refine pC_of (by decide) rfl (Nat.le_of_ble_eq_true rfl) [some (.ref m), some (.int id)] rfl ?_
  refine g_blk [(.aload_n 0, .null)] (Nat.le_of_ble_eq_true rfl) (by decide +kernel) ?_
  refine gx_aload_n_0 ((gx_nil ?_))
  refine g_getf fX9_10 (by decide +kernel) hm rfl ?_
  refine g_blk [(.iload_n 1, .null)] (Nat.le_of_ble_eq_true rfl) (by decide +kernel) ?_
  refine gx_iload_n_1 ((gx_nil ?_))
  refine g_pV kX9_153 (of_letterWith H hc hu id) (by decide +kernel) rfl rfl ho rfl (Nat.le_of_ble_eq_true rfl) (Nat.le_of_ble_eq_true rfl) (Nat.le_of_ble_eq_true rfl) rfl ?_
  simp only [Option.toList_some, List.cons_append, List.nil_append]
  rw [gLw_at ep9 (by omega) hx9]
  refine g_ifnull (off := 7) (by decide +kernel) ?_
  refine g_blk [(.iconst 1, .int (nI 1)), (.goto 4, .retAddr 16)] (Nat.le_of_ble_eq_true rfl) (by decide +kernel) ?_
  refine gx_iconst (gx_goto ((gx_nil ?_)))
  refine g_end (some (.int _)) rfl ⟨by decide +kernel, _, rfl, by first | rfl | exact bI_nar _⟩ ⟨?_, rfl⟩
  rfl
theorem mo_isPresent_no {o c t la ta ca da ba pa ep : Nat} {fl fq ls ps : List Nat} {N : Nat → Int32} (hm : gMc h m o sv hl tt bu bl sb e8 f8) (H : gOx Γ de h o N c t la ta ca da ba pa ep fl fq ls ps) (hc : c ≤ 20) (hu : rUq N c) (id : Int32) (hn : rPlace N id c = -1) : pC Γ M_X9_isPresent [.ref m, .int id] h 4 (some (.int (nI 0))) := by
  have H0 := H
  obtain ⟨ho, HL, hlc, hls, hta, HP, hpc, hps, hep, ⟨fc, hca, hfc⟩, ⟨fd, hda, hfd⟩, ⟨fb, hba, hfb⟩⟩ := H0
  refine pC_of (by decide) rfl (Nat.le_of_ble_eq_true rfl) [some (.ref m), some (.int id)] rfl ?_
  refine g_blk [(.aload_n 0, .null)] (Nat.le_of_ble_eq_true rfl) (by decide +kernel) ?_
  refine gx_aload_n_0 ((gx_nil ?_))
  refine g_getf fX9_10 (by decide +kernel) hm rfl ?_
  refine g_blk [(.iload_n 1, .null)] (Nat.le_of_ble_eq_true rfl) (by decide +kernel) ?_
  refine gx_iload_n_1 ((gx_nil ?_))
  refine g_pV kX9_153 (of_letterWith H hc hu id) (by decide +kernel) rfl rfl ho rfl (Nat.le_of_ble_eq_true rfl) (Nat.le_of_ble_eq_true rfl) (Nat.le_of_ble_eq_true rfl) rfl ?_
  simp only [Option.toList_some, List.cons_append, List.nil_append]
  rw [gLw_no hn]
  refine g_ifnullN (off := 7) (tgt := 15) (by decide +kernel) (by decide) ?_
  refine g_blk [(.iconst 0, .int (nI 0))] (Nat.le_of_ble_eq_true rfl) (by decide +kernel) ?_
  refine gx_iconst ((gx_nil ?_))
  refine g_end (some (.int _)) rfl ⟨by decide +kernel, _, rfl, by first | rfl | exact bI_nar _⟩ ⟨?_, rfl⟩
  rfl
theorem mo_idAt {o c t la ta ca da ba pa ep : Nat} {fl fq ls ps : List Nat} {N : Nat → Int32} (hm : gMc h m o sv hl tt bu bl sb e8 f8) (H : gOx Γ de h o N c t la ta ca da ba pa ep fl fq ls ps) (hc : c ≤ 20) {p a : Nat} (hx9 : ls[p]? = some a) : pC Γ M_X9_idAt [.ref m, .int (nI p)] h 3 (some (.int (N (62 + 7 * p)))) := by
  have H0 := H
  obtain ⟨ho, HL, hlc, hls, hta, HP, hpc, hps, hep, ⟨fc, hca, hfc⟩, ⟨fd, hda, hfd⟩, ⟨fb, hba, hfb⟩⟩ := H0
  have hl9 := hls p a hx9
  have hpc : p < c := by rw [← hlc]; exact (List.getElem?_eq_some_iff.mp hx9).1
  refine pC_of (by decide) rfl (Nat.le_of_ble_eq_true rfl) [some (.ref m), some (.int (nI p))] rfl ?_
  refine g_blk [(.iload_n 1, .null)] (Nat.le_of_ble_eq_true rfl) (by decide +kernel) ?_
  refine gx_iload_n_1 ((gx_nil ?_))
  refine g_if_lt (off := 17) (tgt := 18) (by decide +kernel) (by decide) (fun c1 => ?_) (fun c1 => ?_)
  · try simp only [bI_0, Decidable.not_not] at c1
    exact absurd c1 (nI_nn (by omega))
  · try simp only [bI_0, Decidable.not_not] at c1
    refine g_blk [(.iload_n 1, .null), (.aload_n 0, .null)] (Nat.le_of_ble_eq_true rfl) (by decide +kernel) ?_
    refine gx_iload_n_1 (gx_aload_n_0 ((gx_nil ?_)))
    refine g_getf fX9_10 (by decide +kernel) hm rfl ?_
    refine g_getf fX9_150 (by decide +kernel) ho rfl ?_
    refine g_pV kX9_133 (al_size HL) (by decide +kernel) rfl rfl (al_cell HL) rfl (Nat.le_of_ble_eq_true rfl) (Nat.le_of_ble_eq_true rfl) (Nat.le_of_ble_eq_true rfl) rfl ?_
    simp only [Option.toList_some, List.cons_append, List.nil_append]
    rw [hlc]
    refine g_icmp_lt (off := 13) (tgt := 28) (by decide +kernel) (by decide) (fun c15 => ?_) (fun c15 => ?_)
    · try simp only [bI_0, Decidable.not_not] at c15
      refine g_blk [(.aload_n 0, .null)] (Nat.le_of_ble_eq_true rfl) (by decide +kernel) ?_
      refine gx_aload_n_0 ((gx_nil ?_))
      refine g_getf fX9_10 (by decide +kernel) hm rfl ?_
      refine g_getf fX9_150 (by decide +kernel) ho rfl ?_
      refine g_blk [(.iload_n 1, .null)] (Nat.le_of_ble_eq_true rfl) (by decide +kernel) ?_
      refine gx_iload_n_1 ((gx_nil ?_))
      refine g_pV kX9_159 (al_get HL hx9) (by decide +kernel) rfl rfl (al_cell HL) rfl (Nat.le_of_ble_eq_true rfl) (Nat.le_of_ble_eq_true rfl) (Nat.le_of_ble_eq_true rfl) rfl ?_
      try simp only [Option.toList_some, Option.toList_none, List.cons_append, List.nil_append, bI_0, n1_0, n0_0, Decidable.not_not, not_true_eq_false, not_false_eq_true]
      refine g_castO hl9 rfl rfl (clX9_162) (by decide +kernel) ?_
      refine g_getf fX9_164 (by decide +kernel) hl9 rfl ?_
      refine g_end (some (.int _)) rfl ⟨by decide +kernel, _, rfl, rfl⟩ ⟨?_, rfl⟩
      rfl
    · try simp only [bI_0, Decidable.not_not] at c15
      exact absurd (Int32.not_lt.mp c15) (fun z => by have := (nI_leI (by omega) (by omega)).mp z; omega)
theorem mo_idAt_no {o c t la ta ca da ba pa ep : Nat} {fl fq ls ps : List Nat} {N : Nat → Int32} (hp : gPxs Γ) (hm : gMc h m o sv hl tt bu bl sb e8 f8) (H : gOx Γ de h o N c t la ta ca da ba pa ep fl fq ls ps) (hc : c ≤ 20) {x : Int32} (hx : ¬ (nI 0 ≤ x ∧ x ≤ nI c - nI 1)) : gC Γ M_X9_idAt [.ref m, .int x] h 7 1 6 (fun _ _ => False) (fun E h' => E = xIO ∧ h' = h) := by
  have H0 := H
  obtain ⟨ho, HL, hlc, hls, hta, HP, hpc, hps, hep, ⟨fc, hca, hfc⟩, ⟨fd, hda, hfd⟩, ⟨fb, hba, hfb⟩⟩ := H0
  refine gC_of (by decide) rfl (Nat.le_of_ble_eq_true rfl) [some (.ref m), some (.int x)] rfl ?_
  refine g_blk [(.iload_n 1, .null)] (Nat.le_of_ble_eq_true rfl) (by decide +kernel) ?_
  refine gx_iload_n_1 ((gx_nil ?_))
  refine g_if_lt (off := 17) (tgt := 18) (by decide +kernel) (by decide) (fun c1 => ?_) (fun c1 => ?_)
  · try simp only [bI_0, Decidable.not_not] at c1
    obtain ⟨sa, hsa⟩ := hp.at (k := 157) (tx := "there is no letter at this position") (by decide)
    exact g_throw thr_io hp.1 hsa (by decide +kernel) (by decide +kernel) (by decide +kernel) (by decide +kernel) (by decide +kernel) rfl (by decide) (Nat.le_of_ble_eq_true rfl) (by omega) (by omega) ⟨rfl, rfl⟩
  · try simp only [bI_0, Decidable.not_not] at c1
    refine g_blk [(.iload_n 1, .null), (.aload_n 0, .null)] (Nat.le_of_ble_eq_true rfl) (by decide +kernel) ?_
    refine gx_iload_n_1 (gx_aload_n_0 ((gx_nil ?_)))
    refine g_getf fX9_10 (by decide +kernel) hm rfl ?_
    refine g_getf fX9_150 (by decide +kernel) ho rfl ?_
    refine g_pV kX9_133 (al_size HL) (by decide +kernel) rfl rfl (al_cell HL) rfl (Nat.le_of_ble_eq_true rfl) (Nat.le_of_ble_eq_true rfl) (Nat.le_of_ble_eq_true rfl) rfl ?_
    simp only [Option.toList_some, List.cons_append, List.nil_append]
    rw [hlc]
    refine g_icmp_lt (off := 13) (tgt := 28) (by decide +kernel) (by decide) (fun c15 => ?_) (fun c15 => ?_)
    · try simp only [bI_0, Decidable.not_not] at c15
      exact absurd (rg_of c1 (Int32.not_le.mpr c15) (by omega)) hx
    · try simp only [bI_0, Decidable.not_not] at c15
      obtain ⟨sa, hsa⟩ := hp.at (k := 157) (tx := "there is no letter at this position") (by decide)
      exact g_throw thr_io hp.1 hsa (by decide +kernel) (by decide +kernel) (by decide +kernel) (by decide +kernel) (by decide +kernel) rfl (by decide) (Nat.le_of_ble_eq_true rfl) (by omega) (by omega) ⟨rfl, rfl⟩
theorem mo_isPriority {o c t la ta ca da ba pa ep : Nat} {fl fq ls ps : List Nat} {N : Nat → Int32} (hm : gMc h m o sv hl tt bu bl sb e8 f8) (H : gOx Γ de h o N c t la ta ca da ba pa ep fl fq ls ps) (hc : c ≤ 20) (hu : rUq N c) (id : Int32) {p a : Nat} (hx9 : ls[p]? = some a) (ep9 : rPlace N id c = nI p) {pr : Nat} (epr : N (62 + 7 * p + 3) = nI pr) (hpr : pr ≤ 1) : pC Γ M_X9_isPriority [.ref m, .int id] h 5 (some (.int (nI pr))) := by
  have H0 := H
  obtain ⟨ho, HL, hlc, hls, hta, HP, hpc, hps, hep, ⟨fc, hca, hfc⟩, ⟨fd, hda, hfd⟩, ⟨fb, hba, hfb⟩⟩ := H0
  have hl9 := hls p a hx9
  refine pC_of (by decide) rfl (Nat.le_of_ble_eq_true rfl) [some (.ref m), some (.int id)] rfl ?_
  refine g_blk [(.aload_n 0, .null), (.iload_n 1, .null)] (Nat.le_of_ble_eq_true rfl) (by decide +kernel) ?_
  refine gx_aload_n_0 (gx_iload_n_1 ((gx_nil ?_)))
  refine g_pV kX9_167 (mo_present hm H hc hu id hx9 ep9) (by decide +kernel) rfl rfl hm rfl (Nat.le_of_ble_eq_true rfl) (Nat.le_of_ble_eq_true rfl) (Nat.le_of_ble_eq_true rfl) rfl ?_
  try simp only [Option.toList_some, Option.toList_none, List.cons_append, List.nil_append, bI_0, n1_0, n0_0, Decidable.not_not, not_true_eq_false, not_false_eq_true]
  refine g_getf fX9_176 (by decide +kernel) hl9 rfl ?_
  rw [epr]
  refine g_end (some (.int _)) rfl ⟨by decide +kernel, _, rfl, (pr_nar hpr).1⟩ ⟨?_, rfl⟩
  rfl
theorem mo_isPriority_no {o c t la ta ca da ba pa ep : Nat} {fl fq ls ps : List Nat} {N : Nat → Int32} (hp : gPxs Γ) (hm : gMc h m o sv hl tt bu bl sb e8 f8) (H : gOx Γ de h o N c t la ta ca da ba pa ep fl fq ls ps) (hc : c ≤ 20) (hu : rUq N c) (id : Int32) (hn : rPlace N id c = -1) : gC Γ M_X9_isPriority [.ref m, .int id] h 7 1 6 (fun _ _ => False) (fun E h' => E = xNS ∧ h' = h) := by
  refine gC_of (by decide) rfl (Nat.le_of_ble_eq_true rfl) [some (.ref m), some (.int id)] rfl ?_
  refine g_blk [(.aload_n 0, .null), (.iload_n 1, .null)] (Nat.le_of_ble_eq_true rfl) (by decide +kernel) ?_
  refine gx_aload_n_0 (gx_iload_n_1 ((gx_nil ?_)))
  exact g_callV (rc' := 0) (rs' := 0) kX9_167 (mo_present_no hp hm H hc hu id hn) (by decide +kernel) rfl rfl hm rfl (Nat.le_of_ble_eq_true rfl) (Nat.le_of_ble_eq_true rfl) (Nat.le_of_ble_eq_true rfl) (Nat.le_refl _) (Nat.le_refl _) rfl (fun _ _ z => z) (fun _ _ z => z.elim)
theorem mo_isInTray {o c t la ta ca da ba pa ep : Nat} {fl fq ls ps : List Nat} {N : Nat → Int32} (hm : gMc h m o sv hl tt bu bl sb e8 f8) (H : gOx Γ de h o N c t la ta ca da ba pa ep fl fq ls ps) (hc : c ≤ 20) (hu : rUq N c) (id : Int32) {p a : Nat} (hx9 : ls[p]? = some a) (ep9 : rPlace N id c = nI p) : pC Γ M_X9_isInTray [.ref m, .int id] h 5 (some (.int (bI (N (62 + 7 * p + 5) = -1)))) := by
  have H0 := H
  obtain ⟨ho, HL, hlc, hls, hta, HP, hpc, hps, hep, ⟨fc, hca, hfc⟩, ⟨fd, hda, hfd⟩, ⟨fb, hba, hfb⟩⟩ := H0
  have hl9 := hls p a hx9
  refine pC_of (by decide) rfl (Nat.le_of_ble_eq_true rfl) [some (.ref m), some (.int id)] rfl ?_
  refine g_blk [(.aload_n 0, .null), (.iload_n 1, .null)] (Nat.le_of_ble_eq_true rfl) (by decide +kernel) ?_
  refine gx_aload_n_0 (gx_iload_n_1 ((gx_nil ?_)))
  refine g_pV kX9_167 (mo_present hm H hc hu id hx9 ep9) (by decide +kernel) rfl rfl hm rfl (Nat.le_of_ble_eq_true rfl) (Nat.le_of_ble_eq_true rfl) (Nat.le_of_ble_eq_true rfl) rfl ?_
  try simp only [Option.toList_some, Option.toList_none, List.cons_append, List.nil_append, bI_0, n1_0, n0_0, Decidable.not_not, not_true_eq_false, not_false_eq_true]
  refine g_pV kX9_183 (le_inTray hl9) (by decide +kernel) rfl rfl hl9 rfl (Nat.le_of_ble_eq_true rfl) (Nat.le_of_ble_eq_true rfl) (Nat.le_of_ble_eq_true rfl) rfl ?_
  simp only [Option.toList_some, Option.toList_none, List.cons_append, List.nil_append]
  refine g_end (some (.int _)) rfl ⟨by decide +kernel, _, rfl, by first | rfl | exact bI_nar _⟩ ⟨?_, rfl⟩
  rfl
theorem mo_isInTray_no {o c t la ta ca da ba pa ep : Nat} {fl fq ls ps : List Nat} {N : Nat → Int32} (hp : gPxs Γ) (hm : gMc h m o sv hl tt bu bl sb e8 f8) (H : gOx Γ de h o N c t la ta ca da ba pa ep fl fq ls ps) (hc : c ≤ 20) (hu : rUq N c) (id : Int32) (hn : rPlace N id c = -1) : gC Γ M_X9_isInTray [.ref m, .int id] h 7 1 6 (fun _ _ => False) (fun E h' => E = xNS ∧ h' = h) := by
  refine gC_of (by decide) rfl (Nat.le_of_ble_eq_true rfl) [some (.ref m), some (.int id)] rfl ?_
  refine g_blk [(.aload_n 0, .null), (.iload_n 1, .null)] (Nat.le_of_ble_eq_true rfl) (by decide +kernel) ?_
  refine gx_aload_n_0 (gx_iload_n_1 ((gx_nil ?_)))
  exact g_callV (rc' := 0) (rs' := 0) kX9_167 (mo_present_no hp hm H hc hu id hn) (by decide +kernel) rfl rfl hm rfl (Nat.le_of_ble_eq_true rfl) (Nat.le_of_ble_eq_true rfl) (Nat.le_of_ble_eq_true rfl) (Nat.le_refl _) (Nat.le_refl _) rfl (fun _ _ z => z) (fun _ _ z => z.elim)
theorem mo_baggedLetter {o c t la ta ca da ba pa ep : Nat} {fl fq ls ps : List Nat} {N : Nat → Int32} (hm : gMc h m o sv hl tt bu bl sb e8 f8) (H : gOx Γ de h o N c t la ta ca da ba pa ep fl fq ls ps) (hc : c ≤ 20) (hu : rUq N c) (id : Int32) {p a : Nat} (hx9 : ls[p]? = some a) (ep9 : rPlace N id c = nI p) (ht5 : ¬ N (62 + 7 * p + 5) = -1) : pC Γ M_X9_baggedLetter [.ref m, .int id] h 5 (some (.ref a)) := by
  have H0 := H
  obtain ⟨ho, HL, hlc, hls, hta, HP, hpc, hps, hep, ⟨fc, hca, hfc⟩, ⟨fd, hda, hfd⟩, ⟨fb, hba, hfb⟩⟩ := H0
  have hl9 := hls p a hx9
  refine pC_of (by decide) rfl (Nat.le_of_ble_eq_true rfl) [some (.ref m), some (.int id), none] rfl ?_
  refine g_blk [(.aload_n 0, .null), (.iload_n 1, .null)] (Nat.le_of_ble_eq_true rfl) (by decide +kernel) ?_
  refine gx_aload_n_0 (gx_iload_n_1 ((gx_nil ?_)))
  refine g_pV kX9_167 (mo_present hm H hc hu id hx9 ep9) (by decide +kernel) rfl rfl hm rfl (Nat.le_of_ble_eq_true rfl) (Nat.le_of_ble_eq_true rfl) (Nat.le_of_ble_eq_true rfl) rfl ?_
  try simp only [Option.toList_some, Option.toList_none, List.cons_append, List.nil_append, bI_0, n1_0, n0_0, Decidable.not_not, not_true_eq_false, not_false_eq_true]
  refine g_blk [(.astore_n 2, .null), (.aload_n 2, .null)] (Nat.le_of_ble_eq_true rfl) (by decide +kernel) ?_
  refine gx_astore_n_2 rfl (gx_aload_n_2 ((gx_nil ?_)))
  refine g_pV kX9_183 (le_inTray hl9) (by decide +kernel) rfl rfl hl9 rfl (Nat.le_of_ble_eq_true rfl) (Nat.le_of_ble_eq_true rfl) (Nat.le_of_ble_eq_true rfl) rfl ?_
  simp only [Option.toList_some, Option.toList_none, List.cons_append, List.nil_append]
  rw [bI_f ht5]
  refine g_if_eq (off := 13) (tgt := 23) (by decide +kernel) (by decide) (fun c10 => ?_) (fun c10 => ?_)
  · try simp only [bI_0, Decidable.not_not] at c10
    refine g_blk [(.aload_n 2, .null)] (Nat.le_of_ble_eq_true rfl) (by decide +kernel) ?_
    refine gx_aload_n_2 ((gx_nil ?_))
    refine g_end (some (.ref _)) rfl ⟨by decide +kernel, _, rfl, Or.inl ⟨_, rfl⟩⟩ ⟨?_, rfl⟩
    rfl
  · try simp only [bI_0, Decidable.not_not] at c10
    exact absurd rfl c10
theorem mo_baggedLetter_no {o c t la ta ca da ba pa ep : Nat} {fl fq ls ps : List Nat} {N : Nat → Int32} (hp : gPxs Γ) (hm : gMc h m o sv hl tt bu bl sb e8 f8) (H : gOx Γ de h o N c t la ta ca da ba pa ep fl fq ls ps) (hc : c ≤ 20) (hu : rUq N c) (id : Int32) (hn : rPlace N id c = -1) : gC Γ M_X9_baggedLetter [.ref m, .int id] h 7 1 6 (fun _ _ => False) (fun E h' => E = xNS ∧ h' = h) := by
  refine gC_of (by decide) rfl (Nat.le_of_ble_eq_true rfl) [some (.ref m), some (.int id), none] rfl ?_
  refine g_blk [(.aload_n 0, .null), (.iload_n 1, .null)] (Nat.le_of_ble_eq_true rfl) (by decide +kernel) ?_
  refine gx_aload_n_0 (gx_iload_n_1 ((gx_nil ?_)))
  exact g_callV (rc' := 0) (rs' := 0) kX9_167 (mo_present_no hp hm H hc hu id hn) (by decide +kernel) rfl rfl hm rfl (Nat.le_of_ble_eq_true rfl) (Nat.le_of_ble_eq_true rfl) (Nat.le_of_ble_eq_true rfl) (Nat.le_refl _) (Nat.le_refl _) rfl (fun _ _ z => z) (fun _ _ z => z.elim)
theorem mo_baggedLetter_tray {o c t la ta ca da ba pa ep : Nat} {fl fq ls ps : List Nat} {N : Nat → Int32} (hp : gPxs Γ) (hm : gMc h m o sv hl tt bu bl sb e8 f8) (H : gOx Γ de h o N c t la ta ca da ba pa ep fl fq ls ps) (hc : c ≤ 20) (hu : rUq N c) (id : Int32) {p a : Nat} (hx9 : ls[p]? = some a) (ep9 : rPlace N id c = nI p) (ht5 : N (62 + 7 * p + 5) = -1) : gC Γ M_X9_baggedLetter [.ref m, .int id] h 7 1 6 (fun _ _ => False) (fun E h' => E = xIS ∧ h' = h) := by
  have H0 := H
  obtain ⟨ho, HL, hlc, hls, hta, HP, hpc, hps, hep, ⟨fc, hca, hfc⟩, ⟨fd, hda, hfd⟩, ⟨fb, hba, hfb⟩⟩ := H0
  have hl9 := hls p a hx9
  refine gC_of (by decide) rfl (Nat.le_of_ble_eq_true rfl) [some (.ref m), some (.int id), none] rfl ?_
  refine g_blk [(.aload_n 0, .null), (.iload_n 1, .null)] (Nat.le_of_ble_eq_true rfl) (by decide +kernel) ?_
  refine gx_aload_n_0 (gx_iload_n_1 ((gx_nil ?_)))
  refine g_pV kX9_167 (mo_present hm H hc hu id hx9 ep9) (by decide +kernel) rfl rfl hm rfl (Nat.le_of_ble_eq_true rfl) (Nat.le_of_ble_eq_true rfl) (Nat.le_of_ble_eq_true rfl) rfl ?_
  try simp only [Option.toList_some, Option.toList_none, List.cons_append, List.nil_append, bI_0, n1_0, n0_0, Decidable.not_not, not_true_eq_false, not_false_eq_true]
  refine g_blk [(.astore_n 2, .null), (.aload_n 2, .null)] (Nat.le_of_ble_eq_true rfl) (by decide +kernel) ?_
  refine gx_astore_n_2 rfl (gx_aload_n_2 ((gx_nil ?_)))
  refine g_pV kX9_183 (le_inTray hl9) (by decide +kernel) rfl rfl hl9 rfl (Nat.le_of_ble_eq_true rfl) (Nat.le_of_ble_eq_true rfl) (Nat.le_of_ble_eq_true rfl) rfl ?_
  simp only [Option.toList_some, Option.toList_none, List.cons_append, List.nil_append]
  rw [bI_t ht5]
  refine g_if_eq (off := 13) (tgt := 23) (by decide +kernel) (by decide) (fun c10 => ?_) (fun c10 => ?_)
  · try simp only [bI_0, Decidable.not_not] at c10
    exact absurd c10 (by decide)
  · try simp only [bI_0, Decidable.not_not] at c10
    obtain ⟨sa, hsa⟩ := hp.at (k := 206) (tx := "the letter is in the tray") (by decide)
    exact g_throw thr_is hp.1 hsa (by decide +kernel) (by decide +kernel) (by decide +kernel) (by decide +kernel) (by decide +kernel) rfl (by decide) (Nat.le_of_ble_eq_true rfl) (by omega) (by omega) ⟨rfl, rfl⟩
theorem mo_routeOfBag {o c t la ta ca da ba pa ep : Nat} {fl fq ls ps : List Nat} {N : Nat → Int32} (hm : gMc h m o sv hl tt bu bl sb e8 f8) (H : gOx Γ de h o N c t la ta ca da ba pa ep fl fq ls ps) (hc : c ≤ 20) (hu : rUq N c) (id : Int32) {p a : Nat} (hx9 : ls[p]? = some a) (ep9 : rPlace N id c = nI p) (ht5 : ¬ N (62 + 7 * p + 5) = -1) : pC Γ M_X9_routeOfBag [.ref m, .int id] h 6 (some (.int (N (62 + 7 * p + 5)))) := by
  have H0 := H
  obtain ⟨ho, HL, hlc, hls, hta, HP, hpc, hps, hep, ⟨fc, hca, hfc⟩, ⟨fd, hda, hfd⟩, ⟨fb, hba, hfb⟩⟩ := H0
  have hl9 := hls p a hx9
  refine pC_of (by decide) rfl (Nat.le_of_ble_eq_true rfl) [some (.ref m), some (.int id)] rfl ?_
  refine g_blk [(.aload_n 0, .null), (.iload_n 1, .null)] (Nat.le_of_ble_eq_true rfl) (by decide +kernel) ?_
  refine gx_aload_n_0 (gx_iload_n_1 ((gx_nil ?_)))
  refine g_pV kX9_187 (mo_baggedLetter hm H hc hu id hx9 ep9 ht5) (by decide +kernel) rfl rfl hm rfl (Nat.le_of_ble_eq_true rfl) (Nat.le_of_ble_eq_true rfl) (Nat.le_of_ble_eq_true rfl) rfl ?_
  try simp only [Option.toList_some, Option.toList_none, List.cons_append, List.nil_append, bI_0, n1_0, n0_0, Decidable.not_not, not_true_eq_false, not_false_eq_true]
  refine g_getf fX9_190 (by decide +kernel) hl9 rfl ?_
  refine g_end (some (.int _)) rfl ⟨by decide +kernel, _, rfl, rfl⟩ ⟨?_, rfl⟩
  rfl
theorem mo_bagOf {o c t la ta ca da ba pa ep : Nat} {fl fq ls ps : List Nat} {N : Nat → Int32} (hm : gMc h m o sv hl tt bu bl sb e8 f8) (H : gOx Γ de h o N c t la ta ca da ba pa ep fl fq ls ps) (hc : c ≤ 20) (hu : rUq N c) (id : Int32) {p a : Nat} (hx9 : ls[p]? = some a) (ep9 : rPlace N id c = nI p) (ht5 : ¬ N (62 + 7 * p + 5) = -1) : pC Γ M_X9_bagOf [.ref m, .int id] h 6 (some (.int (N (62 + 7 * p + 6)))) := by
  have H0 := H
  obtain ⟨ho, HL, hlc, hls, hta, HP, hpc, hps, hep, ⟨fc, hca, hfc⟩, ⟨fd, hda, hfd⟩, ⟨fb, hba, hfb⟩⟩ := H0
  have hl9 := hls p a hx9
  refine pC_of (by decide) rfl (Nat.le_of_ble_eq_true rfl) [some (.ref m), some (.int id)] rfl ?_
  refine g_blk [(.aload_n 0, .null), (.iload_n 1, .null)] (Nat.le_of_ble_eq_true rfl) (by decide +kernel) ?_
  refine gx_aload_n_0 (gx_iload_n_1 ((gx_nil ?_)))
  refine g_pV kX9_187 (mo_baggedLetter hm H hc hu id hx9 ep9 ht5) (by decide +kernel) rfl rfl hm rfl (Nat.le_of_ble_eq_true rfl) (Nat.le_of_ble_eq_true rfl) (Nat.le_of_ble_eq_true rfl) rfl ?_
  try simp only [Option.toList_some, Option.toList_none, List.cons_append, List.nil_append, bI_0, n1_0, n0_0, Decidable.not_not, not_true_eq_false, not_false_eq_true]
  refine g_getf fX9_193 (by decide +kernel) hl9 rfl ?_
  rw [gBg_at ht5]
  refine g_end (some (.int _)) rfl ⟨by decide +kernel, _, rfl, rfl⟩ ⟨?_, rfl⟩
  rfl
theorem mo_routeOfBag_no {o c t la ta ca da ba pa ep : Nat} {fl fq ls ps : List Nat} {N : Nat → Int32} (hp : gPxs Γ) (hm : gMc h m o sv hl tt bu bl sb e8 f8) (H : gOx Γ de h o N c t la ta ca da ba pa ep fl fq ls ps) (hc : c ≤ 20) (hu : rUq N c) (id : Int32) (hn : rPlace N id c = -1) : gC Γ M_X9_routeOfBag [.ref m, .int id] h 8 1 6 (fun _ _ => False) (fun E h' => E = xNS ∧ h' = h) := by
  refine gC_of (by decide) rfl (Nat.le_of_ble_eq_true rfl) [some (.ref m), some (.int id)] rfl ?_
  refine g_blk [(.aload_n 0, .null), (.iload_n 1, .null)] (Nat.le_of_ble_eq_true rfl) (by decide +kernel) ?_
  refine gx_aload_n_0 (gx_iload_n_1 ((gx_nil ?_)))
  exact g_callV (rc' := 0) (rs' := 0) kX9_187 (mo_baggedLetter_no hp hm H hc hu id hn) (by decide +kernel) rfl rfl hm rfl (Nat.le_of_ble_eq_true rfl) (Nat.le_of_ble_eq_true rfl) (Nat.le_of_ble_eq_true rfl) (Nat.le_refl _) (Nat.le_refl _) rfl (fun _ _ z => z) (fun _ _ z => z.elim)
theorem mo_routeOfBag_tray {o c t la ta ca da ba pa ep : Nat} {fl fq ls ps : List Nat} {N : Nat → Int32} (hp : gPxs Γ) (hm : gMc h m o sv hl tt bu bl sb e8 f8) (H : gOx Γ de h o N c t la ta ca da ba pa ep fl fq ls ps) (hc : c ≤ 20) (hu : rUq N c) (id : Int32) {p a : Nat} (hx9 : ls[p]? = some a) (ep9 : rPlace N id c = nI p) (ht5 : N (62 + 7 * p + 5) = -1) : gC Γ M_X9_routeOfBag [.ref m, .int id] h 8 1 6 (fun _ _ => False) (fun E h' => E = xIS ∧ h' = h) := by
  refine gC_of (by decide) rfl (Nat.le_of_ble_eq_true rfl) [some (.ref m), some (.int id)] rfl ?_
  refine g_blk [(.aload_n 0, .null), (.iload_n 1, .null)] (Nat.le_of_ble_eq_true rfl) (by decide +kernel) ?_
  refine gx_aload_n_0 (gx_iload_n_1 ((gx_nil ?_)))
  exact g_callV (rc' := 0) (rs' := 0) kX9_187 (mo_baggedLetter_tray hp hm H hc hu id hx9 ep9 ht5) (by decide +kernel) rfl rfl hm rfl (Nat.le_of_ble_eq_true rfl) (Nat.le_of_ble_eq_true rfl) (Nat.le_of_ble_eq_true rfl) (Nat.le_refl _) (Nat.le_refl _) rfl (fun _ _ z => z) (fun _ _ z => z.elim)
theorem mo_bagOf_no {o c t la ta ca da ba pa ep : Nat} {fl fq ls ps : List Nat} {N : Nat → Int32} (hp : gPxs Γ) (hm : gMc h m o sv hl tt bu bl sb e8 f8) (H : gOx Γ de h o N c t la ta ca da ba pa ep fl fq ls ps) (hc : c ≤ 20) (hu : rUq N c) (id : Int32) (hn : rPlace N id c = -1) : gC Γ M_X9_bagOf [.ref m, .int id] h 8 1 6 (fun _ _ => False) (fun E h' => E = xNS ∧ h' = h) := by
  refine gC_of (by decide) rfl (Nat.le_of_ble_eq_true rfl) [some (.ref m), some (.int id)] rfl ?_
  refine g_blk [(.aload_n 0, .null), (.iload_n 1, .null)] (Nat.le_of_ble_eq_true rfl) (by decide +kernel) ?_
  refine gx_aload_n_0 (gx_iload_n_1 ((gx_nil ?_)))
  exact g_callV (rc' := 0) (rs' := 0) kX9_187 (mo_baggedLetter_no hp hm H hc hu id hn) (by decide +kernel) rfl rfl hm rfl (Nat.le_of_ble_eq_true rfl) (Nat.le_of_ble_eq_true rfl) (Nat.le_of_ble_eq_true rfl) (Nat.le_refl _) (Nat.le_refl _) rfl (fun _ _ z => z) (fun _ _ z => z.elim)
theorem mo_bagOf_tray {o c t la ta ca da ba pa ep : Nat} {fl fq ls ps : List Nat} {N : Nat → Int32} (hp : gPxs Γ) (hm : gMc h m o sv hl tt bu bl sb e8 f8) (H : gOx Γ de h o N c t la ta ca da ba pa ep fl fq ls ps) (hc : c ≤ 20) (hu : rUq N c) (id : Int32) {p a : Nat} (hx9 : ls[p]? = some a) (ep9 : rPlace N id c = nI p) (ht5 : N (62 + 7 * p + 5) = -1) : gC Γ M_X9_bagOf [.ref m, .int id] h 8 1 6 (fun _ _ => False) (fun E h' => E = xIS ∧ h' = h) := by
  refine gC_of (by decide) rfl (Nat.le_of_ble_eq_true rfl) [some (.ref m), some (.int id)] rfl ?_
  refine g_blk [(.aload_n 0, .null), (.iload_n 1, .null)] (Nat.le_of_ble_eq_true rfl) (by decide +kernel) ?_
  refine gx_aload_n_0 (gx_iload_n_1 ((gx_nil ?_)))
  exact g_callV (rc' := 0) (rs' := 0) kX9_187 (mo_baggedLetter_tray hp hm H hc hu id hx9 ep9 ht5) (by decide +kernel) rfl rfl hm rfl (Nat.le_of_ble_eq_true rfl) (Nat.le_of_ble_eq_true rfl) (Nat.le_of_ble_eq_true rfl) (Nat.le_refl _) (Nat.le_refl _) rfl (fun _ _ z => z) (fun _ _ z => z.elim)
theorem mo_isMissorted {o c t la ta ca da ba pa ep : Nat} {fl fq ls ps : List Nat} {N : Nat → Int32} (hm : gMc h m o sv hl tt bu bl sb e8 f8) (H : gOx Γ de h o N c t la ta ca da ba pa ep fl fq ls ps) (hc : c ≤ 20) (ht : t ≤ 12) (hv : rPv N t) (hw : rLv1 N c) (hu : rUq N c) (id : Int32) {p a : Nat} (hx9 : ls[p]? = some a) (ep9 : rPlace N id c = nI p) : pC Γ M_X9_isMissorted [.ref m, .int id] h 7 (some (.int (bI (rWr N p t = true)))) := by
  have H0 := H
  obtain ⟨ho, HL, hlc, hls, hta, HP, hpc, hps, hep, ⟨fc, hca, hfc⟩, ⟨fd, hda, hfd⟩, ⟨fb, hba, hfb⟩⟩ := H0
  have hl9 := hls p a hx9
  refine pC_of (by decide) rfl (Nat.le_of_ble_eq_true rfl) [some (.ref m), some (.int id)] rfl ?_
  refine g_blk [(.aload_n 0, .null)] (Nat.le_of_ble_eq_true rfl) (by decide +kernel) ?_
  refine gx_aload_n_0 ((gx_nil ?_))
  refine g_getf fX9_10 (by decide +kernel) hm rfl ?_
  refine g_blk [(.aload_n 0, .null), (.iload_n 1, .null)] (Nat.le_of_ble_eq_true rfl) (by decide +kernel) ?_
  refine gx_aload_n_0 (gx_iload_n_1 ((gx_nil ?_)))
  refine g_pV kX9_167 (mo_present hm H hc hu id hx9 ep9) (by decide +kernel) rfl rfl hm rfl (Nat.le_of_ble_eq_true rfl) (Nat.le_of_ble_eq_true rfl) (Nat.le_of_ble_eq_true rfl) rfl ?_
  try simp only [Option.toList_some, Option.toList_none, List.cons_append, List.nil_append, bI_0, n1_0, n0_0, Decidable.not_not, not_true_eq_false, not_false_eq_true]
  refine g_pV kX9_196 (of_comeBack H hc ht hv hw hx9) (by decide +kernel) rfl rfl ho rfl (Nat.le_of_ble_eq_true rfl) (Nat.le_of_ble_eq_true rfl) (Nat.le_of_ble_eq_true rfl) rfl ?_
  simp only [Option.toList_some, Option.toList_none, List.cons_append, List.nil_append]
  refine g_end (some (.int _)) rfl ⟨by decide +kernel, _, rfl, by first | rfl | exact bI_nar _⟩ ⟨?_, rfl⟩
  rfl
theorem mo_isMissorted_no {o c t la ta ca da ba pa ep : Nat} {fl fq ls ps : List Nat} {N : Nat → Int32} (hp : gPxs Γ) (hm : gMc h m o sv hl tt bu bl sb e8 f8) (H : gOx Γ de h o N c t la ta ca da ba pa ep fl fq ls ps) (hc : c ≤ 20) (hu : rUq N c) (id : Int32) (hn : rPlace N id c = -1) : gC Γ M_X9_isMissorted [.ref m, .int id] h 7 1 6 (fun _ _ => False) (fun E h' => E = xNS ∧ h' = h) := by
  have H0 := H
  obtain ⟨ho, HL, hlc, hls, hta, HP, hpc, hps, hep, ⟨fc, hca, hfc⟩, ⟨fd, hda, hfd⟩, ⟨fb, hba, hfb⟩⟩ := H0
  refine gC_of (by decide) rfl (Nat.le_of_ble_eq_true rfl) [some (.ref m), some (.int id)] rfl ?_
  refine g_blk [(.aload_n 0, .null)] (Nat.le_of_ble_eq_true rfl) (by decide +kernel) ?_
  refine gx_aload_n_0 ((gx_nil ?_))
  refine g_getf fX9_10 (by decide +kernel) hm rfl ?_
  refine g_blk [(.aload_n 0, .null), (.iload_n 1, .null)] (Nat.le_of_ble_eq_true rfl) (by decide +kernel) ?_
  refine gx_aload_n_0 (gx_iload_n_1 ((gx_nil ?_)))
  exact g_callV (rc' := 0) (rs' := 0) kX9_167 (mo_present_no hp hm H hc hu id hn) (by decide +kernel) rfl rfl hm rfl (Nat.le_of_ble_eq_true rfl) (Nat.le_of_ble_eq_true rfl) (Nat.le_of_ble_eq_true rfl) (Nat.le_refl _) (Nat.le_refl _) rfl (fun _ _ z => z) (fun _ _ z => z.elim)
theorem mo_canSort {o c t la ta ca da ba pa ep : Nat} {fl fq ls ps : List Nat} {N : Nat → Int32} (hm : gMc h m o sv hl tt bu bl sb e8 f8) (H : gOx Γ de h o N c t la ta ca da ba pa ep fl fq ls ps) (hc : c ≤ 20) (ht : t ≤ 12) (hv : rPv N t) (hw : rLv1 N c) (hOK : rOK N) (hu : rUq N c) (id : Int32) {p a : Nat} (hx9 : ls[p]? = some a) (ep9 : rPlace N id c = nI p) : pC Γ M_X9_canSort [.ref m, .int id] h 7 (some (.int (bI (¬ gBf N p (rLR N p t) c = -1)))) := by
  have H0 := H
  obtain ⟨ho, HL, hlc, hls, hta, HP, hpc, hps, hep, ⟨fc, hca, hfc⟩, ⟨fd, hda, hfd⟩, ⟨fb, hba, hfb⟩⟩ := H0
  have hl9 := hls p a hx9
  refine pC_of (by decide) rfl (Nat.le_of_ble_eq_true rfl) [some (.ref m), some (.int id)] rfl ?_
  refine g_blk [(.aload_n 0, .null)] (Nat.le_of_ble_eq_true rfl) (by decide +kernel) ?_
  refine gx_aload_n_0 ((gx_nil ?_))
  refine g_getf fX9_10 (by decide +kernel) hm rfl ?_
  refine g_blk [(.aload_n 0, .null), (.iload_n 1, .null)] (Nat.le_of_ble_eq_true rfl) (by decide +kernel) ?_
  refine gx_aload_n_0 (gx_iload_n_1 ((gx_nil ?_)))
  refine g_pV kX9_167 (mo_present hm H hc hu id hx9 ep9) (by decide +kernel) rfl rfl hm rfl (Nat.le_of_ble_eq_true rfl) (Nat.le_of_ble_eq_true rfl) (Nat.le_of_ble_eq_true rfl) rfl ?_
  try simp only [Option.toList_some, Option.toList_none, List.cons_append, List.nil_append, bI_0, n1_0, n0_0, Decidable.not_not, not_true_eq_false, not_false_eq_true]
  refine g_pV kX9_200 (of_sortingBag H hc ht hv hw hOK hx9) (by decide +kernel) rfl rfl ho rfl (Nat.le_of_ble_eq_true rfl) (Nat.le_of_ble_eq_true rfl) (Nat.le_of_ble_eq_true rfl) rfl ?_
  simp only [Option.toList_some, Option.toList_none, List.cons_append, List.nil_append]
  refine g_blk [(.iconst (-1), .int (-1))] (Nat.le_of_ble_eq_true rfl) (by decide +kernel) ?_
  refine gx_iconst ((gx_nil ?_))
  refine g_icmp_eq (off := 7) (tgt := 20) (by decide +kernel) (by decide) (fun c13 => ?_) (fun c13 => ?_)
  · try simp only [bI_0, Decidable.not_not] at c13
    refine g_blk [(.iconst 0, .int (nI 0))] (Nat.le_of_ble_eq_true rfl) (by decide +kernel) ?_
    refine gx_iconst ((gx_nil ?_))
    refine g_end (some (.int _)) rfl ⟨by decide +kernel, _, rfl, by first | rfl | exact bI_nar _⟩ ⟨?_, rfl⟩
    rw [bI_f (fun z => z c13)]
  · try simp only [bI_0, Decidable.not_not] at c13
    refine g_blk [(.iconst 1, .int (nI 1)), (.goto 4, .retAddr 21)] (Nat.le_of_ble_eq_true rfl) (by decide +kernel) ?_
    refine gx_iconst (gx_goto ((gx_nil ?_)))
    refine g_end (some (.int _)) rfl ⟨by decide +kernel, _, rfl, by first | rfl | exact bI_nar _⟩ ⟨?_, rfl⟩
    rw [bI_t c13]
theorem mo_canSort_no {o c t la ta ca da ba pa ep : Nat} {fl fq ls ps : List Nat} {N : Nat → Int32} (hp : gPxs Γ) (hm : gMc h m o sv hl tt bu bl sb e8 f8) (H : gOx Γ de h o N c t la ta ca da ba pa ep fl fq ls ps) (hc : c ≤ 20) (hu : rUq N c) (id : Int32) (hn : rPlace N id c = -1) : gC Γ M_X9_canSort [.ref m, .int id] h 7 1 6 (fun _ _ => False) (fun E h' => E = xNS ∧ h' = h) := by
  have H0 := H
  obtain ⟨ho, HL, hlc, hls, hta, HP, hpc, hps, hep, ⟨fc, hca, hfc⟩, ⟨fd, hda, hfd⟩, ⟨fb, hba, hfb⟩⟩ := H0
  refine gC_of (by decide) rfl (Nat.le_of_ble_eq_true rfl) [some (.ref m), some (.int id)] rfl ?_
  refine g_blk [(.aload_n 0, .null)] (Nat.le_of_ble_eq_true rfl) (by decide +kernel) ?_
  refine gx_aload_n_0 ((gx_nil ?_))
  refine g_getf fX9_10 (by decide +kernel) hm rfl ?_
  refine g_blk [(.aload_n 0, .null), (.iload_n 1, .null)] (Nat.le_of_ble_eq_true rfl) (by decide +kernel) ?_
  refine gx_aload_n_0 (gx_iload_n_1 ((gx_nil ?_)))
  exact g_callV (rc' := 0) (rs' := 0) kX9_167 (mo_present_no hp hm H hc hu id hn) (by decide +kernel) rfl rfl hm rfl (Nat.le_of_ble_eq_true rfl) (Nat.le_of_ble_eq_true rfl) (Nat.le_of_ble_eq_true rfl) (Nat.le_refl _) (Nat.le_refl _) rfl (fun _ _ z => z) (fun _ _ z => z.elim)
theorem mo_lateCount {o c t la ta ca da ba pa ep : Nat} {fl fq ls ps : List Nat} {N : Nat → Int32} (hm : gMc h m o sv hl tt bu bl sb e8 f8) (H : gOx Γ de h o N c t la ta ca da ba pa ep fl fq ls ps) (hc : c ≤ 20) (ht : t ≤ 12) (hv : rPv N t) (hw : rLv1 N c) : pC Γ M_X9_lateCount [.ref m] h 7 (some (.int (rLt N t c))) := by
  have H0 := H
  obtain ⟨ho, HL, hlc, hls, hta, HP, hpc, hps, hep, ⟨fc, hca, hfc⟩, ⟨fd, hda, hfd⟩, ⟨fb, hba, hfb⟩⟩ := H0
  refine pC_of (by decide) rfl (Nat.le_of_ble_eq_true rfl) [some (.ref m)] rfl ?_
  refine g_blk [(.aload_n 0, .null)] (Nat.le_of_ble_eq_true rfl) (by decide +kernel) ?_
  refine gx_aload_n_0 ((gx_nil ?_))
  refine g_getf fX9_10 (by decide +kernel) hm rfl ?_
  refine g_pV kX9_208 (of_countLate H hc ht hv hw) (by decide +kernel) rfl rfl ho rfl (Nat.le_of_ble_eq_true rfl) (Nat.le_of_ble_eq_true rfl) (Nat.le_of_ble_eq_true rfl) rfl ?_
  simp only [Option.toList_some, Option.toList_none, List.cons_append, List.nil_append]
  refine g_end (some (.int _)) rfl ⟨by decide +kernel, _, rfl, rfl⟩ ⟨?_, rfl⟩
  rfl
theorem mo_missortedCount {o c t la ta ca da ba pa ep : Nat} {fl fq ls ps : List Nat} {N : Nat → Int32} (hm : gMc h m o sv hl tt bu bl sb e8 f8) (H : gOx Γ de h o N c t la ta ca da ba pa ep fl fq ls ps) (hc : c ≤ 20) (ht : t ≤ 12) (hv : rPv N t) (hw : rLv1 N c) : pC Γ M_X9_missortedCount [.ref m] h 8 (some (.int (rMs N t c))) := by
  have H0 := H
  obtain ⟨ho, HL, hlc, hls, hta, HP, hpc, hps, hep, ⟨fc, hca, hfc⟩, ⟨fd, hda, hfd⟩, ⟨fb, hba, hfb⟩⟩ := H0
  refine pC_of (by decide) rfl (Nat.le_of_ble_eq_true rfl) [some (.ref m)] rfl ?_
  refine g_blk [(.aload_n 0, .null)] (Nat.le_of_ble_eq_true rfl) (by decide +kernel) ?_
  refine gx_aload_n_0 ((gx_nil ?_))
  refine g_getf fX9_10 (by decide +kernel) hm rfl ?_
  refine g_pV kX9_315 (of_countMissorted H hc ht hv hw) (by decide +kernel) rfl rfl ho rfl (Nat.le_of_ble_eq_true rfl) (Nat.le_of_ble_eq_true rfl) (Nat.le_of_ble_eq_true rfl) rfl ?_
  simp only [Option.toList_some, Option.toList_none, List.cons_append, List.nil_append]
  refine g_end (some (.int _)) rfl ⟨by decide +kernel, _, rfl, rfl⟩ ⟨?_, rfl⟩
  rfl
theorem mo_deliverableLetter {o c t la ta ca da ba pa ep : Nat} {fl fq ls ps : List Nat} {N : Nat → Int32} (hm : gMc h m o sv hl tt bu bl sb e8 f8) (H : gOx Γ de h o N c t la ta ca da ba pa ep fl fq ls ps) (hc : c ≤ 20) (ht : t ≤ 12) (hv : rPv N t) (hw : rLv1 N c) (hu : rUq N c) (id : Int32) {p a : Nat} (hx9 : ls[p]? = some a) (ep9 : rPlace N id c = nI p) (ht5 : ¬ N (62 + 7 * p + 5) = -1) (hr9 : rWr N p t = false) : pC Γ M_X9_deliverableLetter [.ref m, .int id] h 7 (some (.ref a)) := by
  have H0 := H
  obtain ⟨ho, HL, hlc, hls, hta, HP, hpc, hps, hep, ⟨fc, hca, hfc⟩, ⟨fd, hda, hfd⟩, ⟨fb, hba, hfb⟩⟩ := H0
  have hl9 := hls p a hx9
  refine pC_of (by decide) rfl (Nat.le_of_ble_eq_true rfl) [some (.ref m), some (.int id), none] rfl ?_
  refine g_blk [(.aload_n 0, .null), (.iload_n 1, .null)] (Nat.le_of_ble_eq_true rfl) (by decide +kernel) ?_
  refine gx_aload_n_0 (gx_iload_n_1 ((gx_nil ?_)))
  refine g_pV kX9_187 (mo_baggedLetter hm H hc hu id hx9 ep9 ht5) (by decide +kernel) rfl rfl hm rfl (Nat.le_of_ble_eq_true rfl) (Nat.le_of_ble_eq_true rfl) (Nat.le_of_ble_eq_true rfl) rfl ?_
  try simp only [Option.toList_some, Option.toList_none, List.cons_append, List.nil_append, bI_0, n1_0, n0_0, Decidable.not_not, not_true_eq_false, not_false_eq_true]
  refine g_blk [(.astore_n 2, .null), (.aload_n 0, .null)] (Nat.le_of_ble_eq_true rfl) (by decide +kernel) ?_
  refine gx_astore_n_2 rfl (gx_aload_n_0 ((gx_nil ?_)))
  refine g_getf fX9_10 (by decide +kernel) hm rfl ?_
  refine g_blk [(.aload_n 2, .null)] (Nat.le_of_ble_eq_true rfl) (by decide +kernel) ?_
  refine gx_aload_n_2 ((gx_nil ?_))
  refine g_pV kX9_196 (of_comeBack H hc ht hv hw hx9) (by decide +kernel) rfl rfl ho rfl (Nat.le_of_ble_eq_true rfl) (Nat.le_of_ble_eq_true rfl) (Nat.le_of_ble_eq_true rfl) rfl ?_
  simp only [Option.toList_some, Option.toList_none, List.cons_append, List.nil_append]
  rw [bI_f (by rw [hr9]; decide)]
  refine g_if_eq (off := 14) (tgt := 28) (by decide +kernel) (by decide) (fun c14 => ?_) (fun c14 => ?_)
  · try simp only [bI_0, Decidable.not_not] at c14
    refine g_blk [(.aload_n 2, .null)] (Nat.le_of_ble_eq_true rfl) (by decide +kernel) ?_
    refine gx_aload_n_2 ((gx_nil ?_))
    refine g_end (some (.ref _)) rfl ⟨by decide +kernel, _, rfl, Or.inl ⟨_, rfl⟩⟩ ⟨?_, rfl⟩
    rfl
  · try simp only [bI_0, Decidable.not_not] at c14
    exact absurd rfl c14
theorem mo_deliverableLetter_no {o c t la ta ca da ba pa ep : Nat} {fl fq ls ps : List Nat} {N : Nat → Int32} (hp : gPxs Γ) (hm : gMc h m o sv hl tt bu bl sb e8 f8) (H : gOx Γ de h o N c t la ta ca da ba pa ep fl fq ls ps) (hc : c ≤ 20) (hu : rUq N c) (id : Int32) (hn : rPlace N id c = -1) : gC Γ M_X9_deliverableLetter [.ref m, .int id] h 9 1 6 (fun _ _ => False) (fun E h' => E = xNS ∧ h' = h) := by
  refine gC_of (by decide) rfl (Nat.le_of_ble_eq_true rfl) [some (.ref m), some (.int id), none] rfl ?_
  refine g_blk [(.aload_n 0, .null), (.iload_n 1, .null)] (Nat.le_of_ble_eq_true rfl) (by decide +kernel) ?_
  refine gx_aload_n_0 (gx_iload_n_1 ((gx_nil ?_)))
  exact g_callV (rc' := 0) (rs' := 0) kX9_187 (mo_baggedLetter_no hp hm H hc hu id hn) (by decide +kernel) rfl rfl hm rfl (Nat.le_of_ble_eq_true rfl) (Nat.le_of_ble_eq_true rfl) (Nat.le_of_ble_eq_true rfl) (Nat.le_refl _) (Nat.le_refl _) rfl (fun _ _ z => z) (fun _ _ z => z.elim)
theorem mo_deliverableLetter_tray {o c t la ta ca da ba pa ep : Nat} {fl fq ls ps : List Nat} {N : Nat → Int32} (hp : gPxs Γ) (hm : gMc h m o sv hl tt bu bl sb e8 f8) (H : gOx Γ de h o N c t la ta ca da ba pa ep fl fq ls ps) (hc : c ≤ 20) (hu : rUq N c) (id : Int32) {p a : Nat} (hx9 : ls[p]? = some a) (ep9 : rPlace N id c = nI p) (ht5 : N (62 + 7 * p + 5) = -1) : gC Γ M_X9_deliverableLetter [.ref m, .int id] h 9 1 6 (fun _ _ => False) (fun E h' => E = xIS ∧ h' = h) := by
  refine gC_of (by decide) rfl (Nat.le_of_ble_eq_true rfl) [some (.ref m), some (.int id), none] rfl ?_
  refine g_blk [(.aload_n 0, .null), (.iload_n 1, .null)] (Nat.le_of_ble_eq_true rfl) (by decide +kernel) ?_
  refine gx_aload_n_0 (gx_iload_n_1 ((gx_nil ?_)))
  exact g_callV (rc' := 0) (rs' := 0) kX9_187 (mo_baggedLetter_tray hp hm H hc hu id hx9 ep9 ht5) (by decide +kernel) rfl rfl hm rfl (Nat.le_of_ble_eq_true rfl) (Nat.le_of_ble_eq_true rfl) (Nat.le_of_ble_eq_true rfl) (Nat.le_refl _) (Nat.le_refl _) rfl (fun _ _ z => z) (fun _ _ z => z.elim)
theorem mo_deliverableLetter_wrong {o c t la ta ca da ba pa ep : Nat} {fl fq ls ps : List Nat} {N : Nat → Int32} (hp : gPxs Γ) (hm : gMc h m o sv hl tt bu bl sb e8 f8) (H : gOx Γ de h o N c t la ta ca da ba pa ep fl fq ls ps) (hc : c ≤ 20) (ht : t ≤ 12) (hv : rPv N t) (hw : rLv1 N c) (hu : rUq N c) (id : Int32) {p a : Nat} (hx9 : ls[p]? = some a) (ep9 : rPlace N id c = nI p) (ht5 : ¬ N (62 + 7 * p + 5) = -1) (hr9 : rWr N p t = true) : gC Γ M_X9_deliverableLetter [.ref m, .int id] h 9 1 6 (fun _ _ => False) (fun E h' => E = xIS ∧ h' = h) := by
  have H0 := H
  obtain ⟨ho, HL, hlc, hls, hta, HP, hpc, hps, hep, ⟨fc, hca, hfc⟩, ⟨fd, hda, hfd⟩, ⟨fb, hba, hfb⟩⟩ := H0
  have hl9 := hls p a hx9
  refine gC_of (by decide) rfl (Nat.le_of_ble_eq_true rfl) [some (.ref m), some (.int id), none] rfl ?_
  refine g_blk [(.aload_n 0, .null), (.iload_n 1, .null)] (Nat.le_of_ble_eq_true rfl) (by decide +kernel) ?_
  refine gx_aload_n_0 (gx_iload_n_1 ((gx_nil ?_)))
  refine g_pV kX9_187 (mo_baggedLetter hm H hc hu id hx9 ep9 ht5) (by decide +kernel) rfl rfl hm rfl (Nat.le_of_ble_eq_true rfl) (Nat.le_of_ble_eq_true rfl) (Nat.le_of_ble_eq_true rfl) rfl ?_
  try simp only [Option.toList_some, Option.toList_none, List.cons_append, List.nil_append, bI_0, n1_0, n0_0, Decidable.not_not, not_true_eq_false, not_false_eq_true]
  refine g_blk [(.astore_n 2, .null), (.aload_n 0, .null)] (Nat.le_of_ble_eq_true rfl) (by decide +kernel) ?_
  refine gx_astore_n_2 rfl (gx_aload_n_0 ((gx_nil ?_)))
  refine g_getf fX9_10 (by decide +kernel) hm rfl ?_
  refine g_blk [(.aload_n 2, .null)] (Nat.le_of_ble_eq_true rfl) (by decide +kernel) ?_
  refine gx_aload_n_2 ((gx_nil ?_))
  refine g_pV kX9_196 (of_comeBack H hc ht hv hw hx9) (by decide +kernel) rfl rfl ho rfl (Nat.le_of_ble_eq_true rfl) (Nat.le_of_ble_eq_true rfl) (Nat.le_of_ble_eq_true rfl) rfl ?_
  simp only [Option.toList_some, Option.toList_none, List.cons_append, List.nil_append]
  rw [bI_t hr9]
  refine g_if_eq (off := 14) (tgt := 28) (by decide +kernel) (by decide) (fun c14 => ?_) (fun c14 => ?_)
  · try simp only [bI_0, Decidable.not_not] at c14
    exact absurd c14 (by decide)
  · try simp only [bI_0, Decidable.not_not] at c14
    obtain ⟨sa, hsa⟩ := hp.at (k := 313) (tx := "the letter is missorted") (by decide)
    exact g_throwW thr_is hp.1 hsa (by decide +kernel) (by decide +kernel) (by decide +kernel) (by decide +kernel) (by decide +kernel) rfl (by decide) (Nat.le_of_ble_eq_true rfl) (by omega) (by omega) ⟨rfl, rfl⟩
theorem mo_hoursToDelivery {o c t la ta ca da ba pa ep : Nat} {fl fq ls ps : List Nat} {N : Nat → Int32} (hm : gMc h m o sv hl tt bu bl sb e8 f8) (H : gOx Γ de h o N c t la ta ca da ba pa ep fl fq ls ps) (hc : c ≤ 20) (ht : t ≤ 12) (hv : rPv N t) (hw : rLv1 N c) (hu : rUq N c) (id : Int32) {p a : Nat} (hx9 : ls[p]? = some a) (ep9 : rPlace N id c = nI p) (ht5 : ¬ N (62 + 7 * p + 5) = -1) (hr9 : rWr N p t = false) {r : Nat} (hr : r < 6) (er : N (62 + 7 * p + 5) = nI r) : pC Γ M_X9_hoursToDelivery [.ref m, .int id] h 8 (some (.int (gHu N r))) := by
  have H0 := H
  obtain ⟨ho, HL, hlc, hls, hta, HP, hpc, hps, hep, ⟨fc, hca, hfc⟩, ⟨fd, hda, hfd⟩, ⟨fb, hba, hfb⟩⟩ := H0
  have hl9 := hls p a hx9
  refine pC_of (by decide) rfl (Nat.le_of_ble_eq_true rfl) [some (.ref m), some (.int id)] rfl ?_
  refine g_blk [(.aload_n 0, .null)] (Nat.le_of_ble_eq_true rfl) (by decide +kernel) ?_
  refine gx_aload_n_0 ((gx_nil ?_))
  refine g_getf fX9_10 (by decide +kernel) hm rfl ?_
  refine g_blk [(.aload_n 0, .null), (.iload_n 1, .null)] (Nat.le_of_ble_eq_true rfl) (by decide +kernel) ?_
  refine gx_aload_n_0 (gx_iload_n_1 ((gx_nil ?_)))
  refine g_pV kX9_298 (mo_deliverableLetter hm H hc ht hv hw hu id hx9 ep9 ht5 hr9) (by decide +kernel) rfl rfl hm rfl (Nat.le_of_ble_eq_true rfl) (Nat.le_of_ble_eq_true rfl) (Nat.le_of_ble_eq_true rfl) rfl ?_
  try simp only [Option.toList_some, Option.toList_none, List.cons_append, List.nil_append, bI_0, n1_0, n0_0, Decidable.not_not, not_true_eq_false, not_false_eq_true]
  refine g_getf fX9_190 (by decide +kernel) hl9 rfl ?_
  rw [er]
  refine g_pV kX9_295 (of_hours H hr) (by decide +kernel) rfl rfl ho rfl (Nat.le_of_ble_eq_true rfl) (Nat.le_of_ble_eq_true rfl) (Nat.le_of_ble_eq_true rfl) rfl ?_
  simp only [Option.toList_some, Option.toList_none, List.cons_append, List.nil_append]
  refine g_end (some (.int _)) rfl ⟨by decide +kernel, _, rfl, rfl⟩ ⟨?_, rfl⟩
  rfl
theorem mo_hoursToDelivery_no {o c t la ta ca da ba pa ep : Nat} {fl fq ls ps : List Nat} {N : Nat → Int32} (hp : gPxs Γ) (hm : gMc h m o sv hl tt bu bl sb e8 f8) (H : gOx Γ de h o N c t la ta ca da ba pa ep fl fq ls ps) (hc : c ≤ 20) (hu : rUq N c) (id : Int32) (hn : rPlace N id c = -1) : gC Γ M_X9_hoursToDelivery [.ref m, .int id] h 10 1 6 (fun _ _ => False) (fun E h' => E = xNS ∧ h' = h) := by
  have H0 := H
  obtain ⟨ho, HL, hlc, hls, hta, HP, hpc, hps, hep, ⟨fc, hca, hfc⟩, ⟨fd, hda, hfd⟩, ⟨fb, hba, hfb⟩⟩ := H0
  refine gC_of (by decide) rfl (Nat.le_of_ble_eq_true rfl) [some (.ref m), some (.int id)] rfl ?_
  refine g_blk [(.aload_n 0, .null)] (Nat.le_of_ble_eq_true rfl) (by decide +kernel) ?_
  refine gx_aload_n_0 ((gx_nil ?_))
  refine g_getf fX9_10 (by decide +kernel) hm rfl ?_
  refine g_blk [(.aload_n 0, .null), (.iload_n 1, .null)] (Nat.le_of_ble_eq_true rfl) (by decide +kernel) ?_
  refine gx_aload_n_0 (gx_iload_n_1 ((gx_nil ?_)))
  exact g_callV (rc' := 0) (rs' := 0) kX9_298 (mo_deliverableLetter_no hp hm H hc hu id hn) (by decide +kernel) rfl rfl hm rfl (Nat.le_of_ble_eq_true rfl) (Nat.le_of_ble_eq_true rfl) (Nat.le_of_ble_eq_true rfl) (Nat.le_refl _) (Nat.le_refl _) rfl (fun _ _ z => z) (fun _ _ z => z.elim)
theorem mo_hoursToDelivery_tray {o c t la ta ca da ba pa ep : Nat} {fl fq ls ps : List Nat} {N : Nat → Int32} (hp : gPxs Γ) (hm : gMc h m o sv hl tt bu bl sb e8 f8) (H : gOx Γ de h o N c t la ta ca da ba pa ep fl fq ls ps) (hc : c ≤ 20) (hu : rUq N c) (id : Int32) {p a : Nat} (hx9 : ls[p]? = some a) (ep9 : rPlace N id c = nI p) (ht5 : N (62 + 7 * p + 5) = -1) : gC Γ M_X9_hoursToDelivery [.ref m, .int id] h 10 1 6 (fun _ _ => False) (fun E h' => E = xIS ∧ h' = h) := by
  have H0 := H
  obtain ⟨ho, HL, hlc, hls, hta, HP, hpc, hps, hep, ⟨fc, hca, hfc⟩, ⟨fd, hda, hfd⟩, ⟨fb, hba, hfb⟩⟩ := H0
  refine gC_of (by decide) rfl (Nat.le_of_ble_eq_true rfl) [some (.ref m), some (.int id)] rfl ?_
  refine g_blk [(.aload_n 0, .null)] (Nat.le_of_ble_eq_true rfl) (by decide +kernel) ?_
  refine gx_aload_n_0 ((gx_nil ?_))
  refine g_getf fX9_10 (by decide +kernel) hm rfl ?_
  refine g_blk [(.aload_n 0, .null), (.iload_n 1, .null)] (Nat.le_of_ble_eq_true rfl) (by decide +kernel) ?_
  refine gx_aload_n_0 (gx_iload_n_1 ((gx_nil ?_)))
  exact g_callV (rc' := 0) (rs' := 0) kX9_298 (mo_deliverableLetter_tray hp hm H hc hu id hx9 ep9 ht5) (by decide +kernel) rfl rfl hm rfl (Nat.le_of_ble_eq_true rfl) (Nat.le_of_ble_eq_true rfl) (Nat.le_of_ble_eq_true rfl) (Nat.le_refl _) (Nat.le_refl _) rfl (fun _ _ z => z) (fun _ _ z => z.elim)
theorem mo_hoursToDelivery_wrong {o c t la ta ca da ba pa ep : Nat} {fl fq ls ps : List Nat} {N : Nat → Int32} (hp : gPxs Γ) (hm : gMc h m o sv hl tt bu bl sb e8 f8) (H : gOx Γ de h o N c t la ta ca da ba pa ep fl fq ls ps) (hc : c ≤ 20) (ht : t ≤ 12) (hv : rPv N t) (hw : rLv1 N c) (hu : rUq N c) (id : Int32) {p a : Nat} (hx9 : ls[p]? = some a) (ep9 : rPlace N id c = nI p) (ht5 : ¬ N (62 + 7 * p + 5) = -1) (hr9 : rWr N p t = true) : gC Γ M_X9_hoursToDelivery [.ref m, .int id] h 10 1 6 (fun _ _ => False) (fun E h' => E = xIS ∧ h' = h) := by
  have H0 := H
  obtain ⟨ho, HL, hlc, hls, hta, HP, hpc, hps, hep, ⟨fc, hca, hfc⟩, ⟨fd, hda, hfd⟩, ⟨fb, hba, hfb⟩⟩ := H0
  refine gC_of (by decide) rfl (Nat.le_of_ble_eq_true rfl) [some (.ref m), some (.int id)] rfl ?_
  refine g_blk [(.aload_n 0, .null)] (Nat.le_of_ble_eq_true rfl) (by decide +kernel) ?_
  refine gx_aload_n_0 ((gx_nil ?_))
  refine g_getf fX9_10 (by decide +kernel) hm rfl ?_
  refine g_blk [(.aload_n 0, .null), (.iload_n 1, .null)] (Nat.le_of_ble_eq_true rfl) (by decide +kernel) ?_
  refine gx_aload_n_0 (gx_iload_n_1 ((gx_nil ?_)))
  exact g_callV (rc' := 0) (rs' := 0) kX9_298 (mo_deliverableLetter_wrong hp hm H hc ht hv hw hu id hx9 ep9 ht5 hr9) (by decide +kernel) rfl rfl hm rfl (Nat.le_of_ble_eq_true rfl) (Nat.le_of_ble_eq_true rfl) (Nat.le_of_ble_eq_true rfl) (Nat.le_refl _) (Nat.le_refl _) rfl (fun _ _ z => z) (fun _ _ z => z.elim)
end GFq
