/-! THE LAW: a change, a question, and what is thrown caught -/
section GLb
variable {Γ : gE} {de mi : Nat} {h : gHp} {m B : Nat} {fs : List Value}
def ex4 (E : String) : Prop := E = xIO ∨ E = xIA ∨ E = xIS ∨ E = xNS
theorem nm_ex {a b c : String} {τ : Int32} (ha : ex4 a) (hb : ex4 b) (hc : ex4 c) : ex4 (nmOf a b c τ) := by
  unfold nmOf
  split
  · exact ha
  · split
    · exact hb
    · exact hc
theorem e_IO : ex4 xIO := Or.inl rfl
theorem e_IA : ex4 xIA := Or.inr (Or.inl rfl)
theorem e_IS : ex4 xIS := Or.inr (Or.inr (Or.inl rfl))
theorem e_NS : ex4 xNS := Or.inr (Or.inr (Or.inr rfl))
/-- the number that stands for what was thrown -/
def xcd (E : String) : Int32 := if E = xIO then (-2002) else if E = xIA then (-2003) else if E = xIS then (-2005) else (-2004)
theorem xc_IO : xcd xIO = (-2002) := if_pos rfl
theorem xc_IA : xcd xIA = (-2003) := by unfold xcd; rw [if_neg (by decide), if_pos rfl]
theorem xc_IS : xcd xIS = (-2005) := by unfold xcd; rw [if_neg (by decide), if_neg (by decide), if_pos rfl]
theorem xc_NS : xcd xNS = (-2004) := by unfold xcd; rw [if_neg (by decide), if_neg (by decide), if_neg (by decide)]
theorem deed_of {d mc ms : Nat} {w a b c : Int32} {Q : Int32 → gHp → Prop} {QX : String → gHp → Prop} (hnc : gPnc Γ) (hC : gC Γ M_L_plain [.ref m, .int w, .int a, .int b, .int c] h d mc ms (fun v h' => ∃ x, v = some (.int x) ∧ Q x h') QX) (hx : ∀ E h', QX E h' → ex4 E) : gC Γ M_L_deed [.ref m, .int w, .int a, .int b, .int c] h (d + 1) mc ms (fun v h' => ∃ x, v = some (.int x) ∧ (Q x h' ∨ ∃ E, QX E h' ∧ x = xcd E)) (fun _ _ => False) := by
  refine gC_ofH (by decide) (by decide) (Nat.le_of_ble_eq_true rfl) [some (.ref m), some (.int w), some (.int a), some (.int b), some (.int c), none] rfl ?_
  refine g_blk [(.aload_n 0, .null), (.iload_n 1, .null), (.iload_n 2, .null), (.iload_n 3, .null), (.iload 4, .null)] (Nat.le_of_ble_eq_true rfl) (by decide +kernel) ?_
  refine gx_aload_n_0 (gx_iload_n_1 (gx_iload_n_2 (gx_iload_n_3 (gx_iload_4 ((gx_nil ?_))))))
  refine g_callST (rc' := 0) (rs' := 0) kL_55 hC (by decide +kernel) rfl rfl (Nat.le_refl _) (Nat.le_of_ble_eq_true rfl) (Nat.le_of_ble_eq_true rfl) (by omega) (by omega) (fun E h9 hE => ?_) (fun v h9 hz => ?_)
  · have h4 := hx E h9 hE
    rcases h4 with rfl | rfl | rfl | rfl
    · refine ⟨10, Or.inl ⟨by decide, by decide, cl_xIO, ca_xIO, rfl⟩, fun q => ?_⟩
      refine g_blk [(.astore 5, .null), (.sipush (-2002), .int (-2002))] (Nat.le_of_ble_eq_true rfl) (by decide +kernel) ?_
      refine gx_astore_5 rfl (gx_sipush ((gx_nil ?_)))
      exact g_end (some (.int _)) rfl ⟨by decide +kernel, _, rfl, rfl⟩ ⟨_, rfl, Or.inr ⟨_, hE, xc_IO.symm⟩⟩
    · refine ⟨16, Or.inr ⟨⟨by decide, _, cl_xIO, hnc _ (by decide) _ (by decide) (by decide)⟩, Or.inl ⟨by decide, by decide, cl_xIA, ca_xIA, rfl⟩⟩, fun q => ?_⟩
      refine g_blk [(.astore 5, .null), (.sipush (-2003), .int (-2003))] (Nat.le_of_ble_eq_true rfl) (by decide +kernel) ?_
      refine gx_astore_5 rfl (gx_sipush ((gx_nil ?_)))
      exact g_end (some (.int _)) rfl ⟨by decide +kernel, _, rfl, rfl⟩ ⟨_, rfl, Or.inr ⟨_, hE, xc_IA.symm⟩⟩
    · refine ⟨22, Or.inr ⟨⟨by decide, _, cl_xIO, hnc _ (by decide) _ (by decide) (by decide)⟩, Or.inr ⟨⟨by decide, _, cl_xIA, hnc _ (by decide) _ (by decide) (by decide)⟩, Or.inl ⟨by decide, by decide, cl_xIS, ca_xIS, rfl⟩⟩⟩, fun q => ?_⟩
      refine g_blk [(.astore 5, .null), (.sipush (-2005), .int (-2005))] (Nat.le_of_ble_eq_true rfl) (by decide +kernel) ?_
      refine gx_astore_5 rfl (gx_sipush ((gx_nil ?_)))
      exact g_end (some (.int _)) rfl ⟨by decide +kernel, _, rfl, rfl⟩ ⟨_, rfl, Or.inr ⟨_, hE, xc_IS.symm⟩⟩
    · refine ⟨28, Or.inr ⟨⟨by decide, _, cl_xIO, hnc _ (by decide) _ (by decide) (by decide)⟩, Or.inr ⟨⟨by decide, _, cl_xIA, hnc _ (by decide) _ (by decide) (by decide)⟩, Or.inr ⟨⟨by decide, _, cl_xIS, hnc _ (by decide) _ (by decide) (by decide)⟩, Or.inl ⟨by decide, by decide, cl_xNS, ca_xNS, rfl⟩⟩⟩⟩, fun q => ?_⟩
      refine g_blk [(.astore 5, .null), (.sipush (-2004), .int (-2004))] (Nat.le_of_ble_eq_true rfl) (by decide +kernel) ?_
      refine gx_astore_5 rfl (gx_sipush ((gx_nil ?_)))
      exact g_end (some (.int _)) rfl ⟨by decide +kernel, _, rfl, rfl⟩ ⟨_, rfl, Or.inr ⟨_, hE, xc_NS.symm⟩⟩
  · obtain ⟨x, rfl, hQ⟩ := hz
    simp only [Option.toList_some, List.cons_append, List.nil_append]
    exact g_end (some (.int _)) rfl ⟨by decide +kernel, _, rfl, rfl⟩ ⟨x, rfl, Or.inl hQ⟩
theorem ask_of {d mc ms : Nat} {w a b : Int32} {Q : Int32 → gHp → Prop} {QX : String → gHp → Prop} (hnc : gPnc Γ) (hC : gC Γ M_L_asked [.ref m, .int w, .int a, .int b] h d mc ms (fun v h' => ∃ x, v = some (.int x) ∧ Q x h') QX) (hx : ∀ E h', QX E h' → ex4 E) : gC Γ M_L_ask [.ref m, .int w, .int a, .int b] h (d + 1) mc ms (fun v h' => ∃ x, v = some (.int x) ∧ (Q x h' ∨ ∃ E, QX E h' ∧ x = xcd E)) (fun _ _ => False) := by
  refine gC_ofH (by decide) (by decide) (Nat.le_of_ble_eq_true rfl) [some (.ref m), some (.int w), some (.int a), some (.int b), none] rfl ?_
  refine g_blk [(.aload_n 0, .null), (.iload_n 1, .null), (.iload_n 2, .null), (.iload_n 3, .null)] (Nat.le_of_ble_eq_true rfl) (by decide +kernel) ?_
  refine gx_aload_n_0 (gx_iload_n_1 (gx_iload_n_2 (gx_iload_n_3 ((gx_nil ?_)))))
  refine g_callST (rc' := 0) (rs' := 0) kL_126 hC (by decide +kernel) rfl rfl (Nat.le_refl _) (Nat.le_of_ble_eq_true rfl) (Nat.le_of_ble_eq_true rfl) (by omega) (by omega) (fun E h9 hE => ?_) (fun v h9 hz => ?_)
  · have h4 := hx E h9 hE
    rcases h4 with rfl | rfl | rfl | rfl
    · refine ⟨8, Or.inl ⟨by decide, by decide, cl_xIO, ca_xIO, rfl⟩, fun q => ?_⟩
      refine g_blk [(.astore 4, .null), (.sipush (-2002), .int (-2002))] (Nat.le_of_ble_eq_true rfl) (by decide +kernel) ?_
      refine gx_astore_4 rfl (gx_sipush ((gx_nil ?_)))
      exact g_end (some (.int _)) rfl ⟨by decide +kernel, _, rfl, rfl⟩ ⟨_, rfl, Or.inr ⟨_, hE, xc_IO.symm⟩⟩
    · refine ⟨14, Or.inr ⟨⟨by decide, _, cl_xIO, hnc _ (by decide) _ (by decide) (by decide)⟩, Or.inl ⟨by decide, by decide, cl_xIA, ca_xIA, rfl⟩⟩, fun q => ?_⟩
      refine g_blk [(.astore 4, .null), (.sipush (-2003), .int (-2003))] (Nat.le_of_ble_eq_true rfl) (by decide +kernel) ?_
      refine gx_astore_4 rfl (gx_sipush ((gx_nil ?_)))
      exact g_end (some (.int _)) rfl ⟨by decide +kernel, _, rfl, rfl⟩ ⟨_, rfl, Or.inr ⟨_, hE, xc_IA.symm⟩⟩
    · refine ⟨20, Or.inr ⟨⟨by decide, _, cl_xIO, hnc _ (by decide) _ (by decide) (by decide)⟩, Or.inr ⟨⟨by decide, _, cl_xIA, hnc _ (by decide) _ (by decide) (by decide)⟩, Or.inl ⟨by decide, by decide, cl_xIS, ca_xIS, rfl⟩⟩⟩, fun q => ?_⟩
      refine g_blk [(.astore 4, .null), (.sipush (-2005), .int (-2005))] (Nat.le_of_ble_eq_true rfl) (by decide +kernel) ?_
      refine gx_astore_4 rfl (gx_sipush ((gx_nil ?_)))
      exact g_end (some (.int _)) rfl ⟨by decide +kernel, _, rfl, rfl⟩ ⟨_, rfl, Or.inr ⟨_, hE, xc_IS.symm⟩⟩
    · refine ⟨26, Or.inr ⟨⟨by decide, _, cl_xIO, hnc _ (by decide) _ (by decide) (by decide)⟩, Or.inr ⟨⟨by decide, _, cl_xIA, hnc _ (by decide) _ (by decide) (by decide)⟩, Or.inr ⟨⟨by decide, _, cl_xIS, hnc _ (by decide) _ (by decide) (by decide)⟩, Or.inl ⟨by decide, by decide, cl_xNS, ca_xNS, rfl⟩⟩⟩⟩, fun q => ?_⟩
      refine g_blk [(.astore 4, .null), (.sipush (-2004), .int (-2004))] (Nat.le_of_ble_eq_true rfl) (by decide +kernel) ?_
      refine gx_astore_4 rfl (gx_sipush ((gx_nil ?_)))
      exact g_end (some (.int _)) rfl ⟨by decide +kernel, _, rfl, rfl⟩ ⟨_, rfl, Or.inr ⟨_, hE, xc_NS.symm⟩⟩
  · obtain ⟨x, rfl, hQ⟩ := hz
    simp only [Option.toList_some, List.cons_append, List.nil_append]
    exact g_end (some (.int _)) rfl ⟨by decide +kernel, _, rfl, rfl⟩ ⟨x, rfl, Or.inl hQ⟩
theorem sw_plain : decode M_L_plain.2.1 1 = .ok (.tableswitch 133 0 9 #[55, 73, 82, 89, 95, 100, 107, 113, 120, 127], 55) := by decide +kernel
theorem pl_accept0 {d mc ms : Nat} {Q : Int32 → gHp → Prop} {QX : String → gHp → Prop} (hm : h m = some (gJ 12 fs)) (a b : Int32) (hC : gC Γ M_X9_accept [.ref m, .int a, .int b, .int (nI 0)] h d mc ms (fun v h' => ∃ x, v = some (.int x) ∧ Q x h') QX) : gC Γ M_L_plain [.ref m, .int (nI 0), .int a, .int b, .int (nI 0)] h (d + 1) mc ms (fun v h' => ∃ x, v = some (.int x) ∧ Q x h') QX := by
  refine gC_of (by decide) rfl (Nat.le_of_ble_eq_true rfl) [some (.ref m), some (.int (nI 0)), some (.int a), some (.int b), some (.int (nI 0))] rfl ?_
  refine g_blk [(.iload_n 1, .null)] (Nat.le_of_ble_eq_true rfl) (by decide +kernel) ?_
  refine gx_iload_n_1 (gx_nil ?_)
  refine g_tableIn (off := 55) (tgt := 56) sw_plain (by decide) (by decide) rfl (by decide) ?_
  refine g_blk [(.aload_n 0, .null), (.iload_n 2, .null), (.iload_n 3, .null), (.iload 4, .null), (.iconst 1, .int (nI 1))] (Nat.le_of_ble_eq_true rfl) (by decide +kernel) ?_
  refine gx_aload_n_0 (gx_iload_n_2 (gx_iload_n_3 (gx_iload_4 (gx_iconst ((gx_nil ?_))))))
  refine g_icmp_ne (off := 7) (tgt := 69) (by decide +kernel) (by decide) (fun c62 => ?_) (fun c62 => ?_)
  · try simp only [bI_0, Decidable.not_not] at c62
    refine g_blk [(.iconst 0, .int (nI 0))] (Nat.le_of_ble_eq_true rfl) (by decide +kernel) ?_
    refine gx_iconst ((gx_nil ?_))
    refine g_callV (rc' := 0) (rs' := 0) kL_15 hC (by decide +kernel) rfl rfl hm rfl (Nat.le_refl _) (Nat.le_of_ble_eq_true rfl) (Nat.le_of_ble_eq_true rfl) (by omega) (by omega) rfl (fun _ _ z => z) (fun v h9 hz => ?_)
    obtain ⟨x, rfl, hQ⟩ := hz
    simp only [Option.toList_some, List.cons_append, List.nil_append]
    exact g_end (some (.int _)) rfl ⟨by decide +kernel, _, rfl, rfl⟩ ⟨_, rfl, hQ⟩
  · exact absurd c62 (by decide)
theorem pl_accept1 {d mc ms : Nat} {Q : Int32 → gHp → Prop} {QX : String → gHp → Prop} (hm : h m = some (gJ 12 fs)) (a b : Int32) (hC : gC Γ M_X9_accept [.ref m, .int a, .int b, .int (nI 1)] h d mc ms (fun v h' => ∃ x, v = some (.int x) ∧ Q x h') QX) : gC Γ M_L_plain [.ref m, .int (nI 0), .int a, .int b, .int (nI 1)] h (d + 1) mc ms (fun v h' => ∃ x, v = some (.int x) ∧ Q x h') QX := by
  refine gC_of (by decide) rfl (Nat.le_of_ble_eq_true rfl) [some (.ref m), some (.int (nI 0)), some (.int a), some (.int b), some (.int (nI 1))] rfl ?_
  refine g_blk [(.iload_n 1, .null)] (Nat.le_of_ble_eq_true rfl) (by decide +kernel) ?_
  refine gx_iload_n_1 (gx_nil ?_)
  refine g_tableIn (off := 55) (tgt := 56) sw_plain (by decide) (by decide) rfl (by decide) ?_
  refine g_blk [(.aload_n 0, .null), (.iload_n 2, .null), (.iload_n 3, .null), (.iload 4, .null), (.iconst 1, .int (nI 1))] (Nat.le_of_ble_eq_true rfl) (by decide +kernel) ?_
  refine gx_aload_n_0 (gx_iload_n_2 (gx_iload_n_3 (gx_iload_4 (gx_iconst ((gx_nil ?_))))))
  refine g_icmp_ne (off := 7) (tgt := 69) (by decide +kernel) (by decide) (fun c62 => ?_) (fun c62 => ?_)
  · exact absurd (by decide) c62
  · try simp only [bI_0, Decidable.not_not] at c62
    refine g_blk [(.iconst 1, .int (nI 1)), (.goto 4, .retAddr 70)] (Nat.le_of_ble_eq_true rfl) (by decide +kernel) ?_
    refine gx_iconst (gx_goto ((gx_nil ?_)))
    refine g_callV (rc' := 0) (rs' := 0) kL_15 hC (by decide +kernel) rfl rfl hm rfl (Nat.le_refl _) (Nat.le_of_ble_eq_true rfl) (Nat.le_of_ble_eq_true rfl) (by omega) (by omega) rfl (fun _ _ z => z) (fun v h9 hz => ?_)
    obtain ⟨x, rfl, hQ⟩ := hz
    simp only [Option.toList_some, List.cons_append, List.nil_append]
    exact g_end (some (.int _)) rfl ⟨by decide +kernel, _, rfl, rfl⟩ ⟨_, rfl, hQ⟩
theorem pl_addPrefix {d mc ms : Nat} {Q : Int32 → gHp → Prop} {QX : String → gHp → Prop} (hm : h m = some (gJ 12 fs)) (a b c : Int32) (hC : gC Γ M_X9_addPrefix [.ref m, .int a, .int b, .int c] h d mc ms (fun v h' => ∃ x, v = some (.int x) ∧ Q x h') QX) : gC Γ M_L_plain [.ref m, .int (nI 1), .int a, .int b, .int c] h (d + 1) mc ms (fun v h' => ∃ x, v = some (.int x) ∧ Q x h') QX := by
  refine gC_of (by decide) rfl (Nat.le_of_ble_eq_true rfl) [some (.ref m), some (.int (nI 1)), some (.int a), some (.int b), some (.int c)] rfl ?_
  refine g_blk [(.iload_n 1, .null)] (Nat.le_of_ble_eq_true rfl) (by decide +kernel) ?_
  refine gx_iload_n_1 (gx_nil ?_)
  refine g_tableIn (off := 73) (tgt := 74) sw_plain (by decide) (by decide) rfl (by decide) ?_
  refine g_blk [(.aload_n 0, .null), (.iload_n 2, .null), (.iload_n 3, .null), (.iload 4, .null)] (Nat.le_of_ble_eq_true rfl) (by decide +kernel) ?_
  refine gx_aload_n_0 (gx_iload_n_2 (gx_iload_n_3 (gx_iload_4 ((gx_nil ?_)))))
  refine g_callV (rc' := 0) (rs' := 0) kL_21 hC (by decide +kernel) rfl rfl hm rfl (Nat.le_refl _) (Nat.le_of_ble_eq_true rfl) (Nat.le_of_ble_eq_true rfl) (by omega) (by omega) rfl (fun _ _ z => z) (fun v h9 hz => ?_)
  obtain ⟨x, rfl, hQ⟩ := hz
  simp only [Option.toList_some, List.cons_append, List.nil_append]
  exact g_end (some (.int _)) rfl ⟨by decide +kernel, _, rfl, rfl⟩ ⟨_, rfl, hQ⟩
theorem pl_removePrefix {d mc ms : Nat} {Q : Int32 → gHp → Prop} {QX : String → gHp → Prop} (hm : h m = some (gJ 12 fs)) (a b c : Int32) (hC : gC Γ M_X9_removePrefix [.ref m, .int a, .int b] h d mc ms (fun v h' => ∃ x, v = some (.int x) ∧ Q x h') QX) : gC Γ M_L_plain [.ref m, .int (nI 2), .int a, .int b, .int c] h (d + 1) mc ms (fun v h' => ∃ x, v = some (.int x) ∧ Q x h') QX := by
  refine gC_of (by decide) rfl (Nat.le_of_ble_eq_true rfl) [some (.ref m), some (.int (nI 2)), some (.int a), some (.int b), some (.int c)] rfl ?_
  refine g_blk [(.iload_n 1, .null)] (Nat.le_of_ble_eq_true rfl) (by decide +kernel) ?_
  refine gx_iload_n_1 (gx_nil ?_)
  refine g_tableIn (off := 82) (tgt := 83) sw_plain (by decide) (by decide) rfl (by decide) ?_
  refine g_blk [(.aload_n 0, .null), (.iload_n 2, .null), (.iload_n 3, .null)] (Nat.le_of_ble_eq_true rfl) (by decide +kernel) ?_
  refine gx_aload_n_0 (gx_iload_n_2 (gx_iload_n_3 ((gx_nil ?_))))
  refine g_callV (rc' := 0) (rs' := 0) kL_25 hC (by decide +kernel) rfl rfl hm rfl (Nat.le_refl _) (Nat.le_of_ble_eq_true rfl) (Nat.le_of_ble_eq_true rfl) (by omega) (by omega) rfl (fun _ _ z => z) (fun v h9 hz => ?_)
  obtain ⟨x, rfl, hQ⟩ := hz
  simp only [Option.toList_some, List.cons_append, List.nil_append]
  exact g_end (some (.int _)) rfl ⟨by decide +kernel, _, rfl, rfl⟩ ⟨_, rfl, hQ⟩
theorem pl_sort {d mc ms : Nat} {Q : Int32 → gHp → Prop} {QX : String → gHp → Prop} (hm : h m = some (gJ 12 fs)) (a b c : Int32) (hC : gC Γ M_X9_sort [.ref m, .int a] h d mc ms (fun v h' => ∃ x, v = some (.int x) ∧ Q x h') QX) : gC Γ M_L_plain [.ref m, .int (nI 3), .int a, .int b, .int c] h (d + 1) mc ms (fun v h' => ∃ x, v = some (.int x) ∧ Q x h') QX := by
  refine gC_of (by decide) rfl (Nat.le_of_ble_eq_true rfl) [some (.ref m), some (.int (nI 3)), some (.int a), some (.int b), some (.int c)] rfl ?_
  refine g_blk [(.iload_n 1, .null)] (Nat.le_of_ble_eq_true rfl) (by decide +kernel) ?_
  refine gx_iload_n_1 (gx_nil ?_)
  refine g_tableIn (off := 89) (tgt := 90) sw_plain (by decide) (by decide) rfl (by decide) ?_
  refine g_blk [(.aload_n 0, .null), (.iload_n 2, .null)] (Nat.le_of_ble_eq_true rfl) (by decide +kernel) ?_
  refine gx_aload_n_0 (gx_iload_n_2 ((gx_nil ?_)))
  refine g_callV (rc' := 0) (rs' := 0) kL_29 hC (by decide +kernel) rfl rfl hm rfl (Nat.le_refl _) (Nat.le_of_ble_eq_true rfl) (Nat.le_of_ble_eq_true rfl) (by omega) (by omega) rfl (fun _ _ z => z) (fun v h9 hz => ?_)
  obtain ⟨x, rfl, hQ⟩ := hz
  simp only [Option.toList_some, List.cons_append, List.nil_append]
  exact g_end (some (.int _)) rfl ⟨by decide +kernel, _, rfl, rfl⟩ ⟨_, rfl, hQ⟩
theorem pl_sortAll {d mc ms : Nat} {Q : Int32 → gHp → Prop} {QX : String → gHp → Prop} (hm : h m = some (gJ 12 fs)) (a b c : Int32) (hC : gC Γ M_X9_sortAll [.ref m] h d mc ms (fun v h' => ∃ x, v = some (.int x) ∧ Q x h') QX) : gC Γ M_L_plain [.ref m, .int (nI 4), .int a, .int b, .int c] h (d + 1) mc ms (fun v h' => ∃ x, v = some (.int x) ∧ Q x h') QX := by
  refine gC_of (by decide) rfl (Nat.le_of_ble_eq_true rfl) [some (.ref m), some (.int (nI 4)), some (.int a), some (.int b), some (.int c)] rfl ?_
  refine g_blk [(.iload_n 1, .null)] (Nat.le_of_ble_eq_true rfl) (by decide +kernel) ?_
  refine gx_iload_n_1 (gx_nil ?_)
  refine g_tableIn (off := 95) (tgt := 96) sw_plain (by decide) (by decide) rfl (by decide) ?_
  refine g_blk [(.aload_n 0, .null)] (Nat.le_of_ble_eq_true rfl) (by decide +kernel) ?_
  refine gx_aload_n_0 ((gx_nil ?_))
  refine g_callV (rc' := 0) (rs' := 0) kL_33 hC (by decide +kernel) rfl rfl hm rfl (Nat.le_refl _) (Nat.le_of_ble_eq_true rfl) (Nat.le_of_ble_eq_true rfl) (by omega) (by omega) rfl (fun _ _ z => z) (fun v h9 hz => ?_)
  obtain ⟨x, rfl, hQ⟩ := hz
  simp only [Option.toList_some, List.cons_append, List.nil_append]
  exact g_end (some (.int _)) rfl ⟨by decide +kernel, _, rfl, rfl⟩ ⟨_, rfl, hQ⟩
theorem pl_place {d mc ms : Nat} {Q : Int32 → gHp → Prop} {QX : String → gHp → Prop} (hm : h m = some (gJ 12 fs)) (a b c : Int32) (hC : gC Γ M_X9_place [.ref m, .int a, .int b] h d mc ms (fun v h' => ∃ x, v = some (.int x) ∧ Q x h') QX) : gC Γ M_L_plain [.ref m, .int (nI 5), .int a, .int b, .int c] h (d + 1) mc ms (fun v h' => ∃ x, v = some (.int x) ∧ Q x h') QX := by
  refine gC_of (by decide) rfl (Nat.le_of_ble_eq_true rfl) [some (.ref m), some (.int (nI 5)), some (.int a), some (.int b), some (.int c)] rfl ?_
  refine g_blk [(.iload_n 1, .null)] (Nat.le_of_ble_eq_true rfl) (by decide +kernel) ?_
  refine gx_iload_n_1 (gx_nil ?_)
  refine g_tableIn (off := 100) (tgt := 101) sw_plain (by decide) (by decide) rfl (by decide) ?_
  refine g_blk [(.aload_n 0, .null), (.iload_n 2, .null), (.iload_n 3, .null)] (Nat.le_of_ble_eq_true rfl) (by decide +kernel) ?_
  refine gx_aload_n_0 (gx_iload_n_2 (gx_iload_n_3 ((gx_nil ?_))))
  refine g_callV (rc' := 0) (rs' := 0) kL_37 hC (by decide +kernel) rfl rfl hm rfl (Nat.le_refl _) (Nat.le_of_ble_eq_true rfl) (Nat.le_of_ble_eq_true rfl) (by omega) (by omega) rfl (fun _ _ z => z) (fun v h9 hz => ?_)
  obtain ⟨x, rfl, hQ⟩ := hz
  simp only [Option.toList_some, List.cons_append, List.nil_append]
  exact g_end (some (.int _)) rfl ⟨by decide +kernel, _, rfl, rfl⟩ ⟨_, rfl, hQ⟩
theorem pl_pull {d mc ms : Nat} {Q : Int32 → gHp → Prop} {QX : String → gHp → Prop} (hm : h m = some (gJ 12 fs)) (a b c : Int32) (hC : gC Γ M_X9_pull [.ref m, .int a] h d mc ms (fun v h' => ∃ x, v = some (.int x) ∧ Q x h') QX) : gC Γ M_L_plain [.ref m, .int (nI 6), .int a, .int b, .int c] h (d + 1) mc ms (fun v h' => ∃ x, v = some (.int x) ∧ Q x h') QX := by
  refine gC_of (by decide) rfl (Nat.le_of_ble_eq_true rfl) [some (.ref m), some (.int (nI 6)), some (.int a), some (.int b), some (.int c)] rfl ?_
  refine g_blk [(.iload_n 1, .null)] (Nat.le_of_ble_eq_true rfl) (by decide +kernel) ?_
  refine gx_iload_n_1 (gx_nil ?_)
  refine g_tableIn (off := 107) (tgt := 108) sw_plain (by decide) (by decide) rfl (by decide) ?_
  refine g_blk [(.aload_n 0, .null), (.iload_n 2, .null)] (Nat.le_of_ble_eq_true rfl) (by decide +kernel) ?_
  refine gx_aload_n_0 (gx_iload_n_2 ((gx_nil ?_)))
  refine g_callV (rc' := 0) (rs' := 0) kL_40 hC (by decide +kernel) rfl rfl hm rfl (Nat.le_refl _) (Nat.le_of_ble_eq_true rfl) (Nat.le_of_ble_eq_true rfl) (by omega) (by omega) rfl (fun _ _ z => z) (fun v h9 hz => ?_)
  obtain ⟨x, rfl, hQ⟩ := hz
  simp only [Option.toList_some, List.cons_append, List.nil_append]
  exact g_end (some (.int _)) rfl ⟨by decide +kernel, _, rfl, rfl⟩ ⟨_, rfl, hQ⟩
theorem pl_setCutoff {d mc ms : Nat} {Q : Int32 → gHp → Prop} {QX : String → gHp → Prop} (hm : h m = some (gJ 12 fs)) (a b c : Int32) (hC : gC Γ M_X9_setCutoff [.ref m, .int a, .int b] h d mc ms (fun v h' => ∃ x, v = some (.int x) ∧ Q x h') QX) : gC Γ M_L_plain [.ref m, .int (nI 7), .int a, .int b, .int c] h (d + 1) mc ms (fun v h' => ∃ x, v = some (.int x) ∧ Q x h') QX := by
  refine gC_of (by decide) rfl (Nat.le_of_ble_eq_true rfl) [some (.ref m), some (.int (nI 7)), some (.int a), some (.int b), some (.int c)] rfl ?_
  refine g_blk [(.iload_n 1, .null)] (Nat.le_of_ble_eq_true rfl) (by decide +kernel) ?_
  refine gx_iload_n_1 (gx_nil ?_)
  refine g_tableIn (off := 113) (tgt := 114) sw_plain (by decide) (by decide) rfl (by decide) ?_
  refine g_blk [(.aload_n 0, .null), (.iload_n 2, .null), (.iload_n 3, .null)] (Nat.le_of_ble_eq_true rfl) (by decide +kernel) ?_
  refine gx_aload_n_0 (gx_iload_n_2 (gx_iload_n_3 ((gx_nil ?_))))
  refine g_callV (rc' := 0) (rs' := 0) kL_43 hC (by decide +kernel) rfl rfl hm rfl (Nat.le_refl _) (Nat.le_of_ble_eq_true rfl) (Nat.le_of_ble_eq_true rfl) (by omega) (by omega) rfl (fun _ _ z => z) (fun v h9 hz => ?_)
  obtain ⟨x, rfl, hQ⟩ := hz
  simp only [Option.toList_some, List.cons_append, List.nil_append]
  exact g_end (some (.int _)) rfl ⟨by decide +kernel, _, rfl, rfl⟩ ⟨_, rfl, hQ⟩
theorem pl_setDeparture {d mc ms : Nat} {Q : Int32 → gHp → Prop} {QX : String → gHp → Prop} (hm : h m = some (gJ 12 fs)) (a b c : Int32) (hC : gC Γ M_X9_setDeparture [.ref m, .int a, .int b] h d mc ms (fun v h' => ∃ x, v = some (.int x) ∧ Q x h') QX) : gC Γ M_L_plain [.ref m, .int (nI 8), .int a, .int b, .int c] h (d + 1) mc ms (fun v h' => ∃ x, v = some (.int x) ∧ Q x h') QX := by
  refine gC_of (by decide) rfl (Nat.le_of_ble_eq_true rfl) [some (.ref m), some (.int (nI 8)), some (.int a), some (.int b), some (.int c)] rfl ?_
  refine g_blk [(.iload_n 1, .null)] (Nat.le_of_ble_eq_true rfl) (by decide +kernel) ?_
  refine gx_iload_n_1 (gx_nil ?_)
  refine g_tableIn (off := 120) (tgt := 121) sw_plain (by decide) (by decide) rfl (by decide) ?_
  refine g_blk [(.aload_n 0, .null), (.iload_n 2, .null), (.iload_n 3, .null)] (Nat.le_of_ble_eq_true rfl) (by decide +kernel) ?_
  refine gx_aload_n_0 (gx_iload_n_2 (gx_iload_n_3 ((gx_nil ?_))))
  refine g_callV (rc' := 0) (rs' := 0) kL_46 hC (by decide +kernel) rfl rfl hm rfl (Nat.le_refl _) (Nat.le_of_ble_eq_true rfl) (Nat.le_of_ble_eq_true rfl) (by omega) (by omega) rfl (fun _ _ z => z) (fun v h9 hz => ?_)
  obtain ⟨x, rfl, hQ⟩ := hz
  simp only [Option.toList_some, List.cons_append, List.nil_append]
  exact g_end (some (.int _)) rfl ⟨by decide +kernel, _, rfl, rfl⟩ ⟨_, rfl, hQ⟩
theorem pl_pass {d mc ms : Nat} {Q : Int32 → gHp → Prop} {QX : String → gHp → Prop} (hm : h m = some (gJ 12 fs)) (a b c : Int32) (hC : gC Γ M_X9_pass [.ref m, .int a] h d mc ms (fun v h' => ∃ x, v = some (.int x) ∧ Q x h') QX) : gC Γ M_L_plain [.ref m, .int (nI 9), .int a, .int b, .int c] h (d + 1) mc ms (fun v h' => ∃ x, v = some (.int x) ∧ Q x h') QX := by
  refine gC_of (by decide) rfl (Nat.le_of_ble_eq_true rfl) [some (.ref m), some (.int (nI 9)), some (.int a), some (.int b), some (.int c)] rfl ?_
  refine g_blk [(.iload_n 1, .null)] (Nat.le_of_ble_eq_true rfl) (by decide +kernel) ?_
  refine gx_iload_n_1 (gx_nil ?_)
  refine g_tableIn (off := 127) (tgt := 128) sw_plain (by decide) (by decide) rfl (by decide) ?_
  refine g_blk [(.aload_n 0, .null), (.iload_n 2, .null)] (Nat.le_of_ble_eq_true rfl) (by decide +kernel) ?_
  refine gx_aload_n_0 (gx_iload_n_2 ((gx_nil ?_)))
  refine g_callV (rc' := 0) (rs' := 0) kL_49 hC (by decide +kernel) rfl rfl hm rfl (Nat.le_refl _) (Nat.le_of_ble_eq_true rfl) (Nat.le_of_ble_eq_true rfl) (by omega) (by omega) rfl (fun _ _ z => z) (fun v h9 hz => ?_)
  obtain ⟨x, rfl, hQ⟩ := hz
  simp only [Option.toList_some, List.cons_append, List.nil_append]
  exact g_end (some (.int _)) rfl ⟨by decide +kernel, _, rfl, rfl⟩ ⟨_, rfl, hQ⟩
theorem sw_asked : decode M_L_asked.2.1 1 = .ok (.tableswitch 189 0 16 #[83, 89, 95, 101, 107, 113, 119, 125, 131, 138, 145, 151, 157, 163, 168, 173, 179], 83) := by decide +kernel
theorem as_idAt {d mc ms : Nat} {Q : Int32 → gHp → Prop} {QX : String → gHp → Prop} (hm : h m = some (gJ 12 fs)) (a b : Int32) (hC : gC Γ M_X9_idAt [.ref m, .int a] h d mc ms (fun v h' => ∃ x, v = some (.int x) ∧ Q x h') QX) : gC Γ M_L_asked [.ref m, .int (nI 0), .int a, .int b] h (d + 1) mc ms (fun v h' => ∃ x, v = some (.int x) ∧ Q x h') QX := by
  refine gC_of (by decide) rfl (Nat.le_of_ble_eq_true rfl) [some (.ref m), some (.int (nI 0)), some (.int a), some (.int b)] rfl ?_
  refine g_blk [(.iload_n 1, .null)] (Nat.le_of_ble_eq_true rfl) (by decide +kernel) ?_
  refine gx_iload_n_1 (gx_nil ?_)
  refine g_tableIn (off := 83) (tgt := 84) sw_asked (by decide) (by decide) rfl (by decide) ?_
  refine g_blk [(.aload_n 0, .null), (.iload_n 2, .null)] (Nat.le_of_ble_eq_true rfl) (by decide +kernel) ?_
  refine gx_aload_n_0 (gx_iload_n_2 ((gx_nil ?_)))
  refine g_callV (rc' := 0) (rs' := 0) kL_67 hC (by decide +kernel) rfl rfl hm rfl (Nat.le_refl _) (Nat.le_of_ble_eq_true rfl) (Nat.le_of_ble_eq_true rfl) (by omega) (by omega) rfl (fun _ _ z => z) (fun v h9 hz => ?_)
  obtain ⟨x, rfl, hQ⟩ := hz
  simp only [Option.toList_some, List.cons_append, List.nil_append]
  exact g_end (some (.int _)) rfl ⟨by decide +kernel, _, rfl, rfl⟩ ⟨_, rfl, hQ⟩
theorem as_codeOf {d mc ms : Nat} {Q : Int32 → gHp → Prop} {QX : String → gHp → Prop} (hm : h m = some (gJ 12 fs)) (a b : Int32) (hC : gC Γ M_X9_codeOf [.ref m, .int a] h d mc ms (fun v h' => ∃ x, v = some (.int x) ∧ Q x h') QX) : gC Γ M_L_asked [.ref m, .int (nI 1), .int a, .int b] h (d + 1) mc ms (fun v h' => ∃ x, v = some (.int x) ∧ Q x h') QX := by
  refine gC_of (by decide) rfl (Nat.le_of_ble_eq_true rfl) [some (.ref m), some (.int (nI 1)), some (.int a), some (.int b)] rfl ?_
  refine g_blk [(.iload_n 1, .null)] (Nat.le_of_ble_eq_true rfl) (by decide +kernel) ?_
  refine gx_iload_n_1 (gx_nil ?_)
  refine g_tableIn (off := 89) (tgt := 90) sw_asked (by decide) (by decide) rfl (by decide) ?_
  refine g_blk [(.aload_n 0, .null), (.iload_n 2, .null)] (Nat.le_of_ble_eq_true rfl) (by decide +kernel) ?_
  refine gx_aload_n_0 (gx_iload_n_2 ((gx_nil ?_)))
  refine g_callV (rc' := 0) (rs' := 0) kL_70 hC (by decide +kernel) rfl rfl hm rfl (Nat.le_refl _) (Nat.le_of_ble_eq_true rfl) (Nat.le_of_ble_eq_true rfl) (by omega) (by omega) rfl (fun _ _ z => z) (fun v h9 hz => ?_)
  obtain ⟨x, rfl, hQ⟩ := hz
  simp only [Option.toList_some, List.cons_append, List.nil_append]
  exact g_end (some (.int _)) rfl ⟨by decide +kernel, _, rfl, rfl⟩ ⟨_, rfl, hQ⟩
theorem as_routeOfBag {d mc ms : Nat} {Q : Int32 → gHp → Prop} {QX : String → gHp → Prop} (hm : h m = some (gJ 12 fs)) (a b : Int32) (hC : gC Γ M_X9_routeOfBag [.ref m, .int a] h d mc ms (fun v h' => ∃ x, v = some (.int x) ∧ Q x h') QX) : gC Γ M_L_asked [.ref m, .int (nI 2), .int a, .int b] h (d + 1) mc ms (fun v h' => ∃ x, v = some (.int x) ∧ Q x h') QX := by
  refine gC_of (by decide) rfl (Nat.le_of_ble_eq_true rfl) [some (.ref m), some (.int (nI 2)), some (.int a), some (.int b)] rfl ?_
  refine g_blk [(.iload_n 1, .null)] (Nat.le_of_ble_eq_true rfl) (by decide +kernel) ?_
  refine gx_iload_n_1 (gx_nil ?_)
  refine g_tableIn (off := 95) (tgt := 96) sw_asked (by decide) (by decide) rfl (by decide) ?_
  refine g_blk [(.aload_n 0, .null), (.iload_n 2, .null)] (Nat.le_of_ble_eq_true rfl) (by decide +kernel) ?_
  refine gx_aload_n_0 (gx_iload_n_2 ((gx_nil ?_)))
  refine g_callV (rc' := 0) (rs' := 0) kL_73 hC (by decide +kernel) rfl rfl hm rfl (Nat.le_refl _) (Nat.le_of_ble_eq_true rfl) (Nat.le_of_ble_eq_true rfl) (by omega) (by omega) rfl (fun _ _ z => z) (fun v h9 hz => ?_)
  obtain ⟨x, rfl, hQ⟩ := hz
  simp only [Option.toList_some, List.cons_append, List.nil_append]
  exact g_end (some (.int _)) rfl ⟨by decide +kernel, _, rfl, rfl⟩ ⟨_, rfl, hQ⟩
theorem as_bagOf {d mc ms : Nat} {Q : Int32 → gHp → Prop} {QX : String → gHp → Prop} (hm : h m = some (gJ 12 fs)) (a b : Int32) (hC : gC Γ M_X9_bagOf [.ref m, .int a] h d mc ms (fun v h' => ∃ x, v = some (.int x) ∧ Q x h') QX) : gC Γ M_L_asked [.ref m, .int (nI 3), .int a, .int b] h (d + 1) mc ms (fun v h' => ∃ x, v = some (.int x) ∧ Q x h') QX := by
  refine gC_of (by decide) rfl (Nat.le_of_ble_eq_true rfl) [some (.ref m), some (.int (nI 3)), some (.int a), some (.int b)] rfl ?_
  refine g_blk [(.iload_n 1, .null)] (Nat.le_of_ble_eq_true rfl) (by decide +kernel) ?_
  refine gx_iload_n_1 (gx_nil ?_)
  refine g_tableIn (off := 101) (tgt := 102) sw_asked (by decide) (by decide) rfl (by decide) ?_
  refine g_blk [(.aload_n 0, .null), (.iload_n 2, .null)] (Nat.le_of_ble_eq_true rfl) (by decide +kernel) ?_
  refine gx_aload_n_0 (gx_iload_n_2 ((gx_nil ?_)))
  refine g_callV (rc' := 0) (rs' := 0) kL_76 hC (by decide +kernel) rfl rfl hm rfl (Nat.le_refl _) (Nat.le_of_ble_eq_true rfl) (Nat.le_of_ble_eq_true rfl) (by omega) (by omega) rfl (fun _ _ z => z) (fun v h9 hz => ?_)
  obtain ⟨x, rfl, hQ⟩ := hz
  simp only [Option.toList_some, List.cons_append, List.nil_append]
  exact g_end (some (.int _)) rfl ⟨by decide +kernel, _, rfl, rfl⟩ ⟨_, rfl, hQ⟩
theorem as_trayAt {d mc ms : Nat} {Q : Int32 → gHp → Prop} {QX : String → gHp → Prop} (hm : h m = some (gJ 12 fs)) (a b : Int32) (hC : gC Γ M_X9_trayAt [.ref m, .int a] h d mc ms (fun v h' => ∃ x, v = some (.int x) ∧ Q x h') QX) : gC Γ M_L_asked [.ref m, .int (nI 4), .int a, .int b] h (d + 1) mc ms (fun v h' => ∃ x, v = some (.int x) ∧ Q x h') QX := by
  refine gC_of (by decide) rfl (Nat.le_of_ble_eq_true rfl) [some (.ref m), some (.int (nI 4)), some (.int a), some (.int b)] rfl ?_
  refine g_blk [(.iload_n 1, .null)] (Nat.le_of_ble_eq_true rfl) (by decide +kernel) ?_
  refine gx_iload_n_1 (gx_nil ?_)
  refine g_tableIn (off := 107) (tgt := 108) sw_asked (by decide) (by decide) rfl (by decide) ?_
  refine g_blk [(.aload_n 0, .null), (.iload_n 2, .null)] (Nat.le_of_ble_eq_true rfl) (by decide +kernel) ?_
  refine gx_aload_n_0 (gx_iload_n_2 ((gx_nil ?_)))
  refine g_callV (rc' := 0) (rs' := 0) kL_79 hC (by decide +kernel) rfl rfl hm rfl (Nat.le_refl _) (Nat.le_of_ble_eq_true rfl) (Nat.le_of_ble_eq_true rfl) (by omega) (by omega) rfl (fun _ _ z => z) (fun v h9 hz => ?_)
  obtain ⟨x, rfl, hQ⟩ := hz
  simp only [Option.toList_some, List.cons_append, List.nil_append]
  exact g_end (some (.int _)) rfl ⟨by decide +kernel, _, rfl, rfl⟩ ⟨_, rfl, hQ⟩
theorem as_routeFor {d mc ms : Nat} {Q : Int32 → gHp → Prop} {QX : String → gHp → Prop} (hm : h m = some (gJ 12 fs)) (a b : Int32) (hC : gC Γ M_X9_routeFor [.ref m, .int a] h d mc ms (fun v h' => ∃ x, v = some (.int x) ∧ Q x h') QX) : gC Γ M_L_asked [.ref m, .int (nI 5), .int a, .int b] h (d + 1) mc ms (fun v h' => ∃ x, v = some (.int x) ∧ Q x h') QX := by
  refine gC_of (by decide) rfl (Nat.le_of_ble_eq_true rfl) [some (.ref m), some (.int (nI 5)), some (.int a), some (.int b)] rfl ?_
  refine g_blk [(.iload_n 1, .null)] (Nat.le_of_ble_eq_true rfl) (by decide +kernel) ?_
  refine gx_iload_n_1 (gx_nil ?_)
  refine g_tableIn (off := 113) (tgt := 114) sw_asked (by decide) (by decide) rfl (by decide) ?_
  refine g_blk [(.aload_n 0, .null), (.iload_n 2, .null)] (Nat.le_of_ble_eq_true rfl) (by decide +kernel) ?_
  refine gx_aload_n_0 (gx_iload_n_2 ((gx_nil ?_)))
  refine g_callV (rc' := 0) (rs' := 0) kL_82 hC (by decide +kernel) rfl rfl hm rfl (Nat.le_refl _) (Nat.le_of_ble_eq_true rfl) (Nat.le_of_ble_eq_true rfl) (by omega) (by omega) rfl (fun _ _ z => z) (fun v h9 hz => ?_)
  obtain ⟨x, rfl, hQ⟩ := hz
  simp only [Option.toList_some, List.cons_append, List.nil_append]
  exact g_end (some (.int _)) rfl ⟨by decide +kernel, _, rfl, rfl⟩ ⟨_, rfl, hQ⟩
theorem as_routeForByTree {d mc ms : Nat} {Q : Int32 → gHp → Prop} {QX : String → gHp → Prop} (hm : h m = some (gJ 12 fs)) (a b : Int32) (hC : gC Γ M_X9_routeForByTree [.ref m, .int a] h d mc ms (fun v h' => ∃ x, v = some (.int x) ∧ Q x h') QX) : gC Γ M_L_asked [.ref m, .int (nI 6), .int a, .int b] h (d + 1) mc ms (fun v h' => ∃ x, v = some (.int x) ∧ Q x h') QX := by
  refine gC_of (by decide) rfl (Nat.le_of_ble_eq_true rfl) [some (.ref m), some (.int (nI 6)), some (.int a), some (.int b)] rfl ?_
  refine g_blk [(.iload_n 1, .null)] (Nat.le_of_ble_eq_true rfl) (by decide +kernel) ?_
  refine gx_iload_n_1 (gx_nil ?_)
  refine g_tableIn (off := 119) (tgt := 120) sw_asked (by decide) (by decide) rfl (by decide) ?_
  refine g_blk [(.aload_n 0, .null), (.iload_n 2, .null)] (Nat.le_of_ble_eq_true rfl) (by decide +kernel) ?_
  refine gx_aload_n_0 (gx_iload_n_2 ((gx_nil ?_)))
  refine g_callV (rc' := 0) (rs' := 0) kL_85 hC (by decide +kernel) rfl rfl hm rfl (Nat.le_refl _) (Nat.le_of_ble_eq_true rfl) (Nat.le_of_ble_eq_true rfl) (by omega) (by omega) rfl (fun _ _ z => z) (fun v h9 hz => ?_)
  obtain ⟨x, rfl, hQ⟩ := hz
  simp only [Option.toList_some, List.cons_append, List.nil_append]
  exact g_end (some (.int _)) rfl ⟨by decide +kernel, _, rfl, rfl⟩ ⟨_, rfl, hQ⟩
theorem as_matchLength {d mc ms : Nat} {Q : Int32 → gHp → Prop} {QX : String → gHp → Prop} (hm : h m = some (gJ 12 fs)) (a b : Int32) (hC : gC Γ M_X9_matchLength [.ref m, .int a] h d mc ms (fun v h' => ∃ x, v = some (.int x) ∧ Q x h') QX) : gC Γ M_L_asked [.ref m, .int (nI 7), .int a, .int b] h (d + 1) mc ms (fun v h' => ∃ x, v = some (.int x) ∧ Q x h') QX := by
  refine gC_of (by decide) rfl (Nat.le_of_ble_eq_true rfl) [some (.ref m), some (.int (nI 7)), some (.int a), some (.int b)] rfl ?_
  refine g_blk [(.iload_n 1, .null)] (Nat.le_of_ble_eq_true rfl) (by decide +kernel) ?_
  refine gx_iload_n_1 (gx_nil ?_)
  refine g_tableIn (off := 125) (tgt := 126) sw_asked (by decide) (by decide) rfl (by decide) ?_
  refine g_blk [(.aload_n 0, .null), (.iload_n 2, .null)] (Nat.le_of_ble_eq_true rfl) (by decide +kernel) ?_
  refine gx_aload_n_0 (gx_iload_n_2 ((gx_nil ?_)))
  refine g_callV (rc' := 0) (rs' := 0) kL_88 hC (by decide +kernel) rfl rfl hm rfl (Nat.le_refl _) (Nat.le_of_ble_eq_true rfl) (Nat.le_of_ble_eq_true rfl) (by omega) (by omega) rfl (fun _ _ z => z) (fun v h9 hz => ?_)
  obtain ⟨x, rfl, hQ⟩ := hz
  simp only [Option.toList_some, List.cons_append, List.nil_append]
  exact g_end (some (.int _)) rfl ⟨by decide +kernel, _, rfl, rfl⟩ ⟨_, rfl, hQ⟩
theorem as_bagWeight {d mc ms : Nat} {Q : Int32 → gHp → Prop} {QX : String → gHp → Prop} (hm : h m = some (gJ 12 fs)) (a b : Int32) (hC : gC Γ M_X9_bagWeight [.ref m, .int a, .int b] h d mc ms (fun v h' => ∃ x, v = some (.int x) ∧ Q x h') QX) : gC Γ M_L_asked [.ref m, .int (nI 8), .int a, .int b] h (d + 1) mc ms (fun v h' => ∃ x, v = some (.int x) ∧ Q x h') QX := by
  refine gC_of (by decide) rfl (Nat.le_of_ble_eq_true rfl) [some (.ref m), some (.int (nI 8)), some (.int a), some (.int b)] rfl ?_
  refine g_blk [(.iload_n 1, .null)] (Nat.le_of_ble_eq_true rfl) (by decide +kernel) ?_
  refine gx_iload_n_1 (gx_nil ?_)
  refine g_tableIn (off := 131) (tgt := 132) sw_asked (by decide) (by decide) rfl (by decide) ?_
  refine g_blk [(.aload_n 0, .null), (.iload_n 2, .null), (.iload_n 3, .null)] (Nat.le_of_ble_eq_true rfl) (by decide +kernel) ?_
  refine gx_aload_n_0 (gx_iload_n_2 (gx_iload_n_3 ((gx_nil ?_))))
  refine g_callV (rc' := 0) (rs' := 0) kL_91 hC (by decide +kernel) rfl rfl hm rfl (Nat.le_refl _) (Nat.le_of_ble_eq_true rfl) (Nat.le_of_ble_eq_true rfl) (by omega) (by omega) rfl (fun _ _ z => z) (fun v h9 hz => ?_)
  obtain ⟨x, rfl, hQ⟩ := hz
  simp only [Option.toList_some, List.cons_append, List.nil_append]
  exact g_end (some (.int _)) rfl ⟨by decide +kernel, _, rfl, rfl⟩ ⟨_, rfl, hQ⟩
theorem as_lettersInBag {d mc ms : Nat} {Q : Int32 → gHp → Prop} {QX : String → gHp → Prop} (hm : h m = some (gJ 12 fs)) (a b : Int32) (hC : gC Γ M_X9_lettersInBag [.ref m, .int a, .int b] h d mc ms (fun v h' => ∃ x, v = some (.int x) ∧ Q x h') QX) : gC Γ M_L_asked [.ref m, .int (nI 9), .int a, .int b] h (d + 1) mc ms (fun v h' => ∃ x, v = some (.int x) ∧ Q x h') QX := by
  refine gC_of (by decide) rfl (Nat.le_of_ble_eq_true rfl) [some (.ref m), some (.int (nI 9)), some (.int a), some (.int b)] rfl ?_
  refine g_blk [(.iload_n 1, .null)] (Nat.le_of_ble_eq_true rfl) (by decide +kernel) ?_
  refine gx_iload_n_1 (gx_nil ?_)
  refine g_tableIn (off := 138) (tgt := 139) sw_asked (by decide) (by decide) rfl (by decide) ?_
  refine g_blk [(.aload_n 0, .null), (.iload_n 2, .null), (.iload_n 3, .null)] (Nat.le_of_ble_eq_true rfl) (by decide +kernel) ?_
  refine gx_aload_n_0 (gx_iload_n_2 (gx_iload_n_3 ((gx_nil ?_))))
  refine g_callV (rc' := 0) (rs' := 0) kL_94 hC (by decide +kernel) rfl rfl hm rfl (Nat.le_refl _) (Nat.le_of_ble_eq_true rfl) (Nat.le_of_ble_eq_true rfl) (by omega) (by omega) rfl (fun _ _ z => z) (fun v h9 hz => ?_)
  obtain ⟨x, rfl, hQ⟩ := hz
  simp only [Option.toList_some, List.cons_append, List.nil_append]
  exact g_end (some (.int _)) rfl ⟨by decide +kernel, _, rfl, rfl⟩ ⟨_, rfl, hQ⟩
theorem as_hoursToDelivery {d mc ms : Nat} {Q : Int32 → gHp → Prop} {QX : String → gHp → Prop} (hm : h m = some (gJ 12 fs)) (a b : Int32) (hC : gC Γ M_X9_hoursToDelivery [.ref m, .int a] h d mc ms (fun v h' => ∃ x, v = some (.int x) ∧ Q x h') QX) : gC Γ M_L_asked [.ref m, .int (nI 10), .int a, .int b] h (d + 1) mc ms (fun v h' => ∃ x, v = some (.int x) ∧ Q x h') QX := by
  refine gC_of (by decide) rfl (Nat.le_of_ble_eq_true rfl) [some (.ref m), some (.int (nI 10)), some (.int a), some (.int b)] rfl ?_
  refine g_blk [(.iload_n 1, .null)] (Nat.le_of_ble_eq_true rfl) (by decide +kernel) ?_
  refine gx_iload_n_1 (gx_nil ?_)
  refine g_tableIn (off := 145) (tgt := 146) sw_asked (by decide) (by decide) rfl (by decide) ?_
  refine g_blk [(.aload_n 0, .null), (.iload_n 2, .null)] (Nat.le_of_ble_eq_true rfl) (by decide +kernel) ?_
  refine gx_aload_n_0 (gx_iload_n_2 ((gx_nil ?_)))
  refine g_callV (rc' := 0) (rs' := 0) kL_97 hC (by decide +kernel) rfl rfl hm rfl (Nat.le_refl _) (Nat.le_of_ble_eq_true rfl) (Nat.le_of_ble_eq_true rfl) (by omega) (by omega) rfl (fun _ _ z => z) (fun v h9 hz => ?_)
  obtain ⟨x, rfl, hQ⟩ := hz
  simp only [Option.toList_some, List.cons_append, List.nil_append]
  exact g_end (some (.int _)) rfl ⟨by decide +kernel, _, rfl, rfl⟩ ⟨_, rfl, hQ⟩
theorem as_hoursToDeliveryByHours {d mc ms : Nat} {Q : Int32 → gHp → Prop} {QX : String → gHp → Prop} (hm : h m = some (gJ 12 fs)) (a b : Int32) (hC : gC Γ M_X9_hoursToDeliveryByHours [.ref m, .int a] h d mc ms (fun v h' => ∃ x, v = some (.int x) ∧ Q x h') QX) : gC Γ M_L_asked [.ref m, .int (nI 11), .int a, .int b] h (d + 1) mc ms (fun v h' => ∃ x, v = some (.int x) ∧ Q x h') QX := by
  refine gC_of (by decide) rfl (Nat.le_of_ble_eq_true rfl) [some (.ref m), some (.int (nI 11)), some (.int a), some (.int b)] rfl ?_
  refine g_blk [(.iload_n 1, .null)] (Nat.le_of_ble_eq_true rfl) (by decide +kernel) ?_
  refine gx_iload_n_1 (gx_nil ?_)
  refine g_tableIn (off := 151) (tgt := 152) sw_asked (by decide) (by decide) rfl (by decide) ?_
  refine g_blk [(.aload_n 0, .null), (.iload_n 2, .null)] (Nat.le_of_ble_eq_true rfl) (by decide +kernel) ?_
  refine gx_aload_n_0 (gx_iload_n_2 ((gx_nil ?_)))
  refine g_callV (rc' := 0) (rs' := 0) kL_100 hC (by decide +kernel) rfl rfl hm rfl (Nat.le_refl _) (Nat.le_of_ble_eq_true rfl) (Nat.le_of_ble_eq_true rfl) (by omega) (by omega) rfl (fun _ _ z => z) (fun v h9 hz => ?_)
  obtain ⟨x, rfl, hQ⟩ := hz
  simp only [Option.toList_some, List.cons_append, List.nil_append]
  exact g_end (some (.int _)) rfl ⟨by decide +kernel, _, rfl, rfl⟩ ⟨_, rfl, hQ⟩
theorem as_routeByWeight {d mc ms : Nat} {Q : Int32 → gHp → Prop} {QX : String → gHp → Prop} (hm : h m = some (gJ 12 fs)) (a b : Int32) (hC : gC Γ M_X9_routeByWeight [.ref m, .int a] h d mc ms (fun v h' => ∃ x, v = some (.int x) ∧ Q x h') QX) : gC Γ M_L_asked [.ref m, .int (nI 12), .int a, .int b] h (d + 1) mc ms (fun v h' => ∃ x, v = some (.int x) ∧ Q x h') QX := by
  refine gC_of (by decide) rfl (Nat.le_of_ble_eq_true rfl) [some (.ref m), some (.int (nI 12)), some (.int a), some (.int b)] rfl ?_
  refine g_blk [(.iload_n 1, .null)] (Nat.le_of_ble_eq_true rfl) (by decide +kernel) ?_
  refine gx_iload_n_1 (gx_nil ?_)
  refine g_tableIn (off := 157) (tgt := 158) sw_asked (by decide) (by decide) rfl (by decide) ?_
  refine g_blk [(.aload_n 0, .null), (.iload_n 2, .null)] (Nat.le_of_ble_eq_true rfl) (by decide +kernel) ?_
  refine gx_aload_n_0 (gx_iload_n_2 ((gx_nil ?_)))
  refine g_callV (rc' := 0) (rs' := 0) kL_103 hC (by decide +kernel) rfl rfl hm rfl (Nat.le_refl _) (Nat.le_of_ble_eq_true rfl) (Nat.le_of_ble_eq_true rfl) (by omega) (by omega) rfl (fun _ _ z => z) (fun v h9 hz => ?_)
  obtain ⟨x, rfl, hQ⟩ := hz
  simp only [Option.toList_some, List.cons_append, List.nil_append]
  exact g_end (some (.int _)) rfl ⟨by decide +kernel, _, rfl, rfl⟩ ⟨_, rfl, hQ⟩
theorem as_fullestBag {d mc ms : Nat} {Q : Int32 → gHp → Prop} {QX : String → gHp → Prop} (hm : h m = some (gJ 12 fs)) (a b : Int32) (hC : gC Γ M_X9_fullestBag [.ref m, .int a] h d mc ms (fun v h' => ∃ x, v = some (.int x) ∧ Q x h') QX) : gC Γ M_L_asked [.ref m, .int (nI 15), .int a, .int b] h (d + 1) mc ms (fun v h' => ∃ x, v = some (.int x) ∧ Q x h') QX := by
  refine gC_of (by decide) rfl (Nat.le_of_ble_eq_true rfl) [some (.ref m), some (.int (nI 15)), some (.int a), some (.int b)] rfl ?_
  refine g_blk [(.iload_n 1, .null)] (Nat.le_of_ble_eq_true rfl) (by decide +kernel) ?_
  refine gx_iload_n_1 (gx_nil ?_)
  refine g_tableIn (off := 173) (tgt := 174) sw_asked (by decide) (by decide) rfl (by decide) ?_
  refine g_blk [(.aload_n 0, .null), (.iload_n 2, .null)] (Nat.le_of_ble_eq_true rfl) (by decide +kernel) ?_
  refine gx_aload_n_0 (gx_iload_n_2 ((gx_nil ?_)))
  refine g_callV (rc' := 0) (rs' := 0) kL_112 hC (by decide +kernel) rfl rfl hm rfl (Nat.le_refl _) (Nat.le_of_ble_eq_true rfl) (Nat.le_of_ble_eq_true rfl) (by omega) (by omega) rfl (fun _ _ z => z) (fun v h9 hz => ?_)
  obtain ⟨x, rfl, hQ⟩ := hz
  simp only [Option.toList_some, List.cons_append, List.nil_append]
  exact g_end (some (.int _)) rfl ⟨by decide +kernel, _, rfl, rfl⟩ ⟨_, rfl, hQ⟩
theorem as_hasPrefix {d mc ms : Nat} {Q : Int32 → gHp → Prop} {QX : String → gHp → Prop} (hm : h m = some (gJ 12 fs)) (a b : Int32) (hC : gC Γ M_X9_hasPrefix [.ref m, .int a, .int b] h d mc ms (fun v h' => ∃ x, v = some (.int x) ∧ Q (if x = 0 then nI 0 else nI 1) h') QX) : gC Γ M_L_asked [.ref m, .int (nI 16), .int a, .int b] h (d + 1) mc ms (fun v h' => ∃ x, v = some (.int x) ∧ Q x h') QX := by
  refine gC_of (by decide) rfl (Nat.le_of_ble_eq_true rfl) [some (.ref m), some (.int (nI 16)), some (.int a), some (.int b)] rfl ?_
  refine g_blk [(.iload_n 1, .null)] (Nat.le_of_ble_eq_true rfl) (by decide +kernel) ?_
  refine gx_iload_n_1 (gx_nil ?_)
  refine g_tableIn (off := 179) (tgt := 180) sw_asked (by decide) (by decide) rfl (by decide) ?_
  refine g_blk [(.aload_n 0, .null), (.iload_n 2, .null), (.iload_n 3, .null)] (Nat.le_of_ble_eq_true rfl) (by decide +kernel) ?_
  refine gx_aload_n_0 (gx_iload_n_2 (gx_iload_n_3 ((gx_nil ?_))))
  refine g_callV (rc' := 0) (rs' := 0) kL_115 hC (by decide +kernel) rfl rfl hm rfl (Nat.le_refl _) (Nat.le_of_ble_eq_true rfl) (Nat.le_of_ble_eq_true rfl) (by omega) (by omega) rfl (fun _ _ z => z) (fun v h9 hz => ?_)
  obtain ⟨x, rfl, hQ⟩ := hz
  simp only [Option.toList_some, List.cons_append, List.nil_append]
  refine g_pS kL_119 (la_told x) (by decide +kernel) rfl rfl (Nat.le_add_left _ _) (Nat.le_of_ble_eq_true rfl) (Nat.le_of_ble_eq_true rfl) rfl ?_
  simp only [Option.toList_some, List.cons_append, List.nil_append]
  exact g_end (some (.int _)) rfl ⟨by decide +kernel, _, rfl, rfl⟩ ⟨_, rfl, hQ⟩
theorem as_codesOf {d mc ms : Nat} {Q : Int32 → gHp → Prop} {QX : String → gHp → Prop} (hm : h m = some (gJ 12 fs)) (a b : Int32) (hC : gC Γ M_X9_codesOf [.ref m, .int a] h d mc ms (fun v h' => ∃ x, v = some (.int x) ∧ Q x h') QX) : gC Γ M_L_asked [.ref m, .int (nI 17), .int a, .int b] h (d + 1) mc ms (fun v h' => ∃ x, v = some (.int x) ∧ Q x h') QX := by
  refine gC_of (by decide) rfl (Nat.le_of_ble_eq_true rfl) [some (.ref m), some (.int (nI 17)), some (.int a), some (.int b)] rfl ?_
  refine g_blk [(.iload_n 1, .null)] (Nat.le_of_ble_eq_true rfl) (by decide +kernel) ?_
  refine gx_iload_n_1 (gx_nil ?_)
  refine g_tableOut (tgt := 190) sw_asked (by decide) (by decide) ?_
  refine g_blk [(.aload_n 0, .null), (.iload_n 2, .null)] (Nat.le_of_ble_eq_true rfl) (by decide +kernel) ?_
  refine gx_aload_n_0 (gx_iload_n_2 ((gx_nil ?_)))
  refine g_callV (rc' := 0) (rs' := 0) kL_123 hC (by decide +kernel) rfl rfl hm rfl (Nat.le_refl _) (Nat.le_of_ble_eq_true rfl) (Nat.le_of_ble_eq_true rfl) (by omega) (by omega) rfl (fun _ _ z => z) (fun v h9 hz => ?_)
  obtain ⟨x, rfl, hQ⟩ := hz
  simp only [Option.toList_some, List.cons_append, List.nil_append]
  exact g_end (some (.int _)) rfl ⟨by decide +kernel, _, rfl, rfl⟩ ⟨_, rfl, hQ⟩
/-- the class's object in the heap, whatever it holds -/
def gWs (Γ : gE) (de : Nat) (h : gHp) (m B : Nat) : Prop := ∃ V F, gMO Γ de h m V F B
theorem gWs.mono {B' : Nat} (H : gWs Γ de h m B) (hB : B ≤ B') : gWs Γ de h m B' := by
  obtain ⟨V, F, G⟩ := H
  exact ⟨V, F, G.mono hB⟩
theorem gMO.at12 {V : Nat → Int32} {F : Nat → Nat → Int32} (G : gMO Γ de h m V F B) : ∃ fs, h m = some (gJ 12 fs) := by
  obtain ⟨nx, o, svv, hl, tt, bu, sb, fo, hm, -⟩ := G.ro
  exact ⟨_, hm⟩
theorem gMO.six {V : Nat → Int32} {F : Nat → Nat → Int32} (G : gMO Γ de h m V F B) : ∃ r, r ≤ 8 ∧ V 6 = nI r := by
  obtain ⟨o, fo, sv, fr, svv, hl, tt, bu, sb, fl, a1, a2, a3, a4, ⟨a5, a6, -⟩, -⟩ := G
  exact ⟨_, a6, a5⟩
/-- a change of the class: it returns or throws, and the object stands -/
theorem ch_go {M : gM} {av : List Value} {W : Nat} {τ x : Int32} {nm : Int32 → String} {V' : Nat → Int32} {F' : Nat → Nat → Int32} {B' : Nat} (c : fC Γ M av h W τ (.int x) nm (fP Γ de h m V' F' B')) (h4 : ∀ τ, ex4 (nm τ)) : gC Γ M av h 30 (cW W) W (fun v h' => ∃ x, v = some (.int x) ∧ gWs Γ de h' m B') (fun E h' => ex4 E ∧ gWs Γ de h' m B') :=
  gC_post c (fun v h' z => ⟨x, z.2.1, _, _, z.2.2.1⟩) (fun E h' z => ⟨by rw [z.2.1]; exact h4 τ, _, _, z.2.2.1⟩)
theorem dd_go {d mc ms : Nat} {w a b c : Int32} {B' : Nat} (hnc : gPnc Γ) (hC : gC Γ M_L_plain [.ref m, .int w, .int a, .int b, .int c] h d mc ms (fun v h' => ∃ x, v = some (.int x) ∧ gWs Γ de h' m B') (fun E h' => ex4 E ∧ gWs Γ de h' m B')) : gC Γ M_L_deed [.ref m, .int w, .int a, .int b, .int c] h (d + 1) mc ms (fun v h' => ∃ x, v = some (.int x) ∧ gWs Γ de h' m B') (fun _ _ => False) :=
  gC_post (deed_of hnc hC (fun E h' z => z.1)) (fun v h' z => by
    obtain ⟨x, e, y | ⟨E, y, -⟩⟩ := z
    · exact ⟨x, e, y⟩
    · exact ⟨x, e, y.2⟩) (fun _ _ z => z)
section De
theorem ds_accept (hp : gPxs Γ) (hpl : gPall Γ de mi) (hnc : gPnc Γ) {pr : Nat} (hpr : pr ≤ 1) (G : gWs Γ de h m B) (hB : B ≤ 9000) (a b : Int32) : gC Γ M_L_deed [.ref m, .int (nI 0), .int a, .int b, .int (nI pr)] h 32 139 5000 (fun v h' => ∃ x, v = some (.int x) ∧ gWs Γ de h' m (B + 1)) (fun _ _ => False) := by
  obtain ⟨V, F, G⟩ := G
  obtain ⟨fs, hm⟩ := G.at12
  obtain ⟨r, hr, hV6⟩ := G.six
  have c := ch_go (fb_accept hp hpl G hB a b hpr hV6 hr) (fun _ => nm_ex e_IA e_IS e_IS)
  rcases (by omega : pr = 0 ∨ pr = 1) with rfl | rfl
  · exact dd_go hnc (pl_accept0 hm a b c)
  · exact dd_go hnc (pl_accept1 hm a b c)
theorem ds_addPrefix (hp : gPxs Γ) (hpl : gPall Γ de mi) (hnc : gPnc Γ) (G : gWs Γ de h m B) (hB : B ≤ 9000) (a b c : Int32) : gC Γ M_L_deed [.ref m, .int (nI 1), .int a, .int b, .int c] h 32 139 5000 (fun v h' => ∃ x, v = some (.int x) ∧ gWs Γ de h' m (B + 1)) (fun _ _ => False) := by
  obtain ⟨V, F, G⟩ := G
  obtain ⟨fs, hm⟩ := G.at12
  obtain ⟨r, hr, hV6⟩ := G.six
  have c9 := ch_go (fb_addPrefix hp hpl G hB a b c hV6 hr) (fun _ => nm_ex e_IA e_IO e_IS)
  exact dd_go hnc (pl_addPrefix hm a b c (gC_post c9 (fun v h' z => by
    obtain ⟨x, e, y⟩ := z
    exact ⟨x, e, y.mono (by omega)⟩) (fun E h' z => ⟨z.1, z.2.mono (by omega)⟩)))
theorem ds_removePrefix (hp : gPxs Γ) (hpl : gPall Γ de mi) (hnc : gPnc Γ) (G : gWs Γ de h m B) (hB : B ≤ 9000) (a b c : Int32) : gC Γ M_L_deed [.ref m, .int (nI 2), .int a, .int b, .int c] h 32 139 5000 (fun v h' => ∃ x, v = some (.int x) ∧ gWs Γ de h' m (B + 1)) (fun _ _ => False) := by
  obtain ⟨V, F, G⟩ := G
  obtain ⟨fs, hm⟩ := G.at12
  obtain ⟨r, hr, hV6⟩ := G.six
  have c9 := ch_go (fb_removePrefix hp hpl G hB a b hV6 hr) (fun _ => nm_ex e_IA e_NS e_NS)
  exact dd_go hnc (pl_removePrefix hm a b c (gC_post c9 (fun v h' z => by
    obtain ⟨x, e, y⟩ := z
    exact ⟨x, e, y.mono (by omega)⟩) (fun E h' z => ⟨z.1, z.2.mono (by omega)⟩)))
theorem ds_sort (hp : gPxs Γ) (hpl : gPall Γ de mi) (hnc : gPnc Γ) (G : gWs Γ de h m B) (hB : B ≤ 9000) (a b c : Int32) : gC Γ M_L_deed [.ref m, .int (nI 3), .int a, .int b, .int c] h 32 139 5000 (fun v h' => ∃ x, v = some (.int x) ∧ gWs Γ de h' m (B + 1)) (fun _ _ => False) := by
  obtain ⟨V, F, G⟩ := G
  obtain ⟨fs, hm⟩ := G.at12
  obtain ⟨r, hr, hV6⟩ := G.six
  have c9 := ch_go (fb_sort hp hpl G hB a hV6 hr) (fun _ => nm_ex e_NS e_IS e_IS)
  exact dd_go hnc (pl_sort hm a b c (gC_post c9 (fun v h' z => by
    obtain ⟨x, e, y⟩ := z
    exact ⟨x, e, y.mono (by omega)⟩) (fun E h' z => ⟨z.1, z.2.mono (by omega)⟩)))
theorem ds_sortAll (hp : gPxs Γ) (hpl : gPall Γ de mi) (hnc : gPnc Γ) (G : gWs Γ de h m B) (hB : B ≤ 9000) (a b c : Int32) : gC Γ M_L_deed [.ref m, .int (nI 4), .int a, .int b, .int c] h 32 139 5000 (fun v h' => ∃ x, v = some (.int x) ∧ gWs Γ de h' m (B + 1)) (fun _ _ => False) := by
  obtain ⟨V, F, G⟩ := G
  obtain ⟨fs, hm⟩ := G.at12
  obtain ⟨r, hr, hV6⟩ := G.six
  have c9 := ch_go (fb_sortAll hp hpl G hB  hV6 hr) (fun _ => nm_ex e_NS e_NS e_NS)
  exact dd_go hnc (pl_sortAll hm a b c (gC_post c9 (fun v h' z => by
    obtain ⟨x, e, y⟩ := z
    exact ⟨x, e, y.mono (by omega)⟩) (fun E h' z => ⟨z.1, z.2.mono (by omega)⟩)))
theorem ds_place (hp : gPxs Γ) (hpl : gPall Γ de mi) (hnc : gPnc Γ) (G : gWs Γ de h m B) (hB : B ≤ 9000) (a b c : Int32) : gC Γ M_L_deed [.ref m, .int (nI 5), .int a, .int b, .int c] h 32 139 5000 (fun v h' => ∃ x, v = some (.int x) ∧ gWs Γ de h' m (B + 1)) (fun _ _ => False) := by
  obtain ⟨V, F, G⟩ := G
  obtain ⟨fs, hm⟩ := G.at12
  obtain ⟨r, hr, hV6⟩ := G.six
  have c9 := ch_go (fb_place hp hpl G hB a b hV6 hr) (fun _ => nm_ex e_NS e_IO e_IS)
  exact dd_go hnc (pl_place hm a b c (gC_post c9 (fun v h' z => by
    obtain ⟨x, e, y⟩ := z
    exact ⟨x, e, y.mono (by omega)⟩) (fun E h' z => ⟨z.1, z.2.mono (by omega)⟩)))
theorem ds_pull (hp : gPxs Γ) (hpl : gPall Γ de mi) (hnc : gPnc Γ) (G : gWs Γ de h m B) (hB : B ≤ 9000) (a b c : Int32) : gC Γ M_L_deed [.ref m, .int (nI 6), .int a, .int b, .int c] h 32 139 5000 (fun v h' => ∃ x, v = some (.int x) ∧ gWs Γ de h' m (B + 1)) (fun _ _ => False) := by
  obtain ⟨V, F, G⟩ := G
  obtain ⟨fs, hm⟩ := G.at12
  obtain ⟨r, hr, hV6⟩ := G.six
  have c9 := ch_go (fb_pull hp hpl G hB a hV6 hr) (fun _ => nm_ex e_NS e_IS e_IS)
  exact dd_go hnc (pl_pull hm a b c (gC_post c9 (fun v h' z => by
    obtain ⟨x, e, y⟩ := z
    exact ⟨x, e, y.mono (by omega)⟩) (fun E h' z => ⟨z.1, z.2.mono (by omega)⟩)))
theorem ds_setCutoff (hp : gPxs Γ) (hpl : gPall Γ de mi) (hnc : gPnc Γ) (G : gWs Γ de h m B) (hB : B ≤ 9000) (a b c : Int32) : gC Γ M_L_deed [.ref m, .int (nI 7), .int a, .int b, .int c] h 32 139 5000 (fun v h' => ∃ x, v = some (.int x) ∧ gWs Γ de h' m (B + 1)) (fun _ _ => False) := by
  obtain ⟨V, F, G⟩ := G
  obtain ⟨fs, hm⟩ := G.at12
  obtain ⟨r, hr, hV6⟩ := G.six
  have c9 := ch_go (fb_setCutoff hp hpl G hB a b hV6 hr) (fun _ => nm_ex e_IO e_IA e_IA)
  exact dd_go hnc (pl_setCutoff hm a b c (gC_post c9 (fun v h' z => by
    obtain ⟨x, e, y⟩ := z
    exact ⟨x, e, y.mono (by omega)⟩) (fun E h' z => ⟨z.1, z.2.mono (by omega)⟩)))
theorem ds_setDeparture (hp : gPxs Γ) (hpl : gPall Γ de mi) (hnc : gPnc Γ) (G : gWs Γ de h m B) (hB : B ≤ 9000) (a b c : Int32) : gC Γ M_L_deed [.ref m, .int (nI 8), .int a, .int b, .int c] h 32 139 5000 (fun v h' => ∃ x, v = some (.int x) ∧ gWs Γ de h' m (B + 1)) (fun _ _ => False) := by
  obtain ⟨V, F, G⟩ := G
  obtain ⟨fs, hm⟩ := G.at12
  obtain ⟨r, hr, hV6⟩ := G.six
  have c9 := ch_go (fb_setDeparture hp hpl G hB a b hV6 hr) (fun _ => nm_ex e_IO e_IA e_IA)
  exact dd_go hnc (pl_setDeparture hm a b c (gC_post c9 (fun v h' z => by
    obtain ⟨x, e, y⟩ := z
    exact ⟨x, e, y.mono (by omega)⟩) (fun E h' z => ⟨z.1, z.2.mono (by omega)⟩)))
theorem ds_pass (hp : gPxs Γ) (hpl : gPall Γ de mi) (hnc : gPnc Γ) (G : gWs Γ de h m B) (hB : B ≤ 9000) (a b c : Int32) : gC Γ M_L_deed [.ref m, .int (nI 9), .int a, .int b, .int c] h 32 139 5000 (fun v h' => ∃ x, v = some (.int x) ∧ gWs Γ de h' m (B + 1)) (fun _ _ => False) := by
  obtain ⟨V, F, G⟩ := G
  obtain ⟨fs, hm⟩ := G.at12
  obtain ⟨r, hr, hV6⟩ := G.six
  have c9 := ch_go (fb_pass hp hpl G hB a hV6 hr) (fun _ => nm_ex e_IA e_IA e_IA)
  exact dd_go hnc (pl_pass hm a b c (gC_post c9 (fun v h' z => by
    obtain ⟨x, e, y⟩ := z
    exact ⟨x, e, y.mono (by omega)⟩) (fun E h' z => ⟨z.1, z.2.mono (by omega)⟩)))
end De
/-- a question that leaves the heap as it is -/
theorem ak_go {d : Nat} {w a b τ x : Int32} {nm : Int32 → String} (hnc : gPnc Γ) (h4 : ∀ τ, ex4 (nm τ)) (hC : gC Γ M_L_asked [.ref m, .int w, .int a, .int b] h d 1 6 (fun v h' => ∃ y, v = some (.int y) ∧ (τ = 0 ∧ y = x ∧ h' = h)) (fun E h' => ¬ τ = 0 ∧ E = nm τ ∧ h' = h)) : gC Γ M_L_ask [.ref m, .int w, .int a, .int b] h (d + 1) 1 6 (fun v h' => v = some (.int (if τ = 0 then x else xcd (nm τ))) ∧ h' = h) (fun _ _ => False) :=
  gC_post (ask_of hnc hC (fun E h' z => by rw [z.2.1]; exact h4 τ)) (fun v h' z => by
    obtain ⟨y, e, ⟨z1, z2, z3⟩ | ⟨E, ⟨z1, z2, z3⟩, z4⟩⟩ := z
    · exact ⟨by rw [if_pos z1, e, z2], z3⟩
    · exact ⟨by rw [if_neg z1, e, z4, z2], z3⟩) (fun _ _ z => z)
theorem fQ.go {M : gM} {av : List Value} {τ x : Int32} {nm : Int32 → String} (c : fQ Γ M av h τ (.int x) nm) : gC Γ M av h 30 1 6 (fun v h' => ∃ y, v = some (.int y) ∧ (τ = 0 ∧ y = x ∧ h' = h)) (fun E h' => ¬ τ = 0 ∧ E = nm τ ∧ h' = h) := by
  by_cases e : τ = 0
  · exact gC_wide (gC_post (c.1 e) (fun v h' z => ⟨x, z.1, e, rfl, z.2⟩) (fun _ _ z => z.elim)) (Nat.le_refl _) (by decide) (by decide)
  · exact gC_post (c.2 e) (fun _ _ z => z.elim) (fun E h' z => ⟨e, z⟩)
/-- a question that may write -/
theorem akC_go {d mc ms : Nat} {w a b τ x : Int32} {nm : Int32 → String} {Q : gHp → Prop} (hnc : gPnc Γ) (h4 : ∀ τ, ex4 (nm τ)) (hC : gC Γ M_L_asked [.ref m, .int w, .int a, .int b] h d mc ms (fun v h' => ∃ y, v = some (.int y) ∧ (τ = 0 ∧ y = x ∧ Q h')) (fun E h' => ¬ τ = 0 ∧ E = nm τ ∧ Q h')) : gC Γ M_L_ask [.ref m, .int w, .int a, .int b] h (d + 1) mc ms (fun v h' => v = some (.int (if τ = 0 then x else xcd (nm τ))) ∧ Q h') (fun _ _ => False) :=
  gC_post (ask_of hnc hC (fun E h' z => by rw [z.2.1]; exact h4 τ)) (fun v h' z => by
    obtain ⟨y, e, ⟨z1, z2, z3⟩ | ⟨E, ⟨z1, z2, z3⟩, z4⟩⟩ := z
    · exact ⟨by rw [if_pos z1, e, z2], z3⟩
    · exact ⟨by rw [if_neg z1, e, z4, z2], z3⟩) (fun _ _ z => z)
theorem fC.go {M : gM} {av : List Value} {W : Nat} {τ x : Int32} {nm : Int32 → String} {Q : gHp → Prop} (c : fC Γ M av h W τ (.int x) nm Q) : gC Γ M av h 30 (cW W) W (fun v h' => ∃ y, v = some (.int y) ∧ (τ = 0 ∧ y = x ∧ Q h')) (fun E h' => ¬ τ = 0 ∧ E = nm τ ∧ Q h') :=
  gC_post c (fun v h' z => ⟨x, z.2.1, z.1, rfl, z.2.2⟩) (fun E h' z => z)
end GLb
