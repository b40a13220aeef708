/-! THE FACE: WHAT IS REQUIRED -/
section GFg
variable {Γ : gE} {h : gHp}
theorem mo_requireCode {y : Int32} (hy : (nI 0 ≤ y ∧ y ≤ nI 9999)) : pC Γ M_X9_requireCode [.int y] h 2 none := by
  refine pC_of (by decide) rfl (Nat.le_of_ble_eq_true rfl) [some (.int y)] rfl ?_
  refine g_blk [(.iload_n 0, .null)] (Nat.le_of_ble_eq_true rfl) (by decide +kernel) ?_
  refine gx_iload_n_0 ((gx_nil ?_))
  refine g_pS kX9_258 (pc_isCode _) (by decide +kernel) rfl rfl (Nat.le_of_ble_eq_true rfl) (Nat.le_of_ble_eq_true rfl) (Nat.le_of_ble_eq_true rfl) rfl ?_
  simp only [Option.toList_some, List.cons_append, List.nil_append]
  rw [bI_t hy]
  refine g_if_ne (off := 14) (tgt := 18) (by decide +kernel) (by decide) (fun c4 => ?_) (fun c4 => ?_)
  · try simp only [bI_0, Decidable.not_not] at c4
    refine g_end none rfl ⟨by decide +kernel, rfl⟩ ⟨?_, rfl⟩
    rfl
  · try simp only [bI_0, Decidable.not_not] at c4
    exact absurd (by first | exact c4 | decide) (show ¬ nI 1 = 0 by decide)
theorem mo_requireCode_no (hp : gPxs Γ) {y : Int32} (hy : ¬ (nI 0 ≤ y ∧ y ≤ nI 9999)) : gC Γ M_X9_requireCode [.int y] h 6 1 6 (fun _ _ => False) (fun E h' => E = xIA ∧ h' = h) := by
  refine gC_of (by decide) rfl (Nat.le_of_ble_eq_true rfl) [some (.int y)] rfl ?_
  refine g_blk [(.iload_n 0, .null)] (Nat.le_of_ble_eq_true rfl) (by decide +kernel) ?_
  refine gx_iload_n_0 ((gx_nil ?_))
  refine g_pS kX9_258 (pc_isCode _) (by decide +kernel) rfl rfl (Nat.le_of_ble_eq_true rfl) (Nat.le_of_ble_eq_true rfl) (Nat.le_of_ble_eq_true rfl) rfl ?_
  simp only [Option.toList_some, List.cons_append, List.nil_append]
  rw [bI_f hy]
  refine g_if_ne (off := 14) (tgt := 18) (by decide +kernel) (by decide) (fun c4 => ?_) (fun c4 => ?_)
  · try simp only [bI_0, Decidable.not_not] at c4
    exact absurd (by decide) c4
  · try simp only [bI_0, Decidable.not_not] at c4
    obtain ⟨sa, hsa⟩ := hp.at (k := 262) (tx := "the code is out of range") (by decide)
    exact g_throwW thr_ia hp.1 hsa (by decide +kernel) (by decide +kernel) (by decide +kernel) (by decide +kernel) (by decide +kernel) rfl (by decide) (Nat.le_of_ble_eq_true rfl) (by omega) (by omega) ⟨rfl, rfl⟩
theorem mo_requireRoute {y : Int32} (hy : (nI 0 ≤ y ∧ y ≤ nI 5)) : pC Γ M_X9_requireRoute [.int y] h 2 none := by
  refine pC_of (by decide) rfl (Nat.le_of_ble_eq_true rfl) [some (.int y)] rfl ?_
  refine g_blk [(.iload_n 0, .null)] (Nat.le_of_ble_eq_true rfl) (by decide +kernel) ?_
  refine gx_iload_n_0 ((gx_nil ?_))
  refine g_pS kX9_264 (pc_isRoute _) (by decide +kernel) rfl rfl (Nat.le_of_ble_eq_true rfl) (Nat.le_of_ble_eq_true rfl) (Nat.le_of_ble_eq_true rfl) rfl ?_
  simp only [Option.toList_some, List.cons_append, List.nil_append]
  rw [bI_t hy]
  refine g_if_ne (off := 13) (tgt := 17) (by decide +kernel) (by decide) (fun c4 => ?_) (fun c4 => ?_)
  · try simp only [bI_0, Decidable.not_not] at c4
    refine g_end none rfl ⟨by decide +kernel, rfl⟩ ⟨?_, rfl⟩
    rfl
  · try simp only [bI_0, Decidable.not_not] at c4
    exact absurd (by first | exact c4 | decide) (show ¬ nI 1 = 0 by decide)
theorem mo_requireRoute_no (hp : gPxs Γ) {y : Int32} (hy : ¬ (nI 0 ≤ y ∧ y ≤ nI 5)) : gC Γ M_X9_requireRoute [.int y] h 6 1 6 (fun _ _ => False) (fun E h' => E = xIO ∧ h' = h) := by
  refine gC_of (by decide) rfl (Nat.le_of_ble_eq_true rfl) [some (.int y)] rfl ?_
  refine g_blk [(.iload_n 0, .null)] (Nat.le_of_ble_eq_true rfl) (by decide +kernel) ?_
  refine gx_iload_n_0 ((gx_nil ?_))
  refine g_pS kX9_264 (pc_isRoute _) (by decide +kernel) rfl rfl (Nat.le_of_ble_eq_true rfl) (Nat.le_of_ble_eq_true rfl) (Nat.le_of_ble_eq_true rfl) rfl ?_
  simp only [Option.toList_some, List.cons_append, List.nil_append]
  rw [bI_f hy]
  refine g_if_ne (off := 13) (tgt := 17) (by decide +kernel) (by decide) (fun c4 => ?_) (fun c4 => ?_)
  · try simp only [bI_0, Decidable.not_not] at c4
    exact absurd (by decide) c4
  · try simp only [bI_0, Decidable.not_not] at c4
    obtain ⟨sa, hsa⟩ := hp.at (k := 120) (tx := "there is no such route") (by decide)
    exact g_throw thr_io hp.1 hsa (by decide +kernel) (by decide +kernel) (by decide +kernel) (by decide +kernel) (by decide +kernel) rfl (by decide) (Nat.le_of_ble_eq_true rfl) (by omega) (by omega) ⟨rfl, rfl⟩
end GFg
