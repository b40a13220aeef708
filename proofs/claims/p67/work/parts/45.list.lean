/-! ArrayList -/
section GAl
variable {Γ : gE} {de : Nat}
def fpL (a e n : Nat) : List Nat := if n = 0 then [a] else [a, e]
def gALx (Γ : gE) (de : Nat) (h : gHp) (a : Nat) (mc : Int32) (e n : Nat) (f : Nat → Option Nat) (xs : List Nat) : Prop := h a = some (gJ 4 [.int mc, .ref e, .int (nI xs.length)]) ∧ xs.length ≤ n ∧ n ≤ 64 ∧ (∀ i x, xs[i]? = some x → f i = some x) ∧ ((n = 0 ∧ e = de) ∨ (0 < n ∧ h e = some (gO Γ n f) ∧ a ≠ e))
def gAL (Γ : gE) (de : Nat) (h : gHp) (a : Nat) (fp : List Nat) (xs : List Nat) : Prop := ∃ mc e n f, gALx Γ de h a mc e n f xs ∧ fp = fpL a e n
/-- the statics of ArrayList: its empty row -/
def gPal (Γ : gE) (de : Nat) : Prop := gPz Γ "java/util/ArrayList" "DEFAULTCAPACITY_EMPTY_ELEMENTDATA" "[Ljava/lang/Object;" (.ref de) ∧ gPa Γ (.object "java/lang/Object") de 0 (fun _ => .null)
theorem al_size {h : gHp} {a : Nat} {fp xs : List Nat} (H : gAL Γ de h a fp xs) : pC Γ M_Jx4a65c_size_8abf5 [.ref a] h 0 (some (.int (nI xs.length))) := by
  obtain ⟨mc, e, n, f, ⟨ha, -⟩, -⟩ := H
  refine pC_of (by decide) rfl (Nat.le_of_ble_eq_true rfl) [some (.ref a)] rfl ?_
  refine g_blk [(.aload_n 0, .null)] (Nat.le_of_ble_eq_true rfl) (by decide +kernel) ?_
  refine gx_aload_n_0 ((gx_nil ?_))
  refine g_getf fJx4a65c_48 (by decide +kernel) ha rfl ?_
  refine g_end (some (.int _)) rfl ⟨by decide +kernel, _, rfl, rfl⟩ ⟨?_, rfl⟩
  first | rfl | simp_all
theorem jk_check {h : gHp} {i n : Nat} (hi : i < n) (hn : n < 2 ^ 31) : pC Γ M_J3_checkIndex_8e157 [.int (nI i), .int (nI n), .null] h 0 (some (.int (nI i))) := by
  refine pC_of (by decide) rfl (Nat.le_of_ble_eq_true rfl) [some (.int (nI i)), some (.int (nI n)), some .null] rfl ?_
  refine g_blk [(.iload_n 0, .null)] (Nat.le_of_ble_eq_true rfl) (by decide +kernel) ?_
  refine gx_iload_n_0 ((gx_nil ?_))
  refine g_if_lt (off := 8) (tgt := 9) (by decide +kernel) (by decide) (fun c1 => ?_) (fun c1 => ?_)
  · try simp only [bI_0, Decidable.not_not] at c1
    exact absurd c1 (nI_pos (by omega))
  · try simp only [bI_0, Decidable.not_not] at c1
    refine g_blk [(.iload_n 0, .null), (.iload_n 1, .null)] (Nat.le_of_ble_eq_true rfl) (by decide +kernel) ?_
    refine gx_iload_n_0 (gx_iload_n_1 ((gx_nil ?_)))
    refine g_icmp_lt (off := 10) (tgt := 16) (by decide +kernel) (by decide) (fun c6 => ?_) (fun c6 => ?_)
    · try simp only [bI_0, Decidable.not_not] at c6
      refine g_blk [(.iload_n 0, .null)] (Nat.le_of_ble_eq_true rfl) (by decide +kernel) ?_
      refine gx_iload_n_0 ((gx_nil ?_))
      refine g_end (some (.int _)) rfl ⟨by decide +kernel, _, rfl, rfl⟩ ⟨?_, rfl⟩
      first | rfl | simp_all
    · try simp only [bI_0, Decidable.not_not] at c6
      exact absurd (nI_lt hi (by omega)) c6
theorem jo_check {h : gHp} {i n : Nat} (hi : i < n) (hn : n < 2 ^ 31) : pC Γ M_J15_checkIndex_7cf53 [.int (nI i), .int (nI n)] h 1 (some (.int (nI i))) := by
  refine pC_of (by decide) rfl (Nat.le_of_ble_eq_true rfl) [some (.int (nI i)), some (.int (nI n))] rfl ?_
  refine g_blk [(.iload_n 0, .null), (.iload_n 1, .null), (.aconst_null, .null)] (Nat.le_of_ble_eq_true rfl) (by decide +kernel) ?_
  refine gx_iload_n_0 (gx_iload_n_1 (gx_aconst_null ((gx_nil ?_))))
  refine g_pS kJ15_105 (jk_check hi hn) (by decide +kernel) rfl rfl (Nat.le_of_ble_eq_true rfl) (Nat.le_of_ble_eq_true rfl) (Nat.le_of_ble_eq_true rfl) rfl ?_
  try simp only [Option.toList_some, Option.toList_none, List.cons_append, List.nil_append, bI_0, n1_0, n0_0, Decidable.not_not, not_true_eq_false, not_false_eq_true, nI_add, Nat.add_zero, Nat.zero_add, Nat.reduceAdd]
  refine g_end (some (.int _)) rfl ⟨by decide +kernel, _, rfl, rfl⟩ ⟨?_, rfl⟩
  first | rfl | simp_all
theorem al_elem {h : gHp} {a : Nat} {fp xs : List Nat} (H : gAL Γ de h a fp xs) {i x : Nat} (hx : xs[i]? = some x) : pC Γ M_Jx4a65c_elementData_915e3 [.ref a, .int (nI i)] h 0 (some (.ref x)) := by
  obtain ⟨mc, e, n, f, ⟨ha, h1, h2, h3, h4⟩, -⟩ := H
  have hl : i < xs.length := (List.getElem?_eq_some_iff.mp hx).1
  have he : h e = some (gO Γ n f) := by
    rcases h4 with z | z
    · omega
    · exact z.2.1
  refine pC_of (by decide) rfl (Nat.le_of_ble_eq_true rfl) [some (.ref a), some (.int (nI i))] rfl ?_
  refine g_blk [(.aload_n 0, .null)] (Nat.le_of_ble_eq_true rfl) (by decide +kernel) ?_
  refine gx_aload_n_0 ((gx_nil ?_))
  refine g_getf fJx4a65c_9 (by decide +kernel) ha rfl ?_
  refine g_blk [(.iload_n 1, .null)] (Nat.le_of_ble_eq_true rfl) (by decide +kernel) ?_
  refine gx_iload_n_1 ((gx_nil ?_))
  refine g_aaload (by decide +kernel) he (vp_in_nI (by omega) (by omega)) ?_
  rw [nI_clamp (by omega), h3 i x hx]
  refine g_end (some (.ref _)) rfl ⟨by decide +kernel, _, rfl, Or.inl ⟨_, rfl⟩⟩ ⟨?_, rfl⟩
  rfl
theorem al_get {h : gHp} {a : Nat} {fp xs : List Nat} (H : gAL Γ de h a fp xs) {i x : Nat} (hx : xs[i]? = some x) : pC Γ M_Jx4a65c_get_915e3 [.ref a, .int (nI i)] h 2 (some (.ref x)) := by
  obtain ⟨mc, e, n, f, ⟨ha, h1, h2, h3, h4⟩, -⟩ := id H
  have hl : i < xs.length := (List.getElem?_eq_some_iff.mp hx).1
  refine pC_of (by decide) rfl (Nat.le_of_ble_eq_true rfl) [some (.ref a), some (.int (nI i))] rfl ?_
  refine g_blk [(.iload_n 1, .null), (.aload_n 0, .null)] (Nat.le_of_ble_eq_true rfl) (by decide +kernel) ?_
  refine gx_iload_n_1 (gx_aload_n_0 ((gx_nil ?_)))
  refine g_getf fJx4a65c_48 (by decide +kernel) ha rfl ?_
  refine g_pS kJx4a65c_118 (jo_check hl (by omega)) (by decide +kernel) rfl rfl (Nat.le_of_ble_eq_true rfl) (Nat.le_of_ble_eq_true rfl) (Nat.le_of_ble_eq_true rfl) rfl ?_
  try simp only [Option.toList_some, Option.toList_none, List.cons_append, List.nil_append, bI_0, n1_0, n0_0, Decidable.not_not, not_true_eq_false, not_false_eq_true, nI_add, Nat.add_zero, Nat.zero_add, Nat.reduceAdd]
  refine g_blk [(.pop, .null), (.aload_n 0, .null), (.iload_n 1, .null)] (Nat.le_of_ble_eq_true rfl) (by decide +kernel) ?_
  refine gx_popi (gx_aload_n_0 (gx_iload_n_1 ((gx_nil ?_))))
  refine g_pV kJx4a65c_123 (al_elem H hx) (by decide +kernel) rfl rfl ha rfl (Nat.le_of_ble_eq_true rfl) (Nat.le_of_ble_eq_true rfl) (Nat.le_of_ble_eq_true rfl) rfl ?_
  try simp only [Option.toList_some, Option.toList_none, List.cons_append, List.nil_append, bI_0, n1_0, n0_0, Decidable.not_not, not_true_eq_false, not_false_eq_true, nI_add, Nat.add_zero, Nat.zero_add, Nat.reduceAdd]
  refine g_end (some (.ref _)) rfl ⟨by decide +kernel, _, rfl, Or.inl ⟨_, rfl⟩⟩ ⟨?_, rfl⟩
  rfl
end GAl
