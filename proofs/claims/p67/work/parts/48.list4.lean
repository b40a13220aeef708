/-! ArrayList: remove, clear, the constructor -/
section GAl4
variable {Γ : gE} {de : Nat}
theorem al_rmf {xs : List Nat} {f : Nat → Option Nat} {i : Nat} (hf : ∀ j x, xs[j]? = some x → f j = some x) (hi : i < xs.length) : ∀ j x, (xs.eraseIdx i)[j]? = some x → va_up (va_cpy f f (i + 1) i (xs.length - 1 - i)) (xs.length - 1) none j = some x := by
  intro j x hx
  have hj := (List.getElem?_eq_some_iff.mp hx).1
  rw [List.length_eraseIdx, if_pos hi] at hj
  rw [List.getElem?_eraseIdx] at hx
  unfold va_up va_cpy
  rw [if_neg (by omega)]
  by_cases z : j < i
  · rw [if_pos z] at hx
    rw [if_neg (by omega)]
    exact hf j x hx
  · rw [if_neg z] at hx
    rw [if_pos (by omega), show i + 1 + (j - i) = j + 1 by omega]
    exact hf _ x hx
theorem al_rml {xs : List Nat} {f : Nat → Option Nat} (hf : ∀ j x, xs[j]? = some x → f j = some x) (hi : 0 < xs.length) : ∀ j x, (xs.eraseIdx (xs.length - 1))[j]? = some x → va_up f (xs.length - 1) none j = some x := by
  intro j x hx
  have hj := (List.getElem?_eq_some_iff.mp hx).1
  rw [List.length_eraseIdx, if_pos (by omega)] at hj
  rw [List.getElem?_eraseIdx, if_pos (by omega)] at hx
  unfold va_up
  rw [if_neg (by omega)]
  exact hf j x hx
theorem al_fastRm {h : gHp} {a e n ci i : Nat} {mc : Int32} {f : Nat → Option Nat} {xs : List Nat} (H : gALx Γ de h a mc e n f xs) (hi : i < xs.length) (hci : gCi ci) (hE : gEl h ci xs) (hc4 : ci ≠ 4) : gC Γ M_Jx4a65c_fastRemove_b59b0 [.ref a, .ref e, .int (nI i)] h 1 0 0 (fun v h' => v = none ∧ ∃ mc' f', gALx Γ de h' a mc' e n f' (xs.eraseIdx i) ∧ gKeep (fun z => z ∈ fpL a e n) h h') (fun _ _ => False) := by
  obtain ⟨r, hr1, hr2⟩ := hci
  obtain ⟨ha, h1, h2, h3, h4⟩ := H
  obtain ⟨hn0, he, hae⟩ := h4.resolve_left (fun z => by omega)
  have hlen : (xs.eraseIdx i).length = xs.length - 1 := by rw [List.length_eraseIdx, if_pos hi]
  have hs1 : nI xs.length - nI 1 = nI (xs.length - 1) := by
    obtain ⟨k, hk⟩ : ∃ k, xs.length = k + 1 := ⟨xs.length - 1, by omega⟩
    rw [hk, n1_1, nI_pred, Nat.add_sub_cancel]
  have ha1 : gUp h a (gJ 4 [.int (mc + nI 1), .ref e, .int (nI xs.length)]) a = some (gJ 4 [.int (mc + nI 1), .ref e, .int (nI xs.length)]) := gUp_s _ _ _
  have he1 : gUp h a (gJ 4 [.int (mc + nI 1), .ref e, .int (nI xs.length)]) e = some (gO Γ n f) := by rw [gUp_n _ _ hae.symm]; exact he
  have hk1 : gKeep (fun z => z ∈ fpL a e n) h (gUp h a (gJ 4 [.int (mc + nI 1), .ref e, .int (nI xs.length)])) := gKeep.up fpL_mem
  have heS : e ∈ fpL a e n := by unfold fpL; rw [if_neg (by omega)]; simp
  refine gC_of (by decide) rfl (Nat.le_of_ble_eq_true rfl) [some (.ref a), some (.ref e), some (.int (nI i)), none] rfl ?_
  refine g_blk [(.aload_n 0, .null), (.dup, .null)] (Nat.le_of_ble_eq_true rfl) (by decide +kernel) ?_
  refine gx_aload_n_0 (gx_dupr ((gx_nil ?_)))
  refine g_getf fJx4a65c_63 (by decide +kernel) ha rfl ?_
  refine g_blk [(.iconst 1, .int (nI 1)), (.iadd, .null)] (Nat.le_of_ble_eq_true rfl) (by decide +kernel) ?_
  refine gx_iconst (gx_iadd ((gx_nil ?_)))
  try simp only [nI_add]
  refine g_putf fJx4a65c_63 (by decide +kernel) ha (by simp) rfl rfl ?_
  refine g_hp (show gUp h a (gJ 4 [.int (mc + nI 1), .ref e, .int (nI xs.length)]) = _ from rfl) ?_
  revert ha1 he1 hk1
  generalize gUp h a (gJ 4 [.int (mc + nI 1), .ref e, .int (nI xs.length)]) = h9
  intro ha1 he1 hk1
  refine g_blk [(.aload_n 0, .null)] (Nat.le_of_ble_eq_true rfl) (by decide +kernel) ?_
  refine gx_aload_n_0 ((gx_nil ?_))
  refine g_getf fJx4a65c_48 (by decide +kernel) ha1 rfl ?_
  refine g_blk [(.iconst 1, .int (nI 1)), (.isub, .null)] (Nat.le_of_ble_eq_true rfl) (by decide +kernel) ?_
  refine gx_iconst (gx_isub ((gx_nil ?_)))
  rw [hs1]
  refine g_blk [(.dup, .null), (.istore_n 3, .null), (.iload_n 2, .null)] (Nat.le_of_ble_eq_true rfl) (by decide +kernel) ?_
  refine gx_dupi (gx_istore_n_3 rfl (gx_iload_n_2 ((gx_nil ?_))))
  refine g_icmp_le (off := 15) (tgt := 34) (by decide +kernel) (by decide) (fun c19 => ?_) (fun c19 => ?_)
  · try simp only [bI_0, Decidable.not_not] at c19
    obtain rfl : i = xs.length - 1 := by
      have := (nI_leI (by omega) (by omega)).mp c19
      omega
    have ha2 := ha1
    have he2 := he1
    have hk2 := hk1
    have hf2 := al_rml h3 (by omega)
    refine g_blk [(.aload_n 1, .null), (.aload_n 0, .null), (.iload_n 3, .null)] (Nat.le_of_ble_eq_true rfl) (by decide +kernel) ?_
    refine gx_aload_n_1 (gx_aload_n_0 (gx_iload_n_3 ((gx_nil ?_))))
    refine g_dup_x1 rfl rfl (by decide +kernel) ?_
    refine g_putf fJx4a65c_48 (by decide +kernel) ha2 (by simp) rfl rfl ?_
    refine g_blk [(.aconst_null, .null)] (Nat.le_of_ble_eq_true rfl) (by decide +kernel) ?_
    refine gx_aconst_null ((gx_nil ?_))
    refine g_aastoreN (by decide +kernel) ((gUp_n _ _ hae.symm).trans he2) (vp_in_nI (by omega) (by omega)) ?_
    rw [nI_clamp (by omega)]
    refine g_end none rfl ⟨by decide +kernel, rfl⟩ ⟨rfl, mc + nI 1, _, ⟨?_, by omega, h2, hf2, Or.inr ⟨hn0, gUp_s _ _ _, hae⟩⟩, fun z e9 hz h9 => ?_⟩
    · rw [gUp_n _ _ hae, gUp_s, hlen]; rfl
    · rw [gUp_n _ _ (fun y => hz (by rw [y]; exact heS)), gUp_n _ _ (fun y => hz (by rw [y]; exact fpL_mem))]
      exact hk2 z e9 hz h9
  · try simp only [bI_0, Decidable.not_not] at c19
    have hlt2 : i < xs.length - 1 := by
      rcases Nat.lt_or_ge i (xs.length - 1) with z | z
      · exact z
      · exact absurd (nI_le z (by omega)) c19
    have hsub : nI (xs.length - 1) - nI i = nI (xs.length - 1 - i) := by
      rw [show xs.length - 1 = (xs.length - 1 - i) + i by omega, ← nI_add, Int32.add_sub_cancel, Nat.add_sub_cancel]
    refine g_blk [(.aload_n 1, .null), (.iload_n 2, .null), (.iconst 1, .int (nI 1)), (.iadd, .null), (.aload_n 1, .null), (.iload_n 2, .null), (.iload_n 3, .null), (.iload_n 2, .null), (.isub, .null)] (Nat.le_of_ble_eq_true rfl) (by decide +kernel) ?_
    refine gx_aload_n_1 (gx_iload_n_2 (gx_iconst (gx_iadd (gx_aload_n_1 (gx_iload_n_2 (gx_iload_n_3 (gx_iload_n_2 (gx_isub ((gx_nil ?_))))))))))
    try simp only [nI_add]
    rw [hsub]
    have hE9 : ∀ k, k < xs.length - 1 - i → ∀ y, f (i + 1 + k) = some y → ∃ vs, h9 y = some (gJ ci vs) := by
      intro k hk y hy
      have hlt : i + 1 + k < xs.length := by omega
      have e9 := h3 _ xs[i + 1 + k] (List.getElem?_eq_getElem hlt)
      rw [hy] at e9
      cases e9
      obtain ⟨vs, hvs⟩ := hE _ (List.getElem_mem hlt)
      exact ⟨vs, hk1 _ _ (fun z => by
        unfold fpL at z
        rw [if_neg (by omega)] at z
        rcases List.mem_cons.mp z with z | z
        · rw [z, ha] at hvs; cases hvs; exact hc4 rfl
        · rw [List.mem_singleton.mp z, he] at hvs; cases hvs) hvs⟩
    refine g_copyq (by decide +kernel) wCPl wCP2 wCP3 wCP4 he1 he1 (nI_pos (by omega)) (nI_pos (by omega)) (nI_pos (by omega)) ?_ ?_ hr1 hr2 (fun k hk y hy => ?_) (by omega) (Nat.le_of_ble_eq_true rfl) ?_
    · rw [nI_clamp (by omega), nI_clamp (by omega)]; omega
    · rw [nI_clamp (by omega), nI_clamp (by omega)]; omega
    · rw [nI_clamp (by omega)] at hk hy
      exact hE9 k hk y hy
    rw [nI_clamp (by omega), nI_clamp (by omega), nI_clamp (by omega)]
    have ha2 : gUp h9 e (gO Γ n (va_cpy f f (i + 1) i (xs.length - 1 - i))) a = some (gJ 4 [.int (mc + nI 1), .ref e, .int (nI xs.length)]) := by rw [gUp_n _ _ hae]; exact ha1
    have he2 : gUp h9 e (gO Γ n (va_cpy f f (i + 1) i (xs.length - 1 - i))) e = some (gO Γ n (va_cpy f f (i + 1) i (xs.length - 1 - i))) := gUp_s _ _ _
    have hk2 : gKeep (fun z => z ∈ fpL a e n) h (gUp h9 e (gO Γ n (va_cpy f f (i + 1) i (xs.length - 1 - i)))) := hk1.tr (gKeep.up heS)
    have hf2 := al_rmf h3 hi
    revert ha2 he2 hk2 hf2
    generalize gUp h9 e (gO Γ n (va_cpy f f (i + 1) i (xs.length - 1 - i))) = h10
    generalize va_cpy f f (i + 1) i (xs.length - 1 - i) = f2
    intro ha2 he2 hk2 hf2
    refine g_blk [(.aload_n 1, .null), (.aload_n 0, .null), (.iload_n 3, .null)] (Nat.le_of_ble_eq_true rfl) (by decide +kernel) ?_
    refine gx_aload_n_1 (gx_aload_n_0 (gx_iload_n_3 ((gx_nil ?_))))
    refine g_dup_x1 rfl rfl (by decide +kernel) ?_
    refine g_putf fJx4a65c_48 (by decide +kernel) ha2 (by simp) rfl rfl ?_
    refine g_blk [(.aconst_null, .null)] (Nat.le_of_ble_eq_true rfl) (by decide +kernel) ?_
    refine gx_aconst_null ((gx_nil ?_))
    refine g_aastoreN (by decide +kernel) ((gUp_n _ _ hae.symm).trans he2) (vp_in_nI (by omega) (by omega)) ?_
    rw [nI_clamp (by omega)]
    refine g_end none rfl ⟨by decide +kernel, rfl⟩ ⟨rfl, mc + nI 1, _, ⟨?_, by omega, h2, hf2, Or.inr ⟨hn0, gUp_s _ _ _, hae⟩⟩, fun z e9 hz h9 => ?_⟩
    · rw [gUp_n _ _ hae, gUp_s, hlen]; rfl
    · rw [gUp_n _ _ (fun y => hz (by rw [y]; exact heS)), gUp_n _ _ (fun y => hz (by rw [y]; exact fpL_mem))]
      exact hk2 z e9 hz h9
theorem al_remove {h : gHp} {a ci i x : Nat} {fp xs : List Nat} (H : gAL Γ de h a fp xs) (hx : xs[i]? = some x) (hci : gCi ci) (hE : gEl h ci xs) (hc4 : ci ≠ 4) : gC Γ M_Jx4a65c_remove_915e3 [.ref a, .int (nI i)] h 2 0 0 (fun v h' => v = some (.ref x) ∧ gAL Γ de h' a fp (xs.eraseIdx i) ∧ gKeep (fun z => z ∈ fp) h h') (fun _ _ => False) := by
  obtain ⟨mc, e, n, f, HX, rfl⟩ := H
  obtain ⟨ha, h1, h2, h3, h4⟩ := id HX
  have hl : i < xs.length := (List.getElem?_eq_some_iff.mp hx).1
  obtain ⟨hn0, he, hae⟩ := h4.resolve_left (fun z => by omega)
  refine gC_of (by decide) rfl (Nat.le_of_ble_eq_true rfl) [some (.ref a), some (.int (nI i)), none, none] rfl ?_
  refine g_blk [(.iload_n 1, .null), (.aload_n 0, .null)] (Nat.le_of_ble_eq_true rfl) (by decide +kernel) ?_
  refine gx_iload_n_1 (gx_aload_n_0 ((gx_nil ?_)))
  refine g_getf fJx4a65c_48 (by decide +kernel) ha rfl ?_
  refine g_pS kJx4a65c_118 (jo_check hl (by omega)) (by decide +kernel) rfl rfl (Nat.le_of_ble_eq_true rfl) (Nat.le_of_ble_eq_true rfl) (Nat.le_of_ble_eq_true rfl) rfl ?_
  try simp only [Option.toList_some, Option.toList_none, List.cons_append, List.nil_append, bI_0, n1_0, n0_0, Decidable.not_not, not_true_eq_false, not_false_eq_true, nI_add, Nat.add_zero, Nat.zero_add, Nat.reduceAdd]
  refine g_blk [(.pop, .null), (.aload_n 0, .null)] (Nat.le_of_ble_eq_true rfl) (by decide +kernel) ?_
  refine gx_popi (gx_aload_n_0 ((gx_nil ?_)))
  refine g_getf fJx4a65c_9 (by decide +kernel) ha rfl ?_
  refine g_blk [(.astore_n 2, .null), (.aload_n 2, .null), (.iload_n 1, .null)] (Nat.le_of_ble_eq_true rfl) (by decide +kernel) ?_
  refine gx_astore_n_2 rfl (gx_aload_n_2 (gx_iload_n_1 ((gx_nil ?_))))
  refine g_aaload (by decide +kernel) he (vp_in_nI (by omega) (by omega)) ?_
  rw [nI_clamp (by omega), h3 i x hx]
  refine g_top (show va_rf (some x) = .ref x from rfl) ?_
  refine g_blk [(.astore_n 3, .null), (.aload_n 0, .null), (.aload_n 2, .null), (.iload_n 1, .null)] (Nat.le_of_ble_eq_true rfl) (by decide +kernel) ?_
  refine gx_astore_n_3 rfl (gx_aload_n_0 (gx_aload_n_2 (gx_iload_n_1 ((gx_nil ?_)))))
  refine g_callV (rc' := 0) (rs' := 0) kJx4a65c_144 (al_fastRm HX hl hci hE hc4) (by decide +kernel) rfl rfl ha rfl (Nat.le_of_ble_eq_true rfl) (Nat.le_of_ble_eq_true rfl) (Nat.le_of_ble_eq_true rfl) (by omega) (by omega) rfl (fun _ _ z => z.elim) (fun v h5 hz => ?_)
  obtain ⟨rfl, mc', f', hA5, hk5⟩ := hz
  simp only [Option.toList_none, List.nil_append]
  refine g_blk [(.aload_n 3, .null)] (Nat.le_of_ble_eq_true rfl) (by decide +kernel) ?_
  refine gx_aload_n_3 ((gx_nil ?_))
  exact g_end (some (.ref x)) rfl ⟨by decide +kernel, _, rfl, Or.inl ⟨_, rfl⟩⟩ ⟨rfl, ⟨_, _, _, _, hA5, rfl⟩, hk5⟩
theorem al_clear {h : gHp} {a : Nat} {fp xs : List Nat} (H : gAL Γ de h a fp xs) : gC Γ M_Jx4a65c_clear_da8c8 [.ref a] h 0 0 0 (fun v h' => v = none ∧ gAL Γ de h' a fp [] ∧ gKeep (fun z => z ∈ fp) h h') (fun _ _ => False) := by
  obtain ⟨mc, e, n, f, ⟨ha, h1, h2, h3, h4⟩, rfl⟩ := H
  have loop : ∀ k i h9 f9, i + k = xs.length → h9 a = some (gJ 4 [.int (mc + nI 1), .ref e, .int (nI 0)]) → ((n = 0 ∧ e = de) ∨ (0 < n ∧ h9 e = some (gO Γ n f9) ∧ a ≠ e)) → gKeep (fun z => z ∈ fpL a e n) h h9 → G Γ M_Jx4a65c_clear_da8c8 0 0 0 (fun v h' => v = none ∧ gAL Γ de h' a (fpL a e n) [] ∧ gKeep (fun z => z ∈ fpL a e n) h h') (fun _ _ => False) 0 0 27 [some (.ref a), some (.ref e), some (.int (nI xs.length)), some (.int (nI i))] [] h9 := by
    intro k
    induction k with
    | zero =>
      intro i h9 f9 hi h5 h6 h7
      refine g_blk [(.iload_n 3, .null), (.iload_n 2, .null)] (Nat.le_of_ble_eq_true rfl) (by decide +kernel) ?_
      refine gx_iload_n_3 (gx_iload_n_2 ((gx_nil ?_)))
      refine g_icmp_ge (off := 13) (tgt := 42) (by decide +kernel) (by decide) (fun c29 => ?_) (fun c29 => ?_)
      · try simp only [bI_0, Decidable.not_not] at c29
        exact g_end none rfl ⟨by decide +kernel, rfl⟩ ⟨rfl, ⟨_, _, _, f9, ⟨h5, Nat.zero_le _, h2, fun i x hx => absurd hx (by simp), h6⟩, rfl⟩, h7⟩
      · try simp only [bI_0, Decidable.not_not] at c29
        exact absurd (nI_le (by omega) (by omega)) c29
    | succ k ih =>
      intro i h9 f9 hi h5 h6 h7
      obtain ⟨hn0, he, hae⟩ := h6.resolve_left (fun z => by omega)
      refine g_blk [(.iload_n 3, .null), (.iload_n 2, .null)] (Nat.le_of_ble_eq_true rfl) (by decide +kernel) ?_
      refine gx_iload_n_3 (gx_iload_n_2 ((gx_nil ?_)))
      refine g_icmp_ge (off := 13) (tgt := 42) (by decide +kernel) (by decide) (fun c29 => ?_) (fun c29 => ?_)
      · try simp only [bI_0, Decidable.not_not] at c29
        exact absurd c29 (nI_ge (by omega) (by omega))
      · try simp only [bI_0, Decidable.not_not] at c29
        refine g_blk [(.aload_n 1, .null), (.iload_n 3, .null), (.aconst_null, .null)] (Nat.le_of_ble_eq_true rfl) (by decide +kernel) ?_
        refine gx_aload_n_1 (gx_iload_n_3 (gx_aconst_null ((gx_nil ?_))))
        refine g_aastoreN (by decide +kernel) he (vp_in_nI (by omega) (by omega)) ?_
        rw [nI_clamp (by omega)]
        refine g_blk [(.iinc 3 1, .int (nI 1)), (.goto (-12), .retAddr 27)] (Nat.le_of_ble_eq_true rfl) (by decide +kernel) ?_
        refine gx_iinc_3 rfl (gx_goto ((gx_nil ?_)))
        try simp only [nI_add, Nat.add_zero, Nat.zero_add, Nat.reduceAdd]
        exact ih (i + 1) _ (va_up f9 i none) (by omega) (by rw [gUp_n _ _ hae]; exact h5) (Or.inr ⟨hn0, gUp_s _ _ _, hae⟩) (h7.tr (gKeep.up (by unfold fpL; rw [if_neg (by omega)]; simp)))
  have ha1 : gUp h a (gJ 4 [.int (mc + nI 1), .ref e, .int (nI xs.length)]) a = some (gJ 4 [.int (mc + nI 1), .ref e, .int (nI xs.length)]) := gUp_s _ _ _
  have hk1 : gKeep (fun z => z ∈ fpL a e n) h (gUp h a (gJ 4 [.int (mc + nI 1), .ref e, .int (nI xs.length)])) := gKeep.up fpL_mem
  have h41 : (n = 0 ∧ e = de) ∨ (0 < n ∧ gUp h a (gJ 4 [.int (mc + nI 1), .ref e, .int (nI xs.length)]) e = some (gO Γ n f) ∧ a ≠ e) := h4.imp id (fun z => ⟨z.1, (gUp_n _ _ z.2.2.symm).trans z.2.1, z.2.2⟩)
  refine gC_of (by decide) rfl (Nat.le_of_ble_eq_true rfl) [some (.ref a), none, none, none] rfl ?_
  refine g_blk [(.aload_n 0, .null), (.dup, .null)] (Nat.le_of_ble_eq_true rfl) (by decide +kernel) ?_
  refine gx_aload_n_0 (gx_dupr ((gx_nil ?_)))
  refine g_getf fJx4a65c_63 (by decide +kernel) ha rfl ?_
  refine g_blk [(.iconst 1, .int (nI 1)), (.iadd, .null)] (Nat.le_of_ble_eq_true rfl) (by decide +kernel) ?_
  refine gx_iconst (gx_iadd ((gx_nil ?_)))
  refine g_putf fJx4a65c_63 (by decide +kernel) ha (by simp) rfl rfl ?_
  refine g_hp (show gUp h a (gJ 4 [.int (mc + nI 1), .ref e, .int (nI xs.length)]) = _ from rfl) ?_
  refine g_blk [(.aload_n 0, .null)] (Nat.le_of_ble_eq_true rfl) (by decide +kernel) ?_
  refine gx_aload_n_0 ((gx_nil ?_))
  refine g_getf fJx4a65c_9 (by decide +kernel) ha1 rfl ?_
  refine g_blk [(.astore_n 1, .null), (.aload_n 0, .null)] (Nat.le_of_ble_eq_true rfl) (by decide +kernel) ?_
  refine gx_astore_n_1 rfl (gx_aload_n_0 ((gx_nil ?_)))
  refine g_getf fJx4a65c_48 (by decide +kernel) ha1 rfl ?_
  refine g_blk [(.istore_n 2, .null), (.aload_n 0, .null), (.iconst 0, .int (nI 0)), (.dup_x1, .null)] (Nat.le_of_ble_eq_true rfl) (by decide +kernel) ?_
  refine gx_istore_n_2 rfl (gx_aload_n_0 (gx_iconst (gx_dup_x1ir ((gx_nil ?_)))))
  refine g_putf fJx4a65c_48 (by decide +kernel) ha1 (by simp) rfl rfl ?_
  refine g_blk [(.istore_n 3, .null)] (Nat.le_of_ble_eq_true rfl) (by decide +kernel) ?_
  refine gx_istore_n_3 rfl ((gx_nil ?_))
  exact loop xs.length 0 _ f (by omega) (gUp_s _ _ _) (h41.imp id (fun z => ⟨z.1, (gUp_n _ _ z.2.2.symm).trans z.2.1, z.2.2⟩)) (hk1.tr (gKeep.up fpL_mem))
set_option maxRecDepth 100000 in
theorem wOIm : Cond.methodLink RJxa1e45 1 Lib.objectInit ∈ lw_good := (gIn (List.mem_of_getElem? (i := 96) (by decide +kernel)) (by decide +kernel))
theorem ac_init {h : gHp} {a : Nat} : pC Γ M_Jxa1e45_init_da8c8 [.ref a] h 1 none := by
  refine pC_of (by decide) rfl (Nat.le_of_ble_eq_true rfl) [some (.ref a)] rfl ?_
  refine g_blk [(.aload_n 0, .null)] (Nat.le_of_ble_eq_true rfl) (by decide +kernel) ?_
  refine gx_aload_n_0 ((gx_nil ?_))
  refine g_objInit wOIm wOI1 wOI2 (by decide +kernel) (by omega) (Nat.le_of_ble_eq_true rfl) ?_
  refine g_end none rfl ⟨by decide +kernel, rfl⟩ ⟨?_, rfl⟩
  rfl
theorem li_init {h : gHp} {a : Nat} {fs : List Value} (ha : h a = some (gJ 4 fs)) (hf : 0 < fs.length) : gC Γ M_Jxc12de_init_da8c8 [.ref a] h 2 0 0 (fun v h' => v = none ∧ h' = gUp h a (gJ 4 (fs.set 0 (.int (nI 0))))) (fun _ _ => False) := by
  refine gC_of (by decide) rfl (Nat.le_of_ble_eq_true rfl) [some (.ref a)] rfl ?_
  refine g_blk [(.aload_n 0, .null)] (Nat.le_of_ble_eq_true rfl) (by decide +kernel) ?_
  refine gx_aload_n_0 ((gx_nil ?_))
  refine g_callI (rc' := 0) (rs' := 0) kJxc12de_1 (gC_pure ac_init) (by decide +kernel) rfl rfl rfl (Nat.le_of_ble_eq_true rfl) (Nat.le_of_ble_eq_true rfl) (Nat.le_of_ble_eq_true rfl) (by omega) (by omega) rfl (fun _ _ z => z.elim) (fun v h5 hz => ?_)
  obtain ⟨rfl, rfl⟩ := hz
  simp only [Option.toList_none, List.nil_append]
  refine g_blk [(.aload_n 0, .null), (.iconst 0, .int (nI 0))] (Nat.le_of_ble_eq_true rfl) (by decide +kernel) ?_
  refine gx_aload_n_0 (gx_iconst ((gx_nil ?_)))
  refine g_putf fJxc12de_7 (by decide +kernel) ha hf rfl rfl ?_
  exact g_end none rfl ⟨by decide +kernel, rfl⟩ ⟨rfl, rfl⟩
theorem al_init {h : gHp} {a : Nat} {x y : Value} (hp : gPal Γ de) (ha : h a = some (gJ 4 [x, y, .int (nI 0)])) : gC Γ M_Jx4a65c_init_da8c8 [.ref a] h 3 0 0 (fun v h' => v = none ∧ gAL Γ de h' a [a] [] ∧ gKeep (fun z => z = a) h h') (fun _ _ => False) := by
  refine gC_of (by decide) rfl (Nat.le_of_ble_eq_true rfl) [some (.ref a)] rfl ?_
  refine g_blk [(.aload_n 0, .null)] (Nat.le_of_ble_eq_true rfl) (by decide +kernel) ?_
  refine gx_aload_n_0 ((gx_nil ?_))
  refine g_callI (rc' := 0) (rs' := 0) kJx4a65c_1 (li_init ha (by simp)) (by decide +kernel) rfl rfl rfl (Nat.le_of_ble_eq_true rfl) (Nat.le_of_ble_eq_true rfl) (Nat.le_of_ble_eq_true rfl) (by omega) (by omega) rfl (fun _ _ z => z.elim) (fun v h5 hz => ?_)
  obtain ⟨rfl, rfl⟩ := hz
  simp only [Option.toList_none, List.nil_append]
  refine g_blk [(.aload_n 0, .null)] (Nat.le_of_ble_eq_true rfl) (by decide +kernel) ?_
  refine gx_aload_n_0 ((gx_nil ?_))
  refine g_gets hp.1 wDE (Or.inl rfl) (by decide +kernel) ?_
  refine g_putf fJx4a65c_9 (by decide +kernel) (gUp_s _ _ _) (by simp) rfl rfl ?_
  refine g_end none rfl ⟨by decide +kernel, rfl⟩ ⟨rfl, ⟨nI 0, de, 0, fun _ => none, ⟨?_, Nat.le_refl _, by decide, fun i x hx => absurd hx (by simp), Or.inl ⟨rfl, rfl⟩⟩, rfl⟩, fun z e9 hz h9 => ?_⟩
  · rw [gUp_s]; rfl
  · rw [gUp_n _ _ hz, gUp_n _ _ hz]; exact h9
end GAl4
