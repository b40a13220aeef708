/-! ArrayList: what changes it -/
section GAl2
variable {Γ : gE} {de : Nat}
def gEl (h : gHp) (ci : Nat) (xs : List Nat) : Prop := ∀ y ∈ xs, ∃ vs, h y = some (gJ ci vs)
def gCi (ci : Nat) : Prop := ∃ r, vwCl[ci]? = some r ∧ Cond.castable r.1 "java/lang/Object" ∈ lw_far
set_option maxRecDepth 100000 in
theorem gCi_5 : gCi 5 := ⟨_, rfl, (gInF (List.mem_of_getElem? (i := 1659) (by decide +kernel)) (by decide +kernel))⟩
set_option maxRecDepth 100000 in
theorem gCi_6 : gCi 6 := ⟨_, rfl, (gInF (List.mem_of_getElem? (i := 1653) (by decide +kernel)) (by decide +kernel))⟩
set_option maxRecDepth 100000 in
theorem gCi_7 : gCi 7 := ⟨_, rfl, (gInF (List.mem_of_getElem? (i := 1646) (by decide +kernel)) (by decide +kernel))⟩
set_option maxRecDepth 100000 in
theorem gCi_9 : gCi 9 := ⟨_, rfl, (gInF (List.mem_of_getElem? (i := 1649) (by decide +kernel)) (by decide +kernel))⟩
set_option maxRecDepth 100000 in
theorem wCL2 : Cond.classLink RJ7 2 "java/lang/Object" ∈ lw_good := (gIn (List.mem_of_getElem? (i := 418) (by decide +kernel)) (by decide +kernel))
set_option maxRecDepth 100000 in
theorem wCL7 : Cond.classLink RJx4a65c 7 "java/lang/Object" ∈ lw_good := (gIn (List.mem_of_getElem? (i := 426) (by decide +kernel)) (by decide +kernel))
set_option maxRecDepth 100000 in
theorem wCL110 : Cond.classLink RJ7 110 "[Ljava/lang/Object;" ∈ lw_good := (gIn (List.mem_of_getElem? (i := 416) (by decide +kernel)) (by decide +kernel))
set_option maxRecDepth 100000 in
theorem wGC1 : Cond.methodLink RJ7 86 ⟨"java/lang/Object", "getClass", "()Ljava/lang/Class;"⟩ ∈ lw_good := (gIn (List.mem_of_getElem? (i := 390) (by decide +kernel)) (by decide +kernel))
set_option maxRecDepth 100000 in
theorem wGC2 : Cond.declares ⟨"java/lang/Object", "getClass", "()Ljava/lang/Class;"⟩ ∈ lw_far := (gInF (List.mem_of_getElem? (i := 1666) (by decide +kernel)) (by decide +kernel))
set_option maxRecDepth 100000 in
theorem wGC3 : Cond.selects "[Ljava/lang/Object;" ⟨"java/lang/Object", "getClass", "()Ljava/lang/Class;"⟩ ⟨"java/lang/Object", "getClass", "()Ljava/lang/Class;"⟩ ∈ lw_good := (gIn (List.mem_of_getElem? (i := 1665) (by decide +kernel)) (by decide +kernel))
set_option maxRecDepth 100000 in
theorem wGC4 : Cond.instanceMethod ⟨"java/lang/Object", "getClass", "()Ljava/lang/Class;"⟩ ∈ lw_good := (gIn (List.mem_of_getElem? (i := 391) (by decide +kernel)) (by decide +kernel))
set_option maxRecDepth 100000 in
theorem wGC5 : Cond.native ⟨"java/lang/Object", "getClass", "()Ljava/lang/Class;"⟩ ∈ lw_good := (gIn (List.mem_of_getElem? (i := 412) (by decide +kernel)) (by decide +kernel))
set_option maxRecDepth 100000 in
theorem wCP7 : Cond.methodLink RJ7 150 arraycopyName ∈ lw_good := (gIn (List.mem_of_getElem? (i := 422) (by decide +kernel)) (by decide +kernel))
set_option maxRecDepth 100000 in
theorem wCPl : Cond.methodLink RJx4a65c 112 arraycopyName ∈ lw_good := (gIn (List.mem_of_getElem? (i := 628) (by decide +kernel)) (by decide +kernel))
set_option maxRecDepth 100000 in
theorem wCP2 : Cond.native arraycopyName ∈ lw_good := (gIn (List.mem_of_getElem? (i := 424) (by decide +kernel)) (by decide +kernel))
set_option maxRecDepth 100000 in
theorem wCP3 : Cond.static arraycopyName ∈ lw_good := (gIn (List.mem_of_getElem? (i := 423) (by decide +kernel)) (by decide +kernel))
set_option maxRecDepth 100000 in
theorem wCP4 : Cond.initialized "java/lang/System" ∈ lw_good := (gIn (List.mem_of_getElem? (i := 57) (by decide +kernel)) (by decide +kernel))
set_option maxRecDepth 100000 in
theorem wDE : Cond.fieldLink RJx4a65c 39 "java/util/ArrayList" "DEFAULTCAPACITY_EMPTY_ELEMENTDATA" "[Ljava/lang/Object;" ∈ lw_good := (gIn (List.mem_of_getElem? (i := 97) (by decide +kernel)) (by decide +kernel))
def cpZ (Γ : gE) (h : gHp) (f : Nat → Option Nat) (n n' : Nat) : Option Value → gHp → Prop := fun v h' => ∃ q, v = some (.ref q) ∧ h q = none ∧ h' q = some (gO Γ n' (va_cpy f (fun _ => none) 0 0 n)) ∧ gKeep (fun z => z = q) h h'
theorem ja_copyC {h : gHp} {e mi ci n n' : Nat} {f : Nat → Option Nat} (hao : gPao Γ) (hM : gPm Γ "[Ljava/lang/Object;" mi) (he : h e = some (gO Γ n f)) (hn : n ≤ n') (hn' : n' ≤ 64) (hci : gCi ci) (hel : ∀ i, i < n → ∀ y, f i = some y → ∃ vs, h y = some (gJ ci vs)) : gC Γ M_J7_copyOf_6403c [.ref e, .int (nI n'), .ref mi] h 2 1 n' (cpZ Γ h f n n') (fun _ _ => False) := by
  obtain ⟨r, hr1, hr2⟩ := hci
  refine gC_of (by decide) rfl (Nat.le_of_ble_eq_true rfl) [some (.ref e), some (.int (nI n')), some (.ref mi), none] rfl ?_
  refine g_blk [(.aload_n 2, .null)] (Nat.le_of_ble_eq_true rfl) (by decide +kernel) ?_
  refine gx_aload_n_2 ((gx_nil ?_))
  refine g_ldcM hM wCL110 (by decide +kernel) ?_
  refine g_acmp_ne (rx := some mi) (ry := some mi) (off := 10) (tgt := 13) (by decide +kernel) (by decide) (fun z => absurd rfl z) (fun _ => ?_)
  refine g_blk [(.iload_n 1, .null)] (Nat.le_of_ble_eq_true rfl) (by decide +kernel) ?_
  refine gx_iload_n_1 ((gx_nil ?_))
  refine g_newarr_q (N := n') (rc' := 0) (rs' := 0) (by decide +kernel) wCL2 hao (nI_pos (by omega)) (nI_clamp (by omega)) (by omega) (by omega) (by omega) (fun q hq => ?_)
  have hqe : q ≠ e := fun z => by rw [z, he] at hq; cases hq
  have he1 : gUp h q (gO Γ n' (fun _ => none)) e = some (gO Γ n f) := by rw [gUp_n _ _ hqe.symm]; exact he
  refine g_blk [(.goto 14, .retAddr 24), (.astore_n 3, .null), (.aload_n 0, .null), (.iconst 0, .int (nI 0)), (.aload_n 3, .null), (.iconst 0, .int (nI 0)), (.aload_n 0, .null)] (Nat.le_of_ble_eq_true rfl) (by decide +kernel) ?_
  refine gx_goto (gx_astore_n_3 rfl (gx_aload_n_0 (gx_iconst (gx_aload_n_3 (gx_iconst (gx_aload_n_0 ((gx_nil ?_))))))))
  refine g_alen_q (by decide +kernel) he1 ?_
  refine g_blk [(.iload_n 1, .null)] (Nat.le_of_ble_eq_true rfl) (by decide +kernel) ?_
  refine gx_iload_n_1 ((gx_nil ?_))
  refine g_mmin kMJ7_304 (by decide +kernel) (by omega) (Nat.le_of_ble_eq_true rfl) ?_
  refine g_topi (show rMin (nI n) (nI n') = nI n by unfold rMin; rw [if_neg (nI_nlt hn (by omega))]) ?_
  refine g_copyq (by decide +kernel) wCP7 wCP2 wCP3 wCP4 he1 (gUp_s _ _ _) (by decide) (by decide) (nI_pos (by omega)) ?_ ?_ hr1 hr2 (fun i hi y hy => ?_) (by omega) (Nat.le_of_ble_eq_true rfl) ?_
  · rw [nI_clamp (by omega), nI_clamp (by omega)]; omega
  · rw [nI_clamp (by omega), nI_clamp (by omega)]; omega
  · rw [nI_clamp (by omega)] at hi
    rw [show (nI 0).toNatClampNeg = 0 by decide, Nat.zero_add] at hy
    obtain ⟨vs, hvs⟩ := hel i hi y hy
    exact ⟨vs, by rw [gUp_n _ _ (fun z => by rw [z, hq] at hvs; cases hvs)]; exact hvs⟩
  rw [nI_clamp (by omega), nI_clamp (by omega)]
  refine g_blk [(.aload_n 3, .null)] (Nat.le_of_ble_eq_true rfl) (by decide +kernel) ?_
  refine gx_aload_n_3 ((gx_nil ?_))
  refine g_end (some (.ref q)) rfl ⟨by decide +kernel, _, rfl, Or.inr ⟨_, rfl⟩⟩ ⟨q, rfl, hq, gUp_s _ _ _, fun z e9 hz h9 => ?_⟩
  rw [gUp_n _ _ hz, gUp_n _ _ hz]; exact h9
theorem ja_copy {h : gHp} {e mi ci n n' : Nat} {f : Nat → Option Nat} (hao : gPao Γ) (hM : gPm Γ "[Ljava/lang/Object;" mi) (he : h e = some (gO Γ n f)) (hn : n ≤ n') (hn' : n' ≤ 64) (hci : gCi ci) (hel : ∀ i, i < n → ∀ y, f i = some y → ∃ vs, h y = some (gJ ci vs)) : gC Γ M_J7_copyOf_1904c [.ref e, .int (nI n')] h 3 1 n' (cpZ Γ h f n n') (fun _ _ => False) := by
  refine gC_of (by decide) rfl (Nat.le_of_ble_eq_true rfl) [some (.ref e), some (.int (nI n'))] rfl ?_
  refine g_blk [(.aload_n 0, .null), (.iload_n 1, .null), (.aload_n 0, .null)] (Nat.le_of_ble_eq_true rfl) (by decide +kernel) ?_
  refine gx_aload_n_0 (gx_iload_n_1 (gx_aload_n_0 ((gx_nil ?_))))
  refine g_getClassO hM he wGC1 wGC2 wGC3 wGC4 wGC5 (by omega) (Nat.le_of_ble_eq_true rfl) (by decide +kernel) ?_
  refine g_callS (rc' := 0) (rs' := 0) kJ7_300 (ja_copyC hao hM he hn hn' hci hel) (by decide +kernel) rfl rfl (Nat.le_of_ble_eq_true rfl) (Nat.le_of_ble_eq_true rfl) (Nat.le_of_ble_eq_true rfl) (by omega) (by omega) rfl (fun _ _ z => z) (fun v h1 hz => ?_)
  obtain ⟨q, rfl, hz2⟩ := hz
  simp only [Option.toList_some, List.cons_append, List.nil_append]
  exact g_end (some (.ref q)) rfl ⟨by decide +kernel, _, rfl, Or.inr ⟨_, rfl⟩⟩ ⟨q, rfl, hz2⟩
theorem nI_s1 (n : Nat) : nI (n + 1) - nI n = nI 1 := by
  rw [nI_succ, Int32.add_comm, Int32.add_sub_cancel, n1_1]
theorem js_newLen {h : gHp} {n : Nat} (hn : 0 < n) (hn' : n ≤ 40) : pC Γ M_J8_newLength_cabcc [.int (nI n), .int (nI 1), .int (nI (n / 2))] h 1 (some (.int (nI (n + (if 1 < n / 2 then n / 2 else 1))))) := by
  refine pC_of (by decide) rfl (Nat.le_of_ble_eq_true rfl) [some (.int (nI n)), some (.int (nI 1)), some (.int (nI (n / 2))), none] rfl ?_
  have hb : n + (if 1 < n / 2 then n / 2 else 1) ≤ 64 := by split <;> omega
  refine g_blk [(.iload_n 0, .null), (.iload_n 1, .null), (.iload_n 2, .null)] (Nat.le_of_ble_eq_true rfl) (by decide +kernel) ?_
  refine gx_iload_n_0 (gx_iload_n_1 (gx_iload_n_2 ((gx_nil ?_))))
  refine g_mmax kMJ8_194 (by decide +kernel) (by omega) (Nat.le_of_ble_eq_true rfl) ?_
  refine g_topi (show rMax (nI 1) (nI (n / 2)) = nI (if 1 < n / 2 then n / 2 else 1) by
    unfold rMax
    by_cases z : 1 < n / 2
    · rw [if_pos z, if_pos (nI_lt z (by omega))]
    · rw [if_neg z, if_neg (nI_nlt (by omega) (by omega))]) ?_
  refine g_blk [(.iadd, .null), (.istore_n 3, .null), (.iconst 0, .int (nI 0)), (.iload_n 3, .null)] (Nat.le_of_ble_eq_true rfl) (by decide +kernel) ?_
  refine gx_iadd (gx_istore_n_3 rfl (gx_iconst (gx_iload_n_3 ((gx_nil ?_)))))
  try simp only [nI_add, Nat.add_zero, Nat.zero_add, Nat.reduceAdd]
  refine g_icmp_ge (off := 11) (tgt := 21) (by decide +kernel) (by decide) (fun c10 => ?_) (fun c10 => ?_)
  · try simp only [bI_0, Decidable.not_not] at c10
    exact absurd c10 (nI_ge (by split <;> omega) (by omega))
  · try simp only [bI_0, Decidable.not_not] at c10
    refine g_blk [(.iload_n 3, .null)] (Nat.le_of_ble_eq_true rfl) (by decide +kernel) ?_
    refine gx_iload_n_3 ((gx_nil ?_))
    refine g_ldcI cnJ8_200 (by decide +kernel) ?_
    refine g_icmp_gt (off := 5) (tgt := 21) (by decide +kernel) (by decide) (fun c16 => ?_) (fun c16 => ?_)
    · try simp only [bI_0, Decidable.not_not] at c16
      exact absurd c16 (Int32.not_lt.mpr (by rw [show (2147483639 : Int32) = nI 2147483639 by decide]; exact nI_le (by omega) (by decide)))
    · try simp only [bI_0, Decidable.not_not] at c16
      refine g_blk [(.iload_n 3, .null)] (Nat.le_of_ble_eq_true rfl) (by decide +kernel) ?_
      refine gx_iload_n_3 ((gx_nil ?_))
      refine g_end (some (.int _)) rfl ⟨by decide +kernel, _, rfl, rfl⟩ ⟨?_, rfl⟩
      rfl
def grZ (Γ : gE) (h : gHp) (a n : Nat) (mc : Int32) (xs : List Nat) : Option Value → gHp → Prop := fun v h' => ∃ q n' f', v = some (.ref q) ∧ h q = none ∧ n < n' ∧ n' ≤ 64 ∧ (∀ i x, xs[i]? = some x → f' i = some x) ∧ h' a = some (gJ 4 [.int mc, .ref q, .int (nI xs.length)]) ∧ h' q = some (gO Γ n' f') ∧ gKeep (fun z => z = a) h h'
def gPall (Γ : gE) (de mi : Nat) : Prop := gPal Γ de ∧ gPao Γ ∧ gPm Γ "[Ljava/lang/Object;" mi
theorem al_grow2 {h : gHp} {a e n ci mi : Nat} {mc : Int32} {f : Nat → Option Nat} {xs : List Nat} (hp : gPall Γ de mi) (H : gALx Γ de h a mc e n f xs) (hxs : xs.length = n) (hn : n ≤ 40) (hci : gCi ci) (hE : gEl h ci xs) : gC Γ M_Jx4a65c_grow_92f84 [.ref a, .int (nI (n + 1))] h 4 1 64 (grZ Γ h a n mc xs) (fun _ _ => False) := by
  obtain ⟨ha, h1, h2, h3, h4⟩ := H
  obtain ⟨hpl, hao, hM⟩ := hp
  refine gC_of (by decide) rfl (Nat.le_of_ble_eq_true rfl) [some (.ref a), some (.int (nI (n + 1))), none, none] rfl ?_
  rcases h4 with ⟨rfl, rfl⟩ | ⟨hn0, he, hae⟩
  · obtain rfl : xs = [] := List.eq_nil_of_length_eq_zero hxs
    refine g_blk [(.aload_n 0, .null)] (Nat.le_of_ble_eq_true rfl) (by decide +kernel) ?_
    refine gx_aload_n_0 ((gx_nil ?_))
    refine g_getf fJx4a65c_9 (by decide +kernel) ha rfl ?_
    refine g_alenP hpl.2 (by decide +kernel) ?_
    refine g_blk [(.istore_n 2, .null), (.iload_n 2, .null)] (Nat.le_of_ble_eq_true rfl) (by decide +kernel) ?_
    refine gx_istore_n_2 rfl (gx_iload_n_2 ((gx_nil ?_)))
    refine g_if_gt (off := 13) (tgt := 20) (by decide +kernel) (by decide) (fun c7 => ?_) (fun c7 => ?_)
    · try simp only [bI_0, Decidable.not_not] at c7
      exact absurd c7 (by decide)
    · try simp only [bI_0, Decidable.not_not] at c7
      refine g_blk [(.aload_n 0, .null)] (Nat.le_of_ble_eq_true rfl) (by decide +kernel) ?_
      refine gx_aload_n_0 ((gx_nil ?_))
      refine g_getf fJx4a65c_9 (by decide +kernel) ha rfl ?_
      refine g_gets hpl.1 wDE (Or.inl rfl) (by decide +kernel) ?_
      refine g_acmp_eq (rx := some e) (ry := some e) (off := 28) (tgt := 45) (by decide +kernel) (by decide) (fun _ => ?_) (fun z => absurd rfl z)
      refine g_blk [(.aload_n 0, .null), (.bipush 10, .int (nI 10)), (.iload_n 1, .null)] (Nat.le_of_ble_eq_true rfl) (by decide +kernel) ?_
      refine gx_aload_n_0 (gx_bipush (gx_iload_n_1 ((gx_nil ?_))))
      refine g_mmax kMJx4a65c_79 (by decide +kernel) (by omega) (Nat.le_of_ble_eq_true rfl) ?_
      refine g_topi (show rMax (nI 10) (nI (0 + 1)) = nI 10 by decide) ?_
      refine g_newarr_q (N := 10) (rc' := 0) (rs' := 0) (by decide +kernel) wCL7 hao (by decide) (by decide) (by decide) (by omega) (by omega) (fun q hq => ?_)
      have hqa : q ≠ a := fun z => by rw [z, ha] at hq; cases hq
      have ha1 : gUp h q (gO Γ 10 (fun _ => none)) a = some (gJ 4 [.int mc, .ref e, .int (nI 0)]) := by rw [gUp_n _ _ hqa.symm]; exact ha
      refine g_dup_x1 rfl rfl (by decide +kernel) ?_
      refine g_putf fJx4a65c_9 (by decide +kernel) ha1 (by simp) rfl rfl ?_
      refine g_end (some (.ref q)) rfl ⟨by decide +kernel, _, rfl, Or.inr ⟨_, rfl⟩⟩ ⟨q, 10, fun _ => none, rfl, hq, by omega, by omega, fun i x hx => absurd hx (by simp), gUp_s _ _ _, ?_, fun z e9 hz h9 => ?_⟩
      · rw [gUp_n _ _ hqa, gUp_s]
      · rw [gUp_n _ _ hz, gUp_n _ _ (fun y => by rw [y, hq] at h9; cases h9)]; exact h9
  · have hel : ∀ i, i < n → ∀ y, f i = some y → ∃ vs, h y = some (gJ ci vs) := by
      intro i hi y hy
      have hlt : i < xs.length := by omega
      have e9 := h3 i xs[i] (List.getElem?_eq_getElem hlt)
      rw [hy] at e9
      cases e9
      exact hE _ (List.getElem_mem hlt)
    have hx2 : nI n >>> (nI 1 &&& 31) = nI (n / 2) := by
      rw [pk_shrN (by omega) _ 1 (by decide)]
    refine g_blk [(.aload_n 0, .null)] (Nat.le_of_ble_eq_true rfl) (by decide +kernel) ?_
    refine gx_aload_n_0 ((gx_nil ?_))
    refine g_getf fJx4a65c_9 (by decide +kernel) ha rfl ?_
    refine g_alen_q (by decide +kernel) he ?_
    rw [show Int32.ofNat n = nI n from rfl]
    refine g_blk [(.istore_n 2, .null), (.iload_n 2, .null)] (Nat.le_of_ble_eq_true rfl) (by decide +kernel) ?_
    refine gx_istore_n_2 rfl (gx_iload_n_2 ((gx_nil ?_)))
    refine g_if_gt (off := 13) (tgt := 20) (by decide +kernel) (by decide) (fun c7 => ?_) (fun c7 => ?_)
    · try simp only [bI_0, Decidable.not_not] at c7
      refine g_blk [(.iload_n 2, .null), (.iload_n 1, .null), (.iload_n 2, .null), (.isub, .null), (.iload_n 2, .null), (.iconst 1, .int (nI 1)), (.ishr, .null)] (Nat.le_of_ble_eq_true rfl) (by decide +kernel) ?_
      refine gx_iload_n_2 (gx_iload_n_1 (gx_iload_n_2 (gx_isub (gx_iload_n_2 (gx_iconst (gx_ishr ((gx_nil ?_))))))))
      rw [nI_s1, hx2]
      refine g_pS kJx4a65c_73 (js_newLen hn0 hn) (by decide +kernel) rfl rfl (Nat.le_of_ble_eq_true rfl) (Nat.le_of_ble_eq_true rfl) (Nat.le_of_ble_eq_true rfl) rfl ?_
      try simp only [Option.toList_some, Option.toList_none, List.cons_append, List.nil_append, bI_0, n1_0, n0_0, Decidable.not_not, not_true_eq_false, not_false_eq_true]
      refine g_blk [(.istore_n 3, .null), (.aload_n 0, .null), (.aload_n 0, .null)] (Nat.le_of_ble_eq_true rfl) (by decide +kernel) ?_
      refine gx_istore_n_3 rfl (gx_aload_n_0 (gx_aload_n_0 ((gx_nil ?_))))
      refine g_getf fJx4a65c_9 (by decide +kernel) ha rfl ?_
      refine g_blk [(.iload_n 3, .null)] (Nat.le_of_ble_eq_true rfl) (by decide +kernel) ?_
      refine gx_iload_n_3 ((gx_nil ?_))
      have hnn : n ≤ n + (if 1 < n / 2 then n / 2 else 1) := by omega
      have hn64 : n + (if 1 < n / 2 then n / 2 else 1) ≤ 64 := by split <;> omega
      have hnlt : n < n + (if 1 < n / 2 then n / 2 else 1) := by split <;> omega
      refine g_callS (rc' := 0) (rs' := 0) kJx4a65c_66 (ja_copy hao hM he hnn hn64 hci hel) (by decide +kernel) rfl rfl (Nat.le_of_ble_eq_true rfl) (Nat.le_of_ble_eq_true rfl) (Nat.le_of_ble_eq_true rfl) (by omega) (by omega) rfl (fun _ _ z => z.elim) (fun v h5 hz => ?_)
      obtain ⟨q, rfl, hq, hq5, hk5⟩ := hz
      simp only [Option.toList_some, List.cons_append, List.nil_append]
      have hqa : q ≠ a := fun z => by rw [z, ha] at hq; cases hq
      have ha1 : h5 a = some (gJ 4 [.int mc, .ref e, .int (nI xs.length)]) := hk5 a _ hqa.symm ha
      refine g_dup_x1 rfl rfl (by decide +kernel) ?_
      refine g_putf fJx4a65c_9 (by decide +kernel) ha1 (by simp) rfl rfl ?_
      refine g_end (some (.ref q)) rfl ⟨by decide +kernel, _, rfl, Or.inr ⟨_, rfl⟩⟩ ⟨q, _, _, rfl, hq, hnlt, hn64, fun i x hx => ?_, gUp_s _ _ _, (gUp_n _ _ hqa).trans hq5, fun z e9 hz h9 => ?_⟩
      · have hlt : i < xs.length := (List.getElem?_eq_some_iff.mp hx).1
        unfold va_cpy
        rw [if_pos (by omega), Nat.sub_zero, Nat.zero_add]
        exact h3 i x hx
      · rw [gUp_n _ _ hz]; exact hk5 z e9 (fun y => by rw [y, hq] at h9; cases h9) h9
    · try simp only [bI_0, Decidable.not_not] at c7
      exact absurd (nI_p0 hn0 (by omega)) c7
end GAl2
