/-! THE TREE OF PREFIXES, AS THE CLASS HAS IT -/
section GTc
variable {Γ : gE} {de : Nat} {h : gHp}
def gTR (Γ : gE) (h : gHp) (tt ch ro : Nat) (C : Nat → Nat) (R : Nat → Int32) (k : Nat) : Prop := h tt = some (gJ 10 [.ref ch, .ref ro, .int (nI k)]) ∧ (∃ f, h ch = some (gI Γ 490 f) ∧ ∀ q, q < 490 → f q = nI (C q)) ∧ (∃ g, h ro = some (gI Γ 49 g) ∧ ∀ q, q < 49 → g q = R q) ∧ ch ≠ ro
def tS (tt ch ro : Nat) : Nat → Prop := fun q => q = tt ∨ q = ch ∨ q = ro
theorem nI_mod (a : Nat) (h : a < 2 ^ 31) : nI a - nI a / nI 10 * nI 10 = nI (a % 10) := by
  rw [pk_div h (by decide) (by decide), pk_mul, pk_sub (by omega)]
  congr 1
  omega
theorem m10 (n d : Nat) : n * 10 + d = 10 * n + d := by omega
theorem gTR_ch {tt ch ro k : Nat} {C C' : Nat → Nat} {R : Nat → Int32} {f : Nat → Int32} (H : gTR Γ h tt ch ro C R k) (hf : ∀ q, q < 490 → f q = nI (C' q)) : gTR Γ (gUp h ch (gI Γ 490 f)) tt ch ro C' R k ∧ gKeep (tS tt ch ro) h (gUp h ch (gI Γ 490 f)) := by
  obtain ⟨h1, ⟨f0, h2, h3⟩, ⟨g, h4, h5⟩, h6⟩ := H
  exact ⟨⟨by rw [gUp_n _ _ (fun z => by rw [z, h2] at h1; cases h1)]; exact h1, ⟨f, gUp_s _ _ _, hf⟩, ⟨g, by rw [gUp_n _ _ h6.symm]; exact h4, h5⟩, h6⟩, gKeep.up (Or.inr (Or.inl rfl))⟩
theorem gTR_ro {tt ch ro k : Nat} {C : Nat → Nat} {R R' : Nat → Int32} {f : Nat → Int32} (H : gTR Γ h tt ch ro C R k) (hf : ∀ q, q < 49 → f q = R' q) : gTR Γ (gUp h ro (gI Γ 49 f)) tt ch ro C R' k ∧ gKeep (tS tt ch ro) h (gUp h ro (gI Γ 49 f)) := by
  obtain ⟨h1, ⟨f0, h2, h3⟩, ⟨g, h4, h5⟩, h6⟩ := H
  exact ⟨⟨by rw [gUp_n _ _ (fun z => by rw [z, h4] at h1; cases h1)]; exact h1, ⟨f0, by rw [gUp_n _ _ h6]; exact h2, h3⟩, ⟨f, gUp_s _ _ _, hf⟩, h6⟩, gKeep.up (Or.inr (Or.inr rfl))⟩
theorem gTR_tt {tt ch ro k k' : Nat} {C : Nat → Nat} {R : Nat → Int32} (H : gTR Γ h tt ch ro C R k) : gTR Γ (gUp h tt (gJ 10 [.ref ch, .ref ro, .int (nI k')])) tt ch ro C R k' ∧ gKeep (tS tt ch ro) h (gUp h tt (gJ 10 [.ref ch, .ref ro, .int (nI k')])) := by
  obtain ⟨h1, ⟨f0, h2, h3⟩, ⟨g, h4, h5⟩, h6⟩ := H
  exact ⟨⟨gUp_s _ _ _, ⟨f0, by rw [gUp_n _ _ (fun z => by rw [← z, h2] at h1; cases h1)]; exact h2, h3⟩, ⟨g, by rw [gUp_n _ _ (fun z => by rw [← z, h4] at h1; cases h1)]; exact h4, h5⟩, h6⟩, gKeep.up (Or.inl rfl)⟩
theorem tS_no {tt ch ro k : Nat} {C : Nat → Nat} {R : Nat → Int32} (H : gTR Γ h tt ch ro C R k) {q : Nat} (hq : tS tt ch ro q) : (∃ fs, h q = some (gJ 10 fs)) ∨ ∃ n f, h q = some (gI Γ n f) := by
  obtain ⟨h1, ⟨f0, h2, h3⟩, ⟨g, h4, h5⟩, h6⟩ := H
  rcases hq with z | z | z
  · exact Or.inl ⟨_, by rw [z]; exact h1⟩
  · exact Or.inr ⟨_, _, by rw [z]; exact h2⟩
  · exact Or.inr ⟨_, _, by rw [z]; exact h4⟩
theorem gI_O {n n' : Nat} {f : Nat → Int32} {f' : Nat → Option Nat} : gI Γ n f ≠ gO Γ n' f' := fun z => by
  have z2 := congrArg (fun x : va_E => match x with | .inl (_, _, .inl _) => true | _ => false) z
  cases z2
theorem tr_child {tt ch ro k : Nat} {C : Nat → Nat} {R : Nat → Int32} (H : gTR Γ h tt ch ro C R k) {n d : Nat} (hn : n ≤ 48) (hd : d < 10) : pC Γ M_X7_child [.ref tt, .int (nI n), .int (nI d)] h 0 (some (.int (nI (C (10 * n + d))))) := by
  have H0 := H
  obtain ⟨htt, ⟨f, hch, hf⟩, ⟨g, hro, hg⟩, hcr⟩ := H0
  refine pC_of (by decide) rfl (Nat.le_of_ble_eq_true rfl) [some (.ref tt), some (.int (nI n)), some (.int (nI d)), none] rfl ?_
  refine g_blk [(.iload_n 1, .null), (.bipush 10, .int (nI 10)), (.imul, .null), (.iload_n 2, .null), (.iadd, .null), (.istore_n 3, .null), (.iload_n 3, .null)] (Nat.le_of_ble_eq_true rfl) (by decide +kernel) ?_
  refine gx_iload_n_1 (gx_bipush (gx_imul (gx_iload_n_2 (gx_iadd (gx_istore_n_3 rfl (gx_iload_n_3 ((gx_nil ?_))))))))
  try simp only [nI_add, pk_mul, Nat.add_zero, Nat.zero_add, Nat.reduceAdd]
  refine g_if_lt (off := 21) (tgt := 29) (by decide +kernel) (by decide) (fun c8 => ?_) (fun c8 => ?_)
  · try simp only [bI_0, Decidable.not_not] at c8
    exact absurd c8 (nI_pos (by omega))
  · try simp only [bI_0, Decidable.not_not] at c8
    refine g_blk [(.iload_n 3, .null), (.aload_n 0, .null)] (Nat.le_of_ble_eq_true rfl) (by decide +kernel) ?_
    refine gx_iload_n_3 (gx_aload_n_0 ((gx_nil ?_)))
    refine g_getf fX7_11 (by decide +kernel) htt rfl ?_
    refine g_alen_i (by decide +kernel) hch ?_
    refine g_icmp_ge (off := 12) (tgt := 29) (by decide +kernel) (by decide) (fun c17 => ?_) (fun c17 => ?_)
    · try simp only [bI_0, Decidable.not_not] at c17
      exact absurd c17 (show ¬ nI 490 ≤ _ from nI_ge (by omega) (by omega))
    · try simp only [bI_0, Decidable.not_not] at c17
      refine g_blk [(.aload_n 0, .null)] (Nat.le_of_ble_eq_true rfl) (by decide +kernel) ?_
      refine gx_aload_n_0 ((gx_nil ?_))
      refine g_getf fX7_11 (by decide +kernel) htt rfl ?_
      refine g_blk [(.iload_n 3, .null)] (Nat.le_of_ble_eq_true rfl) (by decide +kernel) ?_
      refine gx_iload_n_3 ((gx_nil ?_))
      refine g_iaload (by decide +kernel) hch (vp_in_nI (by omega) (by omega)) ?_
      rw [nI_clamp (by omega), hf _ (by omega), m10]
      refine g_blk [(.goto 4, .retAddr 30)] (Nat.le_of_ble_eq_true rfl) (by decide +kernel) ?_
      refine gx_goto ((gx_nil ?_))
      refine g_end (some (.int _)) rfl ⟨by decide +kernel, _, rfl, rfl⟩ ⟨?_, rfl⟩
      rfl
theorem tr_link {tt ch ro k : Nat} {C : Nat → Nat} {R : Nat → Int32} (H : gTR Γ h tt ch ro C R k) {n d m : Nat} (hn : n ≤ 48) (hd : d < 10) : gC Γ M_X7_linkChild [.ref tt, .int (nI n), .int (nI d), .int (nI m)] h 0 0 0 (fun v h' => v = none ∧ gTR Γ h' tt ch ro (tL C n d m) R k ∧ gKeep (tS tt ch ro) h h') (fun _ _ => False) := by
  have H0 := H
  obtain ⟨htt, ⟨f, hch, hf⟩, ⟨g, hro, hg⟩, hcr⟩ := H0
  refine gC_of (by decide) rfl (Nat.le_of_ble_eq_true rfl) [some (.ref tt), some (.int (nI n)), some (.int (nI d)), some (.int (nI m)), none] rfl ?_
  refine g_blk [(.iload_n 1, .null), (.bipush 10, .int (nI 10)), (.imul, .null), (.iload_n 2, .null), (.iadd, .null), (.istore 4, .null), (.iload 4, .null)] (Nat.le_of_ble_eq_true rfl) (by decide +kernel) ?_
  refine gx_iload_n_1 (gx_bipush (gx_imul (gx_iload_n_2 (gx_iadd (gx_istore_4 rfl (gx_iload_4 ((gx_nil ?_))))))))
  try simp only [nI_add, pk_mul, Nat.add_zero, Nat.zero_add, Nat.reduceAdd]
  refine g_if_lt (off := 21) (tgt := 31) (by decide +kernel) (by decide) (fun c10 => ?_) (fun c10 => ?_)
  · try simp only [bI_0, Decidable.not_not] at c10
    exact absurd c10 (nI_pos (by omega))
  · try simp only [bI_0, Decidable.not_not] at c10
    refine g_blk [(.iload 4, .null), (.aload_n 0, .null)] (Nat.le_of_ble_eq_true rfl) (by decide +kernel) ?_
    refine gx_iload_4 (gx_aload_n_0 ((gx_nil ?_)))
    refine g_getf fX7_11 (by decide +kernel) htt rfl ?_
    refine g_alen_i (by decide +kernel) hch ?_
    refine g_icmp_ge (off := 11) (tgt := 31) (by decide +kernel) (by decide) (fun c20 => ?_) (fun c20 => ?_)
    · try simp only [bI_0, Decidable.not_not] at c20
      exact absurd c20 (show ¬ nI 490 ≤ _ from nI_ge (by omega) (by omega))
    · try simp only [bI_0, Decidable.not_not] at c20
      refine g_blk [(.aload_n 0, .null)] (Nat.le_of_ble_eq_true rfl) (by decide +kernel) ?_
      refine gx_aload_n_0 ((gx_nil ?_))
      refine g_getf fX7_11 (by decide +kernel) htt rfl ?_
      refine g_blk [(.iload 4, .null), (.iload_n 3, .null)] (Nat.le_of_ble_eq_true rfl) (by decide +kernel) ?_
      refine gx_iload_4 (gx_iload_n_3 ((gx_nil ?_)))
      refine g_iastore (by decide +kernel) hch (vp_in_nI (by omega) (by omega)) ?_
      rw [nI_clamp (by omega), m10]
      refine g_end none rfl ⟨by decide +kernel, rfl⟩ ?_
      refine ⟨rfl, gTR_ch H (fun q hq => ?_)⟩
      unfold tL upd
      split
      · rfl
      · exact hf q hq
theorem tr_add {tt ch ro k : Nat} {C : Nat → Nat} {R : Nat → Int32} (H : gTR Γ h tt ch ro C R k) (hk : k < 49) : gC Γ M_X7_addNode [.ref tt] h 1 0 0 (fun v h' => v = some (.int (nI k)) ∧ gTR Γ h' tt ch ro (tZ C k) (upd R k (-1)) (k + 1) ∧ gKeep (tS tt ch ro) h h') (fun _ _ => False) := by
  have H0 := H
  obtain ⟨htt, ⟨f, hch, hf⟩, ⟨g, hro, hg⟩, hcr⟩ := H0
  have loop : ∀ n i C' hk, i + n = 10 → gTR Γ hk tt ch ro C' (upd R k (-1)) (k + 1) → (∀ q, q < 490 → C' q = if 10 * k ≤ q ∧ q < 10 * k + i then 0 else C q) → gKeep (tS tt ch ro) h hk → G Γ M_X7_addNode 1 0 0 (fun v h' => v = some (.int (nI k)) ∧ gTR Γ h' tt ch ro (tZ C k) (upd R k (-1)) (k + 1) ∧ gKeep (tS tt ch ro) h h') (fun _ _ => False) 0 0 35 [some (.ref tt), some (.int (nI k)), some (.int (nI i))] [] hk := by
    intro n
    induction n with
    | zero =>
      intro i C' hk hi K KC kk
      obtain rfl : i = 10 := by omega
      refine g_blk [(.iload_n 2, .null), (.bipush 10, .int (nI 10))] (Nat.le_of_ble_eq_true rfl) (by decide +kernel) ?_
      refine gx_iload_n_2 (gx_bipush ((gx_nil ?_)))
      refine g_icmp_ge (off := 16) (tgt := 54) (by decide +kernel) (by decide) (fun c38 => ?_) (fun c38 => ?_)
      · try simp only [bI_0, Decidable.not_not] at c38
        refine g_blk [(.iload_n 1, .null)] (Nat.le_of_ble_eq_true rfl) (by decide +kernel) ?_
        refine gx_iload_n_1 ((gx_nil ?_))
        refine g_end (some (.int _)) rfl ⟨by decide +kernel, _, rfl, rfl⟩ ?_
        refine ⟨rfl, ?_, kk⟩
        obtain ⟨a1, ⟨f9, a2, a3⟩, a4⟩ := K
        refine ⟨a1, ⟨f9, a2, fun q hq => ?_⟩, a4⟩
        rw [a3 q hq, KC q hq]
        rfl
      · try simp only [bI_0, Decidable.not_not] at c38
        exact absurd (nI_le (by omega) (by omega)) c38
    | succ n ih =>
      intro i C' hk hi K KC kk
      have htt := K.1
      refine g_blk [(.iload_n 2, .null), (.bipush 10, .int (nI 10))] (Nat.le_of_ble_eq_true rfl) (by decide +kernel) ?_
      refine gx_iload_n_2 (gx_bipush ((gx_nil ?_)))
      refine g_icmp_ge (off := 16) (tgt := 54) (by decide +kernel) (by decide) (fun c38 => ?_) (fun c38 => ?_)
      · try simp only [bI_0, Decidable.not_not] at c38
        exact absurd c38 (nI_ge (by omega) (by omega))
      · try simp only [bI_0, Decidable.not_not] at c38
        refine g_blk [(.aload_n 0, .null), (.iload_n 1, .null), (.iload_n 2, .null), (.iconst 0, .int (nI 0))] (Nat.le_of_ble_eq_true rfl) (by decide +kernel) ?_
        refine gx_aload_n_0 (gx_iload_n_1 (gx_iload_n_2 (gx_iconst ((gx_nil ?_)))))
        refine g_callV (rc' := 0) (rs' := 0) kX7_57 (tr_link K (n := k) (d := i) (m := 0) (by omega) (by omega)) (by decide +kernel) rfl rfl htt rfl (Nat.le_of_ble_eq_true rfl) (Nat.le_of_ble_eq_true rfl) (Nat.le_of_ble_eq_true rfl) (by omega) (by omega) rfl (fun _ _ z => z.elim) (fun v9 h5 hz => ?_)
        obtain ⟨rfl, K1, k1⟩ := hz
        simp only [Option.toList_some, Option.toList_none, List.cons_append, List.nil_append]
        refine g_blk [(.iinc 2 1, .int (nI 1)), (.goto (-16), .retAddr 35)] (Nat.le_of_ble_eq_true rfl) (by decide +kernel) ?_
        refine gx_iinc_2 rfl (gx_goto ((gx_nil ?_)))
        try simp only [nI_add, Nat.add_zero, Nat.zero_add, Nat.reduceAdd]
        exact ih (i + 1) (tL C' k i 0) h5 (by omega) K1 (fun q hq => by
          unfold tL
          rw [KC q hq]
          split
          · rw [if_pos (by omega)]
          · split
            · rw [if_pos (by omega)]
            · rw [if_neg (by omega)]) (kk.tr k1)
  refine gC_of (by decide) rfl (Nat.le_of_ble_eq_true rfl) [some (.ref tt), none, none] rfl ?_
  refine g_blk [(.aload_n 0, .null)] (Nat.le_of_ble_eq_true rfl) (by decide +kernel) ?_
  refine gx_aload_n_0 ((gx_nil ?_))
  refine g_getf fX7_18 (by decide +kernel) htt rfl ?_
  refine g_blk [(.bipush 49, .int (nI 49))] (Nat.le_of_ble_eq_true rfl) (by decide +kernel) ?_
  refine gx_bipush ((gx_nil ?_))
  refine g_icmp_lt (off := 5) (tgt := 11) (by decide +kernel) (by decide) (fun c6 => ?_) (fun c6 => ?_)
  · try simp only [bI_0, Decidable.not_not] at c6
    refine g_blk [(.aload_n 0, .null)] (Nat.le_of_ble_eq_true rfl) (by decide +kernel) ?_
    refine gx_aload_n_0 ((gx_nil ?_))
    refine g_getf fX7_18 (by decide +kernel) htt rfl ?_
    refine g_blk [(.istore_n 1, .null), (.aload_n 0, .null), (.dup, .null)] (Nat.le_of_ble_eq_true rfl) (by decide +kernel) ?_
    refine gx_istore_n_1 rfl (gx_aload_n_0 (gx_dupr ((gx_nil ?_))))
    refine g_getf fX7_18 (by decide +kernel) htt rfl ?_
    refine g_blk [(.iconst 1, .int (nI 1)), (.iadd, .null)] (Nat.le_of_ble_eq_true rfl) (by decide +kernel) ?_
    refine gx_iconst (gx_iadd ((gx_nil ?_)))
    try simp only [nI_add, Nat.add_zero, Nat.zero_add, Nat.reduceAdd]
    refine g_putf fX7_18 (by decide +kernel) htt (by simp) rfl rfl ?_
    have K1 := gTR_tt (k' := k + 1) H
    refine g_hp (h1 := gUp h tt (gJ 10 [.ref ch, .ref ro, .int (nI (k + 1))])) rfl ?_
    revert K1
    generalize gUp h tt (gJ 10 [.ref ch, .ref ro, .int (nI (k + 1))]) = h1
    intro K1
    obtain ⟨K1, k1⟩ := K1
    have K10 := K1
    obtain ⟨htt1, -, ⟨g1, hro1, hg1⟩, -⟩ := K10
    refine g_blk [(.aload_n 0, .null)] (Nat.le_of_ble_eq_true rfl) (by decide +kernel) ?_
    refine gx_aload_n_0 ((gx_nil ?_))
    refine g_getf fX7_15 (by decide +kernel) htt1 rfl ?_
    refine g_blk [(.iload_n 1, .null), (.iconst (-1), .int (-1))] (Nat.le_of_ble_eq_true rfl) (by decide +kernel) ?_
    refine gx_iload_n_1 (gx_iconst ((gx_nil ?_)))
    refine g_iastore (by decide +kernel) hro1 (vp_in_nI (by omega) (by omega)) ?_
    rw [nI_clamp (by omega)]
    have K2 := gTR_ro K1 (f := upd g1 k (-1)) (R' := upd R k (-1)) (fun q hq => by
      unfold upd
      split
      · rfl
      · exact hg1 q hq)
    revert K2
    generalize gUp h1 ro (gI Γ 49 (upd g1 k (-1))) = h2
    intro K2
    obtain ⟨K2, k2⟩ := K2
    refine g_blk [(.iconst 0, .int (nI 0)), (.istore_n 2, .null)] (Nat.le_of_ble_eq_true rfl) (by decide +kernel) ?_
    refine gx_iconst (gx_istore_n_2 rfl ((gx_nil ?_)))
    exact loop 10 0 C h2 (by omega) K2 (fun q hq => by rw [if_neg (by omega)]) (k1.tr k2)
  · try simp only [bI_0, Decidable.not_not] at c6
    exact absurd (nI_lt hk (by omega)) c6
def pwj (j : Nat) : Nat := if j ≤ 3 then 10 ^ (3 - j) else 0
theorem pwj_s (j : Nat) (h : j ≤ 3) : nI (pwj j) / nI 10 = nI (pwj (j + 1)) := by
  have : j = 0 ∨ j = 1 ∨ j = 2 ∨ j = 3 := by omega
  rcases this with rfl | rfl | rfl | rfl <;> decide
theorem pwj_3 (j : Nat) (h : j ≤ 3) : pwj j = 10 ^ (3 - j) ∧ 0 < pwj j ∧ pwj j < 2 ^ 31 := by
  have : j = 0 ∨ j = 1 ∨ j = 2 ∨ j = 3 := by omega
  rcases this with rfl | rfl | rfl | rfl <;> decide
theorem dg_j {cd j : Nat} (hc : cd < 2 ^ 31) (h : j ≤ 3) : nI cd / nI (pwj j) - nI cd / nI (pwj j) / nI 10 * nI 10 = nI (cd / 10 ^ (3 - j) % 10) := by
  obtain ⟨e, p1, p2⟩ := pwj_3 j h
  rw [pk_div hc p1 p2, nI_mod _ (Nat.lt_of_le_of_lt (Nat.div_le_self _ _) hc), e]
theorem pwj_n {j : Nat} (h : j ≤ 3) : ¬ nI (pwj j) = 0 := fun z => by
  obtain ⟨e, p1, p2⟩ := pwj_3 j h
  have := (nI_eq p2 (by decide)).mp (z.trans (show (0 : Int32) = nI 0 by decide))
  omega
theorem tr_route {tt ch ro k : Nat} {C : Nat → Nat} {R : Nat → Int32} (H : gTR Γ h tt ch ro C R k) {lo : Nat → Nat → Int32} (hI : tI C R k lo) {cd : Nat} (hc : cd < 10000) : pC Γ M_X7_routeOfCode [.ref tt, .int (nI cd)] h 1 (some (.int (bst lo cd 4))) := by
  have H0 := H
  obtain ⟨htt, ⟨f, hch, hf⟩, ⟨g, hro, hg⟩, hcr⟩ := H0
  have loop : ∀ n j nd, j + n = 4 → wk C j (cd / 10 ^ (4 - j)) = some nd → pG Γ M_X7_routeOfCode 1 (some (.int (bst lo cd 4))) h 9 [some (.ref tt), some (.int (nI cd)), some (.int (nI nd)), some (.int (bst lo cd j)), some (.int (nI (pwj j)))] [] := by
    intro n
    induction n with
    | zero =>
      intro j nd hj hw
      obtain rfl : j = 4 := by omega
      refine g_blk [(.iload 4, .null)] (Nat.le_of_ble_eq_true rfl) (by decide +kernel) ?_
      refine gx_iload_4 ((gx_nil ?_))
      refine g_if_le (off := 58) (tgt := 69) (by decide +kernel) (by decide) (fun c11 => ?_) (fun c11 => ?_)
      · try simp only [bI_0, Decidable.not_not] at c11
        refine g_blk [(.iload_n 3, .null)] (Nat.le_of_ble_eq_true rfl) (by decide +kernel) ?_
        refine gx_iload_n_3 ((gx_nil ?_))
        refine g_end (some (.int _)) rfl ⟨by decide +kernel, _, rfl, rfl⟩ ⟨?_, rfl⟩
        rfl
      · try simp only [bI_0, Decidable.not_not] at c11
        exact absurd (by decide) c11
    | succ n ih =>
      intro j nd hj hw
      have hj3 : j ≤ 3 := by omega
      have hnd := (hI.2.1 j _ nd (cdp_lt hc (by omega)) hw).1
      have hk := hI.1.2
      obtain ⟨dg, hdg⟩ : ∃ z, cd / 10 ^ (3 - j) % 10 = z := ⟨_, rfl⟩
      have hd9 : dg < 10 := by omega
      have hm48 := hI.2.2.2.2 (10 * nd + dg) (by omega)
      obtain ⟨m, hm⟩ : ∃ z, C (10 * nd + dg) = z := ⟨_, rfl⟩
      have hw1 : wk C (j + 1) (cd / 10 ^ (4 - (j + 1))) = if m = 0 then none else some m := by
        rw [wk_some (n := nd) (by rw [(cdp_s hj3).1]; exact hw), (cdp_s hj3).2, hdg, hm]
      have hpw := pwj_3 j hj3
      rw [hm] at hm48
      refine g_blk [(.iload 4, .null)] (Nat.le_of_ble_eq_true rfl) (by decide +kernel) ?_
      refine gx_iload_4 ((gx_nil ?_))
      refine g_if_le (off := 58) (tgt := 69) (by decide +kernel) (by decide) (fun c11 => ?_) (fun c11 => ?_)
      · try simp only [bI_0, Decidable.not_not] at c11
        exact absurd c11 (nI_nle hpw.2.1 hpw.2.2)
      · try simp only [bI_0, Decidable.not_not] at c11
        refine g_blk [(.aload_n 0, .null), (.iload_n 2, .null), (.iload_n 1, .null), (.iload 4, .null)] (Nat.le_of_ble_eq_true rfl) (by decide +kernel) ?_
        refine gx_aload_n_0 (gx_iload_n_2 (gx_iload_n_1 (gx_iload_4 ((gx_nil ?_)))))
        refine g_idiv (pwj_n hj3) (by decide +kernel) ?_
        refine g_blk [(.bipush 10, .int (nI 10))] (Nat.le_of_ble_eq_true rfl) (by decide +kernel) ?_
        refine gx_bipush ((gx_nil ?_))
        refine g_irem (by decide) (by decide +kernel) ?_
        rw [dg_j (by omega) hj3, hdg]
        refine g_pV kX7_47 (tr_child H (n := nd) (d := dg) (by omega) hd9) (by decide +kernel) rfl rfl htt rfl (Nat.le_of_ble_eq_true rfl) (Nat.le_of_ble_eq_true rfl) (Nat.le_of_ble_eq_true rfl) rfl ?_
        simp only [Option.toList_some, List.cons_append, List.nil_append]
        rw [hm]
        refine g_blk [(.istore_n 2, .null), (.iload_n 2, .null)] (Nat.le_of_ble_eq_true rfl) (by decide +kernel) ?_
        refine gx_istore_n_2 rfl (gx_iload_n_2 ((gx_nil ?_)))
        refine g_if_le (off := 12) (tgt := 40) (by decide +kernel) (by decide) (fun c28 => ?_) (fun c28 => ?_)
        · try simp only [bI_0, Decidable.not_not] at c28
          have m0 : m = 0 := by
            refine Classical.byContradiction (fun z => ?_)
            exact absurd c28 (nI_nle (by omega) (by omega))
          rw [if_pos m0] at hw1
          rw [bst_none hI hc hj3 hw1]
          refine g_blk [(.iload_n 3, .null)] (Nat.le_of_ble_eq_true rfl) (by decide +kernel) ?_
          refine gx_iload_n_3 ((gx_nil ?_))
          refine g_end (some (.int _)) rfl ⟨by decide +kernel, _, rfl, rfl⟩ ⟨?_, rfl⟩
          rfl
        · try simp only [bI_0, Decidable.not_not] at c28
          refine g_blk [(.iload_n 2, .null), (.aload_n 0, .null)] (Nat.le_of_ble_eq_true rfl) (by decide +kernel) ?_
          refine gx_iload_n_2 (gx_aload_n_0 ((gx_nil ?_)))
          refine g_getf fX7_15 (by decide +kernel) htt rfl ?_
          refine g_alen_i (by decide +kernel) hro ?_
          refine g_icmp_lt (off := 5) (tgt := 42) (by decide +kernel) (by decide) (fun c37 => ?_) (fun c37 => ?_)
          · try simp only [bI_0, Decidable.not_not] at c37
            refine g_blk [(.aload_n 0, .null)] (Nat.le_of_ble_eq_true rfl) (by decide +kernel) ?_
            refine gx_aload_n_0 ((gx_nil ?_))
            refine g_getf fX7_15 (by decide +kernel) htt rfl ?_
            refine g_blk [(.iload_n 2, .null)] (Nat.le_of_ble_eq_true rfl) (by decide +kernel) ?_
            refine gx_iload_n_2 ((gx_nil ?_))
            refine g_iaload (by decide +kernel) hro (vp_in_nI (by omega) (by omega)) ?_
            rw [nI_clamp (by omega)]
            refine g_blk [(.iconst (-1), .int (-1))] (Nat.le_of_ble_eq_true rfl) (by decide +kernel) ?_
            refine gx_iconst ((gx_nil ?_))
            refine g_icmp_eq (off := 10) (tgt := 59) (by decide +kernel) (by decide) (fun c49 => ?_) (fun c49 => ?_)
            · try simp only [bI_0, Decidable.not_not] at c49
              refine g_blk [(.iload 4, .null), (.bipush 10, .int (nI 10))] (Nat.le_of_ble_eq_true rfl) (by decide +kernel) ?_
              refine gx_iload_4 (gx_bipush ((gx_nil ?_)))
              refine g_idiv (by decide) (by decide +kernel) ?_
              rw [pwj_s j hj3]
              refine g_blk [(.istore 4, .null), (.goto (-57), .retAddr 9)] (Nat.le_of_ble_eq_true rfl) (by decide +kernel) ?_
              refine gx_istore_4 rfl (gx_goto ((gx_nil ?_)))
              have m0 : ¬ m = 0 := fun z => by rw [z] at c28; exact c28 (by decide)
              rw [if_neg m0] at hw1
              have hR := (hI.2.1 (j + 1) _ m (cdp_lt hc (by omega)) hw1).2.1
              rw [show 4 - (j + 1) = 3 - j by omega] at hR
              refine g_lcl ?_ (ih (j + 1) m (by omega) hw1)
              rw [bst_s, ← hR, ← hg m (by omega), if_pos c49]
            · try simp only [bI_0, Decidable.not_not] at c49
              refine g_blk [(.aload_n 0, .null)] (Nat.le_of_ble_eq_true rfl) (by decide +kernel) ?_
              refine gx_aload_n_0 ((gx_nil ?_))
              refine g_getf fX7_15 (by decide +kernel) htt rfl ?_
              refine g_blk [(.iload_n 2, .null)] (Nat.le_of_ble_eq_true rfl) (by decide +kernel) ?_
              refine gx_iload_n_2 ((gx_nil ?_))
              refine g_iaload (by decide +kernel) hro (vp_in_nI (by omega) (by omega)) ?_
              rw [nI_clamp (by omega)]
              refine g_blk [(.istore_n 3, .null), (.iload 4, .null), (.bipush 10, .int (nI 10))] (Nat.le_of_ble_eq_true rfl) (by decide +kernel) ?_
              refine gx_istore_n_3 rfl (gx_iload_4 (gx_bipush ((gx_nil ?_))))
              refine g_idiv (by decide) (by decide +kernel) ?_
              rw [pwj_s j hj3]
              refine g_blk [(.istore 4, .null), (.goto (-57), .retAddr 9)] (Nat.le_of_ble_eq_true rfl) (by decide +kernel) ?_
              refine gx_istore_4 rfl (gx_goto ((gx_nil ?_)))
              have m0 : ¬ m = 0 := fun z => by rw [z] at c28; exact c28 (by decide)
              rw [if_neg m0] at hw1
              have hR := (hI.2.1 (j + 1) _ m (cdp_lt hc (by omega)) hw1).2.1
              rw [show 4 - (j + 1) = 3 - j by omega] at hR
              refine g_lcl ?_ (ih (j + 1) m (by omega) hw1)
              rw [bst_s, ← hR, ← hg m (by omega), if_neg c49]
          · try simp only [bI_0, Decidable.not_not] at c37
            exact absurd (show nI m < nI 49 from nI_lt (by omega) (by omega)) c37
  refine pC_of (by decide) rfl (Nat.le_of_ble_eq_true rfl) [some (.ref tt), some (.int (nI cd)), none, none, none] rfl ?_
  refine g_blk [(.iconst 0, .int (nI 0)), (.istore_n 2, .null), (.iconst (-1), .int (-1)), (.istore_n 3, .null), (.sipush 1000, .int (nI 1000)), (.istore 4, .null)] (Nat.le_of_ble_eq_true rfl) (by decide +kernel) ?_
  refine gx_iconst (gx_istore_n_2 rfl (gx_iconst (gx_istore_n_3 rfl (gx_sipush (gx_istore_4 rfl ((gx_nil ?_)))))))
  exact loop 4 0 0 (by omega) rfl
end GTc
