/-! THE PARSER'S SMALL METHODS -/
section GPp
variable {Γ : gE} {h : gHp}
theorem nI_nn {k : Nat} (h : k < 2 ^ 31) : ¬ nI k < 0 := fun z => by
  have := (nI_ltI (a := k) (b := 0) h (by decide)).mp (by rw [show nI 0 = 0 by decide]; exact z)
  omega
/-- a parser at o: text row tb with n characters, place p, list cl -/
def gPr (Γ : gE) (h : gHp) (o tb n p cl : Nat) (tx : Nat → Nat) : Prop := h o = some (gJ 8 [.ref tb, .int (nI n), .int (nI p), .ref cl]) ∧ (∃ f, h tb = some (gCh Γ 60 f) ∧ ∀ i, i < n → f i = nI (tx i) ∧ tx i < 128) ∧ n ≤ 60
theorem gPr.ne {o tb n p cl : Nat} {tx : Nat → Nat} (H : gPr Γ h o tb n p cl tx) : tb ≠ o := fun z => by
  obtain ⟨h1, ⟨f, h2, -⟩, -⟩ := H
  rw [z, h1] at h2
  have z2 := congrArg (fun x : Option va_E => match x with | some (.inl _) => true | _ => false) h2
  cases z2
theorem gPr.kp {S : Nat → Prop} {h' : gHp} {o tb n p cl : Nat} {tx : Nat → Nat} (H : gPr Γ h o tb n p cl tx) (k : gKeep S h h') (ho : ¬ S o) (ht : ¬ S tb) : gPr Γ h' o tb n p cl tx := by
  obtain ⟨h1, ⟨f, h2, h3⟩, h4⟩ := H
  exact ⟨k o _ ho h1, ⟨f, k tb _ ht h2, h3⟩, h4⟩
theorem gPr.pos {o tb n p q cl : Nat} {tx : Nat → Nat} (H : gPr Γ h o tb n p cl tx) : gPr Γ (gUp h o (gJ 8 [.ref tb, .int (nI n), .int (nI q), .ref cl])) o tb n q cl tx := by
  have ne := H.ne
  obtain ⟨h1, ⟨f, h2, h3⟩, h4⟩ := H
  exact ⟨gUp_s _ _ _, ⟨f, by rw [gUp_n _ _ ne]; exact h2, h3⟩, h4⟩
variable {o tb n p cl : Nat} {tx : Nat → Nat}
theorem ps_isInside (H : gPr Γ h o tb n p cl tx) {k : Nat} (hk : k < 2 ^ 31) : pC Γ M_X5_isInside [.ref o, .int (nI k)] h 0 (some (.int (bI (k < n)))) := by
  have H0 := H
  obtain ⟨ho, ⟨f, htb, hf⟩, hn⟩ := H0
  refine pC_of (by decide) rfl (Nat.le_of_ble_eq_true rfl) [some (.ref o), some (.int (nI k))] rfl ?_
  by_cases hkn : k < n
  · refine g_blk [(.iload_n 1, .null)] (Nat.le_of_ble_eq_true rfl) (by decide +kernel) ?_
    refine gx_iload_n_1 ((gx_nil ?_))
    refine g_if_lt (off := 24) (tgt := 25) (by decide +kernel) (by decide) (fun c1 => ?_) (fun c1 => ?_)
    · try simp only [bI_0, Decidable.not_not] at c1
      exact absurd c1 (nI_nn hk)
    · try simp only [bI_0, Decidable.not_not] at c1
      refine g_blk [(.iload_n 1, .null), (.aload_n 0, .null)] (Nat.le_of_ble_eq_true rfl) (by decide +kernel) ?_
      refine gx_iload_n_1 (gx_aload_n_0 ((gx_nil ?_)))
      refine g_getf fX5_26 (by decide +kernel) ho rfl ?_
      refine g_icmp_ge (off := 16) (tgt := 25) (by decide +kernel) (by decide) (fun c9 => ?_) (fun c9 => ?_)
      · try simp only [bI_0, Decidable.not_not] at c9
        exact absurd c9 (nI_ge hkn (by omega))
      · try simp only [bI_0, Decidable.not_not] at c9
        refine g_blk [(.iload_n 1, .null), (.aload_n 0, .null)] (Nat.le_of_ble_eq_true rfl) (by decide +kernel) ?_
        refine gx_iload_n_1 (gx_aload_n_0 ((gx_nil ?_)))
        refine g_getf fX5_22 (by decide +kernel) ho rfl ?_
        refine g_alen_c (by decide +kernel) htb ?_
        refine g_icmp_ge (off := 7) (tgt := 25) (by decide +kernel) (by decide) (fun c18 => ?_) (fun c18 => ?_)
        · try simp only [bI_0, Decidable.not_not] at c18
          exact absurd c18 (nI_ge (by omega) (by omega))
        · try simp only [bI_0, Decidable.not_not] at c18
          refine g_blk [(.iconst 1, .int (nI 1)), (.goto 4, .retAddr 26)] (Nat.le_of_ble_eq_true rfl) (by decide +kernel) ?_
          refine gx_iconst (gx_goto ((gx_nil ?_)))
          refine g_end (some (.int _)) rfl ⟨by decide +kernel, _, rfl, by first | rfl | exact bI_nar _⟩ ⟨?_, rfl⟩
          rw [bI_t hkn]
  · refine g_blk [(.iload_n 1, .null)] (Nat.le_of_ble_eq_true rfl) (by decide +kernel) ?_
    refine gx_iload_n_1 ((gx_nil ?_))
    refine g_if_lt (off := 24) (tgt := 25) (by decide +kernel) (by decide) (fun c1 => ?_) (fun c1 => ?_)
    · try simp only [bI_0, Decidable.not_not] at c1
      exact absurd c1 (nI_nn hk)
    · try simp only [bI_0, Decidable.not_not] at c1
      refine g_blk [(.iload_n 1, .null), (.aload_n 0, .null)] (Nat.le_of_ble_eq_true rfl) (by decide +kernel) ?_
      refine gx_iload_n_1 (gx_aload_n_0 ((gx_nil ?_)))
      refine g_getf fX5_26 (by decide +kernel) ho rfl ?_
      refine g_icmp_ge (off := 16) (tgt := 25) (by decide +kernel) (by decide) (fun c9 => ?_) (fun c9 => ?_)
      · try simp only [bI_0, Decidable.not_not] at c9
        refine g_blk [(.iconst 0, .int (nI 0))] (Nat.le_of_ble_eq_true rfl) (by decide +kernel) ?_
        refine gx_iconst ((gx_nil ?_))
        refine g_end (some (.int _)) rfl ⟨by decide +kernel, _, rfl, by first | rfl | exact bI_nar _⟩ ⟨?_, rfl⟩
        rw [bI_f hkn]
      · try simp only [bI_0, Decidable.not_not] at c9
        exact absurd (nI_le (by omega) hk) c9
theorem ps_hasAt (H : gPr Γ h o tb n p cl tx) {k x : Nat} (hk : k < 1000) (hx : x < 128) : pC Γ M_X5_hasAt [.ref o, .int (nI k), .int (nI x)] h 1 (some (.int (bI (k < n ∧ tx k = x)))) := by
  have H0 := H
  obtain ⟨ho, ⟨f, htb, hf⟩, hn⟩ := H0
  refine pC_of (by decide) rfl (Nat.le_of_ble_eq_true rfl) [some (.ref o), some (.int (nI k)), some (.int (nI x))] rfl ?_
  by_cases hkn : k < n
  · refine g_blk [(.aload_n 0, .null), (.iload_n 1, .null)] (Nat.le_of_ble_eq_true rfl) (by decide +kernel) ?_
    refine gx_aload_n_0 (gx_iload_n_1 ((gx_nil ?_)))
    refine g_pV kX5_100 (ps_isInside H (by omega)) (by decide +kernel) rfl rfl ho rfl (Nat.le_of_ble_eq_true rfl) (Nat.le_of_ble_eq_true rfl) (Nat.le_of_ble_eq_true rfl) rfl ?_
    simp only [Option.toList_some, List.cons_append, List.nil_append]
    rw [bI_t hkn]
    refine g_if_eq (off := 17) (tgt := 22) (by decide +kernel) (by decide) (fun c5 => ?_) (fun c5 => ?_)
    · try simp only [bI_0, Decidable.not_not] at c5
      exact absurd c5 (by decide)
    · try simp only [bI_0, Decidable.not_not] at c5
      refine g_blk [(.aload_n 0, .null)] (Nat.le_of_ble_eq_true rfl) (by decide +kernel) ?_
      refine gx_aload_n_0 ((gx_nil ?_))
      refine g_getf fX5_22 (by decide +kernel) ho rfl ?_
      refine g_blk [(.iload_n 1, .null)] (Nat.le_of_ble_eq_true rfl) (by decide +kernel) ?_
      refine gx_iload_n_1 ((gx_nil ?_))
      refine g_caload (by decide +kernel) htb (vp_in_nI (by omega) (by omega)) ?_
      rw [nI_clamp (by omega), (hf k hkn).1]
      refine g_blk [(.iload_n 2, .null)] (Nat.le_of_ble_eq_true rfl) (by decide +kernel) ?_
      refine gx_iload_n_2 ((gx_nil ?_))
      refine g_icmp_ne (off := 7) (tgt := 22) (by decide +kernel) (by decide) (fun c15 => ?_) (fun c15 => ?_)
      · try simp only [bI_0, Decidable.not_not] at c15
        refine g_blk [(.iconst 0, .int (nI 0))] (Nat.le_of_ble_eq_true rfl) (by decide +kernel) ?_
        refine gx_iconst ((gx_nil ?_))
        refine g_end (some (.int _)) rfl ⟨by decide +kernel, _, rfl, by first | rfl | exact bI_nar _⟩ ⟨?_, rfl⟩
        first | rw [bI_t (p := k < n ∧ tx k = x) ⟨hkn, (nI_eq (by have := (hf k hkn).2; omega) (by omega)).mp c15⟩] | rw [bI_f (p := k < n ∧ tx k = x) (fun z => c15 (by rw [z.2]))]
      · try simp only [bI_0, Decidable.not_not] at c15
        refine g_blk [(.iconst 1, .int (nI 1)), (.goto 4, .retAddr 23)] (Nat.le_of_ble_eq_true rfl) (by decide +kernel) ?_
        refine gx_iconst (gx_goto ((gx_nil ?_)))
        refine g_end (some (.int _)) rfl ⟨by decide +kernel, _, rfl, by first | rfl | exact bI_nar _⟩ ⟨?_, rfl⟩
        first | rw [bI_t (p := k < n ∧ tx k = x) ⟨hkn, (nI_eq (by have := (hf k hkn).2; omega) (by omega)).mp c15⟩] | rw [bI_f (p := k < n ∧ tx k = x) (fun z => c15 (by rw [z.2]))]
  · refine g_blk [(.aload_n 0, .null), (.iload_n 1, .null)] (Nat.le_of_ble_eq_true rfl) (by decide +kernel) ?_
    refine gx_aload_n_0 (gx_iload_n_1 ((gx_nil ?_)))
    refine g_pV kX5_100 (ps_isInside H (by omega)) (by decide +kernel) rfl rfl ho rfl (Nat.le_of_ble_eq_true rfl) (Nat.le_of_ble_eq_true rfl) (Nat.le_of_ble_eq_true rfl) rfl ?_
    simp only [Option.toList_some, List.cons_append, List.nil_append]
    rw [bI_f hkn]
    refine g_if_eq (off := 17) (tgt := 22) (by decide +kernel) (by decide) (fun c5 => ?_) (fun c5 => ?_)
    · try simp only [bI_0, Decidable.not_not] at c5
      refine g_blk [(.iconst 0, .int (nI 0))] (Nat.le_of_ble_eq_true rfl) (by decide +kernel) ?_
      refine gx_iconst ((gx_nil ?_))
      refine g_end (some (.int _)) rfl ⟨by decide +kernel, _, rfl, by first | rfl | exact bI_nar _⟩ ⟨?_, rfl⟩
      rw [bI_f (p := k < n ∧ tx k = x) (fun z => hkn z.1)]
    · try simp only [bI_0, Decidable.not_not] at c5
      exact absurd (by decide) c5
theorem ps_hasDigitAt (H : gPr Γ h o tb n p cl tx) {k : Nat} (hk : k < 1000) : pC Γ M_X5_hasDigitAt [.ref o, .int (nI k)] h 1 (some (.int (bI (isD tx n k = true)))) := by
  have H0 := H
  obtain ⟨ho, ⟨f, htb, hf⟩, hn⟩ := H0
  refine pC_of (by decide) rfl (Nat.le_of_ble_eq_true rfl) [some (.ref o), some (.int (nI k))] rfl ?_
  by_cases hkn : k < n
  · refine g_blk [(.aload_n 0, .null), (.iload_n 1, .null)] (Nat.le_of_ble_eq_true rfl) (by decide +kernel) ?_
    refine gx_aload_n_0 (gx_iload_n_1 ((gx_nil ?_)))
    refine g_pV kX5_100 (ps_isInside H (by omega)) (by decide +kernel) rfl rfl ho rfl (Nat.le_of_ble_eq_true rfl) (Nat.le_of_ble_eq_true rfl) (Nat.le_of_ble_eq_true rfl) rfl ?_
    simp only [Option.toList_some, List.cons_append, List.nil_append]
    rw [bI_t hkn]
    refine g_if_eq (off := 29) (tgt := 34) (by decide +kernel) (by decide) (fun c5 => ?_) (fun c5 => ?_)
    · try simp only [bI_0, Decidable.not_not] at c5
      exact absurd c5 (by decide)
    · try simp only [bI_0, Decidable.not_not] at c5
      refine g_blk [(.aload_n 0, .null)] (Nat.le_of_ble_eq_true rfl) (by decide +kernel) ?_
      refine gx_aload_n_0 ((gx_nil ?_))
      refine g_getf fX5_22 (by decide +kernel) ho rfl ?_
      refine g_blk [(.iload_n 1, .null)] (Nat.le_of_ble_eq_true rfl) (by decide +kernel) ?_
      refine gx_iload_n_1 ((gx_nil ?_))
      refine g_caload (by decide +kernel) htb (vp_in_nI (by omega) (by omega)) ?_
      rw [nI_clamp (by omega), (hf k hkn).1]
      refine g_blk [(.bipush 48, .int (nI 48))] (Nat.le_of_ble_eq_true rfl) (by decide +kernel) ?_
      refine gx_bipush ((gx_nil ?_))
      refine g_icmp_lt (off := 18) (tgt := 34) (by decide +kernel) (by decide) (fun c16 => ?_) (fun c16 => ?_)
      · try simp only [bI_0, Decidable.not_not] at c16
        have hno : ¬ isD tx n k = true := fun z => absurd c16 (Int32.not_lt.mpr (nI_le (isD_t.mp z).2.1 (by have := (hf k hkn).2; omega)))
        refine g_blk [(.iconst 0, .int (nI 0))] (Nat.le_of_ble_eq_true rfl) (by decide +kernel) ?_
        refine gx_iconst ((gx_nil ?_))
        refine g_end (some (.int _)) rfl ⟨by decide +kernel, _, rfl, by first | rfl | exact bI_nar _⟩ ⟨?_, rfl⟩
        first | rw [bI_t hyes] | rw [bI_f hno]
      · try simp only [bI_0, Decidable.not_not] at c16
        have h48 : 48 ≤ tx k := (nI_leI (by decide) (by have := (hf k hkn).2; omega)).mp (Int32.not_lt.mp c16)
        refine g_blk [(.aload_n 0, .null)] (Nat.le_of_ble_eq_true rfl) (by decide +kernel) ?_
        refine gx_aload_n_0 ((gx_nil ?_))
        refine g_getf fX5_22 (by decide +kernel) ho rfl ?_
        refine g_blk [(.iload_n 1, .null)] (Nat.le_of_ble_eq_true rfl) (by decide +kernel) ?_
        refine gx_iload_n_1 ((gx_nil ?_))
        refine g_caload (by decide +kernel) htb (vp_in_nI (by omega) (by omega)) ?_
        rw [nI_clamp (by omega), (hf k hkn).1]
        refine g_blk [(.bipush 57, .int (nI 57))] (Nat.le_of_ble_eq_true rfl) (by decide +kernel) ?_
        refine gx_bipush ((gx_nil ?_))
        refine g_icmp_gt (off := 7) (tgt := 34) (by decide +kernel) (by decide) (fun c27 => ?_) (fun c27 => ?_)
        · try simp only [bI_0, Decidable.not_not] at c27
          have hno : ¬ isD tx n k = true := fun z => absurd c27 (Int32.not_lt.mpr (nI_le (isD_t.mp z).2.2 (by decide)))
          refine g_blk [(.iconst 0, .int (nI 0))] (Nat.le_of_ble_eq_true rfl) (by decide +kernel) ?_
          refine gx_iconst ((gx_nil ?_))
          refine g_end (some (.int _)) rfl ⟨by decide +kernel, _, rfl, by first | rfl | exact bI_nar _⟩ ⟨?_, rfl⟩
          first | rw [bI_t hyes] | rw [bI_f hno]
        · try simp only [bI_0, Decidable.not_not] at c27
          have hyes : isD tx n k = true := isD_t.mpr ⟨hkn, h48, (nI_leI (by have := (hf k hkn).2; omega) (by decide)).mp (Int32.not_lt.mp c27)⟩
          refine g_blk [(.iconst 1, .int (nI 1)), (.goto 4, .retAddr 35)] (Nat.le_of_ble_eq_true rfl) (by decide +kernel) ?_
          refine gx_iconst (gx_goto ((gx_nil ?_)))
          refine g_end (some (.int _)) rfl ⟨by decide +kernel, _, rfl, by first | rfl | exact bI_nar _⟩ ⟨?_, rfl⟩
          first | rw [bI_t hyes] | rw [bI_f hno]
  · refine g_blk [(.aload_n 0, .null), (.iload_n 1, .null)] (Nat.le_of_ble_eq_true rfl) (by decide +kernel) ?_
    refine gx_aload_n_0 (gx_iload_n_1 ((gx_nil ?_)))
    refine g_pV kX5_100 (ps_isInside H (by omega)) (by decide +kernel) rfl rfl ho rfl (Nat.le_of_ble_eq_true rfl) (Nat.le_of_ble_eq_true rfl) (Nat.le_of_ble_eq_true rfl) rfl ?_
    simp only [Option.toList_some, List.cons_append, List.nil_append]
    rw [bI_f hkn]
    refine g_if_eq (off := 29) (tgt := 34) (by decide +kernel) (by decide) (fun c5 => ?_) (fun c5 => ?_)
    · try simp only [bI_0, Decidable.not_not] at c5
      refine g_blk [(.iconst 0, .int (nI 0))] (Nat.le_of_ble_eq_true rfl) (by decide +kernel) ?_
      refine gx_iconst ((gx_nil ?_))
      refine g_end (some (.int _)) rfl ⟨by decide +kernel, _, rfl, by first | rfl | exact bI_nar _⟩ ⟨?_, rfl⟩
      rw [bI_f (p := isD tx n k = true) (fun z => hkn (isD_t.mp z).1)]
    · try simp only [bI_0, Decidable.not_not] at c5
      exact absurd (by decide) c5
theorem ps_skip (H : gPr Γ h o tb n p cl tx) (hp : p ≤ n) {x : Nat} (hx : x < 128) : gC Γ M_X5_skip [.ref o, .int (nI x)] h 2 0 0 (fun v h' => v = some (.int (bI (p < n ∧ tx p = x))) ∧ gPr Γ h' o tb n (if p < n ∧ tx p = x then p + 1 else p) cl tx ∧ gKeep (fun z => z = o) h h') (fun _ _ => False) := by
  have H0 := H
  obtain ⟨ho, ⟨f, htb, hf⟩, hn⟩ := H0
  refine gC_of (by decide) rfl (Nat.le_of_ble_eq_true rfl) [some (.ref o), some (.int (nI x))] rfl ?_
  by_cases hk : p < n ∧ tx p = x
  · refine g_blk [(.aload_n 0, .null), (.aload_n 0, .null)] (Nat.le_of_ble_eq_true rfl) (by decide +kernel) ?_
    refine gx_aload_n_0 (gx_aload_n_0 ((gx_nil ?_)))
    refine g_getf fX5_9 (by decide +kernel) ho rfl ?_
    refine g_blk [(.iload_n 1, .null)] (Nat.le_of_ble_eq_true rfl) (by decide +kernel) ?_
    refine gx_iload_n_1 ((gx_nil ?_))
    refine g_pV kX5_92 (ps_hasAt H (by omega) hx) (by decide +kernel) rfl rfl ho rfl (Nat.le_of_ble_eq_true rfl) (Nat.le_of_ble_eq_true rfl) (Nat.le_of_ble_eq_true rfl) rfl ?_
    simp only [Option.toList_some, List.cons_append, List.nil_append]
    rw [bI_t hk]
    refine g_if_ne (off := 5) (tgt := 14) (by decide +kernel) (by decide) (fun c9 => ?_) (fun c9 => ?_)
    · try simp only [bI_0, Decidable.not_not] at c9
      refine g_blk [(.aload_n 0, .null), (.dup, .null)] (Nat.le_of_ble_eq_true rfl) (by decide +kernel) ?_
      refine gx_aload_n_0 (gx_dupr ((gx_nil ?_)))
      refine g_getf fX5_9 (by decide +kernel) ho rfl ?_
      refine g_blk [(.iconst 1, .int (nI 1)), (.iadd, .null)] (Nat.le_of_ble_eq_true rfl) (by decide +kernel) ?_
      refine gx_iconst (gx_iadd ((gx_nil ?_)))
      try simp only [nI_add, ]
      refine g_putf fX5_9 (by decide +kernel) ho (by simp) rfl rfl ?_
      refine g_blk [(.iconst 1, .int (nI 1))] (Nat.le_of_ble_eq_true rfl) (by decide +kernel) ?_
      refine gx_iconst ((gx_nil ?_))
      refine g_end (some (.int _)) rfl ⟨by decide +kernel, _, rfl, (by first | rfl | exact bI_nar _)⟩ ?_
      rw [if_pos hk]
      exact ⟨rfl, H.pos, gKeep.up rfl⟩
    · try simp only [bI_0, Decidable.not_not] at c9
      exact absurd c9 (by decide)
  · refine g_blk [(.aload_n 0, .null), (.aload_n 0, .null)] (Nat.le_of_ble_eq_true rfl) (by decide +kernel) ?_
    refine gx_aload_n_0 (gx_aload_n_0 ((gx_nil ?_)))
    refine g_getf fX5_9 (by decide +kernel) ho rfl ?_
    refine g_blk [(.iload_n 1, .null)] (Nat.le_of_ble_eq_true rfl) (by decide +kernel) ?_
    refine gx_iload_n_1 ((gx_nil ?_))
    refine g_pV kX5_92 (ps_hasAt H (by omega) hx) (by decide +kernel) rfl rfl ho rfl (Nat.le_of_ble_eq_true rfl) (Nat.le_of_ble_eq_true rfl) (Nat.le_of_ble_eq_true rfl) rfl ?_
    simp only [Option.toList_some, List.cons_append, List.nil_append]
    rw [bI_f hk]
    refine g_if_ne (off := 5) (tgt := 14) (by decide +kernel) (by decide) (fun c9 => ?_) (fun c9 => ?_)
    · try simp only [bI_0, Decidable.not_not] at c9
      exact absurd (by decide) c9
    · try simp only [bI_0, Decidable.not_not] at c9
      refine g_blk [(.iconst 0, .int (nI 0))] (Nat.le_of_ble_eq_true rfl) (by decide +kernel) ?_
      refine gx_iconst ((gx_nil ?_))
      refine g_end (some (.int _)) rfl ⟨by decide +kernel, _, rfl, (by first | rfl | exact bI_nar _)⟩ ?_
      rw [if_neg hk]
      exact ⟨rfl, H, gKeep.rf⟩
theorem ps_readNumber (H : gPr Γ h o tb n p cl tx) (hp : p ≤ n) {k : Nat} (hk : k ≤ 4) : gC Γ M_X5_readNumber [.ref o, .int (nI k)] h 2 0 0 (fun v h' => v = some (.int (if (nmv tx n k p 0).2 = 0 then -1 else nI (nmv tx n k p 0).1)) ∧ gPr Γ h' o tb n (p + (nmv tx n k p 0).2) cl tx ∧ gKeep (fun z => z = o) h h') (fun _ _ => False) := by
  obtain ⟨R, hR⟩ : ∃ R, nmv tx n k p 0 = R := ⟨_, rfl⟩
  rw [hR]
  have loop : ∀ m i v q (h1 : gHp), i + m = k → q ≤ n → gPr Γ h1 o tb n q cl tx → gKeep (fun z => z = o) h h1 → R.1 = (nmv tx n m q v).1 → R.2 = i + (nmv tx n m q v).2 → p + R.2 = q + (nmv tx n m q v).2 → G Γ M_X5_readNumber 2 0 0 (fun v h' => v = some (.int (if R.2 = 0 then -1 else nI R.1)) ∧ gPr Γ h' o tb n (p + R.2) cl tx ∧ gKeep (fun z => z = o) h h') (fun _ _ => False) 0 0 4 [some (.ref o), some (.int (nI k)), some (.int (nI v)), some (.int (nI i))] [] h1 := by
    intro m
    induction m with
    | zero =>
      intro i v q h1 hi hq H hkk hR1 hR2 hR3
      obtain rfl : i = k := by omega
      have hR1 : R.1 = v := hR1
      have hR2 : R.2 = i := hR2
      have hR3 : p + R.2 = q := hR3
      refine g_blk [(.iload_n 3, .null), (.iload_n 1, .null)] (Nat.le_of_ble_eq_true rfl) (by decide +kernel) ?_
      refine gx_iload_n_3 (gx_iload_n_1 ((gx_nil ?_)))
      refine g_icmp_ge (off := 48) (tgt := 54) (by decide +kernel) (by decide) (fun c6 => ?_) (fun c6 => ?_)
      · try simp only [bI_0, Decidable.not_not] at c6
        refine g_blk [(.iload_n 3, .null)] (Nat.le_of_ble_eq_true rfl) (by decide +kernel) ?_
        refine gx_iload_n_3 ((gx_nil ?_))
        refine g_if_ne (off := 7) (tgt := 62) (by decide +kernel) (by decide) (fun c55 => ?_) (fun c55 => ?_)
        · try simp only [bI_0, Decidable.not_not] at c55
          refine g_blk [(.iload_n 2, .null)] (Nat.le_of_ble_eq_true rfl) (by decide +kernel) ?_
          refine gx_iload_n_2 ((gx_nil ?_))
          refine g_end (some (.int _)) rfl ⟨by decide +kernel, _, rfl, rfl⟩ ?_
          refine ⟨?_, by rw [hR3]; exact H, hkk⟩
          rw [hR1, hR2]
          first | rw [if_pos (show i = 0 from (nI_eq (by omega) (by decide)).mp (by rw [c55]; decide))] | rw [if_neg (fun z : i = 0 => c55 (by rw [z]; decide))]
        · try simp only [bI_0, Decidable.not_not] at c55
          refine g_blk [(.iconst (-1), .int (-1)), (.goto 4, .retAddr 63)] (Nat.le_of_ble_eq_true rfl) (by decide +kernel) ?_
          refine gx_iconst (gx_goto ((gx_nil ?_)))
          refine g_end (some (.int _)) rfl ⟨by decide +kernel, _, rfl, rfl⟩ ?_
          refine ⟨?_, by rw [hR3]; exact H, hkk⟩
          rw [hR1, hR2]
          first | rw [if_pos (show i = 0 from (nI_eq (by omega) (by decide)).mp (by rw [c55]; decide))] | rw [if_neg (fun z : i = 0 => c55 (by rw [z]; decide))]
      · try simp only [bI_0, Decidable.not_not] at c6
        exact absurd (Int32.le_refl _) c6
    | succ m ih =>
      intro i v q h1 hi hq H hkk hR1 hR2 hR3
      have H0 := H
      obtain ⟨ho, ⟨f, htb, hf⟩, hn⟩ := H0
      rw [nmv_s] at hR1 hR2 hR3
      by_cases hD : isD tx n q = true
      · rw [if_pos hD] at hR1 hR2 hR3
        have hd := isD_t.mp hD
        have hfq := hf q hd.1
        refine g_blk [(.iload_n 3, .null), (.iload_n 1, .null)] (Nat.le_of_ble_eq_true rfl) (by decide +kernel) ?_
        refine gx_iload_n_3 (gx_iload_n_1 ((gx_nil ?_)))
        refine g_icmp_ge (off := 48) (tgt := 54) (by decide +kernel) (by decide) (fun c6 => ?_) (fun c6 => ?_)
        · try simp only [bI_0, Decidable.not_not] at c6
          exact absurd c6 (nI_ge (by omega) (by omega))
        · try simp only [bI_0, Decidable.not_not] at c6
          refine g_blk [(.aload_n 0, .null), (.aload_n 0, .null)] (Nat.le_of_ble_eq_true rfl) (by decide +kernel) ?_
          refine gx_aload_n_0 (gx_aload_n_0 ((gx_nil ?_)))
          refine g_getf fX5_9 (by decide +kernel) ho rfl ?_
          refine g_pV kX5_96 (ps_hasDigitAt H (by omega)) (by decide +kernel) rfl rfl ho rfl (Nat.le_of_ble_eq_true rfl) (Nat.le_of_ble_eq_true rfl) (Nat.le_of_ble_eq_true rfl) rfl ?_
          simp only [Option.toList_some, List.cons_append, List.nil_append]
          rw [bI_t hD]
          refine g_if_eq (off := 37) (tgt := 54) (by decide +kernel) (by decide) (fun c17 => ?_) (fun c17 => ?_)
          · try simp only [bI_0, Decidable.not_not] at c17
            exact absurd c17 (by decide)
          · try simp only [bI_0, Decidable.not_not] at c17
            refine g_blk [(.iload_n 2, .null), (.bipush 10, .int (nI 10)), (.imul, .null), (.aload_n 0, .null)] (Nat.le_of_ble_eq_true rfl) (by decide +kernel) ?_
            refine gx_iload_n_2 (gx_bipush (gx_imul (gx_aload_n_0 ((gx_nil ?_)))))
            try simp only [nI_add, ]
            refine g_getf fX5_22 (by decide +kernel) ho rfl ?_
            refine g_blk [(.aload_n 0, .null)] (Nat.le_of_ble_eq_true rfl) (by decide +kernel) ?_
            refine gx_aload_n_0 ((gx_nil ?_))
            refine g_getf fX5_9 (by decide +kernel) ho rfl ?_
            refine g_caload (by decide +kernel) htb (vp_in_nI (by omega) (by omega)) ?_
            rw [nI_clamp (by omega), hfq.1]
            refine g_blk [(.bipush 48, .int (nI 48))] (Nat.le_of_ble_eq_true rfl) (by decide +kernel) ?_
            refine gx_bipush ((gx_nil ?_))
            refine g_blk [(.isub, .null), (.iadd, .null)] (Nat.le_of_ble_eq_true rfl) (by decide +kernel) ?_
            refine gx_isub (gx_iadd ((gx_nil ?_)))
            try simp only [nI_add, ]
            rw [nI_subN hd.2.1, pk_mul, nI_add, Nat.mul_comm v 10]
            refine g_blk [(.istore_n 2, .null), (.aload_n 0, .null), (.dup, .null)] (Nat.le_of_ble_eq_true rfl) (by decide +kernel) ?_
            refine gx_istore_n_2 rfl (gx_aload_n_0 (gx_dupr ((gx_nil ?_))))
            refine g_getf fX5_9 (by decide +kernel) ho rfl ?_
            refine g_blk [(.iconst 1, .int (nI 1)), (.iadd, .null)] (Nat.le_of_ble_eq_true rfl) (by decide +kernel) ?_
            refine gx_iconst (gx_iadd ((gx_nil ?_)))
            try simp only [nI_add, ]
            refine g_putf fX5_9 (by decide +kernel) ho (by simp) rfl rfl ?_
            refine g_blk [(.iinc 3 1, .int (nI 1)), (.goto (-47), .retAddr 4)] (Nat.le_of_ble_eq_true rfl) (by decide +kernel) ?_
            refine gx_iinc_3 rfl (gx_goto ((gx_nil ?_)))
            try simp only [nI_add, ]
            refine ih (i + 1) (10 * v + (tx q - 48)) (q + 1) _ (by omega) (by omega) H.pos (hkk.tr (gKeep.up rfl)) hR1 ?_ ?_
            · rw [hR2]; show i + ((nmv tx n m (q + 1) _).2 + 1) = _; omega
            · rw [hR3]; show q + ((nmv tx n m (q + 1) _).2 + 1) = _; omega
      · rw [if_neg hD] at hR1 hR2 hR3
        have hR1 : R.1 = v := hR1
        have hR2 : R.2 = i := hR2
        have hR3 : p + R.2 = q := hR3
        refine g_blk [(.iload_n 3, .null), (.iload_n 1, .null)] (Nat.le_of_ble_eq_true rfl) (by decide +kernel) ?_
        refine gx_iload_n_3 (gx_iload_n_1 ((gx_nil ?_)))
        refine g_icmp_ge (off := 48) (tgt := 54) (by decide +kernel) (by decide) (fun c6 => ?_) (fun c6 => ?_)
        · try simp only [bI_0, Decidable.not_not] at c6
          exact absurd c6 (nI_ge (by omega) (by omega))
        · try simp only [bI_0, Decidable.not_not] at c6
          refine g_blk [(.aload_n 0, .null), (.aload_n 0, .null)] (Nat.le_of_ble_eq_true rfl) (by decide +kernel) ?_
          refine gx_aload_n_0 (gx_aload_n_0 ((gx_nil ?_)))
          refine g_getf fX5_9 (by decide +kernel) ho rfl ?_
          refine g_pV kX5_96 (ps_hasDigitAt H (by omega)) (by decide +kernel) rfl rfl ho rfl (Nat.le_of_ble_eq_true rfl) (Nat.le_of_ble_eq_true rfl) (Nat.le_of_ble_eq_true rfl) rfl ?_
          simp only [Option.toList_some, List.cons_append, List.nil_append]
          rw [bI_f hD]
          refine g_if_eq (off := 37) (tgt := 54) (by decide +kernel) (by decide) (fun c17 => ?_) (fun c17 => ?_)
          · try simp only [bI_0, Decidable.not_not] at c17
            refine g_blk [(.iload_n 3, .null)] (Nat.le_of_ble_eq_true rfl) (by decide +kernel) ?_
            refine gx_iload_n_3 ((gx_nil ?_))
            refine g_if_ne (off := 7) (tgt := 62) (by decide +kernel) (by decide) (fun c55 => ?_) (fun c55 => ?_)
            · try simp only [bI_0, Decidable.not_not] at c55
              refine g_blk [(.iload_n 2, .null)] (Nat.le_of_ble_eq_true rfl) (by decide +kernel) ?_
              refine gx_iload_n_2 ((gx_nil ?_))
              refine g_end (some (.int _)) rfl ⟨by decide +kernel, _, rfl, rfl⟩ ?_
              refine ⟨?_, by rw [hR3]; exact H, hkk⟩
              rw [hR1, hR2]
              first | rw [if_pos (show i = 0 from (nI_eq (by omega) (by decide)).mp (by rw [c55]; decide))] | rw [if_neg (fun z : i = 0 => c55 (by rw [z]; decide))]
            · try simp only [bI_0, Decidable.not_not] at c55
              refine g_blk [(.iconst (-1), .int (-1)), (.goto 4, .retAddr 63)] (Nat.le_of_ble_eq_true rfl) (by decide +kernel) ?_
              refine gx_iconst (gx_goto ((gx_nil ?_)))
              refine g_end (some (.int _)) rfl ⟨by decide +kernel, _, rfl, rfl⟩ ?_
              refine ⟨?_, by rw [hR3]; exact H, hkk⟩
              rw [hR1, hR2]
              first | rw [if_pos (show i = 0 from (nI_eq (by omega) (by decide)).mp (by rw [c55]; decide))] | rw [if_neg (fun z : i = 0 => c55 (by rw [z]; decide))]
          · try simp only [bI_0, Decidable.not_not] at c17
            exact absurd (by decide) c17
  refine gC_of (by decide) rfl (Nat.le_of_ble_eq_true rfl) [some (.ref o), some (.int (nI k)), none, none] rfl ?_
  refine g_blk [(.iconst 0, .int (nI 0)), (.istore_n 2, .null), (.iconst 0, .int (nI 0)), (.istore_n 3, .null)] (Nat.le_of_ble_eq_true rfl) (by decide +kernel) ?_
  refine gx_iconst (gx_istore_n_2 rfl (gx_iconst (gx_istore_n_3 rfl ((gx_nil ?_)))))
  exact loop k 0 0 p h (by omega) hp H gKeep.rf (by rw [hR]) (by rw [hR, Nat.zero_add]) (by rw [hR])
end GPp
