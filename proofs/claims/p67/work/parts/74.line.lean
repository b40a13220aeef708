/-! A LINE OF TEXT -/
section GTb
variable {Γ : gE} {h : gHp}
def pvy : List MethodName := [M_J5_ensureCapacityInternal_d00df.1, M_J5_newCapacity_0f7a4.1, M_J5_putStringAt_47b60.1, M_J5_inflateIfNeededFor_a7421.1]
def gPsb (Γ : gE) (d1 d10 : Nat) (vf : Value) : Prop := gPz Γ RJ0 "COMPACT_STRINGS" "Z" (.int (nI 1)) ∧ gPz Γ RJ6 "DigitOnes" "[B" (.ref d1) ∧ gPa Γ .byte d1 100 (fun i => .int (nI (48 + i % 10))) ∧ gPz Γ RJ6 "DigitTens" "[B" (.ref d10) ∧ gPa Γ .byte d10 100 (fun i => .int (nI (48 + i / 10))) ∧ gPz Γ "jdk/internal/util/Preconditions" "SIOOBE_FORMATTER" "Ljava/util/function/BiFunction;" vf ∧ (vf = .null ∨ ∃ a, vf = .ref a) ∧ ∀ y ∈ pvy, gPsel Γ RJ4 y
theorem gUp_ex {h : gHp} {a b : Nat} {x : va_E} (e : ∃ y, h b = some y) : ∃ y, gUp h a x b = some y := by
  unfold gUp
  split
  · exact ⟨_, rfl⟩
  · exact e
/-- a text: the builder's cell, its row of bytes, the letters -/
def gSB (Γ : gE) (h : gHp) (a v m : Nat) (xs : List Nat) : Prop := ∃ ml f, h a = some (gJ 1 [.ref v, .int 0, .int ml, .int (nI xs.length)]) ∧ h v = some (gB Γ m f) ∧ (∀ i x, xs[i]? = some x → f i = nI x) ∧ xs.length ≤ m ∧ (m = 16 ∨ m = 34) ∧ a ≠ v ∧ ∀ i, fits .byte (.int (f i)) = true
def sbZ (Γ : gE) (h : gHp) (a v : Nat) (r : Option Value) (xs : List Nat) : Option Value → gHp → Prop := fun r' h' => r' = r ∧ ∃ v' m', gSB Γ h' a v' m' xs ∧ (v' = v ∨ h v' = none) ∧ gKeep (fun z => z = a ∨ z = v) h h' ∧ ∃ e, h' v = some e
set_option maxRecDepth 100000 in
theorem fzJ5_18 : Cond.fieldLink RJ5 18 "java/lang/String" "COMPACT_STRINGS" "Z" ∈ lw_good := (gIn (List.mem_of_getElem? (i := 234) (by decide +kernel)) (by decide +kernel))
set_option maxRecDepth 100000 in
theorem fzJ0_38 : Cond.fieldLink RJ0 38 "java/lang/String" "COMPACT_STRINGS" "Z" ∈ lw_good := (gIn (List.mem_of_getElem? (i := 859) (by decide +kernel)) (by decide +kernel))
set_option maxRecDepth 100000 in
theorem fzJ6_83 : Cond.fieldLink RJ6 83 "java/lang/Integer" "DigitOnes" "[B" ∈ lw_good := (gIn (List.mem_of_getElem? (i := 1348) (by decide +kernel)) (by decide +kernel))
set_option maxRecDepth 100000 in
theorem fzJ6_87 : Cond.fieldLink RJ6 87 "java/lang/Integer" "DigitTens" "[B" ∈ lw_good := (gIn (List.mem_of_getElem? (i := 1350) (by decide +kernel)) (by decide +kernel))
set_option maxRecDepth 100000 in
theorem fzJ0_1053 : Cond.fieldLink RJ0 1053 "jdk/internal/util/Preconditions" "SIOOBE_FORMATTER" "Ljava/util/function/BiFunction;" ∈ lw_good := (gIn (List.mem_of_getElem? (i := 874) (by decide +kernel)) (by decide +kernel))
set_option maxRecDepth 100000 in
theorem fpJ0_9 : Cond.fieldLink RJ0 9 "java/lang/String" "value" "[B" ∈ lw_good := (gIn (List.mem_of_getElem? (i := 1419) (by decide +kernel)) (by decide +kernel))
set_option maxRecDepth 100000 in
theorem fpJ0_15 : Cond.fieldLink RJ0 15 "java/lang/String" "coder" "B" ∈ lw_good := (gIn (List.mem_of_getElem? (i := 1420) (by decide +kernel)) (by decide +kernel))
theorem sb_isLat {d1 d10 : Nat} {vf : Value} (hp : gPsb Γ d1 d10 vf) {a v : Nat} {ml n : Int32} (ha : h a = some (gJ 1 [.ref v, .int 0, .int ml, .int n])) : pC Γ M_J5_isLatin1_aae02 [.ref a] h 0 (some (.int (nI 1))) := by
  refine pC_of (by decide) rfl (Nat.le_of_ble_eq_true rfl) [some (.ref a)] rfl ?_
  refine g_gets (o := _) hp.1 fzJ5_18 (Or.inl rfl) (by decide +kernel) ?_
  refine g_if_eq (off := 14) (tgt := 17) (by decide +kernel) (by decide) (fun c3 => ?_) (fun c3 => ?_)
  · exact absurd c3 (by decide)
  · try simp only [bI_0, Decidable.not_not] at c3
    refine g_blk [(.aload_n 0, .null)] (Nat.le_of_ble_eq_true rfl) (by decide +kernel) ?_
    refine gx_aload_n_0 ((gx_nil ?_))
    refine g_getf fJ5_22 (by decide +kernel) ha rfl ?_
    refine g_if_ne (off := 7) (tgt := 17) (by decide +kernel) (by decide) (fun c10 => ?_) (fun c10 => ?_)
    · try simp only [bI_0, Decidable.not_not] at c10
      exact (c10 trivial).elim
    · try simp only [bI_0, Decidable.not_not] at c10
      refine g_blk [(.iconst 1, .int (nI 1)), (.goto 4, .retAddr 18)] (Nat.le_of_ble_eq_true rfl) (by decide +kernel) ?_
      refine gx_iconst (gx_goto ((gx_nil ?_)))
      refine g_end (some (.int _)) rfl ⟨by decide +kernel, _, rfl, by first | rfl | exact bI_nar _⟩ ⟨?_, rfl⟩
      rfl
theorem nI_bt {c : Nat} (h : c < 128) : (nI c).toInt8.toInt32 = nI c ∧ vp_nar .byte (nI c) = nI c ∧ fits .byte (.int (nI c)) = true := by
  have key : ∀ c : Fin 128, (nI c.val).toInt8.toInt32 = nI c.val ∧ vp_nar .byte (nI c.val) = nI c.val ∧ fits .byte (.int (nI c.val)) = true := by decide +kernel
  exact key ⟨c, h⟩
theorem nI_le0 {q m : Nat} (hq : q < 2 ^ 30) (hm : m < 2 ^ 30) : nI q - nI m ≤ 0 ↔ q ≤ m := by
  rw [Int32.le_iff_toInt_le, pk_sub_toInt hq hm, Int32.toInt_zero]
  omega
theorem sb_newLen {q : Nat} (h1 : 16 < q) (h2 : q ≤ 34) : pC Γ M_J8_newLength_cabcc [.int (nI 16), .int (nI (q - 16)), .int (nI 18)] h 1 (some (.int (nI 34))) := by
  have e : rMax (nI (q - 16)) (nI 18) = nI 18 := by
    unfold rMax
    by_cases z : q - 16 < 18
    · rw [if_pos (nI_lt z (by omega))]
    · rw [if_neg (nI_nlt (by omega) (by omega)), show q - 16 = 18 by omega]
  refine pC_of (by decide) rfl (Nat.le_of_ble_eq_true rfl) [some (.int (nI 16)), some (.int (nI (q - 16))), some (.int (nI 18)), none] rfl ?_
  refine g_blk [(.iload_n 0, .null), (.iload_n 1, .null), (.iload_n 2, .null)] (Nat.le_of_ble_eq_true rfl) (by decide +kernel) ?_
  refine gx_iload_n_0 (gx_iload_n_1 (gx_iload_n_2 ((gx_nil ?_))))
  refine g_mmax kMJ8_194 (by decide +kernel) (by decide) (Nat.le_of_ble_eq_true rfl) ?_
  rw [e]
  refine g_blk [(.iadd, .null), (.istore_n 3, .null), (.iconst 0, .int (nI 0)), (.iload_n 3, .null)] (Nat.le_of_ble_eq_true rfl) (by decide +kernel) ?_
  refine gx_iadd (gx_istore_n_3 rfl (gx_iconst (gx_iload_n_3 ((gx_nil ?_)))))
  try simp only [sb_shr0, sb_shl0, nI_add, Nat.add_zero, Nat.zero_add, Nat.reduceAdd]
  refine g_icmp_ge (off := 11) (tgt := 21) (by decide +kernel) (by decide) (fun c10 => ?_) (fun c10 => ?_)
  · try simp only [bI_0, Decidable.not_not] at c10
    exact absurd c10 (by decide)
  · try simp only [bI_0, Decidable.not_not] at c10
    refine g_blk [(.iload_n 3, .null)] (Nat.le_of_ble_eq_true rfl) (by decide +kernel) ?_
    refine gx_iload_n_3 ((gx_nil ?_))
    refine g_ldcI cnJ8_200 (by decide +kernel) ?_
    refine g_icmp_gt (off := 5) (tgt := 21) (by decide +kernel) (by decide) (fun c16 => ?_) (fun c16 => ?_)
    · try simp only [bI_0, Decidable.not_not] at c16
      exact absurd c16 (by decide)
    · try simp only [bI_0, Decidable.not_not] at c16
      refine g_blk [(.iload_n 3, .null)] (Nat.le_of_ble_eq_true rfl) (by decide +kernel) ?_
      refine gx_iload_n_3 ((gx_nil ?_))
      refine g_end (some (.int _)) rfl ⟨by decide +kernel, _, rfl, rfl⟩ ⟨?_, rfl⟩
      rfl
set_option maxRecDepth 100000 in
theorem wAB : Cond.arrayClass .byte ∈ lw_good := (gIn (List.mem_of_getElem? (i := 258) (by decide +kernel)) (by decide +kernel))
theorem sb_copyOf {v : Nat} {f : Nat → Int32} (hv : h v = some (gB Γ 16 f)) (hfit : ∀ i, fits .byte (.int (f i)) = true) : gC Γ M_J7_copyOf_9075b [.ref v, .int (nI 34)] h 1 1 34 (fun r h' => ∃ q, r = some (.ref q) ∧ h q = none ∧ h' q = some (gB Γ 34 (va_cpy f (fun _ => 0) 0 0 16)) ∧ gAll h h') (fun _ _ => False) := by
  refine gC_of (by decide) rfl (Nat.le_of_ble_eq_true rfl) [some (.ref v), some (.int (nI 34)), none] rfl ?_
  have e16 : rMin (Int32.ofNat 16) (nI 34) = nI 16 := by decide
  refine g_blk [(.iload_n 1, .null), (.aload_n 0, .null)] (Nat.le_of_ble_eq_true rfl) (by decide +kernel) ?_
  refine gx_iload_n_1 (gx_aload_n_0 ((gx_nil ?_)))
  refine g_alen_b (by decide +kernel) hv ?_
  refine g_icmp_ne (off := 11) (tgt := 14) (by decide +kernel) (by decide) (fun c3 => ?_) (fun c3 => ?_)
  · try simp only [bI_0, Decidable.not_not] at c3
    refine g_blk [(.iload_n 1, .null)] (Nat.le_of_ble_eq_true rfl) (by decide +kernel) ?_
    refine gx_iload_n_1 ((gx_nil ?_))
    refine g_newarr_b (N := 34) (rc' := 0) (rs' := 0) (by decide +kernel) wAB (by decide) (nI_clamp (by decide)) (by decide) (by omega) (by omega) (fun q hq => ?_)
    have vq : v ≠ q := fun z => by rw [z, hq] at hv; cases hv
    have u1 : gUp h q (gB Γ 34 (fun _ => 0)) v = _ := (gUp_n _ _ vq).trans hv
    refine g_blk [(.astore_n 2, .null), (.aload_n 0, .null), (.iconst 0, .int (nI 0)), (.aload_n 2, .null), (.iconst 0, .int (nI 0)), (.aload_n 0, .null)] (Nat.le_of_ble_eq_true rfl) (by decide +kernel) ?_
    refine gx_astore_n_2 rfl (gx_aload_n_0 (gx_iconst (gx_aload_n_2 (gx_iconst (gx_aload_n_0 ((gx_nil ?_)))))))
    refine g_alen_b (by decide +kernel) u1 ?_
    refine g_blk [(.iload_n 1, .null)] (Nat.le_of_ble_eq_true rfl) (by decide +kernel) ?_
    refine gx_iload_n_1 ((gx_nil ?_))
    refine g_mmin kMJ7_304 (by decide +kernel) (by decide) (Nat.le_of_ble_eq_true rfl) ?_
    refine g_copyb (by decide +kernel) wCP7 u1 (gUp_s _ _ _) (by decide) (by decide) (by rw [e16]; decide) (by rw [e16]; decide) (by rw [e16]; decide) (fun i _ => hfit _) (by omega) (by decide) ?_
    rw [gUp_gUp, e16, nI_clamp (n := 0) (by decide), nI_clamp (n := 16) (by decide)]
    refine g_blk [(.aload_n 2, .null)] (Nat.le_of_ble_eq_true rfl) (by decide +kernel) ?_
    refine gx_aload_n_2 ((gx_nil ?_))
    refine g_end (some (.ref _)) rfl ⟨by decide +kernel, _, rfl, Or.inr ⟨_, rfl⟩⟩ ?_
    exact ⟨q, rfl, hq, gUp_s _ _ _, gAll_up hq⟩
  · try simp only [bI_0, Decidable.not_not] at c3
    exact absurd (show nI 34 = nI 16 from c3) (by decide)
theorem sb_newCap {d1 d10 : Nat} {vf : Value} (hp : gPsb Γ d1 d10 vf) {a v q : Nat} {f : Nat → Int32} {ml n : Int32} (ha : h a = some (gJ 1 [.ref v, .int 0, .int ml, .int n])) (hv : h v = some (gB Γ 16 f)) (h1 : 16 < q) (h2 : q ≤ 34) : pC Γ M_J5_newCapacity_0f7a4 [.ref a, .int (nI q)] h 2 (some (.int (nI 34))) := by
  have e18 : Int32.ofNat 16 + nI 2 = nI 18 := by decide
  refine pC_of (by decide) rfl (Nat.le_of_ble_eq_true rfl) [some (.ref a), some (.int (nI q)), none, none, none, none] rfl ?_
  refine g_blk [(.aload_n 0, .null)] (Nat.le_of_ble_eq_true rfl) (by decide +kernel) ?_
  refine gx_aload_n_0 ((gx_nil ?_))
  refine g_getf fJ5_15 (by decide +kernel) ha rfl ?_
  refine g_alen_b (by decide +kernel) hv ?_
  refine g_blk [(.istore_n 2, .null), (.iload_n 1, .null), (.aload_n 0, .null)] (Nat.le_of_ble_eq_true rfl) (by decide +kernel) ?_
  refine gx_istore_n_2 rfl (gx_iload_n_1 (gx_aload_n_0 ((gx_nil ?_))))
  refine g_getf fJ5_22 (by decide +kernel) ha rfl ?_
  refine g_blk [(.ishl, .null), (.istore_n 3, .null), (.iload_n 3, .null), (.iload_n 2, .null), (.isub, .null), (.istore 4, .null), (.iload_n 2, .null), (.iload 4, .null), (.iload_n 2, .null), (.iconst 2, .int (nI 2)), (.aload_n 0, .null)] (Nat.le_of_ble_eq_true rfl) (by decide +kernel) ?_
  refine gx_ishl (gx_istore_n_3 rfl (gx_iload_n_3 (gx_iload_n_2 (gx_isub (gx_istore_4 rfl (gx_iload_n_2 (gx_iload_4 (gx_iload_n_2 (gx_iconst (gx_aload_n_0 ((gx_nil ?_))))))))))))
  try simp only [sb_shr0, sb_shl0]
  refine g_getf fJ5_22 (by decide +kernel) ha rfl ?_
  refine g_blk [(.ishl, .null), (.iadd, .null)] (Nat.le_of_ble_eq_true rfl) (by decide +kernel) ?_
  refine gx_ishl (gx_iadd ((gx_nil ?_)))
  try simp only [sb_shr0, sb_shl0]
  rw [show nI q - Int32.ofNat 16 = nI (q - 16) from pk_sub (by omega), e18]
  refine g_pS kJ5_114 (sb_newLen h1 h2) (by decide +kernel) rfl rfl (Nat.le_of_ble_eq_true rfl) (Nat.le_of_ble_eq_true rfl) (Nat.le_of_ble_eq_true rfl) rfl ?_
  simp only [Option.toList_some, Option.toList_none, List.cons_append, List.nil_append]
  refine g_blk [(.istore 5, .null), (.iload 5, .null)] (Nat.le_of_ble_eq_true rfl) (by decide +kernel) ?_
  refine gx_istore_5 rfl (gx_iload_5 ((gx_nil ?_)))
  refine g_ldcI cnJ5_39 (by decide +kernel) ?_
  refine g_icmp_ne (off := 13) (tgt := 51) (by decide +kernel) (by decide) (fun c38 => ?_) (fun c38 => ?_)
  · try simp only [bI_0, Decidable.not_not] at c38
    refine g_blk [(.iload 5, .null), (.aload_n 0, .null)] (Nat.le_of_ble_eq_true rfl) (by decide +kernel) ?_
    refine gx_iload_5 (gx_aload_n_0 ((gx_nil ?_)))
    refine g_getf fJ5_22 (by decide +kernel) ha rfl ?_
    refine g_blk [(.ishr, .null)] (Nat.le_of_ble_eq_true rfl) (by decide +kernel) ?_
    refine gx_ishr ((gx_nil ?_))
    try simp only [sb_shr0, sb_shl0]
    refine g_end (some (.int _)) rfl ⟨by decide +kernel, _, rfl, rfl⟩ ⟨?_, rfl⟩
    rfl
  · try simp only [bI_0, Decidable.not_not] at c38
    exact absurd (show nI 34 = 2147483647 from c38) (by decide)
theorem sb_ens {d1 d10 : Nat} {vf : Value} (hp : gPsb Γ d1 d10 vf) {a v m : Nat} {xs : List Nat} (H : gSB Γ h a v m xs) {q : Nat} (hq : q ≤ 34) : gC Γ M_J5_ensureCapacityInternal_d00df [.ref a, .int (nI q)] h 3 1 34 (fun r h' => r = none ∧ ∃ v' m', gSB Γ h' a v' m' xs ∧ q ≤ m' ∧ (v' = v ∨ h v' = none) ∧ gKeep (fun z => z = a ∨ z = v) h h' ∧ ∃ e, h' v = some e) (fun _ _ => False) := by
  obtain ⟨ml, f, ha, hv, hf, hlen, hm, hav, hfit⟩ := id H
  have hm64 : m ≤ 34 := by omega
  refine gC_of (by decide) rfl (Nat.le_of_ble_eq_true rfl) [some (.ref a), some (.int (nI q)), none] rfl ?_
  refine g_blk [(.aload_n 0, .null)] (Nat.le_of_ble_eq_true rfl) (by decide +kernel) ?_
  refine gx_aload_n_0 ((gx_nil ?_))
  refine g_getf fJ5_15 (by decide +kernel) ha rfl ?_
  refine g_alen_b (by decide +kernel) hv ?_
  refine g_blk [(.aload_n 0, .null)] (Nat.le_of_ble_eq_true rfl) (by decide +kernel) ?_
  refine gx_aload_n_0 ((gx_nil ?_))
  refine g_getf fJ5_22 (by decide +kernel) ha rfl ?_
  refine g_blk [(.ishr, .null), (.istore_n 2, .null), (.iload_n 1, .null), (.iload_n 2, .null), (.isub, .null)] (Nat.le_of_ble_eq_true rfl) (by decide +kernel) ?_
  refine gx_ishr (gx_istore_n_2 rfl (gx_iload_n_1 (gx_iload_n_2 (gx_isub ((gx_nil ?_))))))
  try simp only [sb_shr0, sb_shl0]
  refine g_if_le (off := 24) (tgt := 38) (by decide +kernel) (by decide) (fun c14 => ?_) (fun c14 => ?_)
  · try simp only [bI_0, Decidable.not_not] at c14
    refine g_end none rfl ⟨by decide +kernel, rfl⟩ ?_
    refine ⟨rfl, v, m, H, (nI_le0 (by omega) (by omega)).mp c14, Or.inl rfl, gKeep.rf, _, hv⟩
  · try simp only [bI_0, Decidable.not_not] at c14
    refine g_blk [(.aload_n 0, .null), (.aload_n 0, .null)] (Nat.le_of_ble_eq_true rfl) (by decide +kernel) ?_
    refine gx_aload_n_0 (gx_aload_n_0 ((gx_nil ?_)))
    refine g_getf fJ5_15 (by decide +kernel) ha rfl ?_
    refine g_blk [(.aload_n 0, .null), (.iload_n 1, .null)] (Nat.le_of_ble_eq_true rfl) (by decide +kernel) ?_
    refine gx_aload_n_0 (gx_iload_n_1 ((gx_nil ?_)))
    have m16 : m = 16 := by
      rcases hm with z | z
      · exact z
      · exact absurd ((nI_le0 (by omega) (by omega)).mpr (by omega)) c14
    subst m16
    have hq16 : 16 < q := by
      rcases Nat.lt_or_ge 16 q with z | z
      · exact z
      · exact absurd ((nI_le0 (by omega) (by omega)).mpr z) c14
    refine g_callUp (rc' := 1) (rs' := 34) kJ5_104 (hp.2.2.2.2.2.2.2 _ (by simp [pvy])) (gC_pure (sb_newCap hp ha hv hq16 hq)) (by decide +kernel) rfl rfl ha rfl (Nat.le_of_ble_eq_true rfl) (Nat.le_of_ble_eq_true rfl) (Nat.le_of_ble_eq_true rfl) (by omega) (by omega) rfl (fun _ _ z => z.elim) (fun v9 h5 hz => ?_)
    obtain ⟨rfl, e9⟩ := hz
    rw [e9]
    clear e9 h5
    simp only [Option.toList_some, Option.toList_none, List.cons_append, List.nil_append]
    refine g_blk [(.aload_n 0, .null)] (Nat.le_of_ble_eq_true rfl) (by decide +kernel) ?_
    refine gx_aload_n_0 ((gx_nil ?_))
    refine g_getf fJ5_22 (by decide +kernel) ha rfl ?_
    refine g_blk [(.ishl, .null)] (Nat.le_of_ble_eq_true rfl) (by decide +kernel) ?_
    refine gx_ishl ((gx_nil ?_))
    try simp only [sb_shr0, sb_shl0]
    refine g_callS (rc' := 0) (rs' := 0) kJ5_108 (sb_copyOf hv hfit) (by decide +kernel) rfl rfl (Nat.le_of_ble_eq_true rfl) (Nat.le_of_ble_eq_true rfl) (Nat.le_of_ble_eq_true rfl) (by omega) (by omega) rfl (fun _ _ z => z.elim) (fun v9 h5 hz => ?_)
    obtain ⟨v9, rfl, hq9, hq5, k5⟩ := hz
    simp only [Option.toList_some, Option.toList_none, List.cons_append, List.nil_append]
    have q9 : a ≠ v9 := fun z => by rw [← z, ha] at hq9; cases hq9
    have ha5 := k5 a _ (fun z => z) ha
    refine g_putf fJ5_15 (by decide +kernel) ha5 (by simp) rfl rfl ?_
    refine g_end none rfl ⟨by decide +kernel, rfl⟩ ?_
    refine ⟨rfl, v9, 34, ⟨ml, _, gUp_s _ _ _, (gUp_n _ _ q9.symm).trans hq5, fun i x hx => ?_, by omega, Or.inr rfl, q9, fun i => ?_⟩, hq, Or.inr hq9, gK_up (gK_all k5) (Or.inl (Or.inl rfl)), gUp_ex ⟨_, k5 v _ (fun z => z) hv⟩⟩
    · have hi := (List.getElem?_eq_some_iff.mp hx).1
      rw [sb_cpy0 (by omega)]
      exact hf i x hx
    · exact sb_fitC hfit sb_fit0 i
end GTb
