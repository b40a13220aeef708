section GTe
variable {Γ : gE} {h : gHp}
theorem sb_canEnc {c : Nat} (hc : c < 128) : pC Γ M_J1_canEncode_fc78d [.int (nI c)] h 0 (some (.int (nI 1))) := by
  refine pC_of (by decide) rfl (Nat.le_of_ble_eq_true rfl) [some (.int (nI c))] rfl ?_
  refine g_blk [(.iload_n 0, .null), (.sipush 255, .int (nI 255))] (Nat.le_of_ble_eq_true rfl) (by decide +kernel) ?_
  refine gx_iload_n_0 (gx_sipush ((gx_nil ?_)))
  refine g_icmp_gt (off := 7) (tgt := 11) (by decide +kernel) (by decide) (fun c4 => ?_) (fun c4 => ?_)
  · try simp only [bI_0, Decidable.not_not] at c4
    exact absurd c4 (nI_nlt (by omega) (by decide))
  · try simp only [bI_0, Decidable.not_not] at c4
    refine g_blk [(.iconst 1, .int (nI 1)), (.goto 4, .retAddr 12)] (Nat.le_of_ble_eq_true rfl) (by decide +kernel) ?_
    refine gx_iconst (gx_goto ((gx_nil ?_)))
    refine g_end (some (.int _)) rfl ⟨by decide +kernel, _, rfl, by first | rfl | exact bI_nar _⟩ ⟨?_, rfl⟩
    rfl
theorem gSB_put {a v m : Nat} {xs ys : List Nat} {ml : Int32} {f : Nat → Int32} (ha : h a = some (gJ 1 [.ref v, .int 0, .int ml, .int (nI (xs ++ ys).length)])) (hv : h v = some (gB Γ m f)) (hf : ∀ i x, xs[i]? = some x → f i = nI x) (hy : ∀ i x, ys[i]? = some x → f (xs.length + i) = nI x) (hl : (xs ++ ys).length ≤ m) (hm : m = 16 ∨ m = 34) (hav : a ≠ v) (hfit : ∀ i, fits .byte (.int (f i)) = true) : gSB Γ h a v m (xs ++ ys) := by
  refine ⟨ml, f, ha, hv, fun i x hx => ?_, hl, hm, hav, hfit⟩
  by_cases z : i < xs.length
  · rw [List.getElem?_append_left z] at hx
    exact hf i x hx
  · rw [List.getElem?_append_right (by omega)] at hx
    have := hy _ x hx
    rwa [show xs.length + (i - xs.length) = i by omega] at this
theorem fit_u {f : Nat → Int32} (h : ∀ i, fits .byte (.int (f i)) = true) {k : Nat} {x : Int32} (hx : fits .byte (.int x) = true) : ∀ i, fits .byte (.int (upd f k x i)) = true := fun i => by
  unfold upd
  split
  · exact hx
  · exact h i
theorem sb_appC0 {d1 d10 : Nat} {vf : Value} (hp : gPsb Γ d1 d10 vf) {a v m : Nat} {xs : List Nat} (H : gSB Γ h a v m xs) {c : Nat} (hc : c < 128) (hl : xs.length < 34) : gC Γ M_J5_append_3fe6f [.ref a, .int (nI c)] h 4 1 34 (sbZ Γ h a v (some (.ref a)) (xs ++ [c])) (fun _ _ => False) := by
  obtain ⟨ml, f, ha, hv, hf, hlen, hm, hav, hfit⟩ := id H
  refine gC_of (by decide) rfl (Nat.le_of_ble_eq_true rfl) [some (.ref a), some (.int (nI c))] rfl ?_
  refine g_blk [(.aload_n 0, .null), (.aload_n 0, .null)] (Nat.le_of_ble_eq_true rfl) (by decide +kernel) ?_
  refine gx_aload_n_0 (gx_aload_n_0 ((gx_nil ?_)))
  refine g_getf fJ5_79 (by decide +kernel) ha rfl ?_
  refine g_blk [(.iconst 1, .int (nI 1)), (.iadd, .null)] (Nat.le_of_ble_eq_true rfl) (by decide +kernel) ?_
  refine gx_iconst (gx_iadd ((gx_nil ?_)))
  try simp only [nI_add, Nat.add_zero, Nat.zero_add, Nat.reduceAdd]
  refine g_callUp (rc' := 0) (rs' := 0) kJ5_100 (hp.2.2.2.2.2.2.2 _ (by simp [pvy])) (sb_ens hp H (q := xs.length + 1) (by omega)) (by decide +kernel) rfl rfl ha rfl (Nat.le_of_ble_eq_true rfl) (Nat.le_of_ble_eq_true rfl) (Nat.le_of_ble_eq_true rfl) (by omega) (by omega) rfl (fun _ _ z => z.elim) (fun v9 h5 hz => ?_)
  obtain ⟨rfl, v5, m5, H5, hq5, hv5, k5, ex5⟩ := hz
  obtain ⟨ml5, f5, ha5, hb5, hf5, hlen5, hm5, hav5, hfit5⟩ := id H5
  simp only [Option.toList_some, Option.toList_none, List.cons_append, List.nil_append]
  refine g_blk [(.aload_n 0, .null)] (Nat.le_of_ble_eq_true rfl) (by decide +kernel) ?_
  refine gx_aload_n_0 ((gx_nil ?_))
  refine g_callU (rc' := 0) (rs' := 0) kJ5_83 (gC_pure (sb_isLat hp ha5)) (by decide +kernel) rfl rfl ha5 rfl (Nat.le_of_ble_eq_true rfl) (Nat.le_of_ble_eq_true rfl) (Nat.le_of_ble_eq_true rfl) (by omega) (by omega) rfl (fun _ _ z => z.elim) (fun v9 h5 hz => ?_)
  obtain ⟨rfl, e9⟩ := hz
  rw [e9]
  clear e9 h5
  simp only [Option.toList_some, Option.toList_none, List.cons_append, List.nil_append]
  refine g_if_eq (off := 31) (tgt := 45) (by decide +kernel) (by decide) (fun c14 => ?_) (fun c14 => ?_)
  · exact absurd c14 (by decide)
  · try simp only [bI_0, Decidable.not_not] at c14
    refine g_blk [(.iload_n 1, .null)] (Nat.le_of_ble_eq_true rfl) (by decide +kernel) ?_
    refine gx_iload_n_1 ((gx_nil ?_))
    refine g_pS kJ5_191 (sb_canEnc hc) (by decide +kernel) rfl rfl (Nat.le_of_ble_eq_true rfl) (Nat.le_of_ble_eq_true rfl) (Nat.le_of_ble_eq_true rfl) rfl ?_
    simp only [Option.toList_some, Option.toList_none, List.cons_append, List.nil_append]
    refine g_if_eq (off := 24) (tgt := 45) (by decide +kernel) (by decide) (fun c21 => ?_) (fun c21 => ?_)
    · exact absurd c21 (by decide)
    · try simp only [bI_0, Decidable.not_not] at c21
      refine g_blk [(.aload_n 0, .null)] (Nat.le_of_ble_eq_true rfl) (by decide +kernel) ?_
      refine gx_aload_n_0 ((gx_nil ?_))
      refine g_getf fJ5_15 (by decide +kernel) ha5 rfl ?_
      refine g_blk [(.aload_n 0, .null), (.dup, .null)] (Nat.le_of_ble_eq_true rfl) (by decide +kernel) ?_
      refine gx_aload_n_0 (gx_dupr ((gx_nil ?_)))
      refine g_getf fJ5_79 (by decide +kernel) ha5 rfl ?_
      refine g_blk [(.dup_x1, .null), (.iconst 1, .int (nI 1)), (.iadd, .null)] (Nat.le_of_ble_eq_true rfl) (by decide +kernel) ?_
      refine gx_dup_x1ir (gx_iconst (gx_iadd ((gx_nil ?_))))
      try simp only [nI_add, Nat.add_zero, Nat.zero_add, Nat.reduceAdd]
      refine g_putf fJ5_79 (by decide +kernel) ha5 (by simp) rfl rfl ?_
      have w1 : gUp h5 a (gJ 1 [.ref v5, .int 0, .int ml5, .int (nI (xs.length + 1))]) a = _ := gUp_s _ _ _
      have w2 : gUp h5 a (gJ 1 [.ref v5, .int 0, .int ml5, .int (nI (xs.length + 1))]) v5 = _ := (gUp_n _ _ hav5.symm).trans hb5
      refine g_hp (h1 := gUp h5 a (gJ 1 [.ref v5, .int 0, .int ml5, .int (nI (xs.length + 1))])) rfl ?_
      refine g_blk [(.iload_n 1, .null), (.i2b, .null)] (Nat.le_of_ble_eq_true rfl) (by decide +kernel) ?_
      refine gx_iload_n_1 (gx_i2b ((gx_nil ?_)))
      rw [(nI_bt hc).1]
      refine g_bastore (by decide +kernel) w2 (vp_in_nI (by omega) (by omega)) ?_
      rw [(nI_bt hc).2.1, nI_clamp (by omega)]
      refine g_blk [(.goto 33, .retAddr 75), (.aload_n 0, .null)] (Nat.le_of_ble_eq_true rfl) (by decide +kernel) ?_
      refine gx_goto (gx_aload_n_0 ((gx_nil ?_)))
      refine g_end (some (.ref _)) rfl ⟨by decide +kernel, _, rfl, Or.inl ⟨_, rfl⟩⟩ ?_
      refine ⟨rfl, v5, m5, gSB_put (ml := ml5) (f := upd f5 xs.length (nI c)) ((gUp_n _ _ hav5).trans (w1.trans (by rw [List.length_append]; rfl))) (gUp_s _ _ _) (fun i x hx => ?_) (fun i x hx => ?_) (by rw [List.length_append]; exact hq5) hm5 hav5 (fit_u hfit5 (nI_bt hc).2.2), hv5, gK_up (gK_up k5 (Or.inl (Or.inl rfl))) ?_, gUp_ex (gUp_ex ex5)⟩
      · have hi := (List.getElem?_eq_some_iff.mp hx).1
        rw [pk_un (by omega)]; exact hf5 i x hx
      · have hi : i = 0 := by
          have := (List.getElem?_eq_some_iff.mp hx).1
          have h1 : [c].length = 1 := rfl
          omega
        subst hi
        cases hx
        rw [Nat.add_zero, pk_us]
      · rcases hv5 with z | z
        · exact Or.inl (Or.inr z)
        · exact Or.inr z
theorem sb_appC {d1 d10 : Nat} {vf : Value} (hp : gPsb Γ d1 d10 vf) {a v m : Nat} {xs : List Nat} (H : gSB Γ h a v m xs) {c : Nat} (hc : c < 128) (hl : xs.length < 34) : gC Γ M_J4_append_cf468 [.ref a, .int (nI c)] h 5 1 34 (sbZ Γ h a v (some (.ref a)) (xs ++ [c])) (fun _ _ => False) := by
  obtain ⟨ml, f, ha, hv, hf, hlen, hm, hav, hfit⟩ := id H
  refine gC_of (by decide) rfl (Nat.le_of_ble_eq_true rfl) [some (.ref a), some (.int (nI c))] rfl ?_
  refine g_blk [(.aload_n 0, .null), (.iload_n 1, .null)] (Nat.le_of_ble_eq_true rfl) (by decide +kernel) ?_
  refine gx_aload_n_0 (gx_iload_n_1 ((gx_nil ?_)))
  refine g_callSU (rc' := 0) (rs' := 0) kJ4_50 (sb_appC0 hp H hc hl) (by decide +kernel) rfl rfl ha rfl (Nat.le_of_ble_eq_true rfl) (Nat.le_of_ble_eq_true rfl) (Nat.le_of_ble_eq_true rfl) (by omega) (by omega) rfl (fun _ _ z => z.elim) (fun v9 h5 hz => ?_)
  obtain ⟨rfl, hz⟩ := hz
  simp only [Option.toList_some, Option.toList_none, List.cons_append, List.nil_append]
  refine g_blk [(.pop, .null), (.aload_n 0, .null)] (Nat.le_of_ble_eq_true rfl) (by decide +kernel) ?_
  refine gx_popr (gx_aload_n_0 ((gx_nil ?_)))
  refine g_end (some (.ref _)) rfl ⟨by decide +kernel, _, rfl, Or.inl ⟨_, rfl⟩⟩ ?_
  exact ⟨rfl, hz⟩
theorem tpd_ge {n j : Nat} (hn : n < 100000) (h1 : 1 ≤ j) (hj : j ≤ 4) : 10 ^ j ≤ n ↔ j ≤ tpd n := by
  have z := tpd_c n
  have : j = 1 ∨ j = 2 ∨ j = 3 ∨ j = 4 := by omega
  rcases this with rfl | rfl | rfl | rfl <;> simp only [Nat.reducePow] <;> omega
theorem m10p {j : Nat} (h1 : 1 ≤ j) (hj : j ≤ 4) : nI 10 * (-nI (10 ^ j)) = -nI (10 ^ (j + 1)) := by
  have : j = 1 ∨ j = 2 ∨ j = 3 ∨ j = 4 := by omega
  rcases this with rfl | rfl | rfl | rfl <;> decide
theorem p10_5 {j : Nat} (h1 : 1 ≤ j) (hj : j ≤ 5) : 10 ^ j < 2 ^ 31 := by
  have : j = 1 ∨ j = 2 ∨ j = 3 ∨ j = 4 ∨ j = 5 := by omega
  rcases this with rfl | rfl | rfl | rfl | rfl <;> decide
theorem sb_size {n : Nat} (hn : n < 100000) : pC Γ M_J6_stringSize_0f7a4 [.int (nI n)] h 0 (some (.int (nI (tpd n + 1)))) := by
  have t4 := tpd_le n
  have loop : ∀ k j, j + k = 5 → 1 ≤ j → j ≤ tpd n + 1 → pG Γ M_J6_stringSize_0f7a4 0 (some (.int (nI (tpd n + 1)))) h 16 [some (.int (-nI n)), some (.int (nI 0)), some (.int (-nI (10 ^ j))), some (.int (nI j))] [] := by
    intro k
    induction k with
    | zero =>
      intro j hj h1 h2
      obtain rfl : j = 5 := by omega
      refine g_blk [(.iload_n 3, .null), (.bipush 10, .int (nI 10))] (Nat.le_of_ble_eq_true rfl) (by decide +kernel) ?_
      refine gx_iload_n_3 (gx_bipush ((gx_nil ?_)))
      refine g_icmp_ge (off := 23) (tgt := 42) (by decide +kernel) (by decide) (fun c19 => ?_) (fun c19 => ?_)
      · try simp only [bI_0, Decidable.not_not] at c19
        exact absurd c19 (by decide)
      · try simp only [bI_0, Decidable.not_not] at c19
        refine g_blk [(.iload_n 0, .null), (.iload_n 2, .null)] (Nat.le_of_ble_eq_true rfl) (by decide +kernel) ?_
        refine gx_iload_n_0 (gx_iload_n_2 ((gx_nil ?_)))
        refine g_icmp_le (off := 7) (tgt := 31) (by decide +kernel) (by decide) (fun c24 => ?_) (fun c24 => ?_)
        · try simp only [bI_0, Decidable.not_not] at c24
          exact absurd ((sb_nle (by omega) (by decide)).mp c24) (by omega)
        · try simp only [bI_0, Decidable.not_not] at c24
          refine g_blk [(.iload_n 3, .null), (.iload_n 1, .null), (.iadd, .null)] (Nat.le_of_ble_eq_true rfl) (by decide +kernel) ?_
          refine gx_iload_n_3 (gx_iload_n_1 (gx_iadd ((gx_nil ?_))))
          try simp only [nI_add, Nat.add_zero, Nat.zero_add, Nat.reduceAdd]
          refine g_end (some (.int _)) rfl ⟨by decide +kernel, _, rfl, rfl⟩ ⟨?_, rfl⟩
          rw [show tpd n = 4 by omega]
    | succ k ih =>
      intro j hj h1 h2
      have hp9 := p10_5 h1 (by omega)
      refine g_blk [(.iload_n 3, .null), (.bipush 10, .int (nI 10))] (Nat.le_of_ble_eq_true rfl) (by decide +kernel) ?_
      refine gx_iload_n_3 (gx_bipush ((gx_nil ?_)))
      refine g_icmp_ge (off := 23) (tgt := 42) (by decide +kernel) (by decide) (fun c19 => ?_) (fun c19 => ?_)
      · try simp only [bI_0, Decidable.not_not] at c19
        exact absurd c19 (nI_ge (by omega) (by omega))
      · try simp only [bI_0, Decidable.not_not] at c19
        refine g_blk [(.iload_n 0, .null), (.iload_n 2, .null)] (Nat.le_of_ble_eq_true rfl) (by decide +kernel) ?_
        refine gx_iload_n_0 (gx_iload_n_2 ((gx_nil ?_)))
        refine g_icmp_le (off := 7) (tgt := 31) (by decide +kernel) (by decide) (fun c24 => ?_) (fun c24 => ?_)
        · try simp only [bI_0, Decidable.not_not] at c24
          rw [sb_nle (by omega) hp9] at c24
          refine g_blk [(.bipush 10, .int (nI 10)), (.iload_n 2, .null), (.imul, .null), (.istore_n 2, .null), (.iinc 3 1, .int (nI 1)), (.goto (-23), .retAddr 16)] (Nat.le_of_ble_eq_true rfl) (by decide +kernel) ?_
          refine gx_bipush (gx_iload_n_2 (gx_imul (gx_istore_n_2 rfl (gx_iinc_3 rfl (gx_goto ((gx_nil ?_)))))))
          try simp only [nI_add, Nat.add_zero, Nat.zero_add, Nat.reduceAdd]
          have := tpd_ge hn h1 (by omega)
          rw [m10p h1 (by omega)]
          exact ih (j + 1) (by omega) (by omega) (by omega)
        · try simp only [bI_0, Decidable.not_not] at c24
          rw [sb_nle (by omega) hp9] at c24
          refine g_blk [(.iload_n 3, .null), (.iload_n 1, .null), (.iadd, .null)] (Nat.le_of_ble_eq_true rfl) (by decide +kernel) ?_
          refine gx_iload_n_3 (gx_iload_n_1 (gx_iadd ((gx_nil ?_))))
          try simp only [nI_add, Nat.add_zero, Nat.zero_add, Nat.reduceAdd]
          refine g_end (some (.int _)) rfl ⟨by decide +kernel, _, rfl, rfl⟩ ⟨?_, rfl⟩
          have := tpd_ge hn h1 (by omega)
          rw [show tpd n + 1 = j by omega]
  refine pC_of (by decide) rfl (Nat.le_of_ble_eq_true rfl) [some (.int (nI n)), none, none, none] rfl ?_
  refine g_blk [(.iconst 1, .int (nI 1)), (.istore_n 1, .null), (.iload_n 0, .null)] (Nat.le_of_ble_eq_true rfl) (by decide +kernel) ?_
  refine gx_iconst (gx_istore_n_1 rfl (gx_iload_n_0 ((gx_nil ?_))))
  refine g_if_lt (off := 8) (tgt := 11) (by decide +kernel) (by decide) (fun c3 => ?_) (fun c3 => ?_)
  · try simp only [bI_0, Decidable.not_not] at c3
    exact absurd c3 (nI_pos (by omega))
  · try simp only [bI_0, Decidable.not_not] at c3
    refine g_blk [(.iconst 0, .int (nI 0)), (.istore_n 1, .null), (.iload_n 0, .null), (.ineg, .null), (.istore_n 0, .null), (.bipush (-10), .int (-10)), (.istore_n 2, .null), (.iconst 1, .int (nI 1)), (.istore_n 3, .null)] (Nat.le_of_ble_eq_true rfl) (by decide +kernel) ?_
    refine gx_iconst (gx_istore_n_1 rfl (gx_iload_n_0 (gx_ineg (gx_istore_n_0 (gx_bipush (gx_istore_n_2 rfl (gx_iconst (gx_istore_n_3 rfl ((gx_nil ?_))))))))))
    refine g_lcl (L' := [some (.int (-nI n)), some (.int (nI 0)), some (.int (-nI (10 ^ 1))), some (.int (nI 1))]) (by rw [show -nI (10 ^ 1) = (-10 : Int32) by decide]) ?_
    exact loop 4 1 (by omega) (by omega) (by omega)
end GTe
