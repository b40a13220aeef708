section GTg
variable {Γ : gE} {h : gHp}
/-- the digits of a number, from L on -/
def dG (L w : Nat) (f : Nat → Int32) : Nat → Int32 := fun i => if L ≤ i ∧ i < L + (tpd w + 1) then nI (48 + w / 10 ^ (tpd w - (i - L)) % 10) else f i
theorem tpd_100 {w : Nat} (h : 100 ≤ w) (hw : w < 100000) : tpd w = tpd (w / 100) + 2 := by
  have z := tpd_c w
  have y := tpd_c (w / 100)
  omega
theorem dG_s {L w : Nat} {f : Nat → Int32} (h : 100 ≤ w) (hw : w < 100000) : dG L (w / 100) (upd (upd f (L + tpd w) (nI (48 + w % 100 % 10))) (L + tpd w - 1) (nI (48 + w % 100 / 10))) = dG L w f := by
  have e := tpd_100 h hw
  funext i
  unfold dG
  by_cases a : L ≤ i ∧ i < L + (tpd (w / 100) + 1)
  · rw [if_pos a, if_pos (by omega)]
    have e2 : tpd w - (i - L) = 2 + (tpd (w / 100) - (i - L)) := by omega
    rw [e2, Nat.pow_add, ← Nat.div_div_eq_div_mul]
  · rw [if_neg a]
    unfold upd
    by_cases b : i = L + tpd w - 1
    · rw [if_pos b, if_pos (by omega), show tpd w - (i - L) = 1 by omega, Nat.pow_one]
      congr 1; omega
    · rw [if_neg b]
      by_cases c : i = L + tpd w
      · rw [if_pos c, if_pos (by omega), show tpd w - (i - L) = 0 by omega, Nat.pow_zero, Nat.div_one]
        congr 1; omega
      · rw [if_neg c, if_neg (by omega)]
theorem dG_1 {L w : Nat} {f : Nat → Int32} (h : w < 10) : upd f (L + tpd w) (nI (48 + w % 10)) = dG L w f := by
  have e := tpd_9 h
  funext i
  unfold dG upd
  by_cases c : i = L + tpd w
  · rw [if_pos c, if_pos (by omega), show tpd w - (i - L) = 0 by omega, Nat.pow_zero, Nat.div_one]
  · rw [if_neg c, if_neg (by omega)]
theorem dG_2 {L w : Nat} {f : Nat → Int32} (h : 10 ≤ w) (h2 : w < 100) : upd (upd f (L + tpd w) (nI (48 + w % 10))) (L + tpd w - 1) (nI (48 + w / 10)) = dG L w f := by
  have e : tpd w = 1 := by
    have z := tpd_c w
    omega
  funext i
  unfold dG upd
  by_cases b : i = L + tpd w - 1
  · rw [if_pos b, if_pos (by omega), show tpd w - (i - L) = 1 by omega, Nat.pow_one]
    congr 1; omega
  · rw [if_neg b]
    by_cases c : i = L + tpd w
    · rw [if_pos c, if_pos (by omega), show tpd w - (i - L) = 0 by omega, Nat.pow_zero, Nat.div_one]
    · rw [if_neg c, if_neg (by omega)]
theorem dG_fit {L w : Nat} {f : Nat → Int32} (h : ∀ i, fits .byte (.int (f i)) = true) : ∀ i, fits .byte (.int (dG L w f i)) = true := fun i => by
  unfold dG
  split
  · exact (nI_bt (by omega)).2.2
  · exact h i
theorem dG_at {L n i x : Nat} {f : Nat → Int32} (h : (dgt n)[i]? = some x) : dG L n f (L + i) = nI x := by
  have key : ∀ j i x, (dgu n j)[i]? = some x → i ≤ j ∧ x = 48 + n / 10 ^ (j - i) % 10 := by
    intro j
    induction j with
    | zero =>
      intro i x hx
      cases i with
      | zero => cases hx; exact ⟨Nat.le_refl _, rfl⟩
      | succ i => cases hx
    | succ j ih =>
      intro i x hx
      cases i with
      | zero => cases hx; exact ⟨by omega, rfl⟩
      | succ i =>
        obtain ⟨a, b⟩ := ih i x hx
        exact ⟨by omega, by rw [b, Nat.add_sub_add_right]⟩
  obtain ⟨a, b⟩ := key _ _ _ h
  unfold dG
  rw [if_pos (by omega), b, show L + i - L = i by omega]
theorem dG_o {L n i : Nat} {f : Nat → Int32} (h : i < L) : dG L n f i = f i := if_neg (by omega)
theorem sb_getChars {d1 d10 : Nat} {vf : Value} (hp : gPsb Γ d1 d10 vf) {v m L n : Nat} {f : Nat → Int32} (hv : h v = some (gB Γ m f)) (hn : n < 100000) (hL : L + (tpd n + 1) ≤ m) (hm : m ≤ 64) : gC Γ M_J6_getChars_ba4f3 [.int (nI n), .int (nI (L + (tpd n + 1))), .ref v] h 0 0 0 (fun r h' => r = some (.int (nI L)) ∧ h' v = some (gB Γ m (dG L n f)) ∧ gKeep (fun z => z = v) h h') (fun _ _ => False) := by
  have loop : ∀ k w f0 (ix : Nat) hk, w < 100 ^ (k + 1) → w < 100000 → L + (tpd w + 1) ≤ m → hk v = some (gB Γ m f0) → dG L w f0 = dG L n f → gKeep (fun z => z = v) h hk → G Γ M_J6_getChars_ba4f3 0 0 0 (fun r h' => r = some (.int (nI L)) ∧ h' v = some (gB Γ m (dG L n f)) ∧ gKeep (fun z => z = v) h h') (fun _ _ => False) 0 0 22 [some (.int (-nI w)), some (.int (nI ix)), some (.ref v), none, none, some (.int (nI (L + (tpd w + 1)))), some (.int (nI 0))] [] hk := by
    intro k
    have ed : ∀ w f0 (ix : Nat) hk, w < 100 → L + (tpd w + 1) ≤ m → hk v = some (gB Γ m f0) → dG L w f0 = dG L n f → gKeep (fun z => z = v) h hk → G Γ M_J6_getChars_ba4f3 0 0 0 (fun r h' => r = some (.int (nI L)) ∧ h' v = some (gB Γ m (dG L n f)) ∧ gKeep (fun z => z = v) h h') (fun _ _ => False) 0 0 22 [some (.int (-nI w)), some (.int (nI ix)), some (.ref v), none, none, some (.int (nI (L + (tpd w + 1)))), some (.int (nI 0))] [] hk := by
      intro w f0 ix hk hw hLw hv9 hD kk
      have t4 := tpd_c w
      refine g_blk [(.iload_n 0, .null), (.bipush (-100), .int (-100))] (Nat.le_of_ble_eq_true rfl) (by decide +kernel) ?_
      refine gx_iload_n_0 (gx_bipush ((gx_nil ?_)))
      refine g_icmp_gt (off := 47) (tgt := 72) (by decide +kernel) (by decide) (fun c25 => ?_) (fun c25 => ?_)
      · try simp only [bI_0, Decidable.not_not] at c25
        refine g_blk [(.aload_n 2, .null), (.iinc 5 (-1), .int (-1)), (.iload 5, .null)] (Nat.le_of_ble_eq_true rfl) (by decide +kernel) ?_
        refine gx_aload_n_2 (gx_iinc_5 rfl (gx_iload_5 ((gx_nil ?_))))
        rw [show nI (L + (tpd w + 1)) + (-1) = nI (L + tpd w) from sb_m1 (by omega)]
        refine g_gets (o := _) hp.2.1 fzJ6_83 (Or.inl rfl) (by decide +kernel) ?_
        refine g_blk [(.iload_n 0, .null), (.ineg, .null)] (Nat.le_of_ble_eq_true rfl) (by decide +kernel) ?_
        refine gx_iload_n_0 (gx_ineg ((gx_nil ?_)))
        rw [Int32.neg_neg]
        refine g_baloadP hp.2.2.1 (vp_in_nI (by omega) (by omega)) (by decide +kernel) ?_
        simp only [nI_clamp (show w < 2 ^ 31 by omega)]
        refine g_bastore (by decide +kernel) hv9 (vp_in_nI (by omega) (by omega)) ?_
        rw [(nI_bt (c := 48 + w % 10) (by omega)).2.1, nI_clamp (by omega)]
        have hv1 : gUp hk v (gB Γ m (upd f0 (L + tpd w) (nI (48 + w % 10)))) v = _ := gUp_s _ _ _
        refine g_blk [(.iload_n 0, .null), (.bipush (-9), .int (-9))] (Nat.le_of_ble_eq_true rfl) (by decide +kernel) ?_
        refine gx_iload_n_0 (gx_bipush ((gx_nil ?_)))
        refine g_icmp_ge (off := 16) (tgt := 104) (by decide +kernel) (by decide) (fun c88 => ?_) (fun c88 => ?_)
        · try simp only [bI_0, Decidable.not_not] at c88
          refine g_blk [(.iload 6, .null)] (Nat.le_of_ble_eq_true rfl) (by decide +kernel) ?_
          refine gx_iload_6 ((gx_nil ?_))
          refine g_if_eq (off := 12) (tgt := 118) (by decide +kernel) (by decide) (fun c106 => ?_) (fun c106 => ?_)
          · try simp only [bI_0, Decidable.not_not] at c106
            refine g_blk [(.iload 5, .null)] (Nat.le_of_ble_eq_true rfl) (by decide +kernel) ?_
            refine gx_iload_5 ((gx_nil ?_))
            refine g_end (some (.int _)) rfl ⟨by decide +kernel, _, rfl, rfl⟩ ?_
            have w10 : w < 10 := by
              refine Nat.lt_of_not_le (fun z => ?_)
              rw [show (-9 : Int32) = -nI 9 by decide] at c88
              have := (sb_nle (by decide) (by omega)).mp c88
              omega
            refine ⟨by rw [show L + tpd w = L by omega], ?_, kk.tr (gKeep.up rfl)⟩
            rw [gUp_s, dG_1 w10, hD]
          · try simp only [bI_0, Decidable.not_not] at c106
            exact absurd (by decide) c106
        · try simp only [bI_0, Decidable.not_not] at c88
          have w10 : 10 ≤ w := by
            refine Nat.le_of_not_lt (fun z => c88 ?_)
            rw [show (-9 : Int32) = -nI 9 by decide]
            exact (sb_nle (by decide) (by omega)).mpr (by omega)
          refine g_blk [(.aload_n 2, .null), (.iinc 5 (-1), .int (-1)), (.iload 5, .null)] (Nat.le_of_ble_eq_true rfl) (by decide +kernel) ?_
          refine gx_aload_n_2 (gx_iinc_5 rfl (gx_iload_5 ((gx_nil ?_))))
          rw [show nI (L + tpd w) + (-1) = nI (L + tpd w - 1) from sb_m1 (by omega)]
          refine g_gets (o := _) hp.2.2.2.1 fzJ6_87 (Or.inl rfl) (by decide +kernel) ?_
          refine g_blk [(.iload_n 0, .null), (.ineg, .null)] (Nat.le_of_ble_eq_true rfl) (by decide +kernel) ?_
          refine gx_iload_n_0 (gx_ineg ((gx_nil ?_)))
          rw [Int32.neg_neg]
          refine g_baloadP hp.2.2.2.2.1 (vp_in_nI (by omega) (by omega)) (by decide +kernel) ?_
          simp only [nI_clamp (show w < 2 ^ 31 by omega)]
          refine g_bastore (by decide +kernel) hv1 (vp_in_nI (by omega) (by omega)) ?_
          rw [(nI_bt (c := 48 + w / 10) (by omega)).2.1, nI_clamp (by omega), gUp_gUp]
          refine g_blk [(.iload 6, .null)] (Nat.le_of_ble_eq_true rfl) (by decide +kernel) ?_
          refine gx_iload_6 ((gx_nil ?_))
          refine g_if_eq (off := 12) (tgt := 118) (by decide +kernel) (by decide) (fun c106 => ?_) (fun c106 => ?_)
          · try simp only [bI_0, Decidable.not_not] at c106
            refine g_blk [(.iload 5, .null)] (Nat.le_of_ble_eq_true rfl) (by decide +kernel) ?_
            refine gx_iload_5 ((gx_nil ?_))
            refine g_end (some (.int _)) rfl ⟨by decide +kernel, _, rfl, rfl⟩ ?_
            refine ⟨by rw [show L + tpd w - 1 = L by omega], ?_, kk.tr (gKeep.up rfl)⟩
            rw [gUp_s, dG_2 w10 hw, hD]
          · try simp only [bI_0, Decidable.not_not] at c106
            exact absurd (by decide) c106
      · try simp only [bI_0, Decidable.not_not] at c25
        rw [show (-100 : Int32) = -nI 100 by decide] at c25
        have := (sb_nle (by omega) (by decide)).mp (Int32.not_lt.mp c25)
        omega
    induction k with
    | zero =>
      intro w f0 ix hk hw hw5 hLw hv9 hD kk
      exact ed w f0 ix hk (by simpa using hw) hLw hv9 hD kk
    | succ k ih =>
      intro w f0 ix hk hw hw5 hLw hv9 hD kk
      by_cases h1 : w < 100
      · exact ed w f0 ix hk h1 hLw hv9 hD kk
      have h100 : 100 ≤ w := by omega
      have e2 := tpd_100 h100 hw5
      have hm100 : w % 100 < 100 := Nat.mod_lt _ (by decide)
      refine g_blk [(.iload_n 0, .null), (.bipush (-100), .int (-100))] (Nat.le_of_ble_eq_true rfl) (by decide +kernel) ?_
      refine gx_iload_n_0 (gx_bipush ((gx_nil ?_)))
      refine g_icmp_gt (off := 47) (tgt := 72) (by decide +kernel) (by decide) (fun c25 => ?_) (fun c25 => ?_)
      · try simp only [bI_0, Decidable.not_not] at c25
        rw [show (-100 : Int32) = -nI 100 by decide] at c25
        have := (sb_nlt (by decide) (by omega)).mp c25
        omega
      · try simp only [bI_0, Decidable.not_not] at c25
        refine g_blk [(.iload_n 0, .null), (.bipush 100, .int (nI 100))] (Nat.le_of_ble_eq_true rfl) (by decide +kernel) ?_
        refine gx_iload_n_0 (gx_bipush ((gx_nil ?_)))
        refine g_idiv (by decide) (by decide +kernel) ?_
        rw [show (-nI w) / nI 100 = -nI (w / 100) from sb_ndiv (by omega)]
        refine g_blk [(.istore_n 3, .null), (.iload_n 3, .null), (.bipush 100, .int (nI 100)), (.imul, .null), (.iload_n 0, .null), (.isub, .null), (.istore 4, .null), (.iload_n 3, .null), (.istore_n 0, .null), (.aload_n 2, .null), (.iinc 5 (-1), .int (-1)), (.iload 5, .null)] (Nat.le_of_ble_eq_true rfl) (by decide +kernel) ?_
        refine gx_istore_n_3 rfl (gx_iload_n_3 (gx_bipush (gx_imul (gx_iload_n_0 (gx_isub (gx_istore_4 rfl (gx_iload_n_3 (gx_istore_n_0 (gx_aload_n_2 (gx_iinc_5 rfl (gx_iload_5 ((gx_nil ?_)))))))))))))
        rw [show nI (L + (tpd w + 1)) + (-1) = nI (L + tpd w) from sb_m1 (by omega)]
        rw [show -nI (w / 100) * nI 100 - -nI w = nI (w % 100) from sb_nrem (by omega)]
        refine g_gets (o := _) hp.2.1 fzJ6_83 (Or.inl rfl) (by decide +kernel) ?_
        refine g_blk [(.iload 4, .null)] (Nat.le_of_ble_eq_true rfl) (by decide +kernel) ?_
        refine gx_iload_4 ((gx_nil ?_))
        refine g_baloadP hp.2.2.1 (vp_in_nI (by omega) (by omega)) (by decide +kernel) ?_
        simp only [nI_clamp (show w % 100 < 2 ^ 31 by omega)]
        refine g_bastore (by decide +kernel) hv9 (vp_in_nI (by omega) (by omega)) ?_
        rw [(nI_bt (c := 48 + w % 100 % 10) (by omega)).2.1, nI_clamp (by omega)]
        have hv1 : gUp hk v (gB Γ m (upd f0 (L + tpd w) (nI (48 + w % 100 % 10)))) v = _ := gUp_s _ _ _
        refine g_blk [(.aload_n 2, .null), (.iinc 5 (-1), .int (-1)), (.iload 5, .null)] (Nat.le_of_ble_eq_true rfl) (by decide +kernel) ?_
        refine gx_aload_n_2 (gx_iinc_5 rfl (gx_iload_5 ((gx_nil ?_))))
        rw [show nI (L + tpd w) + (-1) = nI (L + tpd w - 1) from sb_m1 (by omega)]
        refine g_gets (o := _) hp.2.2.2.1 fzJ6_87 (Or.inl rfl) (by decide +kernel) ?_
        refine g_blk [(.iload 4, .null)] (Nat.le_of_ble_eq_true rfl) (by decide +kernel) ?_
        refine gx_iload_4 ((gx_nil ?_))
        refine g_baloadP hp.2.2.2.2.1 (vp_in_nI (by omega) (by omega)) (by decide +kernel) ?_
        simp only [nI_clamp (show w % 100 < 2 ^ 31 by omega)]
        refine g_bastore (by decide +kernel) hv1 (vp_in_nI (by omega) (by omega)) ?_
        rw [(nI_bt (c := 48 + w % 100 / 10) (by omega)).2.1, nI_clamp (by omega), gUp_gUp]
        refine g_blk [(.goto (-47), .retAddr 22)] (Nat.le_of_ble_eq_true rfl) (by decide +kernel) ?_
        refine gx_goto ((gx_nil ?_))
        have e9 : L + tpd w - 1 = L + (tpd (w / 100) + 1) := by omega
        exact g_wk (by simp [gLe, e9]) (ih (w / 100) _ ix _ (by rw [Nat.pow_succ] at hw; omega) (by omega) (by omega) (gUp_s _ _ _) ((dG_s h100 hw5).trans hD) (kk.tr (gKeep.up rfl)))
  refine gC_of (by decide) rfl (Nat.le_of_ble_eq_true rfl) [some (.int (nI n)), some (.int (nI (L + (tpd n + 1)))), some (.ref v), none, none, none, none] rfl ?_
  refine g_blk [(.iload_n 1, .null), (.istore 5, .null), (.iload_n 0, .null)] (Nat.le_of_ble_eq_true rfl) (by decide +kernel) ?_
  refine gx_iload_n_1 (gx_istore_5 rfl (gx_iload_n_0 ((gx_nil ?_))))
  refine g_if_ge (off := 7) (tgt := 11) (by decide +kernel) (by decide) (fun c4 => ?_) (fun c4 => ?_)
  · try simp only [bI_0, Decidable.not_not] at c4
    refine g_blk [(.iconst 0, .int (nI 0)), (.istore 6, .null), (.iload 6, .null)] (Nat.le_of_ble_eq_true rfl) (by decide +kernel) ?_
    refine gx_iconst (gx_istore_6 rfl (gx_iload_6 ((gx_nil ?_))))
    refine g_if_ne (off := 6) (tgt := 22) (by decide +kernel) (by decide) (fun c16 => ?_) (fun c16 => ?_)
    · exact absurd (by decide) c16
    · try simp only [bI_0, Decidable.not_not] at c16
      refine g_blk [(.iload_n 0, .null), (.ineg, .null), (.istore_n 0, .null)] (Nat.le_of_ble_eq_true rfl) (by decide +kernel) ?_
      refine gx_iload_n_0 (gx_ineg (gx_istore_n_0 ((gx_nil ?_))))
      exact g_wk (by simp [gLe]) (loop 4 n f (L + (tpd n + 1)) h (by omega) hn hL hv rfl gKeep.rf)
  · try simp only [bI_0, Decidable.not_not] at c4
    exact absurd (Int32.not_lt.mp (nI_pos (by omega))) c4
end GTg
