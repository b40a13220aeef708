/-! THE LAW: bags are right -/
section GLi
variable {Γ : gE} {bm de mi : Nat} {h : gHp} {m : Nat} {N : Nat → Int32} {c t nx : Nat} {r q1 q2 mc ms rc rs : Nat}
/-- the heap with the law's two rows -/
def h2 (Γ : gE) (h : gHp) (q1 q2 : Nat) (f1 f2 : Nat → Int32) : gHp := gUp (gUp h q1 (gI Γ 3 f1)) q2 (gI Γ 3 f2)
theorem h2_a {f1 f2 : Nat → Int32} (n : q2 ≠ q1) : h2 Γ h q1 q2 f1 f2 q1 = some (gI Γ 3 f1) := by
  unfold h2
  rw [gUp_n _ _ (fun z => n z.symm)]
  exact gUp_s _ _ _
theorem h2_b {f1 f2 : Nat → Int32} : h2 Γ h q1 q2 f1 f2 q2 = some (gI Γ 3 f2) := gUp_s _ _ _
theorem h2_w1 {f1 f2 g : Nat → Int32} (n : q2 ≠ q1) : h2 Γ h q1 q2 g f2 = gUp (h2 Γ h q1 q2 f1 f2) q1 (gI Γ 3 g) := by
  funext a
  unfold h2 gUp
  by_cases y : a = q2
  · rw [if_pos y, if_neg (fun z => n (y.symm.trans z)), if_pos y]
  · rw [if_neg y, if_neg y]
    by_cases z : a = q1
    · rw [if_pos z, if_pos z]
    · rw [if_neg z, if_neg z, if_neg z]
theorem h2_w2 {f1 f2 g : Nat → Int32} : h2 Γ h q1 q2 f1 g = gUp (h2 Γ h q1 q2 f1 f2) q2 (gI Γ 3 g) := gUp_2
theorem lP.two (hd : gDi Γ) (H : lP bm Γ de h m N c t nx) (hq1 : h q1 = none) (hq2 : h q2 = none) (n : q2 ≠ q1) (f1 f2 : Nat → Int32) : lP bm Γ de (h2 Γ h q1 q2 f1 f2) m N c t nx := (H.up hd hq1).up hd (by rw [gUp_n _ _ n]; exact hq2)
def bvI (N : Nat → Int32) (r i : Nat) (f1 f2 : Nat → Int32) : Prop := ∀ b, b < 3 → f1 b = rWt N (nI r) (nI b) i ∧ f2 b = rLn N (nI r) (nI b) i
theorem bv_no {i : Nat} {f1 f2 : Nat → Int32} (h5 : ¬ N (62 + 7 * i + 5) = nI r) (h : bvI N r i f1 f2) : bvI N r (i + 1) f1 f2 := fun b hb => by
  obtain ⟨e1, e2⟩ := h b hb
  constructor
  · show f1 b = rWt N (nI r) (nI b) i + (if N (62 + 7 * i + 5) = nI r ∧ (nI b = -1 ∨ N (62 + 7 * i + 6) = nI b) then N (62 + 7 * i + 2) else nI 0)
    rw [if_neg (fun z => h5 z.1), z0, Int32.add_zero]
    exact e1
  · show f2 b = rLn N (nI r) (nI b) i + (if N (62 + 7 * i + 5) = nI r ∧ (nI r = -1 ∨ N (62 + 7 * i + 6) = nI b) then nI 1 else nI 0)
    rw [if_neg (fun z => h5 z.1), z0, Int32.add_zero]
    exact e2
theorem bv_up (hr : r < 6) {i b9 : Nat} {f1 f2 : Nat → Int32} (h5 : N (62 + 7 * i + 5) = nI r) (h6 : N (62 + 7 * i + 6) = nI b9) (hb9 : b9 < 3) (h : bvI N r i f1 f2) : bvI N r (i + 1) (upd f1 b9 (f1 b9 + N (62 + 7 * i + 2))) (upd f2 b9 (f2 b9 + nI 1)) := fun b hb => by
  obtain ⟨e1, e2⟩ := h b hb
  have k1 : rWt N (nI r) (nI b) (i + 1) = rWt N (nI r) (nI b) i + (if N (62 + 7 * i + 5) = nI r ∧ (nI b = -1 ∨ N (62 + 7 * i + 6) = nI b) then N (62 + 7 * i + 2) else nI 0) := rfl
  have k2 : rLn N (nI r) (nI b) (i + 1) = rLn N (nI r) (nI b) i + (if N (62 + 7 * i + 5) = nI r ∧ (nI r = -1 ∨ N (62 + 7 * i + 6) = nI b) then nI 1 else nI 0) := rfl
  rw [k1, k2]
  by_cases y : b = b9
  · subst y
    rw [pk_us, pk_us, if_pos ⟨h5, Or.inr h6⟩, if_pos ⟨h5, Or.inr h6⟩, e1, e2]
    exact ⟨rfl, rfl⟩
  · have hne : ¬ N (62 + 7 * i + 6) = nI b := fun z => y ((nI_eq (by omega) (by omega)).mp (h6.symm.trans z)).symm
    rw [pk_un y, pk_un y, if_neg (fun z => z.2.elim (nI_nm1 (by omega)) hne), z0, Int32.add_zero, e1, e2]
    refine ⟨rfl, ?_⟩
    rw [if_neg (fun z => z.2.elim (nI_nm1 (by omega)) hne), Int32.add_zero]
theorem bz_0 (I : rIV N c t nx) (hr : r < 6) {b : Nat} (hb : rg N r ≤ b) (hb3 : b < 3) : ∀ k, k ≤ c → rWt N (nI r) (nI b) k = nI 0 ∧ rLn N (nI r) (nI b) k = nI 0
  | 0, _ => ⟨rfl, rfl⟩
  | k + 1, hk => by
    obtain ⟨e1, e2⟩ := bz_0 I hr hb hb3 k (by omega)
    obtain ⟨i9, cd, w9, pr9, q9, -, -, -, -, -, -, -, -, -, -, -, hA⟩ := I.let9 (show k < c by omega)
    have no : ¬ (N (62 + 7 * k + 5) = nI r ∧ N (62 + 7 * k + 6) = nI b) := fun z => by
      rcases hA with y | ⟨a, b', ha, hb', ea, eb⟩
      · rw [z.1] at y
        exact nI_nm1 (by omega) y
      · have g3 := (I.g3 (a := r) (by omega)).1
        have ear := (nI_eq (by omega) (by omega)).mp (ea.symm.trans z.1)
        subst ear
        have := (nI_eq (by omega) (by omega)).mp (eb.symm.trans z.2)
        omega
    rw [rWt_s, rLn_s, e1, e2, if_neg (fun z => z.2.elim (nI_nm1 (by omega)) (fun y => no ⟨z.1, y⟩)), if_neg (fun z => z.2.elim (nI_nm1 (by omega)) (fun y => no ⟨z.1, y⟩))]
    exact ⟨rfl, rfl⟩
theorem bw_at (I : rIV N c t nx) (hn : nx ≤ 9000) (hr : r < 6) {b : Nat} (hb : b < 3) : ∃ w, w ≤ 150 ∧ rWt N (nI r) (nI b) c = nI w ∧ w = lqS (nI r) (nI b) (lqs N c) := ⟨_, I.li.wt r (by omega) b hb, rWt_S (I.lv (by omega)), rfl⟩
theorem bw_sum (I : rIV N c t nx) (hn : nx ≤ 9000) (hr : r < 6) : rWt N (nI r) (-1) c = nI (lqS (nI r) (nI 0) (lqs N c) + lqS (nI r) (nI 1) (lqs N c) + lqS (nI r) (nI 2) (lqs N c)) := by
  rw [rWt_S (I.lv (by omega)), lqB9_all (g := fun _ => 3) (nx := nx) (by omega) (fun _ _ => Nat.le_refl _) (fun x hx => (I.li.ok x hx).mono (Nat.le_refl _) (fun a ha => (I.g3 ha).1))]
  show nI (0 + lqS (nI r) (nI 0) (lqs N c) + lqS (nI r) (nI 1) (lqs N c) + lqS (nI r) (nI 2) (lqs N c)) = _
  rw [Nat.zero_add]
/-- the fullest of three -/
def fuN (w0 w1 w2 : Nat) : Nat := if w0 < w1 then (if w1 < w2 then 2 else 1) else (if w0 < w2 then 2 else 0)
theorem fb_law {w0 w1 w2 : Nat} (e0 : rWt N (nI r) (nI 0) c = nI w0) (e1 : rWt N (nI r) (nI 1) c = nI w1) (e2 : rWt N (nI r) (nI 2) c = nI w2) (h0 : w0 ≤ 150) (h1 : w1 ≤ 150) (h2 : w2 ≤ 150) (z1 : rg N r ≤ 1 → w1 = 0) (z2 : rg N r ≤ 2 → w2 = 0) (g0 : ¬ rg N r = 0) (g3 : rg N r ≤ 3) : rFb N (nI r) c (rg N r - 1) = nI (fuN w0 w1 w2) := by
  have s1 : rFb N (nI r) c 1 = if w0 < w1 then nI 1 else nI 0 := by
    rw [rFb_s]
    show (if rWt N (nI r) (nI 0) c < rWt N (nI r) (nI (0 + 1)) c then nI (0 + 1) else nI 0) = _
    rw [e0, e1]
    by_cases y : w0 < w1
    · rw [if_pos y, if_pos (nI_lt y (by omega))]
    · rw [if_neg y, if_neg (fun z => y ((nI_ltI (by omega) (by omega)).mp z))]
  have s2 : rFb N (nI r) c 2 = nI (fuN w0 w1 w2) := by
    rw [rFb_s, s1]
    show (if rWt N (nI r) (if w0 < w1 then nI 1 else nI 0) c < rWt N (nI r) (nI (1 + 1)) c then nI (1 + 1) else (if w0 < w1 then nI 1 else nI 0)) = _
    unfold fuN
    by_cases y : w0 < w1
    · rw [if_pos y, if_pos y, e1, e2]
      by_cases z : w1 < w2
      · rw [if_pos (nI_lt z (by omega)), if_pos z]
      · rw [if_neg (fun q => z ((nI_ltI (by omega) (by omega)).mp q)), if_neg z]
    · rw [if_neg y, if_neg y, e0, e2]
      by_cases z : w0 < w2
      · rw [if_pos (nI_lt z (by omega)), if_pos z]
      · rw [if_neg (fun q => z ((nI_ltI (by omega) (by omega)).mp q)), if_neg z]
  rcases (by omega : rg N r = 1 ∨ rg N r = 2 ∨ rg N r = 3) with g | g | g
  · have := z1 (by omega)
    have := z2 (by omega)
    rw [g]
    unfold fuN
    rw [if_neg (by omega), if_neg (by omega)]
    rfl
  · have := z2 (by omega)
    rw [g]
    refine s1.trans ?_
    unfold fuN
    by_cases y : w0 < w1
    · rw [if_pos y, if_pos y, if_neg (by omega)]
    · rw [if_neg y, if_neg y, if_neg (by omega)]
  · rw [g]
    exact s2
theorem n5_r (hr : r < 6) : ¬ (-2005 : Int32) = nI r := fun z => by
  have := congrArg Int32.toInt z
  rw [nI_toInt (by omega)] at this
  have : (-2005 : Int) = _ := this
  omega
theorem ht_eq (hr : r < 6) : rHt N (nI r) = N (8 + 3 * r + 1) + nI 23 - N 0 - (N (8 + 3 * r + 1) + nI 23 - N 0) / nI 24 * nI 24 + nI 1 := by
  have e : N (8 + 3 * r + 1) + nI 23 - N 0 = N (8 + 3 * r + 1) - N 0 + nI 23 := by
    rw [Int32.sub_eq_add_neg, Int32.sub_eq_add_neg, Int32.add_assoc, Int32.add_assoc, Int32.add_comm (nI 23)]
  unfold rHt
  rw [rIx_nI (by omega), e]

theorem bg_tail (hd : gDi Γ) (hp : gPxs Γ) (hnc : gPnc Γ) (H : lP bm Γ de h m N c t nx) (hr : r < 6) (hq1 : h q1 = none) (hq2 : h q2 = none) (nq : q2 ≠ q1) {f1 f2 : Nat → Int32} (hv : bvI N r c f1 f2) {w fu : Nat} (hw : rWt N (nI r) (-1) c = nI w) (hfu : ¬ rg N r = 0 → rFb N (nI r) c (rg N r - 1) = nI fu) (K : ∀ h', lP bm Γ de h' m N c t nx → G Γ M_L_areBagsRight 40 mc ms (fun v h' => v = some (.int (nI 1)) ∧ lP bm Γ de h' m N c t nx) (fun _ _ => False) rc rs 37 [some (.ref m), some (.int (nI 1)), some (.int (nI (r + 1))), none, none, none, none, none, none] [] h') : G Γ M_L_areBagsRight 40 mc ms (fun v h' => v = some (.int (nI 1)) ∧ lP bm Γ de h' m N c t nx) (fun _ _ => False) (rc + 7) (rs + 42) 182 [some (.ref m), some (.int (nI 1)), some (.int (nI r)), some (.int (nI (rg N r))), some (.ref q1), some (.ref q2), some (.int (nI w)), some (.int (nI fu)), none] [] (h2 Γ h q1 q2 f1 f2) := by
  have I := H.iv.1
  have hn9 := H.iv.2
  obtain ⟨g3, -⟩ := I.g3 (a := r) (by omega)
  have H9 := H.two hd hq1 hq2 nq f1 f2
  have hA1 := h2_a (Γ := Γ) (h := h) (f1 := f1) (f2 := f2) nq
  have hA2 := h2_b (Γ := Γ) (h := h) (q1 := q1) (q2 := q2) (f1 := f1) (f2 := f2)
  obtain ⟨fs, hm⟩ := H9.at12
  have loop : ∀ k b, b + k = 3 → G Γ M_L_areBagsRight 40 mc ms (fun v h' => v = some (.int (nI 1)) ∧ lP bm Γ de h' m N c t nx) (fun _ _ => False) (rc + 2 * k + 1) (rs + 12 * k + 6) 185 [some (.ref m), some (.int (nI 1)), some (.int (nI r)), some (.int (nI (rg N r))), some (.ref q1), some (.ref q2), some (.int (nI w)), some (.int (nI fu)), some (.int (nI b))] [] (h2 Γ h q1 q2 f1 f2) := by
    intro k
    induction k with
    | zero =>
      intro b hb
      refine g_blk [(.iload 8, .null), (.iconst 3, .int (nI 3))] (Nat.le_of_ble_eq_true rfl) (by decide +kernel) ?_
      refine gx_iload_8 (gx_iconst ((gx_nil ?_)))
      refine g_icmp_ge (off := 102) (tgt := 290) (by decide +kernel) (by decide) (fun c188 => ?_) (fun c188 => ?_)
      · try simp only [bI_0, Decidable.not_not] at c188
        refine g_blk [(.iload_n 1, .null)] (Nat.le_of_ble_eq_true rfl) (by decide +kernel) ?_
        refine gx_iload_n_1 ((gx_nil ?_))
        refine g_if_eq (off := 90) (tgt := 381) (by decide +kernel) (by decide) (fun c291 => ?_) (fun c291 => ?_)
        · exact absurd c291 (by decide)
        · try simp only [bI_0, Decidable.not_not] at c291
          refine g_blk [(.aload_n 0, .null), (.iload_n 2, .null)] (Nat.le_of_ble_eq_true rfl) (by decide +kernel) ?_
          refine gx_aload_n_0 (gx_iload_n_2 ((gx_nil ?_)))
          refine g_pV kL_207 (lr_routeWeight hp H9 hr) (by decide +kernel) rfl rfl hm rfl (Nat.le_of_ble_eq_true rfl) (Nat.le_of_ble_eq_true rfl) (Nat.le_of_ble_eq_true rfl) rfl ?_
          simp only [Option.toList_some, Option.toList_none, List.cons_append, List.nil_append]
          rw [hw]
          refine g_blk [(.iload 6, .null)] (Nat.le_of_ble_eq_true rfl) (by decide +kernel) ?_
          refine gx_iload_6 ((gx_nil ?_))
          refine g_icmp_ne (off := 80) (tgt := 381) (by decide +kernel) (by decide) (fun c301 => ?_) (fun c301 => ?_)
          · try simp only [bI_0, Decidable.not_not] at c301
            exact absurd (by first | rfl | trivial) c301
          · try simp only [bI_0, Decidable.not_not] at c301
            refine g_blk [(.aload_n 0, .null), (.iload_n 2, .null)] (Nat.le_of_ble_eq_true rfl) (by decide +kernel) ?_
            refine gx_aload_n_0 (gx_iload_n_2 ((gx_nil ?_)))
            refine g_pV kL_210 (lr_routeWeightByBags hp H9 hr) (by decide +kernel) rfl rfl hm rfl (Nat.le_of_ble_eq_true rfl) (Nat.le_of_ble_eq_true rfl) (Nat.le_of_ble_eq_true rfl) rfl ?_
            simp only [Option.toList_some, Option.toList_none, List.cons_append, List.nil_append]
            rw [hw]
            refine g_blk [(.iload 6, .null)] (Nat.le_of_ble_eq_true rfl) (by decide +kernel) ?_
            refine gx_iload_6 ((gx_nil ?_))
            refine g_icmp_ne (off := 70) (tgt := 381) (by decide +kernel) (by decide) (fun c311 => ?_) (fun c311 => ?_)
            · try simp only [bI_0, Decidable.not_not] at c311
              exact absurd (by first | rfl | trivial) c311
            · try simp only [bI_0, Decidable.not_not] at c311
              refine g_blk [(.aload_n 0, .null), (.iload_n 2, .null)] (Nat.le_of_ble_eq_true rfl) (by decide +kernel) ?_
              refine gx_aload_n_0 (gx_iload_n_2 ((gx_nil ?_)))
              refine g_pV kL_213 (lr_freeWeight hp H9 hr) (by decide +kernel) rfl rfl hm rfl (Nat.le_of_ble_eq_true rfl) (Nat.le_of_ble_eq_true rfl) (Nat.le_of_ble_eq_true rfl) rfl ?_
              simp only [Option.toList_some, Option.toList_none, List.cons_append, List.nil_append]
              rw [hw]
              refine g_blk [(.sipush 450, .int (nI 450)), (.iload 6, .null), (.isub, .null)] (Nat.le_of_ble_eq_true rfl) (by decide +kernel) ?_
              refine gx_sipush (gx_iload_6 (gx_isub ((gx_nil ?_))))
              refine g_icmp_ne (off := 56) (tgt := 381) (by decide +kernel) (by decide) (fun c325 => ?_) (fun c325 => ?_)
              · try simp only [bI_0, Decidable.not_not] at c325
                exact absurd (by first | rfl | trivial) c325
              · try simp only [bI_0, Decidable.not_not] at c325
                refine g_blk [(.aload_n 0, .null), (.bipush 15, .int (nI 15)), (.iload_n 2, .null), (.iconst 0, .int (nI 0))] (Nat.le_of_ble_eq_true rfl) (by decide +kernel) ?_
                refine gx_aload_n_0 (gx_bipush (gx_iload_n_2 (gx_iconst ((gx_nil ?_)))))
                refine g_callSH (rc' := rc + 2 * 0 + 0) (rs' := rs + 12 * 0 + 0) kL_166 (aq_15 hp hnc H9 hr) (by decide +kernel) rfl rfl (Nat.le_of_ble_eq_true rfl) (Nat.le_of_ble_eq_true rfl) (Nat.le_of_ble_eq_true rfl) (by omega) (by omega) rfl (fun _ _ z => z.elim) (fun v9 k5 hz => ?_)
                obtain ⟨rfl, rfl⟩ := hz
                simp only [Option.toList_some, Option.toList_none, List.cons_append, List.nil_append]
                refine g_blk [(.iload_n 3, .null)] (Nat.le_of_ble_eq_true rfl) (by decide +kernel) ?_
                refine gx_iload_n_3 ((gx_nil ?_))
                refine g_if_ne (off := 9) (tgt := 346) (by decide +kernel) (by decide) (fun c337 => ?_) (fun c337 => ?_)
                · try simp only [bI_0, Decidable.not_not] at c337
                  have gz : ¬ rg N r = 0 := fun z => c337 (by rw [z]; decide)
                  rw [if_neg gz, hfu gz]
                  refine g_blk [(.iload 7, .null)] (Nat.le_of_ble_eq_true rfl) (by decide +kernel) ?_
                  refine gx_iload_7 ((gx_nil ?_))
                  refine g_icmp_ne (off := 33) (tgt := 381) (by decide +kernel) (by decide) (fun c348 => ?_) (fun c348 => ?_)
                  · try simp only [bI_0, Decidable.not_not] at c348
                    exact absurd (by first | rfl | trivial) c348
                  · try simp only [bI_0, Decidable.not_not] at c348
                    refine g_blk [(.aload_n 0, .null), (.iload_n 2, .null)] (Nat.le_of_ble_eq_true rfl) (by decide +kernel) ?_
                    refine gx_aload_n_0 (gx_iload_n_2 ((gx_nil ?_)))
                    refine g_pV kL_216 (lr_hoursToDeparture hp H9 hr) (by decide +kernel) rfl rfl hm rfl (Nat.le_of_ble_eq_true rfl) (Nat.le_of_ble_eq_true rfl) (Nat.le_of_ble_eq_true rfl) rfl ?_
                    simp only [Option.toList_some, Option.toList_none, List.cons_append, List.nil_append]
                    refine g_blk [(.aload_n 0, .null), (.iload_n 2, .null)] (Nat.le_of_ble_eq_true rfl) (by decide +kernel) ?_
                    refine gx_aload_n_0 (gx_iload_n_2 ((gx_nil ?_)))
                    refine g_pV kL_175 (lr_departure hp H9 hr) (by decide +kernel) rfl rfl hm rfl (Nat.le_of_ble_eq_true rfl) (Nat.le_of_ble_eq_true rfl) (Nat.le_of_ble_eq_true rfl) rfl ?_
                    simp only [Option.toList_some, Option.toList_none, List.cons_append, List.nil_append]
                    refine g_blk [(.bipush 23, .int (nI 23)), (.iadd, .null), (.aload_n 0, .null)] (Nat.le_of_ble_eq_true rfl) (by decide +kernel) ?_
                    refine gx_bipush (gx_iadd (gx_aload_n_0 ((gx_nil ?_))))
                    try simp only [nI_add, pk_mul, Nat.add_zero, Nat.zero_add, Nat.reduceAdd, Nat.reduceMul]
                    refine g_pV kL_151 (lr_hour H9) (by decide +kernel) rfl rfl hm rfl (Nat.le_of_ble_eq_true rfl) (Nat.le_of_ble_eq_true rfl) (Nat.le_of_ble_eq_true rfl) rfl ?_
                    simp only [Option.toList_some, Option.toList_none, List.cons_append, List.nil_append]
                    refine g_blk [(.isub, .null), (.bipush 24, .int (nI 24))] (Nat.le_of_ble_eq_true rfl) (by decide +kernel) ?_
                    refine gx_isub (gx_bipush ((gx_nil ?_)))
                    refine g_irem (by decide) (by decide +kernel) ?_
                    refine g_blk [(.iconst 1, .int (nI 1)), (.iadd, .null)] (Nat.le_of_ble_eq_true rfl) (by decide +kernel) ?_
                    refine gx_iconst (gx_iadd ((gx_nil ?_)))
                    try simp only [nI_add, pk_mul, Nat.add_zero, Nat.zero_add, Nat.reduceAdd, Nat.reduceMul]
                    refine g_icmp_ne (off := 7) (tgt := 381) (by decide +kernel) (by decide) (fun c374 => ?_) (fun c374 => ?_)
                    · try simp only [bI_0, Decidable.not_not] at c374
                      exact absurd (ht_eq hr) c374
                    · try simp only [bI_0, Decidable.not_not] at c374
                      refine g_blk [(.iconst 1, .int (nI 1)), (.goto 4, .retAddr 382), (.istore_n 1, .null), (.iinc 2 1, .int (nI 1)), (.goto (-349), .retAddr 37)] (Nat.le_of_ble_eq_true rfl) (by decide +kernel) ?_
                      refine gx_iconst (gx_goto (gx_istore_n_1 rfl (gx_iinc_2 rfl (gx_goto ((gx_nil ?_))))))
                      try simp only [nI_add, pk_mul, Nat.add_zero, Nat.zero_add, Nat.reduceAdd, Nat.reduceMul]
                      refine g_weak (rc' := rc) (rs' := rs) (L' := [some (.ref m), some (.int (nI 1)), some (.int (nI (r + 1))), none, none, none, none, none, none]) ⟨rfl, rfl, rfl, True.intro⟩ (by omega) (by omega) ?_
                      exact K _ H9
                · try simp only [bI_0, Decidable.not_not] at c337
                  have gz : rg N r = 0 := nI_z (by omega) c337
                  rw [if_pos gz]
                  refine g_blk [(.sipush (-2004), .int (-2004)), (.goto 5, .retAddr 348)] (Nat.le_of_ble_eq_true rfl) (by decide +kernel) ?_
                  refine gx_sipush (gx_goto ((gx_nil ?_)))
                  refine g_icmp_ne (off := 33) (tgt := 381) (by decide +kernel) (by decide) (fun c348 => ?_) (fun c348 => ?_)
                  · try simp only [bI_0, Decidable.not_not] at c348
                    exact absurd (by first | rfl | trivial) c348
                  · try simp only [bI_0, Decidable.not_not] at c348
                    refine g_blk [(.aload_n 0, .null), (.iload_n 2, .null)] (Nat.le_of_ble_eq_true rfl) (by decide +kernel) ?_
                    refine gx_aload_n_0 (gx_iload_n_2 ((gx_nil ?_)))
                    refine g_pV kL_216 (lr_hoursToDeparture hp H9 hr) (by decide +kernel) rfl rfl hm rfl (Nat.le_of_ble_eq_true rfl) (Nat.le_of_ble_eq_true rfl) (Nat.le_of_ble_eq_true rfl) rfl ?_
                    simp only [Option.toList_some, Option.toList_none, List.cons_append, List.nil_append]
                    refine g_blk [(.aload_n 0, .null), (.iload_n 2, .null)] (Nat.le_of_ble_eq_true rfl) (by decide +kernel) ?_
                    refine gx_aload_n_0 (gx_iload_n_2 ((gx_nil ?_)))
                    refine g_pV kL_175 (lr_departure hp H9 hr) (by decide +kernel) rfl rfl hm rfl (Nat.le_of_ble_eq_true rfl) (Nat.le_of_ble_eq_true rfl) (Nat.le_of_ble_eq_true rfl) rfl ?_
                    simp only [Option.toList_some, Option.toList_none, List.cons_append, List.nil_append]
                    refine g_blk [(.bipush 23, .int (nI 23)), (.iadd, .null), (.aload_n 0, .null)] (Nat.le_of_ble_eq_true rfl) (by decide +kernel) ?_
                    refine gx_bipush (gx_iadd (gx_aload_n_0 ((gx_nil ?_))))
                    try simp only [nI_add, pk_mul, Nat.add_zero, Nat.zero_add, Nat.reduceAdd, Nat.reduceMul]
                    refine g_pV kL_151 (lr_hour H9) (by decide +kernel) rfl rfl hm rfl (Nat.le_of_ble_eq_true rfl) (Nat.le_of_ble_eq_true rfl) (Nat.le_of_ble_eq_true rfl) rfl ?_
                    simp only [Option.toList_some, Option.toList_none, List.cons_append, List.nil_append]
                    refine g_blk [(.isub, .null), (.bipush 24, .int (nI 24))] (Nat.le_of_ble_eq_true rfl) (by decide +kernel) ?_
                    refine gx_isub (gx_bipush ((gx_nil ?_)))
                    refine g_irem (by decide) (by decide +kernel) ?_
                    refine g_blk [(.iconst 1, .int (nI 1)), (.iadd, .null)] (Nat.le_of_ble_eq_true rfl) (by decide +kernel) ?_
                    refine gx_iconst (gx_iadd ((gx_nil ?_)))
                    try simp only [nI_add, pk_mul, Nat.add_zero, Nat.zero_add, Nat.reduceAdd, Nat.reduceMul]
                    refine g_icmp_ne (off := 7) (tgt := 381) (by decide +kernel) (by decide) (fun c374 => ?_) (fun c374 => ?_)
                    · try simp only [bI_0, Decidable.not_not] at c374
                      exact absurd (ht_eq hr) c374
                    · try simp only [bI_0, Decidable.not_not] at c374
                      refine g_blk [(.iconst 1, .int (nI 1)), (.goto 4, .retAddr 382), (.istore_n 1, .null), (.iinc 2 1, .int (nI 1)), (.goto (-349), .retAddr 37)] (Nat.le_of_ble_eq_true rfl) (by decide +kernel) ?_
                      refine gx_iconst (gx_goto (gx_istore_n_1 rfl (gx_iinc_2 rfl (gx_goto ((gx_nil ?_))))))
                      try simp only [nI_add, pk_mul, Nat.add_zero, Nat.zero_add, Nat.reduceAdd, Nat.reduceMul]
                      refine g_weak (rc' := rc) (rs' := rs) (L' := [some (.ref m), some (.int (nI 1)), some (.int (nI (r + 1))), none, none, none, none, none, none]) ⟨rfl, rfl, rfl, True.intro⟩ (by omega) (by omega) ?_
                      exact K _ H9
      · try simp only [bI_0, Decidable.not_not] at c188
        exact absurd (nI_le (by omega) (by omega)) c188
    | succ k ih =>
      intro b hb
      obtain ⟨v1, v2⟩ := hv b (by omega)
      obtain ⟨wb, hwb, ewb, -⟩ := bw_at I hn9 hr (b := b) (by omega)
      refine g_blk [(.iload 8, .null), (.iconst 3, .int (nI 3))] (Nat.le_of_ble_eq_true rfl) (by decide +kernel) ?_
      refine gx_iload_8 (gx_iconst ((gx_nil ?_)))
      refine g_icmp_ge (off := 102) (tgt := 290) (by decide +kernel) (by decide) (fun c188 => ?_) (fun c188 => ?_)
      · try simp only [bI_0, Decidable.not_not] at c188
        exact absurd ((nI_leI (by omega) (by omega)).mp c188) (by omega)
      · try simp only [bI_0, Decidable.not_not] at c188
        refine g_blk [(.iload_n 1, .null)] (Nat.le_of_ble_eq_true rfl) (by decide +kernel) ?_
        refine gx_iload_n_1 ((gx_nil ?_))
        refine g_if_eq (off := 90) (tgt := 282) (by decide +kernel) (by decide) (fun c192 => ?_) (fun c192 => ?_)
        · exact absurd c192 (by decide)
        · try simp only [bI_0, Decidable.not_not] at c192
          refine g_blk [(.aload 4, .null), (.iload 8, .null)] (Nat.le_of_ble_eq_true rfl) (by decide +kernel) ?_
          refine gx_aload_4 (gx_iload_8 ((gx_nil ?_)))
          refine g_iaload (by decide +kernel) hA1 (vp_in_nI (by omega) (by omega)) ?_
          rw [nI_clamp (by omega), v1, ewb]
          refine g_blk [(.sipush 150, .int (nI 150))] (Nat.le_of_ble_eq_true rfl) (by decide +kernel) ?_
          refine gx_sipush ((gx_nil ?_))
          refine g_icmp_gt (off := 79) (tgt := 282) (by decide +kernel) (by decide) (fun c203 => ?_) (fun c203 => ?_)
          · try simp only [bI_0, Decidable.not_not] at c203
            exact absurd ((nI_ltI (by omega) (by omega)).mp c203) (by omega)
          · try simp only [bI_0, Decidable.not_not] at c203
            refine g_blk [(.aload_n 0, .null), (.bipush 8, .int (nI 8)), (.iload_n 2, .null), (.iload 8, .null)] (Nat.le_of_ble_eq_true rfl) (by decide +kernel) ?_
            refine gx_aload_n_0 (gx_bipush (gx_iload_n_2 (gx_iload_8 ((gx_nil ?_)))))
            refine g_callSH (rc' := rc + 2 * k + 2) (rs' := rs + 12 * k + 12) kL_166 (aq_8 hp hnc H9 hr (by omega)) (by decide +kernel) rfl rfl (Nat.le_of_ble_eq_true rfl) (Nat.le_of_ble_eq_true rfl) (Nat.le_of_ble_eq_true rfl) (by omega) (by omega) rfl (fun _ _ z => z.elim) (fun v9 k5 hz => ?_)
            obtain ⟨rfl, rfl⟩ := hz
            simp only [Option.toList_some, Option.toList_none, List.cons_append, List.nil_append]
            refine g_blk [(.iload 8, .null), (.iload_n 3, .null)] (Nat.le_of_ble_eq_true rfl) (by decide +kernel) ?_
            refine gx_iload_8 (gx_iload_n_3 ((gx_nil ?_)))
            refine g_icmp_ge (off := 11) (tgt := 229) (by decide +kernel) (by decide) (fun c218 => ?_) (fun c218 => ?_)
            · try simp only [bI_0, Decidable.not_not] at c218
              have hb9 : ¬ b < rg N r := fun z => by
                have := (nI_leI (by omega) (by omega)).mp c218
                omega
              rw [if_neg hb9]
              refine g_blk [(.sipush (-2004), .int (-2004))] (Nat.le_of_ble_eq_true rfl) (by decide +kernel) ?_
              refine gx_sipush ((gx_nil ?_))
              refine g_icmp_ne (off := 50) (tgt := 282) (by decide +kernel) (by decide) (fun c232 => ?_) (fun c232 => ?_)
              · try simp only [bI_0, Decidable.not_not] at c232
                exact absurd (by first | rfl | trivial) c232
              · try simp only [bI_0, Decidable.not_not] at c232
                refine g_blk [(.aload_n 0, .null), (.bipush 9, .int (nI 9)), (.iload_n 2, .null), (.iload 8, .null)] (Nat.le_of_ble_eq_true rfl) (by decide +kernel) ?_
                refine gx_aload_n_0 (gx_bipush (gx_iload_n_2 (gx_iload_8 ((gx_nil ?_)))))
                refine g_callSH (rc' := rc + 2 * k + 1) (rs' := rs + 12 * k + 6) kL_166 (aq_9 hp hnc H9 hr (by omega)) (by decide +kernel) rfl rfl (Nat.le_of_ble_eq_true rfl) (Nat.le_of_ble_eq_true rfl) (Nat.le_of_ble_eq_true rfl) (by omega) (by omega) rfl (fun _ _ z => z.elim) (fun v9 k6 hz => ?_)
                obtain ⟨rfl, rfl⟩ := hz
                simp only [Option.toList_some, Option.toList_none, List.cons_append, List.nil_append]
                first | rw [if_pos hb9] | rw [if_neg hb9]
                refine g_blk [(.iload 8, .null), (.iload_n 3, .null)] (Nat.le_of_ble_eq_true rfl) (by decide +kernel) ?_
                refine gx_iload_8 (gx_iload_n_3 ((gx_nil ?_)))
                refine g_icmp_ge (off := 11) (tgt := 258) (by decide +kernel) (by decide) (fun c247 => ?_) (fun c247 => ?_)
                · try simp only [bI_0, Decidable.not_not] at c247
                  refine g_blk [(.sipush (-2004), .int (-2004))] (Nat.le_of_ble_eq_true rfl) (by decide +kernel) ?_
                  refine gx_sipush ((gx_nil ?_))
                  refine g_icmp_ne (off := 21) (tgt := 282) (by decide +kernel) (by decide) (fun c261 => ?_) (fun c261 => ?_)
                  · try simp only [bI_0, Decidable.not_not] at c261
                    exact absurd (by first | rfl | trivial) c261
                  · try simp only [bI_0, Decidable.not_not] at c261
                    refine g_blk [(.iload 8, .null), (.iload_n 3, .null)] (Nat.le_of_ble_eq_true rfl) (by decide +kernel) ?_
                    refine gx_iload_8 (gx_iload_n_3 ((gx_nil ?_)))
                    refine g_icmp_lt (off := 11) (tgt := 278) (by decide +kernel) (by decide) (fun c267 => ?_) (fun c267 => ?_)
                    · try simp only [bI_0, Decidable.not_not] at c267
                      exact absurd ((nI_ltI (by omega) (by omega)).mp c267) hb9
                    · try simp only [bI_0, Decidable.not_not] at c267
                      refine g_blk [(.aload 5, .null), (.iload 8, .null)] (Nat.le_of_ble_eq_true rfl) (by decide +kernel) ?_
                      refine gx_aload_5 (gx_iload_8 ((gx_nil ?_)))
                      refine g_iaload (by decide +kernel) hA2 (vp_in_nI (by omega) (by omega)) ?_
                      rw [nI_clamp (by omega), v2, (bz_0 I hr (by omega) (by omega) c (Nat.le_refl _)).2]
                      refine g_if_ne (off := 7) (tgt := 282) (by decide +kernel) (by decide) (fun c275 => ?_) (fun c275 => ?_)
                      · try simp only [bI_0, Decidable.not_not] at c275
                        exact absurd (by decide) c275
                      · try simp only [bI_0, Decidable.not_not] at c275
                        refine g_blk [(.iconst 1, .int (nI 1)), (.goto 4, .retAddr 283), (.istore_n 1, .null), (.iinc 8 1, .int (nI 1)), (.goto (-102), .retAddr 185)] (Nat.le_of_ble_eq_true rfl) (by decide +kernel) ?_
                        refine gx_iconst (gx_goto (gx_istore_n_1 rfl (gx_iinc_8 rfl (gx_goto ((gx_nil ?_))))))
                        try simp only [nI_add, pk_mul, Nat.add_zero, Nat.zero_add, Nat.reduceAdd, Nat.reduceMul]
                        refine g_weak (rc' := rc + 2 * k + 1) (rs' := rs + 12 * k + 6) (L' := [some (.ref m), some (.int (nI 1)), some (.int (nI r)), some (.int (nI (rg N r))), some (.ref q1), some (.ref q2), some (.int (nI w)), some (.int (nI fu)), some (.int (nI (b + 1)))]) ⟨rfl, rfl, rfl, rfl, rfl, rfl, rfl, rfl, rfl, True.intro⟩ (by omega) (by omega) ?_
                        exact ih (b + 1) (by omega)
                · try simp only [bI_0, Decidable.not_not] at c247
                  exact absurd (nI_le (by omega) (by omega)) c247
            · try simp only [bI_0, Decidable.not_not] at c218
              have hb9 : b < rg N r := by
                rcases Nat.lt_or_ge b (rg N r) with z | z
                · exact z
                · exact absurd (nI_le z (by omega)) c218
              rw [if_pos hb9]
              refine g_blk [(.aload 4, .null), (.iload 8, .null)] (Nat.le_of_ble_eq_true rfl) (by decide +kernel) ?_
              refine gx_aload_4 (gx_iload_8 ((gx_nil ?_)))
              refine g_iaload (by decide +kernel) hA1 (vp_in_nI (by omega) (by omega)) ?_
              rw [nI_clamp (by omega), v1]
              refine g_blk [(.goto 6, .retAddr 232)] (Nat.le_of_ble_eq_true rfl) (by decide +kernel) ?_
              refine gx_goto ((gx_nil ?_))
              refine g_icmp_ne (off := 50) (tgt := 282) (by decide +kernel) (by decide) (fun c232 => ?_) (fun c232 => ?_)
              · try simp only [bI_0, Decidable.not_not] at c232
                exact absurd (by first | rfl | trivial) c232
              · try simp only [bI_0, Decidable.not_not] at c232
                refine g_blk [(.aload_n 0, .null), (.bipush 9, .int (nI 9)), (.iload_n 2, .null), (.iload 8, .null)] (Nat.le_of_ble_eq_true rfl) (by decide +kernel) ?_
                refine gx_aload_n_0 (gx_bipush (gx_iload_n_2 (gx_iload_8 ((gx_nil ?_)))))
                refine g_callSH (rc' := rc + 2 * k + 1) (rs' := rs + 12 * k + 6) kL_166 (aq_9 hp hnc H9 hr (by omega)) (by decide +kernel) rfl rfl (Nat.le_of_ble_eq_true rfl) (Nat.le_of_ble_eq_true rfl) (Nat.le_of_ble_eq_true rfl) (by omega) (by omega) rfl (fun _ _ z => z.elim) (fun v9 k7 hz => ?_)
                obtain ⟨rfl, rfl⟩ := hz
                simp only [Option.toList_some, Option.toList_none, List.cons_append, List.nil_append]
                first | rw [if_pos hb9] | rw [if_neg hb9]
                refine g_blk [(.iload 8, .null), (.iload_n 3, .null)] (Nat.le_of_ble_eq_true rfl) (by decide +kernel) ?_
                refine gx_iload_8 (gx_iload_n_3 ((gx_nil ?_)))
                refine g_icmp_ge (off := 11) (tgt := 258) (by decide +kernel) (by decide) (fun c247 => ?_) (fun c247 => ?_)
                · try simp only [bI_0, Decidable.not_not] at c247
                  exact absurd ((nI_leI (by omega) (by omega)).mp c247) (by omega)
                · try simp only [bI_0, Decidable.not_not] at c247
                  refine g_blk [(.aload 5, .null), (.iload 8, .null)] (Nat.le_of_ble_eq_true rfl) (by decide +kernel) ?_
                  refine gx_aload_5 (gx_iload_8 ((gx_nil ?_)))
                  refine g_iaload (by decide +kernel) hA2 (vp_in_nI (by omega) (by omega)) ?_
                  rw [nI_clamp (by omega), v2]
                  refine g_blk [(.goto 6, .retAddr 261)] (Nat.le_of_ble_eq_true rfl) (by decide +kernel) ?_
                  refine gx_goto ((gx_nil ?_))
                  refine g_icmp_ne (off := 21) (tgt := 282) (by decide +kernel) (by decide) (fun c261 => ?_) (fun c261 => ?_)
                  · try simp only [bI_0, Decidable.not_not] at c261
                    exact absurd (by first | rfl | trivial) c261
                  · try simp only [bI_0, Decidable.not_not] at c261
                    refine g_blk [(.iload 8, .null), (.iload_n 3, .null)] (Nat.le_of_ble_eq_true rfl) (by decide +kernel) ?_
                    refine gx_iload_8 (gx_iload_n_3 ((gx_nil ?_)))
                    refine g_icmp_lt (off := 11) (tgt := 278) (by decide +kernel) (by decide) (fun c267 => ?_) (fun c267 => ?_)
                    · try simp only [bI_0, Decidable.not_not] at c267
                      refine g_blk [(.iconst 1, .int (nI 1)), (.goto 4, .retAddr 283), (.istore_n 1, .null), (.iinc 8 1, .int (nI 1)), (.goto (-102), .retAddr 185)] (Nat.le_of_ble_eq_true rfl) (by decide +kernel) ?_
                      refine gx_iconst (gx_goto (gx_istore_n_1 rfl (gx_iinc_8 rfl (gx_goto ((gx_nil ?_))))))
                      try simp only [nI_add, pk_mul, Nat.add_zero, Nat.zero_add, Nat.reduceAdd, Nat.reduceMul]
                      refine g_weak (rc' := rc + 2 * k + 1) (rs' := rs + 12 * k + 6) (L' := [some (.ref m), some (.int (nI 1)), some (.int (nI r)), some (.int (nI (rg N r))), some (.ref q1), some (.ref q2), some (.int (nI w)), some (.int (nI fu)), some (.int (nI (b + 1)))]) ⟨rfl, rfl, rfl, rfl, rfl, rfl, rfl, rfl, rfl, True.intro⟩ (by omega) (by omega) ?_
                      exact ih (b + 1) (by omega)
                    · try simp only [bI_0, Decidable.not_not] at c267
                      exact absurd (nI_lt hb9 (by omega)) c267
  refine g_weak (rc' := rc + 2 * 3 + 1) (rs' := rs + 12 * 3 + 6) (L' := [some (.ref m), some (.int (nI 1)), some (.int (nI r)), some (.int (nI (rg N r))), some (.ref q1), some (.ref q2), some (.int (nI w)), some (.int (nI fu)), none]) ⟨rfl, rfl, rfl, rfl, rfl, rfl, rfl, rfl, True.intro⟩ (by omega) (by omega) ?_
  refine g_blk [(.iconst 0, .int (nI 0)), (.istore 8, .null)] (Nat.le_of_ble_eq_true rfl) (by decide +kernel) ?_
  refine gx_iconst (gx_istore_8 rfl ((gx_nil ?_)))
  exact loop 3 0 (by omega)
theorem bg_mid (hd : gDi Γ) (hp : gPxs Γ) (hnc : gPnc Γ) (H : lP bm Γ de h m N c t nx) (hr : r < 6) (hq1 : h q1 = none) (hq2 : h q2 = none) (nq : q2 ≠ q1) {f1 f2 : Nat → Int32} (hv : bvI N r c f1 f2) (K : ∀ h', lP bm Γ de h' m N c t nx → G Γ M_L_areBagsRight 40 mc ms (fun v h' => v = some (.int (nI 1)) ∧ lP bm Γ de h' m N c t nx) (fun _ _ => False) rc rs 37 [some (.ref m), some (.int (nI 1)), some (.int (nI (r + 1))), none, none, none, none, none, none] [] h') : G Γ M_L_areBagsRight 40 mc ms (fun v h' => v = some (.int (nI 1)) ∧ lP bm Γ de h' m N c t nx) (fun _ _ => False) (rc + 7) (rs + 42) 128 [some (.ref m), some (.int (nI 1)), some (.int (nI r)), some (.int (nI (rg N r))), some (.ref q1), some (.ref q2), none, none, none] [] (h2 Γ h q1 q2 f1 f2) := by
  have I := H.iv.1
  have hn9 := H.iv.2
  obtain ⟨g3, -⟩ := I.g3 (a := r) (by omega)
  obtain ⟨w0, hw0, ew0, es0⟩ := bw_at I hn9 hr (b := 0) (by omega)
  obtain ⟨w1, hw1, ew1, es1⟩ := bw_at I hn9 hr (b := 1) (by omega)
  obtain ⟨w2, hw2, ew2, es2⟩ := bw_at I hn9 hr (b := 2) (by omega)
  have hws := bw_sum I hn9 hr
  rw [← es0, ← es1, ← es2] at hws
  have d0 : f1 0 = nI w0 := (hv 0 (by omega)).1.trans ew0
  have d1 : f1 1 = nI w1 := (hv 1 (by omega)).1.trans ew1
  have d2 : f1 2 = nI w2 := (hv 2 (by omega)).1.trans ew2
  have z1 : rg N r ≤ 1 → w1 = 0 := fun z => (nI_eq (by omega) (by omega)).mp (ew1.symm.trans (bz_0 I hr z (by omega) c (Nat.le_refl _)).1)
  have z2 : rg N r ≤ 2 → w2 = 0 := fun z => (nI_eq (by omega) (by omega)).mp (ew2.symm.trans (bz_0 I hr z (by omega) c (Nat.le_refl _)).1)
  have fl := fb_law ew0 ew1 ew2 hw0 hw1 hw2 z1 z2
  have H9 := H.two hd hq1 hq2 nq f1 f2
  have hA1 := h2_a (Γ := Γ) (h := h) (f1 := f1) (f2 := f2) nq
  have hA2 := h2_b (Γ := Γ) (h := h) (q1 := q1) (q2 := q2) (f1 := f1) (f2 := f2)
  obtain ⟨fs, hm⟩ := H9.at12
  refine g_blk [(.aload 4, .null), (.iconst 0, .int (nI 0))] (Nat.le_of_ble_eq_true rfl) (by decide +kernel) ?_
  refine gx_aload_4 (gx_iconst ((gx_nil ?_)))
  refine g_iaload (by decide +kernel) hA1 (vp_in_nI (by omega) (by omega)) ?_
  rw [nI_clamp (by omega)]
  first | rw [d0] | rw [d1] | rw [d2]
  refine g_blk [(.aload 4, .null), (.iconst 1, .int (nI 1))] (Nat.le_of_ble_eq_true rfl) (by decide +kernel) ?_
  refine gx_aload_4 (gx_iconst ((gx_nil ?_)))
  refine g_iaload (by decide +kernel) hA1 (vp_in_nI (by omega) (by omega)) ?_
  rw [nI_clamp (by omega)]
  first | rw [d0] | rw [d1] | rw [d2]
  refine g_blk [(.iadd, .null), (.aload 4, .null), (.iconst 2, .int (nI 2))] (Nat.le_of_ble_eq_true rfl) (by decide +kernel) ?_
  refine gx_iadd (gx_aload_4 (gx_iconst ((gx_nil ?_))))
  try simp only [nI_add, pk_mul, Nat.add_zero, Nat.zero_add, Nat.reduceAdd, Nat.reduceMul]
  refine g_iaload (by decide +kernel) hA1 (vp_in_nI (by omega) (by omega)) ?_
  rw [nI_clamp (by omega)]
  first | rw [d0] | rw [d1] | rw [d2]
  refine g_blk [(.iadd, .null), (.istore 6, .null), (.aload 4, .null), (.iconst 1, .int (nI 1))] (Nat.le_of_ble_eq_true rfl) (by decide +kernel) ?_
  refine gx_iadd (gx_istore_6 rfl (gx_aload_4 (gx_iconst ((gx_nil ?_)))))
  try simp only [nI_add, pk_mul, Nat.add_zero, Nat.zero_add, Nat.reduceAdd, Nat.reduceMul]
  refine g_iaload (by decide +kernel) hA1 (vp_in_nI (by omega) (by omega)) ?_
  rw [nI_clamp (by omega)]
  first | rw [d0] | rw [d1] | rw [d2]
  refine g_blk [(.aload 4, .null), (.iconst 0, .int (nI 0))] (Nat.le_of_ble_eq_true rfl) (by decide +kernel) ?_
  refine gx_aload_4 (gx_iconst ((gx_nil ?_)))
  refine g_iaload (by decide +kernel) hA1 (vp_in_nI (by omega) (by omega)) ?_
  rw [nI_clamp (by omega)]
  first | rw [d0] | rw [d1] | rw [d2]
  refine g_icmp_le (off := 7) (tgt := 159) (by decide +kernel) (by decide) (fun c152 => ?_) (fun c152 => ?_)
  · try simp only [bI_0, Decidable.not_not] at c152
    refine g_blk [(.iconst 0, .int (nI 0)), (.istore 7, .null), (.aload 4, .null), (.iconst 2, .int (nI 2))] (Nat.le_of_ble_eq_true rfl) (by decide +kernel) ?_
    refine gx_iconst (gx_istore_7 rfl (gx_aload_4 (gx_iconst ((gx_nil ?_)))))
    refine g_iaload (by decide +kernel) hA1 (vp_in_nI (by omega) (by omega)) ?_
    rw [nI_clamp (by omega)]
    first | rw [d0] | rw [d1] | rw [d2]
    refine g_blk [(.aload 4, .null), (.iload 7, .null)] (Nat.le_of_ble_eq_true rfl) (by decide +kernel) ?_
    refine gx_aload_4 (gx_iload_7 ((gx_nil ?_)))
    refine g_iaload (by decide +kernel) hA1 (vp_in_nI (by omega) (by omega)) ?_
    rw [nI_clamp (by omega)]
    first | rw [d0] | rw [d1] | rw [d2]
    refine g_icmp_le (off := 7) (tgt := 178) (by decide +kernel) (by decide) (fun c171 => ?_) (fun c171 => ?_)
    · try simp only [bI_0, Decidable.not_not] at c171
      refine g_blk [(.iload 7, .null), (.istore 7, .null)] (Nat.le_of_ble_eq_true rfl) (by decide +kernel) ?_
      refine gx_iload_7 (gx_istore_7 rfl ((gx_nil ?_)))
      have k1 : ¬ w0 < w1 := fun z => by
        have := (nI_leI (by omega) (by omega)).mp c152
        omega
      have k2 : ¬ w0 < w2 := fun z => by
        have := (nI_leI (by omega) (by omega)).mp c171
        omega
      have ef : fuN w0 w1 w2 = 0 := by
        unfold fuN
        rw [if_neg k1, if_neg k2]
      rw [ef] at fl
      exact bg_tail hd hp hnc H hr hq1 hq2 nq hv hws (fun g0 => fl g0 g3) K
    · try simp only [bI_0, Decidable.not_not] at c171
      refine g_blk [(.iconst 2, .int (nI 2)), (.goto 5, .retAddr 180), (.istore 7, .null)] (Nat.le_of_ble_eq_true rfl) (by decide +kernel) ?_
      refine gx_iconst (gx_goto (gx_istore_7 rfl ((gx_nil ?_))))
      have k1 : ¬ w0 < w1 := fun z => by
        have := (nI_leI (by omega) (by omega)).mp c152
        omega
      have k2 : w0 < w2 := Nat.lt_of_not_le (fun z => c171 (nI_le z (by omega)))
      have ef : fuN w0 w1 w2 = 2 := by
        unfold fuN
        rw [if_neg k1, if_pos k2]
      rw [ef] at fl
      exact bg_tail hd hp hnc H hr hq1 hq2 nq hv hws (fun g0 => fl g0 g3) K
  · try simp only [bI_0, Decidable.not_not] at c152
    refine g_blk [(.iconst 1, .int (nI 1)), (.goto 4, .retAddr 160), (.istore 7, .null), (.aload 4, .null), (.iconst 2, .int (nI 2))] (Nat.le_of_ble_eq_true rfl) (by decide +kernel) ?_
    refine gx_iconst (gx_goto (gx_istore_7 rfl (gx_aload_4 (gx_iconst ((gx_nil ?_))))))
    refine g_iaload (by decide +kernel) hA1 (vp_in_nI (by omega) (by omega)) ?_
    rw [nI_clamp (by omega)]
    first | rw [d0] | rw [d1] | rw [d2]
    refine g_blk [(.aload 4, .null), (.iload 7, .null)] (Nat.le_of_ble_eq_true rfl) (by decide +kernel) ?_
    refine gx_aload_4 (gx_iload_7 ((gx_nil ?_)))
    refine g_iaload (by decide +kernel) hA1 (vp_in_nI (by omega) (by omega)) ?_
    rw [nI_clamp (by omega)]
    first | rw [d0] | rw [d1] | rw [d2]
    refine g_icmp_le (off := 7) (tgt := 178) (by decide +kernel) (by decide) (fun c171 => ?_) (fun c171 => ?_)
    · try simp only [bI_0, Decidable.not_not] at c171
      refine g_blk [(.iload 7, .null), (.istore 7, .null)] (Nat.le_of_ble_eq_true rfl) (by decide +kernel) ?_
      refine gx_iload_7 (gx_istore_7 rfl ((gx_nil ?_)))
      have k1 : w0 < w1 := Nat.lt_of_not_le (fun z => c152 (nI_le z (by omega)))
      have k2 : ¬ w1 < w2 := fun z => by
        have := (nI_leI (by omega) (by omega)).mp c171
        omega
      have ef : fuN w0 w1 w2 = 1 := by
        unfold fuN
        rw [if_pos k1, if_neg k2]
      rw [ef] at fl
      exact bg_tail hd hp hnc H hr hq1 hq2 nq hv hws (fun g0 => fl g0 g3) K
    · try simp only [bI_0, Decidable.not_not] at c171
      refine g_blk [(.iconst 2, .int (nI 2)), (.goto 5, .retAddr 180), (.istore 7, .null)] (Nat.le_of_ble_eq_true rfl) (by decide +kernel) ?_
      refine gx_iconst (gx_goto (gx_istore_7 rfl ((gx_nil ?_))))
      have k1 : w0 < w1 := Nat.lt_of_not_le (fun z => c152 (nI_le z (by omega)))
      have k2 : w1 < w2 := Nat.lt_of_not_le (fun z => c171 (nI_le z (by omega)))
      have ef : fuN w0 w1 w2 = 2 := by
        unfold fuN
        rw [if_pos k1, if_pos k2]
      rw [ef] at fl
      exact bg_tail hd hp hnc H hr hq1 hq2 nq hv hws (fun g0 => fl g0 g3) K
theorem bg_let (hd : gDi Γ) (hp : gPxs Γ) (hnc : gPnc Γ) (H : lP bm Γ de h m N c t nx) (hr : r < 6) (hq1 : h q1 = none) (hq2 : h q2 = none) (nq : q2 ≠ q1) (K : ∀ h', lP bm Γ de h' m N c t nx → G Γ M_L_areBagsRight 40 mc ms (fun v h' => v = some (.int (nI 1)) ∧ lP bm Γ de h' m N c t nx) (fun _ _ => False) rc rs 37 [some (.ref m), some (.int (nI 1)), some (.int (nI (r + 1))), none, none, none, none, none, none] [] h') : ∀ k i (f1 f2 : Nat → Int32), i + k = c → bvI N r i f1 f2 → G Γ M_L_areBagsRight 40 mc ms (fun v h' => v = some (.int (nI 1)) ∧ lP bm Γ de h' m N c t nx) (fun _ _ => False) (rc + 7 + k) (rs + 42 + 6 * k) 62 [some (.ref m), some (.int (nI 1)), some (.int (nI r)), some (.int (nI (rg N r))), some (.ref q1), some (.ref q2), some (.int (nI i)), none, none] [] (h2 Γ h q1 q2 f1 f2) := by
  have I := H.iv.1
  have hn9 := H.iv.2
  have hc := I.hc
  obtain ⟨g3, -⟩ := I.g3 (a := r) (by omega)
  intro k
  induction k with
  | zero =>
    intro i f1 f2 hi hv
    have ei : i = c := by omega
    subst ei
    have H9 := H.two hd hq1 hq2 nq f1 f2
    have hA1 := h2_a (Γ := Γ) (h := h) (f1 := f1) (f2 := f2) nq
    have hA2 := h2_b (Γ := Γ) (h := h) (q1 := q1) (q2 := q2) (f1 := f1) (f2 := f2)
    obtain ⟨fs, hm⟩ := H9.at12
    refine g_blk [(.iload 6, .null), (.aload_n 0, .null)] (Nat.le_of_ble_eq_true rfl) (by decide +kernel) ?_
    refine gx_iload_6 (gx_aload_n_0 ((gx_nil ?_)))
    refine g_pV kL_144 (lr_letterCount H9) (by decide +kernel) rfl rfl hm rfl (Nat.le_of_ble_eq_true rfl) (Nat.le_of_ble_eq_true rfl) (Nat.le_of_ble_eq_true rfl) rfl ?_
    simp only [Option.toList_some, Option.toList_none, List.cons_append, List.nil_append]
    refine g_icmp_ge (off := 60) (tgt := 128) (by decide +kernel) (by decide) (fun c68 => ?_) (fun c68 => ?_)
    · try simp only [bI_0, Decidable.not_not] at c68
      refine g_weak (rc' := rc + 7) (rs' := rs + 42) (L' := [some (.ref m), some (.int (nI 1)), some (.int (nI r)), some (.int (nI (rg N r))), some (.ref q1), some (.ref q2), none, none, none]) ⟨rfl, rfl, rfl, rfl, rfl, rfl, True.intro⟩ (by omega) (by omega) ?_
      exact bg_mid hd hp hnc H hr hq1 hq2 nq hv K
    · try simp only [bI_0, Decidable.not_not] at c68
      exact absurd (Int32.le_refl _) c68
  | succ k ih =>
    intro i f1 f2 hi hv
    have hic : i < c := by omega
    obtain ⟨i9, cd, w9, pr9, q9, -, -, -, -, -, -, -, -, -, -, -, hA⟩ := I.let9 hic
    have H9 := H.two hd hq1 hq2 nq f1 f2
    have hA1 := h2_a (Γ := Γ) (h := h) (f1 := f1) (f2 := f2) nq
    have hA2 := h2_b (Γ := Γ) (h := h) (q1 := q1) (q2 := q2) (f1 := f1) (f2 := f2)
    obtain ⟨fs, hm⟩ := H9.at12
    refine g_blk [(.iload 6, .null), (.aload_n 0, .null)] (Nat.le_of_ble_eq_true rfl) (by decide +kernel) ?_
    refine gx_iload_6 (gx_aload_n_0 ((gx_nil ?_)))
    refine g_pV kL_144 (lr_letterCount H9) (by decide +kernel) rfl rfl hm rfl (Nat.le_of_ble_eq_true rfl) (Nat.le_of_ble_eq_true rfl) (Nat.le_of_ble_eq_true rfl) rfl ?_
    simp only [Option.toList_some, Option.toList_none, List.cons_append, List.nil_append]
    refine g_icmp_ge (off := 60) (tgt := 128) (by decide +kernel) (by decide) (fun c68 => ?_) (fun c68 => ?_)
    · try simp only [bI_0, Decidable.not_not] at c68
      exact absurd ((nI_leI (by omega) (by omega)).mp c68) (by omega)
    · try simp only [bI_0, Decidable.not_not] at c68
      refine g_blk [(.aload_n 0, .null), (.iload 6, .null)] (Nat.le_of_ble_eq_true rfl) (by decide +kernel) ?_
      refine gx_aload_n_0 (gx_iload_6 ((gx_nil ?_)))
      refine g_pV kL_67 (lr_idAt hp H9 hic) (by decide +kernel) rfl rfl hm rfl (Nat.le_of_ble_eq_true rfl) (Nat.le_of_ble_eq_true rfl) (Nat.le_of_ble_eq_true rfl) rfl ?_
      simp only [Option.toList_some, Option.toList_none, List.cons_append, List.nil_append]
      refine g_blk [(.istore 7, .null), (.aload_n 0, .null), (.iconst 2, .int (nI 2)), (.iload 7, .null), (.iconst 0, .int (nI 0))] (Nat.le_of_ble_eq_true rfl) (by decide +kernel) ?_
      refine gx_istore_7 rfl (gx_aload_n_0 (gx_iconst (gx_iload_7 (gx_iconst ((gx_nil ?_))))))
      refine g_callSH (rc' := rc + 7 + k + 0) (rs' := rs + 42 + 6 * k + 0) kL_166 (aq_2 hp hnc H9 hic) (by decide +kernel) rfl rfl (Nat.le_of_ble_eq_true rfl) (Nat.le_of_ble_eq_true rfl) (Nat.le_of_ble_eq_true rfl) (by omega) (by omega) rfl (fun _ _ z => z.elim) (fun v9 k5 hz => ?_)
      obtain ⟨rfl, rfl⟩ := hz
      simp only [Option.toList_some, Option.toList_none, List.cons_append, List.nil_append]
      refine g_blk [(.iload_n 2, .null)] (Nat.le_of_ble_eq_true rfl) (by decide +kernel) ?_
      refine gx_iload_n_2 ((gx_nil ?_))
      refine g_icmp_ne (off := 34) (tgt := 122) (by decide +kernel) (by decide) (fun c88 => ?_) (fun c88 => ?_)
      · try simp only [bI_0, Decidable.not_not] at c88
        have h5 : ¬ N (62 + 7 * i + 5) = nI r := fun z => c88 (by rw [z, if_neg (nI_nm1 (by omega))])
        refine g_blk [(.iinc 6 1, .int (nI 1)), (.goto (-63), .retAddr 62)] (Nat.le_of_ble_eq_true rfl) (by decide +kernel) ?_
        refine gx_iinc_6 rfl (gx_goto ((gx_nil ?_)))
        try simp only [nI_add, pk_mul, Nat.add_zero, Nat.zero_add, Nat.reduceAdd, Nat.reduceMul]
        refine g_weak (rc' := rc + 7 + k) (rs' := rs + 42 + 6 * k) (L' := [some (.ref m), some (.int (nI 1)), some (.int (nI r)), some (.int (nI (rg N r))), some (.ref q1), some (.ref q2), some (.int (nI (i + 1))), none, none]) ⟨rfl, rfl, rfl, rfl, rfl, rfl, rfl, True.intro⟩ (by omega) (by omega) ?_
        exact ih (i + 1) _ _ (by omega) (bv_no h5 hv)
      · try simp only [bI_0, Decidable.not_not] at c88
        have h5n : ¬ N (62 + 7 * i + 5) = -1 := fun z => by
          rw [if_pos z] at c88
          exact absurd c88 (n5_r hr)
        have h5 : N (62 + 7 * i + 5) = nI r := by
          rw [if_neg h5n] at c88
          exact c88
        obtain ⟨a9, b9, ha9, hb9, ea9, eb9⟩ := hA.resolve_left h5n
        have ear := (nI_eq (by omega) (by omega)).mp (ea9.symm.trans h5)
        rw [ear] at hb9
        refine g_blk [(.aload 4, .null), (.aload_n 0, .null), (.iload 7, .null)] (Nat.le_of_ble_eq_true rfl) (by decide +kernel) ?_
        refine gx_aload_4 (gx_aload_n_0 (gx_iload_7 ((gx_nil ?_))))
        refine g_pV kL_76 (lr_bagOf hp H9 hic h5n) (by decide +kernel) rfl rfl hm rfl (Nat.le_of_ble_eq_true rfl) (Nat.le_of_ble_eq_true rfl) (Nat.le_of_ble_eq_true rfl) rfl ?_
        simp only [Option.toList_some, Option.toList_none, List.cons_append, List.nil_append]
        rw [eb9]
        refine g_blk [(.dup2, .null)] (Nat.le_of_ble_eq_true rfl) (by decide +kernel) ?_
        refine gx_dup2ir ((gx_nil ?_))
        refine g_iaload (by decide +kernel) hA1 (vp_in_nI (by omega) (by omega)) ?_
        rw [nI_clamp (by omega)]
        refine g_blk [(.aload_n 0, .null), (.iload 7, .null)] (Nat.le_of_ble_eq_true rfl) (by decide +kernel) ?_
        refine gx_aload_n_0 (gx_iload_7 ((gx_nil ?_)))
        refine g_pV kL_178 (lr_weightOf hp H9 hic) (by decide +kernel) rfl rfl hm rfl (Nat.le_of_ble_eq_true rfl) (Nat.le_of_ble_eq_true rfl) (Nat.le_of_ble_eq_true rfl) rfl ?_
        simp only [Option.toList_some, Option.toList_none, List.cons_append, List.nil_append]
        refine g_blk [(.iadd, .null)] (Nat.le_of_ble_eq_true rfl) (by decide +kernel) ?_
        refine gx_iadd ((gx_nil ?_))
        try simp only [nI_add, pk_mul, Nat.add_zero, Nat.zero_add, Nat.reduceAdd, Nat.reduceMul]
        refine g_iastore (by decide +kernel) hA1 (vp_in_nI (by omega) (by omega)) ?_
        rw [nI_clamp (by omega)]
        refine g_hp (h1 := h2 Γ h q1 q2 (upd f1 b9 (f1 b9 + N (62 + 7 * i + 2))) f2) (h2_w1 nq) ?_
        have H9 := H.two hd hq1 hq2 nq (upd f1 b9 (f1 b9 + N (62 + 7 * i + 2))) f2
        have hA1 := h2_a (Γ := Γ) (h := h) (f1 := upd f1 b9 (f1 b9 + N (62 + 7 * i + 2))) (f2 := f2) nq
        have hA2 := h2_b (Γ := Γ) (h := h) (q1 := q1) (q2 := q2) (f1 := upd f1 b9 (f1 b9 + N (62 + 7 * i + 2))) (f2 := f2)
        obtain ⟨fs, hm⟩ := H9.at12
        refine g_blk [(.aload 5, .null), (.aload_n 0, .null), (.iload 7, .null)] (Nat.le_of_ble_eq_true rfl) (by decide +kernel) ?_
        refine gx_aload_5 (gx_aload_n_0 (gx_iload_7 ((gx_nil ?_))))
        refine g_pV kL_76 (lr_bagOf hp H9 hic h5n) (by decide +kernel) rfl rfl hm rfl (Nat.le_of_ble_eq_true rfl) (Nat.le_of_ble_eq_true rfl) (Nat.le_of_ble_eq_true rfl) rfl ?_
        simp only [Option.toList_some, Option.toList_none, List.cons_append, List.nil_append]
        rw [eb9]
        refine g_blk [(.dup2, .null)] (Nat.le_of_ble_eq_true rfl) (by decide +kernel) ?_
        refine gx_dup2ir ((gx_nil ?_))
        refine g_iaload (by decide +kernel) hA2 (vp_in_nI (by omega) (by omega)) ?_
        rw [nI_clamp (by omega)]
        refine g_blk [(.iconst 1, .int (nI 1)), (.iadd, .null)] (Nat.le_of_ble_eq_true rfl) (by decide +kernel) ?_
        refine gx_iconst (gx_iadd ((gx_nil ?_)))
        try simp only [nI_add, pk_mul, Nat.add_zero, Nat.zero_add, Nat.reduceAdd, Nat.reduceMul]
        refine g_iastore (by decide +kernel) hA2 (vp_in_nI (by omega) (by omega)) ?_
        rw [nI_clamp (by omega)]
        refine g_hp (h1 := h2 Γ h q1 q2 (upd f1 b9 (f1 b9 + N (62 + 7 * i + 2))) (upd f2 b9 (f2 b9 + nI 1))) h2_w2 ?_
        refine g_blk [(.iinc 6 1, .int (nI 1)), (.goto (-63), .retAddr 62)] (Nat.le_of_ble_eq_true rfl) (by decide +kernel) ?_
        refine gx_iinc_6 rfl (gx_goto ((gx_nil ?_)))
        try simp only [nI_add, pk_mul, Nat.add_zero, Nat.zero_add, Nat.reduceAdd, Nat.reduceMul]
        refine g_weak (rc' := rc + 7 + k) (rs' := rs + 42 + 6 * k) (L' := [some (.ref m), some (.int (nI 1)), some (.int (nI r)), some (.int (nI (rg N r))), some (.ref q1), some (.ref q2), some (.int (nI (i + 1))), none, none]) ⟨rfl, rfl, rfl, rfl, rfl, rfl, rfl, True.intro⟩ (by omega) (by omega) ?_
        exact ih (i + 1) _ _ (by omega) (bv_up hr h5 eb9 (by omega) hv)
theorem la_areBagsRight (hd : gDi Γ) (hp : gPxs Γ) (hnc : gPnc Γ) (H : lP bm Γ de h m N c t nx) : gC Γ M_L_areBagsRight [.ref m] h 40 180 1100 (fun v h' => v = some (.int (nI 1)) ∧ lP bm Γ de h' m N c t nx) (fun _ _ => False) := by
  have I := H.iv.1
  have hc := I.hc
  have loop : ∀ n r (h : gHp), lP bm Γ de h m N c t nx → r + n = 6 → G Γ M_L_areBagsRight 40 180 1100 (fun v h' => v = some (.int (nI 1)) ∧ lP bm Γ de h' m N c t nx) (fun _ _ => False) (29 * n) (168 * n) 37 [some (.ref m), some (.int (nI 1)), some (.int (nI r)), none, none, none, none, none, none] [] h := by
    intro n
    induction n with
    | zero =>
      intro r h H hr
      obtain ⟨fs, hm⟩ := H.at12
      refine g_blk [(.iload_n 2, .null), (.bipush 6, .int (nI 6))] (Nat.le_of_ble_eq_true rfl) (by decide +kernel) ?_
      refine gx_iload_n_2 (gx_bipush ((gx_nil ?_)))
      refine g_icmp_ge (off := 349) (tgt := 389) (by decide +kernel) (by decide) (fun c40 => ?_) (fun c40 => ?_)
      · try simp only [bI_0, Decidable.not_not] at c40
        refine g_blk [(.iload_n 1, .null)] (Nat.le_of_ble_eq_true rfl) (by decide +kernel) ?_
        refine gx_iload_n_1 ((gx_nil ?_))
        refine g_end (some (.int _)) rfl ⟨by decide +kernel, _, rfl, (by first | rfl | exact bI_nar _)⟩ ?_
        exact ⟨rfl, H⟩
      · try simp only [bI_0, Decidable.not_not] at c40
        exact absurd (nI_le (by omega) (by omega)) c40
    | succ n ih =>
      intro r h H hr
      obtain ⟨fs, hm⟩ := H.at12
      refine g_blk [(.iload_n 2, .null), (.bipush 6, .int (nI 6))] (Nat.le_of_ble_eq_true rfl) (by decide +kernel) ?_
      refine gx_iload_n_2 (gx_bipush ((gx_nil ?_)))
      refine g_icmp_ge (off := 349) (tgt := 389) (by decide +kernel) (by decide) (fun c40 => ?_) (fun c40 => ?_)
      · try simp only [bI_0, Decidable.not_not] at c40
        exact absurd ((nI_leI (by omega) (by omega)).mp c40) (by omega)
      · try simp only [bI_0, Decidable.not_not] at c40
        refine g_blk [(.aload_n 0, .null), (.iload_n 2, .null)] (Nat.le_of_ble_eq_true rfl) (by decide +kernel) ?_
        refine gx_aload_n_0 (gx_iload_n_2 ((gx_nil ?_)))
        refine g_pV kL_169 (lr_bagCount hp H (by omega)) (by decide +kernel) rfl rfl hm rfl (Nat.le_of_ble_eq_true rfl) (Nat.le_of_ble_eq_true rfl) (Nat.le_of_ble_eq_true rfl) rfl ?_
        simp only [Option.toList_some, Option.toList_none, List.cons_append, List.nil_append]
        refine g_blk [(.istore_n 3, .null), (.iconst 3, .int (nI 3))] (Nat.le_of_ble_eq_true rfl) (by decide +kernel) ?_
        refine gx_istore_n_3 rfl (gx_iconst ((gx_nil ?_)))
        refine g_newarr_i (N := 3) (rc' := 29 * n + 28) (rs' := 168 * n + 165) (by decide +kernel) wAI (by decide) (by decide) (by decide) (by omega) (by omega) (fun q1 hq1 => ?_)
        refine g_blk [(.astore 4, .null), (.iconst 3, .int (nI 3))] (Nat.le_of_ble_eq_true rfl) (by decide +kernel) ?_
        refine gx_astore_4 rfl (gx_iconst ((gx_nil ?_)))
        refine g_newarr_i (N := 3) (rc' := 29 * n + 27) (rs' := 168 * n + 162) (by decide +kernel) wAI (by decide) (by decide) (by decide) (by omega) (by omega) (fun q2 hq2 => ?_)
        have nq : q2 ≠ q1 := fun z => by
          rw [z, gUp_s] at hq2
          cases hq2
        have hq29 : h q2 = none := by
          rw [gUp_n _ _ nq] at hq2
          exact hq2
        refine g_blk [(.astore 5, .null), (.iconst 0, .int (nI 0)), (.istore 6, .null)] (Nat.le_of_ble_eq_true rfl) (by decide +kernel) ?_
        refine gx_astore_5 rfl (gx_iconst (gx_istore_6 rfl ((gx_nil ?_))))
        refine g_weak (rc' := 29 * n + 7 + c) (rs' := 168 * n + 42 + 6 * c) (L' := [some (.ref m), some (.int (nI 1)), some (.int (nI r)), some (.int (nI (rg N r))), some (.ref q1), some (.ref q2), some (.int (nI 0)), none, none]) ⟨rfl, rfl, rfl, rfl, rfl, rfl, rfl, True.intro⟩ (by omega) (by omega) ?_
        exact bg_let (rc := 29 * n) (rs := 168 * n) hd hp hnc H (by omega) hq1 hq29 nq (fun h9 H9 => ih (r + 1) h9 H9 (by omega)) c 0 _ _ (by omega) (fun b hb => ⟨rfl, rfl⟩)
  obtain ⟨fs, hm⟩ := H.at12
  refine gC_of (by decide) rfl (Nat.le_of_ble_eq_true rfl) [some (.ref m), none, none, none, none, none, none, none, none] rfl ?_
  refine g_blk [(.aload_n 0, .null), (.bipush 8, .int (nI 8)), (.bipush 6, .int (nI 6)), (.iconst 0, .int (nI 0))] (Nat.le_of_ble_eq_true rfl) (by decide +kernel) ?_
  refine gx_aload_n_0 (gx_bipush (gx_bipush (gx_iconst ((gx_nil ?_)))))
  refine g_callSH (rc' := 179) (rs' := 1094) kL_166 (aq_8x hp hnc H) (by decide +kernel) rfl rfl (Nat.le_of_ble_eq_true rfl) (Nat.le_of_ble_eq_true rfl) (Nat.le_of_ble_eq_true rfl) (by omega) (by omega) rfl (fun _ _ z => z.elim) (fun v9 k5 hz => ?_)
  obtain ⟨rfl, rfl⟩ := hz
  simp only [Option.toList_some, Option.toList_none, List.cons_append, List.nil_append]
  refine g_blk [(.sipush (-2002), .int (-2002))] (Nat.le_of_ble_eq_true rfl) (by decide +kernel) ?_
  refine gx_sipush ((gx_nil ?_))
  refine g_icmp_ne (off := 21) (tgt := 33) (by decide +kernel) (by decide) (fun c12 => ?_) (fun c12 => ?_)
  · exact absurd (by decide) c12
  · try simp only [bI_0, Decidable.not_not] at c12
    refine g_blk [(.aload_n 0, .null), (.bipush 15, .int (nI 15)), (.iconst (-1), .int (-1)), (.iconst 0, .int (nI 0))] (Nat.le_of_ble_eq_true rfl) (by decide +kernel) ?_
    refine gx_aload_n_0 (gx_bipush (gx_iconst (gx_iconst ((gx_nil ?_)))))
    refine g_callSH (rc' := 178) (rs' := 1088) kL_166 (aq_15x hp hnc H) (by decide +kernel) rfl rfl (Nat.le_of_ble_eq_true rfl) (Nat.le_of_ble_eq_true rfl) (Nat.le_of_ble_eq_true rfl) (by omega) (by omega) rfl (fun _ _ z => z.elim) (fun v9 k6 hz => ?_)
    obtain ⟨rfl, rfl⟩ := hz
    simp only [Option.toList_some, Option.toList_none, List.cons_append, List.nil_append]
    refine g_blk [(.sipush (-2002), .int (-2002))] (Nat.le_of_ble_eq_true rfl) (by decide +kernel) ?_
    refine gx_sipush ((gx_nil ?_))
    refine g_icmp_ne (off := 7) (tgt := 33) (by decide +kernel) (by decide) (fun c26 => ?_) (fun c26 => ?_)
    · exact absurd (by decide) c26
    · try simp only [bI_0, Decidable.not_not] at c26
      refine g_blk [(.iconst 1, .int (nI 1)), (.goto 4, .retAddr 34), (.istore_n 1, .null), (.iconst 0, .int (nI 0)), (.istore_n 2, .null)] (Nat.le_of_ble_eq_true rfl) (by decide +kernel) ?_
      refine gx_iconst (gx_goto (gx_istore_n_1 rfl (gx_iconst (gx_istore_n_2 rfl ((gx_nil ?_))))))
      refine g_weak (rc' := 29 * 6) (rs' := 168 * 6) (L' := [some (.ref m), some (.int (nI 1)), some (.int (nI 0)), none, none, none, none, none, none]) ⟨rfl, rfl, rfl, True.intro⟩ (by omega) (by omega) ?_
      exact loop 6 0 _ H (by omega)
end GLi
