section GOf3
variable {Γ : gE} {de : Nat} {h : gHp}
/-- the prefixes are as they may be -/
def rPv (N : Nat → Int32) (t : Nat) : Prop := ∀ j, j < t → ∃ dg ln rt, N (26 + 3 * j) = nI dg ∧ N (26 + 3 * j + 1) = nI ln ∧ N (26 + 3 * j + 2) = nI rt ∧ 1 ≤ ln ∧ ln ≤ 4 ∧ dg < 10 ^ ln ∧ rt ≤ 5
theorem pw_cases {ln : Nat} (h1 : 1 ≤ ln) (h2 : ln ≤ 4) : ln = 1 ∨ ln = 2 ∨ ln = 3 ∨ ln = 4 := by omega
theorem rTens_n {k : Nat} (h : k ≤ 4) : rTens (nI k) = nI (10 ^ k) := by
  have : k = 0 ∨ k = 1 ∨ k = 2 ∨ k = 3 ∨ k = 4 := by omega
  rcases this with rfl | rfl | rfl | rfl | rfl <;> decide
theorem nI_subN {a b : Nat} (h : b ≤ a) : nI a - nI b = nI (a - b) := by
  obtain ⟨k, rfl⟩ : ∃ k, a = k + b := ⟨a - b, by omega⟩
  rw [← nI_add, Int32.add_sub_cancel, Nat.add_sub_cancel]
theorem rMax_0 {k : Nat} (h : k < 2 ^ 31) : rMax (nI 0) (nI k) = nI k := by
  unfold rMax
  rcases Nat.eq_zero_or_pos k with z | z
  · subst z; rw [if_neg (by decide)]
  · rw [if_pos (nI_lt z h)]
/-- a code begins with a prefix: by dividing, by the span -/
theorem mt_iff {cd dg ln : Nat} (hcd : cd < 10000) (h1 : 1 ≤ ln) (h2 : ln ≤ 4) (hd : dg < 10 ^ ln) : (nI cd / rTens (rMax (nI 0) (nI 4 - nI ln)) = nI dg) ↔ (¬ nI cd < nI dg * rTens (nI 4 - nI ln) ∧ nI cd - nI dg * rTens (nI 4 - nI ln) < rTens (nI 4 - nI ln)) := by
  have hp : 10 ^ ln * 10 ^ (4 - ln) = 10000 := by
    rcases pw_cases h1 h2 with rfl | rfl | rfl | rfl <;> decide
  have hpos : 0 < 10 ^ (4 - ln) := Nat.pow_pos (by decide)
  have hs4 : 10 ^ (4 - ln) ≤ 1000 := by
    rcases pw_cases h1 h2 with rfl | rfl | rfl | rfl <;> decide
  have hsp : dg * 10 ^ (4 - ln) + 10 ^ (4 - ln) ≤ 10000 := by
    rw [← hp, ← Nat.succ_mul]
    exact Nat.mul_le_mul_right _ hd
  rw [nI_subN h2, rMax_0 (by omega), rTens_n (by omega), pk_div (by omega) hpos (by omega), pk_mul]
  rw [nI_eq (Nat.lt_of_le_of_lt (Nat.div_le_self _ _) (by omega)) (by have : dg ≤ dg * 10 ^ (4 - ln) := Nat.le_mul_of_pos_right _ hpos; omega)]
  rw [nI_ltI (by omega) (by omega), Nat.not_lt]
  constructor
  · rintro e
    have e1 := Nat.div_add_mod cd (10 ^ (4 - ln))
    rw [e, Nat.mul_comm] at e1
    have e2 := Nat.mod_lt cd hpos
    refine ⟨by omega, ?_⟩
    rw [nI_subN (by omega)]
    exact nI_lt (by omega) (by omega)
  · rintro ⟨e1, e2⟩
    rw [nI_subN e1, nI_ltI (by omega) (by omega)] at e2
    have e3 : cd = 10 ^ (4 - ln) * dg + (cd - dg * 10 ^ (4 - ln)) := by rw [Nat.mul_comm (10 ^ (4 - ln)) dg]; omega
    rw [e3, Nat.mul_add_div hpos, Nat.div_eq_of_lt e2, Nat.add_zero]
def pR (ep : Nat) (ps : List Nat) (m : Int32) : Nat := if m = -1 then ep else (ps[m.toNatClampNeg]?).getD ep
theorem pR_no {ep : Nat} {ps : List Nat} : pR ep ps (-1) = ep := if_pos rfl
theorem pR_at {ep k p : Nat} {ps : List Nat} (hk : k < 2 ^ 31) (hp : ps[k]? = some p) : pR ep ps (nI k) = p := by
  unfold pR
  rw [if_neg (nI_nm1 hk), nI_clamp hk, hp]
  rfl
def pLen (N : Nat → Int32) (m : Int32) : Int32 := if m = -1 then 0 else N (26 + 3 * m.toNatClampNeg + 1)
def pTo (N : Nat → Int32) (m : Int32) : Int32 := if m = -1 then -1 else N (26 + 3 * m.toNatClampNeg + 2)
theorem pR_cell {N : Nat → Int32} {ep t : Nat} {ps : List Nat} (hpc : ps.length = t) (hps : ∀ j p, ps[j]? = some p → gPre h N j p) (hep : h ep = some (gJ 9 [.int 0, .int 0, .int (-1), .int (nI 10000), .int 0])) {m : Int32} (ht : t ≤ 12) (hm : m = -1 ∨ ∃ k, k < t ∧ m = nI k) : ∃ a b c, h (pR ep ps m) = some (gJ 9 [.int a, .int (pLen N m), .int (pTo N m), .int b, .int c]) := by
  rcases hm with rfl | ⟨k, hk, rfl⟩
  · rw [pR_no]
    exact ⟨_, _, _, hep⟩
  · obtain ⟨p, hp⟩ : ∃ z, ps[k]? = some z := ⟨_, List.getElem?_eq_getElem (by omega)⟩
    rw [pR_at (by omega) hp]
    unfold pLen pTo
    rw [if_neg (nI_nm1 (by omega)), if_neg (nI_nm1 (by omega)), nI_clamp (by omega)]
    exact ⟨_, _, _, hps k p hp⟩
theorem tb_longest {t ta pa ep : Nat} {fq ps : List Nat} {N : Nat → Int32} (hta : h ta = some (gJ 11 [.ref pa, .ref ep])) (HP : gAL Γ de h pa fq ps) (hpc : ps.length = t) (hps : ∀ j p, ps[j]? = some p → gPre h N j p) (hep : h ep = some (gJ 9 [.int 0, .int 0, .int (-1), .int (nI 10000), .int 0])) (ht : t ≤ 12) (hv : rPv N t) {cd : Nat} (hcd : cd < 10000) (most : Int32) : pC Γ M_X8_longestMatch [.ref ta, .int (nI cd), .int most] h 3 (some (.ref (pR ep ps (rMatch N (nI cd) (nI 4) most t)))) := by
  have loop : ∀ n i, i ≤ t → t < i + n → pG Γ M_X8_longestMatch 3 (some (.ref (pR ep ps (rMatch N (nI cd) (nI 4) most t)))) h 8 [some (.ref ta), some (.int (nI cd)), some (.int most), some (.ref (pR ep ps (rMatch N (nI cd) (nI 4) most i))), some (.int (nI i)), none, none] [] := by
    intro n
    induction n with
    | zero => intro i h1 h2; omega
    | succ n ih =>
      intro i hi hn
      obtain ⟨la, lb, lc, hlg⟩ := pR_cell hpc hps hep (m := rMatch N (nI cd) (nI 4) most i) ht (rMatch_in.imp id (fun ⟨k, a, b⟩ => ⟨k, by omega, b⟩))
      refine g_blk [(.iload 4, .null), (.aload_n 0, .null)] (Nat.le_of_ble_eq_true rfl) (by decide +kernel) ?_
      refine gx_iload_4 (gx_aload_n_0 ((gx_nil ?_)))
      refine g_getf fX8_12 (by decide +kernel) hta rfl ?_
      refine g_pV kX8_27 (al_size HP) (by decide +kernel) rfl rfl (al_cell HP) rfl (Nat.le_of_ble_eq_true rfl) (Nat.le_of_ble_eq_true rfl) (Nat.le_of_ble_eq_true rfl) rfl ?_
      simp only [Option.toList_some, List.cons_append, List.nil_append]
      rw [hpc]
      refine g_icmp_ge (off := 83) (tgt := 100) (by decide +kernel) (by decide) (fun c17 => ?_) (fun c17 => ?_)
      · try simp only [bI_0, Decidable.not_not] at c17
        have hic : t = i := by
          have := (nI_leI (by omega) (by omega)).mp c17
          omega
        subst hic
        refine g_blk [(.aload_n 3, .null)] (Nat.le_of_ble_eq_true rfl) (by decide +kernel) ?_
        refine gx_aload_n_3 ((gx_nil ?_))
        refine g_end (some (.ref _)) rfl ⟨by decide +kernel, _, rfl, Or.inl ⟨_, rfl⟩⟩ ⟨?_, rfl⟩
        rfl
      · try simp only [bI_0, Decidable.not_not] at c17
        have hic : i < t := by
          rcases Nat.lt_or_ge i t with q | q
          · exact q
          · exact absurd (nI_le q (by omega)) c17
        obtain ⟨p9, hx9⟩ : ∃ z, ps[i]? = some z := ⟨_, List.getElem?_eq_getElem (by omega)⟩
        have hp9 := hps i p9 hx9
        obtain ⟨dg, ln, rt, ed, el, er, v1, v2, v3, v4⟩ := hv i hic
        have hsp : gSpan N i = rTens (nI 4 - nI ln) := by unfold gSpan; rw [el]
        have hmt := mt_iff hcd v1 v2 v3
        unfold gPre at hp9
        rw [ed, el, hsp] at hp9
        have hstep : rMatch N (nI cd) (nI 4) most (i + 1) = if (nI ln ≤ most ∧ nI cd / rTens (rMax (nI 0) (nI 4 - nI ln)) = nI dg) ∧ (rMatch N (nI cd) (nI 4) most i = -1 ∨ N (26 + 3 * (rMatch N (nI cd) (nI 4) most i).toNatClampNeg + 1) < nI ln) then nI i else rMatch N (nI cd) (nI 4) most i := by rw [rMatch_s, el, ed]
        refine g_blk [(.aload_n 0, .null)] (Nat.le_of_ble_eq_true rfl) (by decide +kernel) ?_
        refine gx_aload_n_0 ((gx_nil ?_))
        refine g_getf fX8_12 (by decide +kernel) hta rfl ?_
        refine g_blk [(.iload 4, .null)] (Nat.le_of_ble_eq_true rfl) (by decide +kernel) ?_
        refine gx_iload_4 ((gx_nil ?_))
        refine g_pV kX8_31 (al_get HP hx9) (by decide +kernel) rfl rfl (al_cell HP) rfl (Nat.le_of_ble_eq_true rfl) (Nat.le_of_ble_eq_true rfl) (Nat.le_of_ble_eq_true rfl) rfl ?_
        try simp only [Option.toList_some, Option.toList_none, List.cons_append, List.nil_append, bI_0, n1_0, n0_0, Decidable.not_not, not_true_eq_false, not_false_eq_true, nI_add]
        refine g_castO hp9 rfl rfl (clX8_18) (by decide +kernel) ?_
        refine g_blk [(.astore 5, .null), (.iload_n 1, .null), (.aload 5, .null)] (Nat.le_of_ble_eq_true rfl) (by decide +kernel) ?_
        refine gx_astore_5 rfl (gx_iload_n_1 (gx_aload_5 ((gx_nil ?_))))
        refine g_getf fX8_64 (by decide +kernel) hp9 rfl ?_
        refine g_icmp_lt (off := 22) (tgt := 62) (by decide +kernel) (by decide) (fun c40 => ?_) (fun c40 => ?_)
        · try simp only [bI_0, Decidable.not_not] at c40
          refine g_blk [(.iconst 0, .int (nI 0)), (.istore 6, .null), (.iload 6, .null)] (Nat.le_of_ble_eq_true rfl) (by decide +kernel) ?_
          refine gx_iconst (gx_istore_6 rfl (gx_iload_6 ((gx_nil ?_))))
          refine g_if_eq (off := 27) (tgt := 94) (by decide +kernel) (by decide) (fun c67 => ?_) (fun c67 => ?_)
          · try simp only [bI_0, Decidable.not_not] at c67
            refine g_blk [(.iinc 4 1, .int (nI 1)), (.goto (-89), .retAddr 8)] (Nat.le_of_ble_eq_true rfl) (by decide +kernel) ?_
            refine gx_iinc_4 rfl (gx_goto ((gx_nil ?_)))
            try simp only [nI_add]
            have e9 := ih (i + 1) (by omega) (by omega)
            rw [hstep, if_neg (fun z => (hmt.mp z.1.2).1 c40)] at e9
            exact g_wk (by simp [gLe, nI_add]) e9
          · exact absurd (by decide) c67
        · try simp only [bI_0, Decidable.not_not] at c40
          refine g_blk [(.iload_n 1, .null), (.aload 5, .null)] (Nat.le_of_ble_eq_true rfl) (by decide +kernel) ?_
          refine gx_iload_n_1 (gx_aload_5 ((gx_nil ?_)))
          refine g_getf fX8_64 (by decide +kernel) hp9 rfl ?_
          refine g_blk [(.isub, .null), (.aload 5, .null)] (Nat.le_of_ble_eq_true rfl) (by decide +kernel) ?_
          refine gx_isub (gx_aload_5 ((gx_nil ?_)))
          refine g_getf fX8_67 (by decide +kernel) hp9 rfl ?_
          refine g_icmp_ge (off := 7) (tgt := 62) (by decide +kernel) (by decide) (fun c55 => ?_) (fun c55 => ?_)
          · try simp only [bI_0, Decidable.not_not] at c55
            refine g_blk [(.iconst 0, .int (nI 0)), (.istore 6, .null), (.iload 6, .null)] (Nat.le_of_ble_eq_true rfl) (by decide +kernel) ?_
            refine gx_iconst (gx_istore_6 rfl (gx_iload_6 ((gx_nil ?_))))
            refine g_if_eq (off := 27) (tgt := 94) (by decide +kernel) (by decide) (fun c67 => ?_) (fun c67 => ?_)
            · try simp only [bI_0, Decidable.not_not] at c67
              refine g_blk [(.iinc 4 1, .int (nI 1)), (.goto (-89), .retAddr 8)] (Nat.le_of_ble_eq_true rfl) (by decide +kernel) ?_
              refine gx_iinc_4 rfl (gx_goto ((gx_nil ?_)))
              try simp only [nI_add]
              have e9 := ih (i + 1) (by omega) (by omega)
              rw [hstep, if_neg (fun z => absurd (hmt.mp z.1.2).2 (Int32.not_lt.mpr c55))] at e9
              exact g_wk (by simp [gLe, nI_add]) e9
            · exact absurd (by decide) c67
          · try simp only [bI_0, Decidable.not_not] at c55
            refine g_blk [(.iconst 1, .int (nI 1)), (.goto 4, .retAddr 63), (.istore 6, .null), (.iload 6, .null)] (Nat.le_of_ble_eq_true rfl) (by decide +kernel) ?_
            refine gx_iconst (gx_goto (gx_istore_6 rfl (gx_iload_6 ((gx_nil ?_)))))
            refine g_if_eq (off := 27) (tgt := 94) (by decide +kernel) (by decide) (fun c67 => ?_) (fun c67 => ?_)
            · exact absurd c67 (by decide)
            · try simp only [bI_0, Decidable.not_not] at c67
              refine g_blk [(.aload 5, .null)] (Nat.le_of_ble_eq_true rfl) (by decide +kernel) ?_
              refine gx_aload_5 ((gx_nil ?_))
              refine g_getf fX8_61 (by decide +kernel) hp9 rfl ?_
              refine g_blk [(.iload_n 2, .null)] (Nat.le_of_ble_eq_true rfl) (by decide +kernel) ?_
              refine gx_iload_n_2 ((gx_nil ?_))
              refine g_icmp_gt (off := 18) (tgt := 94) (by decide +kernel) (by decide) (fun c76 => ?_) (fun c76 => ?_)
              · try simp only [bI_0, Decidable.not_not] at c76
                refine g_blk [(.iinc 4 1, .int (nI 1)), (.goto (-89), .retAddr 8)] (Nat.le_of_ble_eq_true rfl) (by decide +kernel) ?_
                refine gx_iinc_4 rfl (gx_goto ((gx_nil ?_)))
                try simp only [nI_add]
                have e9 := ih (i + 1) (by omega) (by omega)
                rw [hstep, if_neg (fun z => absurd z.1.1 (Int32.not_le.mpr c76))] at e9
                exact g_wk (by simp [gLe, nI_add]) e9
              · try simp only [bI_0, Decidable.not_not] at c76
                refine g_blk [(.aload 5, .null)] (Nat.le_of_ble_eq_true rfl) (by decide +kernel) ?_
                refine gx_aload_5 ((gx_nil ?_))
                refine g_getf fX8_61 (by decide +kernel) hp9 rfl ?_
                refine g_blk [(.aload_n 3, .null)] (Nat.le_of_ble_eq_true rfl) (by decide +kernel) ?_
                refine gx_aload_n_3 ((gx_nil ?_))
                refine g_getf fX8_61 (by decide +kernel) hlg rfl ?_
                refine g_icmp_le (off := 6) (tgt := 94) (by decide +kernel) (by decide) (fun c88 => ?_) (fun c88 => ?_)
                · try simp only [bI_0, Decidable.not_not] at c88
                  refine g_blk [(.iinc 4 1, .int (nI 1)), (.goto (-89), .retAddr 8)] (Nat.le_of_ble_eq_true rfl) (by decide +kernel) ?_
                  refine gx_iinc_4 rfl (gx_goto ((gx_nil ?_)))
                  try simp only [nI_add]
                  have e9 := ih (i + 1) (by omega) (by omega)
                  rw [hstep, if_neg (fun z => by
                    rcases z.2 with y | y
                    · rw [show pLen N (rMatch N (nI cd) (nI 4) most i) = 0 from if_pos y] at c88
                      exact absurd c88 (Int32.not_le.mpr (nI_p0 v1 (by omega)))
                    · by_cases y2 : rMatch N (nI cd) (nI 4) most i = -1
                      · rw [show pLen N (rMatch N (nI cd) (nI 4) most i) = 0 from if_pos y2] at c88
                        exact absurd c88 (Int32.not_le.mpr (nI_p0 v1 (by omega)))
                      · rw [show pLen N (rMatch N (nI cd) (nI 4) most i) = N (26 + 3 * (rMatch N (nI cd) (nI 4) most i).toNatClampNeg + 1) from if_neg y2] at c88
                        exact absurd y (Int32.not_lt.mpr c88))] at e9
                  exact g_wk (by simp [gLe, nI_add]) e9
                · try simp only [bI_0, Decidable.not_not] at c88
                  refine g_blk [(.aload 5, .null), (.astore_n 3, .null), (.iinc 4 1, .int (nI 1)), (.goto (-89), .retAddr 8)] (Nat.le_of_ble_eq_true rfl) (by decide +kernel) ?_
                  refine gx_aload_5 (gx_astore_n_3 rfl (gx_iinc_4 rfl (gx_goto ((gx_nil ?_)))))
                  try simp only [nI_add]
                  have e9 := ih (i + 1) (by omega) (by omega)
                  rw [hstep, if_pos ⟨⟨Int32.not_lt.mp c76, hmt.mpr ⟨c40, Int32.not_le.mp c55⟩⟩, by
                    by_cases y2 : rMatch N (nI cd) (nI 4) most i = -1
                    · exact Or.inl y2
                    · refine Or.inr ?_
                      rw [show pLen N (rMatch N (nI cd) (nI 4) most i) = N (26 + 3 * (rMatch N (nI cd) (nI 4) most i).toNatClampNeg + 1) from if_neg y2] at c88
                      exact Int32.not_le.mp c88⟩, pR_at (by omega) hx9] at e9
                  exact g_wk (by simp [gLe, nI_add]) e9
  refine pC_of (by decide) rfl (Nat.le_of_ble_eq_true rfl) [some (.ref ta), some (.int (nI cd)), some (.int most), none, none, none, none] rfl ?_
  refine g_blk [(.aload_n 0, .null)] (Nat.le_of_ble_eq_true rfl) (by decide +kernel) ?_
  refine gx_aload_n_0 ((gx_nil ?_))
  refine g_getf fX8_23 (by decide +kernel) hta rfl ?_
  refine g_blk [(.astore_n 3, .null), (.iconst 0, .int (nI 0)), (.istore 4, .null)] (Nat.le_of_ble_eq_true rfl) (by decide +kernel) ?_
  refine gx_astore_n_3 rfl (gx_iconst (gx_istore_4 rfl ((gx_nil ?_))))
  exact loop (t + 1) 0 (Nat.zero_le _) (by omega)
/-- the letters are as they may be -/
def rLv1 (N : Nat → Int32) (c : Nat) : Prop := ∀ i, i < c → ∃ m cd w pr q, N (62 + 7 * i) = nI m ∧ m < 100000 ∧ N (62 + 7 * i + 1) = nI cd ∧ cd < 10000 ∧ N (62 + 7 * i + 2) = nI w ∧ 1 ≤ w ∧ w ≤ 50 ∧ N (62 + 7 * i + 3) = nI pr ∧ pr ≤ 1 ∧ N (62 + 7 * i + 4) = nI q ∧ q < 3 ∧ (N (62 + 7 * i + 5) = -1 ∨ ∃ a b, a ≤ 5 ∧ b < 3 ∧ N (62 + 7 * i + 5) = nI a ∧ N (62 + 7 * i + 6) = nI b)
theorem pTo_r {N : Nat → Int32} {code : Int32} {t : Nat} : pTo N (rMatch N code (nI 4) (nI 4) t) = rRoute N code t := rfl
theorem of_routeByCode {o c t la ta ca da ba pa ep : Nat} {fl fq ls ps : List Nat} {N : Nat → Int32} (H : gOx Γ de h o N c t la ta ca da ba pa ep fl fq ls ps) (hc : c ≤ 20) (ht : t ≤ 12) (hv : rPv N t) (hw : rLv1 N c) {i a : Nat} (hx9 : ls[i]? = some a) : pC Γ M_X4_routeByCode [.ref o, .ref a] h 5 (some (.int (rLR N i t))) := by
  have H0 := H
  obtain ⟨ho, HL, hlc, hls, hta, HP, hpc, hps, hep, ⟨fc, hca, hfc⟩, ⟨fd, hda, hfd⟩, ⟨fb, hba, hfb⟩⟩ := H0
  have hic : i < c := by rw [← hlc]; exact (List.getElem?_eq_some_iff.mp hx9).1
  have hl9 := hls i a hx9
  obtain ⟨m, cd, w, pr, q, em, hm, ec, hcd, ew, hw1, hw2, ep', hpr, eq, hq, eA⟩ := hw i hic
  obtain ⟨la1, lb1, lc1, hlg⟩ := pR_cell hpc hps hep (m := rMatch N (nI cd) (nI 4) (nI 4) t) ht rMatch_in
  refine pC_of (by decide) rfl (Nat.le_of_ble_eq_true rfl) [some (.ref o), some (.ref a)] rfl ?_
  refine g_blk [(.aload_n 0, .null)] (Nat.le_of_ble_eq_true rfl) (by decide +kernel) ?_
  refine gx_aload_n_0 ((gx_nil ?_))
  refine g_getf fX4_21 (by decide +kernel) ho rfl ?_
  refine g_blk [(.aload_n 1, .null)] (Nat.le_of_ble_eq_true rfl) (by decide +kernel) ?_
  refine gx_aload_n_1 ((gx_nil ?_))
  refine g_getf fX4_161 (by decide +kernel) hl9 rfl ?_
  rw [ec]
  refine g_blk [(.iconst 4, .int (nI 4))] (Nat.le_of_ble_eq_true rfl) (by decide +kernel) ?_
  refine gx_iconst ((gx_nil ?_))
  refine g_pV kX4_164 (tb_longest hta HP hpc hps hep ht hv hcd (nI 4)) (by decide +kernel) rfl rfl hta rfl (Nat.le_of_ble_eq_true rfl) (Nat.le_of_ble_eq_true rfl) (Nat.le_of_ble_eq_true rfl) rfl ?_
  try simp only [Option.toList_some, Option.toList_none, List.cons_append, List.nil_append, bI_0, n1_0, n0_0, Decidable.not_not, not_true_eq_false, not_false_eq_true, nI_add, Nat.add_zero, Nat.zero_add, Nat.reduceAdd]
  refine g_getf fX4_168 (by decide +kernel) hlg rfl ?_
  refine g_end (some (.int _)) rfl ⟨by decide +kernel, _, rfl, rfl⟩ ⟨?_, rfl⟩
  (unfold rLR; rw [ec]; rfl)
theorem of_comeBack {o c t la ta ca da ba pa ep : Nat} {fl fq ls ps : List Nat} {N : Nat → Int32} (H : gOx Γ de h o N c t la ta ca da ba pa ep fl fq ls ps) (hc : c ≤ 20) (ht : t ≤ 12) (hv : rPv N t) (hw : rLv1 N c) {i a : Nat} (hx9 : ls[i]? = some a) : pC Γ M_X4_wouldComeBack [.ref o, .ref a] h 6 (some (.int (bI (rWr N i t = true)))) := by
  have H0 := H
  obtain ⟨ho, HL, hlc, hls, hta, HP, hpc, hps, hep, ⟨fc, hca, hfc⟩, ⟨fd, hda, hfd⟩, ⟨fb, hba, hfb⟩⟩ := H0
  have hic : i < c := by rw [← hlc]; exact (List.getElem?_eq_some_iff.mp hx9).1
  have hl9 := hls i a hx9
  obtain ⟨m, cd, w, pr, q, em, hm, ec, hcd, ew, hw1, hw2, ep', hpr, eq, hq, eA⟩ := hw i hic
  refine pC_of (by decide) rfl (Nat.le_of_ble_eq_true rfl) [some (.ref o), some (.ref a)] rfl ?_
  refine g_blk [(.aload_n 1, .null)] (Nat.le_of_ble_eq_true rfl) (by decide +kernel) ?_
  refine gx_aload_n_1 ((gx_nil ?_))
  refine g_pV kX4_102 (le_inTray hl9) (by decide +kernel) rfl rfl hl9 rfl (Nat.le_of_ble_eq_true rfl) (Nat.le_of_ble_eq_true rfl) (Nat.le_of_ble_eq_true rfl) rfl ?_
  try simp only [Option.toList_some, Option.toList_none, List.cons_append, List.nil_append, bI_0, n1_0, n0_0, Decidable.not_not, not_true_eq_false, not_false_eq_true, nI_add, Nat.add_zero, Nat.zero_add, Nat.reduceAdd]
  refine g_if_ne (off := 19) (tgt := 23) (by decide +kernel) (by decide) (fun c4 => ?_) (fun c4 => ?_)
  · try simp only [bI_0, Decidable.not_not] at c4
    refine g_blk [(.iconst 0, .int (nI 0))] (Nat.le_of_ble_eq_true rfl) (by decide +kernel) ?_
    refine gx_iconst ((gx_nil ?_))
    refine g_end (some (.int _)) rfl ⟨by decide +kernel, _, rfl, by first | rfl | exact bI_nar _⟩ ⟨?_, rfl⟩
    first | rw [bI_t (p := rWr N i t = true) (decide_eq_true ⟨c4, c16⟩)] | rw [bI_f (p := rWr N i t = true) (fun z => (of_decide_eq_true z).1 c4)] | rw [bI_f (p := rWr N i t = true) (fun z => (of_decide_eq_true z).2 c16)]
  · try simp only [bI_0, Decidable.not_not] at c4
    refine g_blk [(.aload_n 0, .null), (.aload_n 1, .null)] (Nat.le_of_ble_eq_true rfl) (by decide +kernel) ?_
    refine gx_aload_n_0 (gx_aload_n_1 ((gx_nil ?_)))
    refine g_pV kX4_116 (of_routeByCode H hc ht hv hw hx9) (by decide +kernel) rfl rfl ho rfl (Nat.le_of_ble_eq_true rfl) (Nat.le_of_ble_eq_true rfl) (Nat.le_of_ble_eq_true rfl) rfl ?_
    try simp only [Option.toList_some, Option.toList_none, List.cons_append, List.nil_append, bI_0, n1_0, n0_0, Decidable.not_not, not_true_eq_false, not_false_eq_true, nI_add, Nat.add_zero, Nat.zero_add, Nat.reduceAdd]
    refine g_blk [(.aload_n 1, .null)] (Nat.le_of_ble_eq_true rfl) (by decide +kernel) ?_
    refine gx_aload_n_1 ((gx_nil ?_))
    refine g_getf fX4_106 (by decide +kernel) hl9 rfl ?_
    refine g_icmp_eq (off := 7) (tgt := 23) (by decide +kernel) (by decide) (fun c16 => ?_) (fun c16 => ?_)
    · try simp only [bI_0, Decidable.not_not] at c16
      refine g_blk [(.iconst 0, .int (nI 0))] (Nat.le_of_ble_eq_true rfl) (by decide +kernel) ?_
      refine gx_iconst ((gx_nil ?_))
      refine g_end (some (.int _)) rfl ⟨by decide +kernel, _, rfl, by first | rfl | exact bI_nar _⟩ ⟨?_, rfl⟩
      first | rw [bI_t (p := rWr N i t = true) (decide_eq_true ⟨c4, c16⟩)] | rw [bI_f (p := rWr N i t = true) (fun z => (of_decide_eq_true z).1 c4)] | rw [bI_f (p := rWr N i t = true) (fun z => (of_decide_eq_true z).2 c16)]
    · try simp only [bI_0, Decidable.not_not] at c16
      refine g_blk [(.iconst 1, .int (nI 1)), (.goto 4, .retAddr 24)] (Nat.le_of_ble_eq_true rfl) (by decide +kernel) ?_
      refine gx_iconst (gx_goto ((gx_nil ?_)))
      refine g_end (some (.int _)) rfl ⟨by decide +kernel, _, rfl, by first | rfl | exact bI_nar _⟩ ⟨?_, rfl⟩
      first | rw [bI_t (p := rWr N i t = true) (decide_eq_true ⟨c4, c16⟩)] | rw [bI_f (p := rWr N i t = true) (fun z => (of_decide_eq_true z).1 c4)] | rw [bI_f (p := rWr N i t = true) (fun z => (of_decide_eq_true z).2 c16)]
theorem of_countMissorted {o c t la ta ca da ba pa ep : Nat} {fl fq ls ps : List Nat} {N : Nat → Int32} (H : gOx Γ de h o N c t la ta ca da ba pa ep fl fq ls ps) (hc : c ≤ 20) (ht : t ≤ 12) (hv : rPv N t) (hw : rLv1 N c) : pC Γ M_X4_countMissorted [.ref o] h 7 (some (.int (rMs N t c))) := by
  have H0 := H
  obtain ⟨ho, HL, hlc, hls, hta, HP, hpc, hps, hep, ⟨fc, hca, hfc⟩, ⟨fd, hda, hfd⟩, ⟨fb, hba, hfb⟩⟩ := H0
  have loop : ∀ n i, i ≤ c → c < i + n → pG Γ M_X4_countMissorted 7 (some (.int (rMs N t c))) h 4 [some (.ref o), some (.int (rMs N t i)), some (.int (nI i))] [] := by
    intro n
    induction n with
    | zero => intro i h1 h2; omega
    | succ n ih =>
      intro i hi hn
      refine g_blk [(.iload_n 2, .null), (.aload_n 0, .null)] (Nat.le_of_ble_eq_true rfl) (by decide +kernel) ?_
      refine gx_iload_n_2 (gx_aload_n_0 ((gx_nil ?_)))
      refine g_getf fX4_12 (by decide +kernel) ho rfl ?_
      refine g_pV kX4_55 (al_size HL) (by decide +kernel) rfl rfl (al_cell HL) rfl (Nat.le_of_ble_eq_true rfl) (Nat.le_of_ble_eq_true rfl) (Nat.le_of_ble_eq_true rfl) rfl ?_
      simp only [Option.toList_some, List.cons_append, List.nil_append]
      rw [hlc]
      refine g_icmp_ge (off := 30) (tgt := 42) (by decide +kernel) (by decide) (fun c12 => ?_) (fun c12 => ?_)
      · try simp only [bI_0, Decidable.not_not] at c12
        have hic : c = i := by
          have := (nI_leI (by omega) (by omega)).mp c12
          omega
        subst hic
        refine g_blk [(.iload_n 1, .null)] (Nat.le_of_ble_eq_true rfl) (by decide +kernel) ?_
        refine gx_iload_n_1 ((gx_nil ?_))
        refine g_end (some (.int _)) rfl ⟨by decide +kernel, _, rfl, rfl⟩ ⟨?_, rfl⟩
        rfl
      · try simp only [bI_0, Decidable.not_not] at c12
        have hic : i < c := by
          rcases Nat.lt_or_ge i c with q | q
          · exact q
          · exact absurd (nI_le q (by omega)) c12
        obtain ⟨a9, hx9⟩ : ∃ z, ls[i]? = some z := ⟨_, List.getElem?_eq_getElem (by omega)⟩
        have hl9 := hls i a9 hx9
        refine g_blk [(.aload_n 0, .null), (.aload_n 0, .null)] (Nat.le_of_ble_eq_true rfl) (by decide +kernel) ?_
        refine gx_aload_n_0 (gx_aload_n_0 ((gx_nil ?_)))
        refine g_getf fX4_12 (by decide +kernel) ho rfl ?_
        refine g_blk [(.iload_n 2, .null)] (Nat.le_of_ble_eq_true rfl) (by decide +kernel) ?_
        refine gx_iload_n_2 ((gx_nil ?_))
        refine g_pV kX4_59 (al_get HL hx9) (by decide +kernel) rfl rfl (al_cell HL) rfl (Nat.le_of_ble_eq_true rfl) (Nat.le_of_ble_eq_true rfl) (Nat.le_of_ble_eq_true rfl) rfl ?_
        try simp only [Option.toList_some, Option.toList_none, List.cons_append, List.nil_append, bI_0, n1_0, n0_0, Decidable.not_not, not_true_eq_false, not_false_eq_true, nI_add, Nat.add_zero, Nat.zero_add, Nat.reduceAdd]
        refine g_castO hl9 rfl rfl (clX4_63) (by decide +kernel) ?_
        refine g_pV kX4_148 (of_comeBack H hc ht hv hw hx9) (by decide +kernel) rfl rfl ho rfl (Nat.le_of_ble_eq_true rfl) (Nat.le_of_ble_eq_true rfl) (Nat.le_of_ble_eq_true rfl) rfl ?_
        try simp only [Option.toList_some, Option.toList_none, List.cons_append, List.nil_append, bI_0, n1_0, n0_0, Decidable.not_not, not_true_eq_false, not_false_eq_true, nI_add, Nat.add_zero, Nat.zero_add, Nat.reduceAdd]
        refine g_if_eq (off := 6) (tgt := 36) (by decide +kernel) (by decide) (fun c30 => ?_) (fun c30 => ?_)
        · try simp only [bI_0, Decidable.not_not] at c30
          refine g_blk [(.iinc 2 1, .int (nI 1)), (.goto (-35), .retAddr 4)] (Nat.le_of_ble_eq_true rfl) (by decide +kernel) ?_
          refine gx_iinc_2 rfl (gx_goto ((gx_nil ?_)))
          try simp only [nI_add, Nat.add_zero, Nat.zero_add, Nat.reduceAdd]
          have e9 := ih (i + 1) (by omega) (by omega)
          rw [show rMs N t (i + 1) = rMs N t i + bI (rWr N i t = true) from rfl, bI_f c30, a_n0] at e9
          exact g_wk (by simp [gLe, nI_add]) e9
        · try simp only [bI_0, Decidable.not_not] at c30
          refine g_blk [(.iinc 1 1, .int (nI 1)), (.iinc 2 1, .int (nI 1)), (.goto (-35), .retAddr 4)] (Nat.le_of_ble_eq_true rfl) (by decide +kernel) ?_
          refine gx_iinc_1 rfl (gx_iinc_2 rfl (gx_goto ((gx_nil ?_))))
          try simp only [nI_add, Nat.add_zero, Nat.zero_add, Nat.reduceAdd]
          have e9 := ih (i + 1) (by omega) (by omega)
          rw [show rMs N t (i + 1) = rMs N t i + bI (rWr N i t = true) from rfl, bI_t c30] at e9
          exact g_wk (by simp [gLe, nI_add]) e9
  refine pC_of (by decide) rfl (Nat.le_of_ble_eq_true rfl) [some (.ref o), none, none] rfl ?_
  refine g_blk [(.iconst 0, .int (nI 0)), (.istore_n 1, .null), (.iconst 0, .int (nI 0)), (.istore_n 2, .null)] (Nat.le_of_ble_eq_true rfl) (by decide +kernel) ?_
  refine gx_iconst (gx_istore_n_1 rfl (gx_iconst (gx_istore_n_2 rfl ((gx_nil ?_)))))
  exact loop (c + 1) 0 (Nat.zero_le _) (by omega)
end GOf3
