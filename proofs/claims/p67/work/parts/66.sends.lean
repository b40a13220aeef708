/-! A ROUTE DEPARTS, HOURS PASS -/
section GSl2
variable {Γ : gE} {de : Nat} {h : gHp}
def lqG (x : lqT) : Prop := ∃ m cd w pr q, x.1 = nI m ∧ m < 100000 ∧ x.2.1 = nI cd ∧ cd < 10000 ∧ x.2.2.1 = nI w ∧ 1 ≤ w ∧ w ≤ 50 ∧ x.2.2.2.1 = nI pr ∧ pr ≤ 1 ∧ x.2.2.2.2.1 = nI q ∧ q < 3 ∧ (x.2.2.2.2.2.1 = -1 ∨ ∃ a b, a ≤ 5 ∧ b < 3 ∧ x.2.2.2.2.2.1 = nI a ∧ x.2.2.2.2.2.2 = nI b)
theorem lqG_iff {N : Nat → Int32} {c : Nat} : rLv1 N c ↔ ∀ x ∈ lqs N c, lqG x := by
  constructor
  · intro h x hx
    obtain ⟨i, hi⟩ := List.getElem?_of_mem hx
    have hic : i < c := by
      have := (List.getElem?_eq_some_iff.mp hi).1
      rwa [lqs_len] at this
    rw [lqs_get hic] at hi
    rw [← Option.some.inj hi]
    exact h i hic
  · intro h i hi
    exact h _ (List.mem_of_getElem? (lqs_get hi))
theorem lqG_rLv {N : Nat → Int32} {i c : Nat} (hi : i < c) (hc : c ≤ 20) (h : rLv1 N c) : rLv1 (rLv N i) (c - 1) := by
  obtain ⟨c0, rfl⟩ : ∃ c0, c = c0 + 1 := ⟨c - 1, by omega⟩
  rw [lqG_iff] at h ⊢
  rw [Nat.add_sub_cancel, lqs_rLv (by omega) (by omega)]
  exact fun x hx => h x (List.mem_of_mem_eraseIdx hx)
theorem lqG_set {N : Nat → Int32} {i c : Nat} (hi : i < c) (h : rLv1 N c) (h4 : ¬ N (62 + 7 * i + 4) + nI 1 = nI 3) : rLv1 (rBk N i) c := by
  have hx := h i hi
  rw [lqG_iff] at h ⊢
  rw [lqs_rBk hi]
  intro x hm
  rcases List.mem_or_eq_of_mem_set hm with z | z
  · exact h x z
  · obtain ⟨m, cd, w, pr, q, em, hm, ec, hcd, ew, hw1, hw2, ep, hpr, eq, hq, eA⟩ := hx
    rw [z]
    refine ⟨m, cd, w, pr, q + 1, em, hm, ec, hcd, ew, hw1, hw2, ep, hpr, ?_, ?_, Or.inl rfl⟩
    · show N (62 + 7 * i + 4) + nI 1 = _
      rw [eq, nI_add]
    · have : ¬ q + 1 = 3 := fun y => h4 (by rw [eq, nI_add, y])
      omega
theorem lqG_cg {N N' : Nat → Int32} {c : Nat} (e : ∀ q, 62 ≤ q → q < 62 + 7 * c → N q = N' q) (h : rLv1 N c) : rLv1 N' c := by
  rw [lqG_iff] at h ⊢
  rw [← lqs_cg e]; exact h
theorem rPv_cg {N N' : Nat → Int32} {t : Nat} (ht : t ≤ 12) (e : ∀ q, 26 ≤ q → q < 62 → N q = N' q) (h : rPv N t) : rPv N' t := by
  intro j hj
  rw [← e (26 + 3 * j) (by omega) (by omega), ← e (26 + 3 * j + 1) (by omega) (by omega), ← e (26 + 3 * j + 2) (by omega) (by omega)]
  exact h j hj
theorem n_m1 (x : Int32) : x + (-1) = x - nI 1 := by rw [Int32.sub_eq_add_neg]; rfl
theorem of_sendLetters {o c t la ta ca da ba pa ep : Nat} {fl fq ls ps : List Nat} {N : Nat → Int32} {r : Nat} (H : gOx Γ de h o N c t la ta ca da ba pa ep fl fq ls ps) (nd : (gFp o ta ca da ba fl fq ls).Nodup) (hc : c ≤ 20) (ht : t ≤ 12) (hv : rPv N t) (hw : rLv1 N c) (hr : r ≤ 5) : gC Γ M_X4_sendLetters [.ref o, .int (nI r)] h 7 0 0 (fun v h' => v = none ∧ gSt Γ de h o la ta ca da ba pa ep t fl fq ps ls (gSd (nI r) t c N c) h') (fun _ _ => False) := by
  obtain ⟨X, hX⟩ : ∃ X, gSd (nI r) t c N c = X := ⟨_, rfl⟩
  rw [hX]
  have loop : ∀ n Nk ck lk hk, n ≤ ck → ck ≤ 20 → gOx Γ de hk o Nk ck t la ta ca da ba pa ep fl fq lk ps → gNd ca da ba fl fq lk → (∀ q ∈ lk, q ∈ ls) → gKeep (fun q => q ∈ gFp o ta ca da ba fl fq ls) h hk → rPv Nk t → rLv1 Nk ck → gSd (nI r) t n Nk ck = X → G Γ M_X4_sendLetters 7 0 0 (fun v h' => v = none ∧ gSt Γ de h o la ta ca da ba pa ep t fl fq ps ls X h') (fun _ _ => False) 0 0 10 [some (.ref o), some (.int (nI r)), some (.int (nI n - nI 1)), none] [] hk := by
    intro n
    induction n with
    | zero =>
      intro Nk ck lk hk hn hck Hk gk hlk kk hvk hwk eX
      rw [show nI 0 - nI 1 = (-1 : Int32) by decide]
      refine g_blk [(.iload_n 2, .null)] (Nat.le_of_ble_eq_true rfl) (by decide +kernel) ?_
      refine gx_iload_n_2 ((gx_nil ?_))
      refine g_if_lt (off := 103) (tgt := 114) (by decide +kernel) (by decide) (fun c11 => ?_) (fun c11 => ?_)
      · try simp only [bI_0, Decidable.not_not] at c11
        refine g_end none rfl ⟨by decide +kernel, rfl⟩ ?_
        subst eX
        exact ⟨rfl, lk, Hk, gk, hlk, kk⟩
      · try simp only [bI_0, Decidable.not_not] at c11
        exact absurd (by decide) c11
    | succ n ih =>
      intro Nk ck lk hk hn hck Hk gk hlk kk hvk hwk eX
      rw [pk_sub (by omega), Nat.add_sub_cancel]
      have H0 := Hk
      obtain ⟨ho, HL, hlc, hls, hta, HP, hpc, hps, hep, ⟨fc, hca, hfc⟩, ⟨fd, hda, hfd⟩, ⟨fb, hba, hfb⟩⟩ := H0
      obtain ⟨a9, hx9⟩ : ∃ z, lk[n]? = some z := ⟨_, List.getElem?_eq_getElem (by omega)⟩
      have hl9 := hls n a9 hx9
      have ndk := gNd_to Hk gk
      have hsub : ∀ q ∈ gFp o ta ca da ba fl fq lk, q ∈ gFp o ta ca da ba fl fq ls := fun q hq => by
        rcases gFp_m.mp hq with z | z | z | z | z | z | z | z
        · exact gFp_m.mpr (by simp [z])
        · exact gFp_m.mpr (by simp [z])
        · exact gFp_m.mpr (by simp [z])
        · exact gFp_m.mpr (by simp [z])
        · exact gFp_m.mpr (by simp [z])
        · exact gFp_m.mpr (by simp [z])
        · exact gFp_m.mpr (by simp [z])
        · exact gFp_m.mpr (by simp [hlk q z])
      have msO : o ∈ gFp o ta ca da ba fl fq ls := memO
      have msA : a9 ∈ gFp o ta ca da ba fl fq ls := hsub a9 (memS (List.mem_of_getElem? hx9))
      have msF : ∀ q ∈ fl, q ∈ gFp o ta ca da ba fl fq ls := fun q hq => gFp_m.mpr (by simp [hq])
      rw [gSd_s] at eX
      refine g_blk [(.iload_n 2, .null)] (Nat.le_of_ble_eq_true rfl) (by decide +kernel) ?_
      refine gx_iload_n_2 ((gx_nil ?_))
      refine g_if_lt (off := 103) (tgt := 114) (by decide +kernel) (by decide) (fun c11 => ?_) (fun c11 => ?_)
      · try simp only [bI_0, Decidable.not_not] at c11
        exact absurd c11 (nI_pos (by omega))
      · try simp only [bI_0, Decidable.not_not] at c11
        refine g_blk [(.aload_n 0, .null)] (Nat.le_of_ble_eq_true rfl) (by decide +kernel) ?_
        refine gx_aload_n_0 ((gx_nil ?_))
        refine g_getf fX4_12 (by decide +kernel) ho rfl ?_
        refine g_blk [(.iload_n 2, .null)] (Nat.le_of_ble_eq_true rfl) (by decide +kernel) ?_
        refine gx_iload_n_2 ((gx_nil ?_))
        refine g_pV kX4_59 (al_get HL hx9) (by decide +kernel) rfl rfl (al_cell HL) rfl (Nat.le_of_ble_eq_true rfl) (Nat.le_of_ble_eq_true rfl) (Nat.le_of_ble_eq_true rfl) rfl ?_
        try simp only [Option.toList_some, Option.toList_none, List.cons_append, List.nil_append, bI_0, n1_0, n0_0, Decidable.not_not, not_true_eq_false, not_false_eq_true]
        refine g_castO hl9 rfl rfl (clX4_63) (by decide +kernel) ?_
        refine g_blk [(.astore_n 3, .null), (.aload_n 3, .null)] (Nat.le_of_ble_eq_true rfl) (by decide +kernel) ?_
        refine gx_astore_n_3 rfl (gx_aload_n_3 ((gx_nil ?_)))
        refine g_getf fX4_106 (by decide +kernel) hl9 rfl ?_
        refine g_blk [(.iload_n 1, .null)] (Nat.le_of_ble_eq_true rfl) (by decide +kernel) ?_
        refine gx_iload_n_1 ((gx_nil ?_))
        refine g_icmp_eq (off := 6) (tgt := 37) (by decide +kernel) (by decide) (fun c31 => ?_) (fun c31 => ?_)
        · try simp only [bI_0, Decidable.not_not] at c31
          refine g_blk [(.aload_n 0, .null), (.aload_n 3, .null)] (Nat.le_of_ble_eq_true rfl) (by decide +kernel) ?_
          refine gx_aload_n_0 (gx_aload_n_3 ((gx_nil ?_)))
          refine g_pV kX4_148 (of_comeBack Hk hck ht hvk hwk hx9) (by decide +kernel) rfl rfl ho rfl (Nat.le_of_ble_eq_true rfl) (Nat.le_of_ble_eq_true rfl) (Nat.le_of_ble_eq_true rfl) rfl ?_
          try simp only [Option.toList_some, Option.toList_none, List.cons_append, List.nil_append, bI_0, n1_0, n0_0, Decidable.not_not, not_true_eq_false, not_false_eq_true]
          refine g_if_ne (off := 25) (tgt := 67) (by decide +kernel) (by decide) (fun c42 => ?_) (fun c42 => ?_)
          · try simp only [bI_0, Decidable.not_not] at c42
            refine g_blk [(.aload_n 0, .null), (.dup, .null)] (Nat.le_of_ble_eq_true rfl) (by decide +kernel) ?_
            refine gx_aload_n_0 (gx_dupr ((gx_nil ?_)))
            refine g_getf fX4_51 (by decide +kernel) ho rfl ?_
            refine g_blk [(.iconst 1, .int (nI 1)), (.iadd, .null)] (Nat.le_of_ble_eq_true rfl) (by decide +kernel) ?_
            refine gx_iconst (gx_iadd ((gx_nil ?_)))
            refine g_putf fX4_51 (by decide +kernel) ho (by simp) rfl rfl ?_
            refine g_hp (h1 := gUp hk o (gJ 7 [.ref la, .ref ta, .ref ca, .ref da, .ref ba, .int (Nk 0), .int (Nk 1), .int (Nk 2), .int (Nk 5), .int (Nk 6), .int (Nk 7 + nI 1)])) rfl ?_
            have H6 := gOx_upO Hk (N' := upd Nk 7 (Nk 7 + nI 1)) (fun q q1 q2 => (pk_un (by omega)).symm) (cell := gJ 7 [.ref la, .ref ta, .ref ca, .ref da, .ref ba, .int (Nk 0), .int (Nk 1), .int (Nk 2), .int (Nk 5), .int (Nk 6), .int (Nk 7 + nI 1)]) rfl
            have k6 : gKeep (fun q => q ∈ gFp o ta ca da ba fl fq ls) h (gUp hk o (gJ 7 [.ref la, .ref ta, .ref ca, .ref da, .ref ba, .int (Nk 0), .int (Nk 1), .int (Nk 2), .int (Nk 5), .int (Nk 6), .int (Nk 7 + nI 1)])) := gK_up kk (Or.inl msO)
            revert H6 k6
            generalize gUp hk o (gJ 7 [.ref la, .ref ta, .ref ca, .ref da, .ref ba, .int (Nk 0), .int (Nk 1), .int (Nk 2), .int (Nk 5), .int (Nk 6), .int (Nk 7 + nI 1)]) = h6
            intro H6 k6
            have H60 := H6
            obtain ⟨ho6, HL6, -, hls6, -⟩ := H60
            have hl6 := hls6 n a9 hx9
            unfold gLet at hl6
            refine g_blk [(.aload_n 3, .null)] (Nat.le_of_ble_eq_true rfl) (by decide +kernel) ?_
            refine gx_aload_n_3 ((gx_nil ?_))
            refine g_callV (rc' := 0) (rs' := 0) kX4_155 (le_comeBack hl6) (by decide +kernel) rfl rfl hl6 rfl (Nat.le_of_ble_eq_true rfl) (Nat.le_of_ble_eq_true rfl) (Nat.le_of_ble_eq_true rfl) (by omega) (by omega) rfl (fun _ _ z => z.elim) (fun v9 h5 hz => ?_)
            obtain ⟨rfl, rfl⟩ := hz
            have eU : ∀ q, q ≠ 7 → upd Nk 7 (Nk 7 + nI 1) q = Nk q := fun q q1 => pk_un q1
            have eB : ∀ q, q ≠ 6 → q ≠ 7 → ¬ (62 + 7 * n ≤ q ∧ q < 62 + 7 * n + 7) → rBk Nk n q = Nk q := fun q q1 q2 q3 => by
              unfold rBk
              rw [pk_un q1, pk_un q2, pk_un (by omega), pk_un (by omega)]
            have H7 := gOx_upL H6 ht ndk hx9 (N' := upd (rBk Nk n) 6 (Nk 6)) (fun q q1 q2 => by
              by_cases y6 : q = 6
              · subst y6; rw [pk_us, eU 6 (by omega)]
              · rw [pk_un y6]
                by_cases y7 : q = 7
                · subst y7; rw [pk_us, rBk_7]
                · rw [eU q y7, eB q y6 y7 q2]) (cell := gJ 6 [.int (upd Nk 7 (Nk 7 + nI 1) (62 + 7 * n)), .int (upd Nk 7 (Nk 7 + nI 1) (62 + 7 * n + 1)), .int (upd Nk 7 (Nk 7 + nI 1) (62 + 7 * n + 2)), .int (upd Nk 7 (Nk 7 + nI 1) (62 + 7 * n + 3)), .int (upd Nk 7 (Nk 7 + nI 1) (62 + 7 * n + 4) + nI 1), .int (-1), .int (-1)]) (by
                unfold gBg
                rw [pk_un (by omega), pk_un (by omega), pk_un (by omega), pk_un (by omega), pk_un (by omega), pk_un (by omega), pk_un (by omega), pk_un (by omega), pk_un (by omega), pk_un (by omega), pk_un (by omega), rBk_5, if_pos rfl, rBk_4, rBk_o (by omega) (by omega) (by omega), rBk_o (by omega) (by omega) (by omega), rBk_o (by omega) (by omega) (by omega), rBk_o (by omega) (by omega) (by omega)])
            refine g_hp (h1 := gUp h6 a9 (gJ 6 [.int (upd Nk 7 (Nk 7 + nI 1) (62 + 7 * n)), .int (upd Nk 7 (Nk 7 + nI 1) (62 + 7 * n + 1)), .int (upd Nk 7 (Nk 7 + nI 1) (62 + 7 * n + 2)), .int (upd Nk 7 (Nk 7 + nI 1) (62 + 7 * n + 3)), .int (upd Nk 7 (Nk 7 + nI 1) (62 + 7 * n + 4) + nI 1), .int (-1), .int (-1)])) rfl ?_
            have k7 : gKeep (fun q => q ∈ gFp o ta ca da ba fl fq ls) h (gUp h6 a9 (gJ 6 [.int (upd Nk 7 (Nk 7 + nI 1) (62 + 7 * n)), .int (upd Nk 7 (Nk 7 + nI 1) (62 + 7 * n + 1)), .int (upd Nk 7 (Nk 7 + nI 1) (62 + 7 * n + 2)), .int (upd Nk 7 (Nk 7 + nI 1) (62 + 7 * n + 3)), .int (upd Nk 7 (Nk 7 + nI 1) (62 + 7 * n + 4) + nI 1), .int (-1), .int (-1)])) := gK_up k6 (Or.inl msA)
            revert H7 k7
            generalize gUp h6 a9 (gJ 6 [.int (upd Nk 7 (Nk 7 + nI 1) (62 + 7 * n)), .int (upd Nk 7 (Nk 7 + nI 1) (62 + 7 * n + 1)), .int (upd Nk 7 (Nk 7 + nI 1) (62 + 7 * n + 2)), .int (upd Nk 7 (Nk 7 + nI 1) (62 + 7 * n + 3)), .int (upd Nk 7 (Nk 7 + nI 1) (62 + 7 * n + 4) + nI 1), .int (-1), .int (-1)]) = h7
            intro H7 k7
            have H70 := H7
            obtain ⟨ho7, HL7, -, hls7, -⟩ := H70
            have hl7 := hls7 n a9 hx9
            unfold gLet at hl7
            rw [pk_un (k := 6) (j := 62 + 7 * n + 4) (by omega), rBk_4] at hl7
            obtain ⟨q, eq, hq⟩ : ∃ q, Nk (62 + 7 * n + 4) = nI q ∧ q < 3 := by
              obtain ⟨m, cd, w, pr, q, em, hm, ec, hcd, ew, hw1, hw2, ep, hpr, eq, hq, eA⟩ := hwk n (by omega)
              exact ⟨q, eq, hq⟩
            simp only [Option.toList_some, Option.toList_none, List.cons_append, List.nil_append]
            refine g_blk [(.aload_n 3, .null)] (Nat.le_of_ble_eq_true rfl) (by decide +kernel) ?_
            refine gx_aload_n_3 ((gx_nil ?_))
            refine g_getf fX4_158 (by decide +kernel) hl7 rfl ?_
            refine g_blk [(.iconst 3, .int (nI 3))] (Nat.le_of_ble_eq_true rfl) (by decide +kernel) ?_
            refine gx_iconst ((gx_nil ?_))
            refine g_icmp_lt (off := 22) (tgt := 108) (by decide +kernel) (by decide) (fun c86 => ?_) (fun c86 => ?_)
            · try simp only [bI_0, Decidable.not_not] at c86
              refine g_blk [(.iinc 2 (-1), .int (-1)), (.goto (-101), .retAddr 10)] (Nat.le_of_ble_eq_true rfl) (by decide +kernel) ?_
              refine gx_iinc_2 rfl (gx_goto ((gx_nil ?_)))
              refine g_wk (L' := [some (.ref o), some (.int (nI r)), some (.int (nI n - nI 1)), none]) (by simp [gLe, n_m1]) ?_
              have hd : ¬ Nk (62 + 7 * n + 4) + nI 1 = nI 3 := fun z => by
                rw [z] at c86; exact absurd c86 (by decide)
              rw [if_pos c31, if_neg (fun z3 => by have z2 := c42; unfold rWr at z2; simp only [decide_eq_true_eq] at z2; rw [c31] at z2; exact z2.2 z3), if_neg hd] at eX
              exact ih _ ck _ h7 (by omega) hck (gOx_cong H7 (fun q q1 => by
                by_cases y6 : q = 6
                · subst y6; rw [pk_us, rBk_6, if_neg hd, a_n0]
                · exact pk_un y6)) gk hlk k7 (rPv_cg ht (fun q q1 q2 => (rBk_k (by omega) (by omega) (by omega)).symm) hvk) (lqG_set (by omega) hwk hd) eX
            · try simp only [bI_0, Decidable.not_not] at c86
              refine g_blk [(.aload_n 0, .null), (.dup, .null)] (Nat.le_of_ble_eq_true rfl) (by decide +kernel) ?_
              refine gx_aload_n_0 (gx_dupr ((gx_nil ?_)))
              refine g_getf fX4_48 (by decide +kernel) ho7 rfl ?_
              refine g_blk [(.iconst 1, .int (nI 1)), (.iadd, .null)] (Nat.le_of_ble_eq_true rfl) (by decide +kernel) ?_
              refine gx_iconst (gx_iadd ((gx_nil ?_)))
              refine g_putf fX4_48 (by decide +kernel) ho7 (by simp) rfl rfl ?_
              have hd : Nk (62 + 7 * n + 4) + nI 1 = nI 3 := by
                rw [eq, nI_add] at c86 ⊢
                have : ¬ q + 1 < 3 := fun z => c86 (nI_lt z (by omega))
                exact congrArg nI (by omega)
              have H8 := gOx_upO H7 (N' := rBk Nk n) (fun q q1 q2 => pk_un (by omega)) (cell := gJ 7 [.ref la, .ref ta, .ref ca, .ref da, .ref ba, .int (upd (rBk Nk n) 6 (Nk 6) 0), .int (upd (rBk Nk n) 6 (Nk 6) 1), .int (upd (rBk Nk n) 6 (Nk 6) 2), .int (upd (rBk Nk n) 6 (Nk 6) 5), .int (upd (rBk Nk n) 6 (Nk 6) 6 + nI 1), .int (upd (rBk Nk n) 6 (Nk 6) 7)]) (by
                rw [pk_us, rBk_6, if_pos hd, pk_un (by omega), pk_un (by omega), pk_un (by omega), pk_un (by omega), pk_un (by omega)])
              refine g_hp (h1 := gUp h7 o (gJ 7 [.ref la, .ref ta, .ref ca, .ref da, .ref ba, .int (upd (rBk Nk n) 6 (Nk 6) 0), .int (upd (rBk Nk n) 6 (Nk 6) 1), .int (upd (rBk Nk n) 6 (Nk 6) 2), .int (upd (rBk Nk n) 6 (Nk 6) 5), .int (upd (rBk Nk n) 6 (Nk 6) 6 + nI 1), .int (upd (rBk Nk n) 6 (Nk 6) 7)])) rfl ?_
              have k9 : gKeep (fun q => q ∈ gFp o ta ca da ba fl fq ls) h (gUp h7 o (gJ 7 [.ref la, .ref ta, .ref ca, .ref da, .ref ba, .int (upd (rBk Nk n) 6 (Nk 6) 0), .int (upd (rBk Nk n) 6 (Nk 6) 1), .int (upd (rBk Nk n) 6 (Nk 6) 2), .int (upd (rBk Nk n) 6 (Nk 6) 5), .int (upd (rBk Nk n) 6 (Nk 6) 6 + nI 1), .int (upd (rBk Nk n) 6 (Nk 6) 7)])) := gK_up k7 (Or.inl msO)
              revert H8 k9
              generalize gUp h7 o (gJ 7 [.ref la, .ref ta, .ref ca, .ref da, .ref ba, .int (upd (rBk Nk n) 6 (Nk 6) 0), .int (upd (rBk Nk n) 6 (Nk 6) 1), .int (upd (rBk Nk n) 6 (Nk 6) 2), .int (upd (rBk Nk n) 6 (Nk 6) 5), .int (upd (rBk Nk n) 6 (Nk 6) 6 + nI 1), .int (upd (rBk Nk n) 6 (Nk 6) 7)]) = h8
              intro H8 k9
              have H80 := H8
              obtain ⟨ho8, HL8, -, hls8, -⟩ := H80
              refine g_blk [(.aload_n 0, .null)] (Nat.le_of_ble_eq_true rfl) (by decide +kernel) ?_
              refine gx_aload_n_0 ((gx_nil ?_))
              refine g_getf fX4_12 (by decide +kernel) ho8 rfl ?_
              refine g_blk [(.iload_n 2, .null)] (Nat.le_of_ble_eq_true rfl) (by decide +kernel) ?_
              refine gx_iload_n_2 ((gx_nil ?_))
              refine g_callV (rc' := 0) (rs' := 0) kX4_152 (al_remove HL8 hx9 gCi_6 (gEl_le hls8) (by decide)) (by decide +kernel) rfl rfl (al_cell HL8) rfl (Nat.le_of_ble_eq_true rfl) (Nat.le_of_ble_eq_true rfl) (Nat.le_of_ble_eq_true rfl) (by omega) (by omega) rfl (fun _ _ z => z.elim) (fun v9 h5 hz => ?_)
              obtain ⟨rfl, HL7, k7⟩ := hz
              have S := gOx_rmL H8 gk hck ht hx9 k7 HL7
              have k8 : gKeep (fun q => q ∈ gFp o ta ca da ba fl fq ls) h h5 := gK_tr k9 k7 (fun z y => Or.inl (msF z y))
              simp only [Option.toList_some, Option.toList_none, List.cons_append, List.nil_append]
              refine g_blk [(.pop, .null), (.iinc 2 (-1), .int (-1)), (.goto (-101), .retAddr 10)] (Nat.le_of_ble_eq_true rfl) (by decide +kernel) ?_
              refine gx_popr (gx_iinc_2 rfl (gx_goto ((gx_nil ?_))))
              refine g_wk (L' := [some (.ref o), some (.int (nI r)), some (.int (nI n - nI 1)), none]) (by simp [gLe, n_m1]) ?_
              rw [if_pos c31, if_neg (fun z3 => by have z2 := c42; unfold rWr at z2; simp only [decide_eq_true_eq] at z2; rw [c31] at z2; exact z2.2 z3), if_pos hd] at eX
              refine ih _ (ck - 1) _ h5 (by omega) (by omega) S.1 S.2 (fun q hq => hlk q (List.mem_of_mem_eraseIdx hq)) k8 (rPv_cg ht (fun q q1 q2 => ((rLv_k (by omega) (by omega)).trans (rBk_k (by omega) (by omega) (by omega))).symm) hvk) ?_ eX
              have w2 : rLv1 (rLv (rBk Nk n) n) (ck - 1) := by
                obtain ⟨c0, rfl⟩ : ∃ c0, ck = c0 + 1 := ⟨ck - 1, by omega⟩
                rw [lqG_iff] at hwk ⊢
                rw [Nat.add_sub_cancel, lqs_rLv (by omega) (by omega), lqs_rBk (by omega), List.eraseIdx_set_eq]
                exact fun x hx => hwk x (List.mem_of_mem_eraseIdx hx)
              exact w2
          · try simp only [bI_0, Decidable.not_not] at c42
            refine g_blk [(.aload_n 0, .null), (.dup, .null)] (Nat.le_of_ble_eq_true rfl) (by decide +kernel) ?_
            refine gx_aload_n_0 (gx_dupr ((gx_nil ?_)))
            refine g_getf fX4_45 (by decide +kernel) ho rfl ?_
            refine g_blk [(.iconst 1, .int (nI 1)), (.iadd, .null)] (Nat.le_of_ble_eq_true rfl) (by decide +kernel) ?_
            refine gx_iconst (gx_iadd ((gx_nil ?_)))
            refine g_putf fX4_45 (by decide +kernel) ho (by simp) rfl rfl ?_
            refine g_hp (h1 := gUp hk o (gJ 7 [.ref la, .ref ta, .ref ca, .ref da, .ref ba, .int (Nk 0), .int (Nk 1), .int (Nk 2), .int (Nk 5 + nI 1), .int (Nk 6), .int (Nk 7)])) rfl ?_
            have H6 := gOx_upO Hk (N' := upd Nk 5 (Nk 5 + nI 1)) (fun q q1 q2 => (pk_un (by omega)).symm) (cell := gJ 7 [.ref la, .ref ta, .ref ca, .ref da, .ref ba, .int (Nk 0), .int (Nk 1), .int (Nk 2), .int (Nk 5 + nI 1), .int (Nk 6), .int (Nk 7)]) rfl
            have k6 : gKeep (fun q => q ∈ gFp o ta ca da ba fl fq ls) h (gUp hk o (gJ 7 [.ref la, .ref ta, .ref ca, .ref da, .ref ba, .int (Nk 0), .int (Nk 1), .int (Nk 2), .int (Nk 5 + nI 1), .int (Nk 6), .int (Nk 7)])) := gK_up kk (Or.inl msO)
            revert H6 k6
            generalize gUp hk o (gJ 7 [.ref la, .ref ta, .ref ca, .ref da, .ref ba, .int (Nk 0), .int (Nk 1), .int (Nk 2), .int (Nk 5 + nI 1), .int (Nk 6), .int (Nk 7)]) = h6
            intro H6 k6
            have H60 := H6
            obtain ⟨ho6, HL6, -, hls6, -⟩ := H60
            refine g_blk [(.aload_n 0, .null)] (Nat.le_of_ble_eq_true rfl) (by decide +kernel) ?_
            refine gx_aload_n_0 ((gx_nil ?_))
            refine g_getf fX4_12 (by decide +kernel) ho6 rfl ?_
            refine g_blk [(.iload_n 2, .null)] (Nat.le_of_ble_eq_true rfl) (by decide +kernel) ?_
            refine gx_iload_n_2 ((gx_nil ?_))
            refine g_callV (rc' := 0) (rs' := 0) kX4_152 (al_remove HL6 hx9 gCi_6 (gEl_le hls6) (by decide)) (by decide +kernel) rfl rfl (al_cell HL6) rfl (Nat.le_of_ble_eq_true rfl) (Nat.le_of_ble_eq_true rfl) (Nat.le_of_ble_eq_true rfl) (by omega) (by omega) rfl (fun _ _ z => z.elim) (fun v9 h5 hz => ?_)
            obtain ⟨rfl, HL7, k7⟩ := hz
            have S := gOx_rmL H6 gk hck ht hx9 k7 HL7
            have k8 : gKeep (fun q => q ∈ gFp o ta ca da ba fl fq ls) h h5 := gK_tr k6 k7 (fun z y => Or.inl (msF z y))
            simp only [Option.toList_some, Option.toList_none, List.cons_append, List.nil_append]
            refine g_blk [(.pop, .null), (.goto 44, .retAddr 108), (.iinc 2 (-1), .int (-1)), (.goto (-101), .retAddr 10)] (Nat.le_of_ble_eq_true rfl) (by decide +kernel) ?_
            refine gx_popr (gx_goto (gx_iinc_2 rfl (gx_goto ((gx_nil ?_)))))
            refine g_wk (L' := [some (.ref o), some (.int (nI r)), some (.int (nI n - nI 1)), none]) (by simp [gLe, n_m1]) ?_
            rw [if_pos c31, if_pos (by have z2 := c42; unfold rWr at z2; simp only [decide_eq_true_eq, not_and, Decidable.not_not] at z2; rw [c31] at z2; exact z2 (nI_nm1 (by omega)))] at eX
            exact ih _ (ck - 1) _ h5 (by omega) (by omega) S.1 S.2 (fun q hq => hlk q (List.mem_of_mem_eraseIdx hq)) k8 (rPv_cg ht (fun q q1 q2 => ((rLv_k (by omega) (by omega)).trans (pk_un (by omega))).symm) hvk) (lqG_rLv (by omega) hck (lqG_cg (fun q q1 q2 => (pk_un (by omega)).symm) hwk)) eX
        · try simp only [bI_0, Decidable.not_not] at c31
          refine g_blk [(.goto 74, .retAddr 108), (.iinc 2 (-1), .int (-1)), (.goto (-101), .retAddr 10)] (Nat.le_of_ble_eq_true rfl) (by decide +kernel) ?_
          refine gx_goto (gx_iinc_2 rfl (gx_goto ((gx_nil ?_))))
          refine g_wk (L' := [some (.ref o), some (.int (nI r)), some (.int (nI n - nI 1)), none]) (by simp [gLe, n_m1]) ?_
          rw [if_neg c31] at eX
          exact ih Nk ck lk hk (by omega) hck Hk gk hlk kk hvk hwk eX
  have H0 := H
  obtain ⟨ho, HL, hlc, hls, -⟩ := H0
  refine gC_of (by decide) rfl (Nat.le_of_ble_eq_true rfl) [some (.ref o), some (.int (nI r)), none, none] rfl ?_
  refine g_blk [(.aload_n 0, .null)] (Nat.le_of_ble_eq_true rfl) (by decide +kernel) ?_
  refine gx_aload_n_0 ((gx_nil ?_))
  refine g_getf fX4_12 (by decide +kernel) ho rfl ?_
  refine g_pV kX4_55 (al_size HL) (by decide +kernel) rfl rfl (al_cell HL) rfl (Nat.le_of_ble_eq_true rfl) (Nat.le_of_ble_eq_true rfl) (Nat.le_of_ble_eq_true rfl) rfl ?_
  simp only [Option.toList_some, List.cons_append, List.nil_append]
  rw [hlc]
  refine g_blk [(.iconst 1, .int (nI 1)), (.isub, .null), (.istore_n 2, .null)] (Nat.le_of_ble_eq_true rfl) (by decide +kernel) ?_
  refine gx_iconst (gx_isub (gx_istore_n_2 rfl ((gx_nil ?_))))
  exact loop c N c ls h (Nat.le_refl _) hc H (gNd_of nd) (fun q hq => hq) gKeep.rf hv hw hX
end GSl2
