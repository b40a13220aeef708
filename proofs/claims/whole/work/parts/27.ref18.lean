section S27ref18leantxt
variable {Γ : gE} {o : Nat} {ad : Nat → Nat} {V : Nat → Int32} {F : Nat → Nat → Int32}
def fmA : Option (Nat × Nat) → List Nat
  | none => []
  | some (a, b) => [32] ++ [114] ++ dgt a ++ [46] ++ dgt b
def fmQ (q : Nat) : List Nat := if q = 0 then [] else [32] ++ [42] ++ dgt q
def fmt (pr m cd w : Nat) (A : Option (Nat × Nat)) (q : Nat) : List Nat := [if pr = 1 then 80 else 83] ++ dgt m ++ [58] ++ dgu cd 3 ++ [32] ++ dgt w ++ [103] ++ fmA A ++ fmQ q
theorem dgt_len (n : Nat) : (dgt n).length = tpd n + 1 := dgu_len n _
theorem fR_n0 {F : Nat → Nat → Int32} {g : Nat → Int32} : fR F 11 g 0 = F 0 := rfl
theorem wr_nil {L : Nat → Int32} {k : Nat} : wr L k [] = L := rfl
theorem wr_at {L : Nat → Int32} {k : Nat} {xs ys : List Nat} (h : k = xs.length) : wr (wr L 0 xs) k ys = wr L 0 (xs ++ ys) := by
  rw [wr_app, h, Nat.zero_add]
theorem wr_eqk {L : Nat → Int32} {k k' : Nat} {l : List Nat} (e : k = k') : wr L k l = wr L k' l := by rw [e]
theorem rp_formatLetter0 {c : Nat} (hc : c ≤ 20) (h3 : F 0 3 = nI c) (id : Int32) (hn : rPlace (F 0) id c = -1) : mC Γ o ad M_X10_formatLetter [.int id] V F 3 (some (.int (nI 0))) (vU V 13 (nI 1)) F := by
  refine mC_of (by decide) rfl (Nat.le_of_ble_eq_true rfl) [some (.ref o), some (.int id), none] rfl ?_
  refine m_blk [(.aload_n 0, .null), (.aload_n 0, .null), (.iload_n 1, .null)] (Nat.le_of_ble_eq_true rfl) (by decide +kernel) ?_
  refine gx_aload_n_0 (gx_aload_n_0 (gx_iload_n_1 ((gx_nil ?_))))
  refine m_call kX10_156 (r_isHere hc h3 _) (by decide +kernel) rfl rfl (Nat.le_of_ble_eq_true rfl) (Nat.le_of_ble_eq_true rfl) (Nat.le_of_ble_eq_true rfl) rfl ?_
  try simp only [Option.toList_some, Option.toList_none, List.cons_append, List.nil_append, bI_0, n1_0, n0_0, Decidable.not_not, not_true_eq_false, not_false_eq_true, nI_add, pk_mul, Nat.add_zero, Nat.zero_add, Nat.reduceAdd, Nat.reduceMul]
  refine m_call kX10_62 (r_goes _) (by decide +kernel) rfl rfl (Nat.le_of_ble_eq_true rfl) (Nat.le_of_ble_eq_true rfl) (Nat.le_of_ble_eq_true rfl) rfl ?_
  try simp only [Option.toList_some, Option.toList_none, List.cons_append, List.nil_append, bI_0, n1_0, n0_0, Decidable.not_not, not_true_eq_false, not_false_eq_true, nI_add, pk_mul, Nat.add_zero, Nat.zero_add, Nat.reduceAdd, Nat.reduceMul]
  refine m_if_ne (off := 5) (tgt := 14) (by decide +kernel) (by decide) (fun c9 => ?_) (fun c9 => ?_)
  · try simp only [bI_0, Decidable.not_not] at c9
    exact (c9 hn).elim
  · try simp only [bI_0, Decidable.not_not] at c9
    refine m_blk [(.iconst 0, .int (nI 0))] (Nat.le_of_ble_eq_true rfl) (by decide +kernel) ?_
    refine gx_iconst ((gx_nil ?_))
    refine m_end (some (.int _)) rfl ⟨by decide +kernel, _, rfl, rfl⟩ ?_ ?_ ?_
    · rfl
    · rw [bI_f (fun z => z hn)]; rfl
    · rfl
theorem rp_formatLetter1 {c : Nat} (hc : c ≤ 20) (h3 : F 0 3 = nI c) (id : Int32) (hn : ¬ rPlace (F 0) id c = -1) {m cd w pr q : Nat} {A : Option (Nat × Nat)} (hm : m < 100000) (hid : id = nI m) (hcd : cd < 10000) (ecd : F 0 (62 + 7 * rIdx (F 0) id c + 1) = nI cd) (hw : w < 100) (ew : F 0 (62 + 7 * rIdx (F 0) id c + 2) = nI w) (epr : F 0 (62 + 7 * rIdx (F 0) id c + 3) = nI pr) (hpr : pr ≤ 1) (eq : F 0 (62 + 7 * rIdx (F 0) id c + 4) = nI q) (hq : q < 10) (hA : (A = none ∧ F 0 (62 + 7 * rIdx (F 0) id c + 5) = -1) ∨ ∃ a b, a < 10 ∧ b < 10 ∧ A = some (a, b) ∧ F 0 (62 + 7 * rIdx (F 0) id c + 5) = nI a ∧ F 0 (62 + 7 * rIdx (F 0) id c + 6) = nI b) : mC Γ o ad M_X10_formatLetter [.int id] V F 3 (some (.int (nI (fmt pr m cd w A q).length))) (vU (vU V 13 (nI 0)) 12 (nI (fmt pr m cd w A q).length)) (fR F 11 (wr (F 11) 0 (fmt pr m cd w A q))) := by
  subst hid
  have t5 := tpd_le m
  have tw := tpd_99 hw
  have tq : tpd q = 0 := tpd_9 hq
  refine mC_of (by decide) rfl (Nat.le_of_ble_eq_true rfl) [some (.ref o), some (.int (nI m)), none] rfl ?_
  refine m_blk [(.aload_n 0, .null), (.aload_n 0, .null), (.iload_n 1, .null)] (Nat.le_of_ble_eq_true rfl) (by decide +kernel) ?_
  refine gx_aload_n_0 (gx_aload_n_0 (gx_iload_n_1 ((gx_nil ?_))))
  refine m_call kX10_156 (r_isHere hc h3 _) (by decide +kernel) rfl rfl (Nat.le_of_ble_eq_true rfl) (Nat.le_of_ble_eq_true rfl) (Nat.le_of_ble_eq_true rfl) rfl ?_
  refine m_call kX10_62 (r_goes _) (by decide +kernel) rfl rfl (Nat.le_of_ble_eq_true rfl) (Nat.le_of_ble_eq_true rfl) (Nat.le_of_ble_eq_true rfl) rfl ?_
  refine m_if_ne (off := 5) (tgt := 14) (by decide +kernel) (by decide) (fun c9 => ?_) (fun c9 => ?_)
  · try simp only [bI_0, Decidable.not_not] at c9
    refine m_blk [(.aload_n 0, .null), (.aload_n 0, .null), (.aload_n 0, .null), (.iconst 0, .int (nI 0)), (.aload_n 0, .null), (.iload_n 1, .null), (.iconst 3, .int (nI 3))] (Nat.le_of_ble_eq_true rfl) (by decide +kernel) ?_
    refine gx_aload_n_0 (gx_aload_n_0 (gx_aload_n_0 (gx_iconst (gx_aload_n_0 (gx_iload_n_1 (gx_iconst ((gx_nil ?_))))))))
    refine m_call kX10_153 (r_of hc h3 (nI m) 3 (by decide)) (by decide +kernel) rfl rfl (Nat.le_of_ble_eq_true rfl) (Nat.le_of_ble_eq_true rfl) (Nat.le_of_ble_eq_true rfl) rfl ?_
    try simp only [fR_n0]
    rw [epr]
    refine m_blk [(.iconst 1, .int (nI 1))] (Nat.le_of_ble_eq_true rfl) (by decide +kernel) ?_
    refine gx_iconst ((gx_nil ?_))
    refine m_icmp_ne (off := 8) (tgt := 33) (by decide +kernel) (by decide) (fun c25 => ?_) (fun c25 => ?_)
    · try simp only [bI_0, Decidable.not_not] at c25
      have hp0 : ¬ pr = 1 := fun z => c25 (by rw [z])
      refine m_blk [(.bipush 83, .int (nI 83))] (Nat.le_of_ble_eq_true rfl) (by decide +kernel) ?_
      refine gx_bipush ((gx_nil ?_))
      refine m_call kX10_200 (r_put 0 (by omega) 83) (by decide +kernel) rfl rfl (Nat.le_of_ble_eq_true rfl) (Nat.le_of_ble_eq_true rfl) (Nat.le_of_ble_eq_true rfl) rfl ?_
      simp only [Option.toList_some, List.cons_append, List.nil_append, fR_fR, fR_s]
      refine m_blk [(.iload_n 1, .null)] (Nat.le_of_ble_eq_true rfl) (by decide +kernel) ?_
      refine gx_iload_n_1 ((gx_nil ?_))
      refine m_call kX10_203 (r_writesNumber 1 m hm (by omega)) (by decide +kernel) rfl rfl (Nat.le_of_ble_eq_true rfl) (Nat.le_of_ble_eq_true rfl) (Nat.le_of_ble_eq_true rfl) rfl ?_
      simp only [Option.toList_some, List.cons_append, List.nil_append, fR_fR, fR_s]
      refine m_blk [(.bipush 58, .int (nI 58))] (Nat.le_of_ble_eq_true rfl) (by decide +kernel) ?_
      refine gx_bipush ((gx_nil ?_))
      refine m_call kX10_200 (r_put (1 + (tpd m + 1)) (by omega) 58) (by decide +kernel) rfl rfl (Nat.le_of_ble_eq_true rfl) (Nat.le_of_ble_eq_true rfl) (Nat.le_of_ble_eq_true rfl) rfl ?_
      simp only [Option.toList_some, List.cons_append, List.nil_append, fR_fR, fR_s]
      refine m_blk [(.istore_n 2, .null), (.aload_n 0, .null), (.aload_n 0, .null), (.iload_n 2, .null), (.aload_n 0, .null), (.iload_n 1, .null), (.iconst 1, .int (nI 1))] (Nat.le_of_ble_eq_true rfl) (by decide +kernel) ?_
      refine gx_istore_n_2 rfl (gx_aload_n_0 (gx_aload_n_0 (gx_iload_n_2 (gx_aload_n_0 (gx_iload_n_1 (gx_iconst ((gx_nil ?_))))))))
      refine m_call kX10_153 (r_of (F := fR F 11 _) hc h3 (nI m) 1 (by decide)) (by decide +kernel) rfl rfl (Nat.le_of_ble_eq_true rfl) (Nat.le_of_ble_eq_true rfl) (Nat.le_of_ble_eq_true rfl) rfl ?_
      try simp only [fR_n0]
      rw [ecd]
      refine m_call kX10_206 (r_writesCode (1 + (tpd m + 1) + 1) cd (by omega) (by omega)) (by decide +kernel) rfl rfl (Nat.le_of_ble_eq_true rfl) (Nat.le_of_ble_eq_true rfl) (Nat.le_of_ble_eq_true rfl) rfl ?_
      simp only [Option.toList_some, List.cons_append, List.nil_append, fR_fR, fR_s]
      refine m_blk [(.bipush 32, .int (nI 32))] (Nat.le_of_ble_eq_true rfl) (by decide +kernel) ?_
      refine gx_bipush ((gx_nil ?_))
      refine m_call kX10_200 (r_put (1 + (tpd m + 1) + 1 + (3 + 1)) (by omega) 32) (by decide +kernel) rfl rfl (Nat.le_of_ble_eq_true rfl) (Nat.le_of_ble_eq_true rfl) (Nat.le_of_ble_eq_true rfl) rfl ?_
      simp only [Option.toList_some, List.cons_append, List.nil_append, fR_fR, fR_s]
      refine m_blk [(.istore_n 2, .null), (.aload_n 0, .null), (.aload_n 0, .null), (.iload_n 2, .null), (.aload_n 0, .null), (.iload_n 1, .null), (.iconst 2, .int (nI 2))] (Nat.le_of_ble_eq_true rfl) (by decide +kernel) ?_
      refine gx_istore_n_2 rfl (gx_aload_n_0 (gx_aload_n_0 (gx_iload_n_2 (gx_aload_n_0 (gx_iload_n_1 (gx_iconst ((gx_nil ?_))))))))
      refine m_call kX10_153 (r_of (F := fR F 11 _) hc h3 (nI m) 2 (by decide)) (by decide +kernel) rfl rfl (Nat.le_of_ble_eq_true rfl) (Nat.le_of_ble_eq_true rfl) (Nat.le_of_ble_eq_true rfl) rfl ?_
      try simp only [fR_n0]
      rw [ew]
      refine m_call kX10_203 (r_writesNumber (1 + (tpd m + 1) + 1 + (3 + 1) + 1) w (by omega) (by omega)) (by decide +kernel) rfl rfl (Nat.le_of_ble_eq_true rfl) (Nat.le_of_ble_eq_true rfl) (Nat.le_of_ble_eq_true rfl) rfl ?_
      simp only [Option.toList_some, List.cons_append, List.nil_append, fR_fR, fR_s]
      refine m_blk [(.bipush 103, .int (nI 103))] (Nat.le_of_ble_eq_true rfl) (by decide +kernel) ?_
      refine gx_bipush ((gx_nil ?_))
      refine m_call kX10_200 (r_put (1 + (tpd m + 1) + 1 + (3 + 1) + 1 + (tpd w + 1)) (by omega) 103) (by decide +kernel) rfl rfl (Nat.le_of_ble_eq_true rfl) (Nat.le_of_ble_eq_true rfl) (Nat.le_of_ble_eq_true rfl) rfl ?_
      simp only [Option.toList_some, List.cons_append, List.nil_append, fR_fR, fR_s]
      refine m_blk [(.istore_n 2, .null), (.aload_n 0, .null), (.iload_n 1, .null), (.iconst 5, .int (nI 5))] (Nat.le_of_ble_eq_true rfl) (by decide +kernel) ?_
      refine gx_istore_n_2 rfl (gx_aload_n_0 (gx_iload_n_1 (gx_iconst ((gx_nil ?_)))))
      refine m_call kX10_153 (r_of (F := fR F 11 _) hc h3 (nI m) 5 (by decide)) (by decide +kernel) rfl rfl (Nat.le_of_ble_eq_true rfl) (Nat.le_of_ble_eq_true rfl) (Nat.le_of_ble_eq_true rfl) rfl ?_
      try simp only [fR_n0]
      refine m_blk [(.iconst (-1), .int (-1))] (Nat.le_of_ble_eq_true rfl) (by decide +kernel) ?_
      refine gx_iconst ((gx_nil ?_))
      refine m_icmp_eq (off := 46) (tgt := 137) (by decide +kernel) (by decide) (fun c91 => ?_) (fun c91 => ?_)
      · try simp only [bI_0, Decidable.not_not] at c91
        obtain rfl : A = none := by
          rcases hA with z | ⟨a, b, h1, h2, h3, h4, h5⟩
          · exact z.1
          · exact absurd (h4.symm.trans c91) (nI_nm1 (by omega))
        refine m_blk [(.aload_n 0, .null), (.aload_n 0, .null), (.iload_n 1, .null), (.iconst 4, .int (nI 4))] (Nat.le_of_ble_eq_true rfl) (by decide +kernel) ?_
        refine gx_aload_n_0 (gx_aload_n_0 (gx_iload_n_1 (gx_iconst ((gx_nil ?_)))))
        refine m_call kX10_153 (r_of (F := fR F 11 _) hc h3 (nI m) 4 (by decide)) (by decide +kernel) rfl rfl (Nat.le_of_ble_eq_true rfl) (Nat.le_of_ble_eq_true rfl) (Nat.le_of_ble_eq_true rfl) rfl ?_
        try simp only [fR_n0]
        rw [eq]
        refine m_if_ne (off := 7) (tgt := 151) (by decide +kernel) (by decide) (fun c144 => ?_) (fun c144 => ?_)
        · try simp only [bI_0, Decidable.not_not] at c144
          have hq0 : ¬ q = 0 := fun z => c144 (by rw [z]; decide)
          refine m_blk [(.aload_n 0, .null), (.aload_n 0, .null), (.aload_n 0, .null), (.iload_n 2, .null), (.bipush 32, .int (nI 32))] (Nat.le_of_ble_eq_true rfl) (by decide +kernel) ?_
          refine gx_aload_n_0 (gx_aload_n_0 (gx_aload_n_0 (gx_iload_n_2 (gx_bipush ((gx_nil ?_))))))
          refine m_call kX10_200 (r_put (1 + (tpd m + 1) + 1 + (3 + 1) + 1 + (tpd w + 1) + 1) (by omega) 32) (by decide +kernel) rfl rfl (Nat.le_of_ble_eq_true rfl) (Nat.le_of_ble_eq_true rfl) (Nat.le_of_ble_eq_true rfl) rfl ?_
          simp only [Option.toList_some, List.cons_append, List.nil_append, fR_fR, fR_s]
          refine m_blk [(.bipush 42, .int (nI 42))] (Nat.le_of_ble_eq_true rfl) (by decide +kernel) ?_
          refine gx_bipush ((gx_nil ?_))
          refine m_call kX10_200 (r_put (1 + (tpd m + 1) + 1 + (3 + 1) + 1 + (tpd w + 1) + 1 + 1) (by omega) 42) (by decide +kernel) rfl rfl (Nat.le_of_ble_eq_true rfl) (Nat.le_of_ble_eq_true rfl) (Nat.le_of_ble_eq_true rfl) rfl ?_
          simp only [Option.toList_some, List.cons_append, List.nil_append, fR_fR, fR_s]
          refine m_blk [(.aload_n 0, .null), (.iload_n 1, .null), (.iconst 4, .int (nI 4))] (Nat.le_of_ble_eq_true rfl) (by decide +kernel) ?_
          refine gx_aload_n_0 (gx_iload_n_1 (gx_iconst ((gx_nil ?_))))
          refine m_call kX10_153 (r_of (F := fR F 11 _) hc h3 (nI m) 4 (by decide)) (by decide +kernel) rfl rfl (Nat.le_of_ble_eq_true rfl) (Nat.le_of_ble_eq_true rfl) (Nat.le_of_ble_eq_true rfl) rfl ?_
          try simp only [fR_n0]
          rw [eq]
          refine m_call kX10_203 (r_writesNumber (1 + (tpd m + 1) + 1 + (3 + 1) + 1 + (tpd w + 1) + 1 + 1 + 1) q (by omega) (by omega)) (by decide +kernel) rfl rfl (Nat.le_of_ble_eq_true rfl) (Nat.le_of_ble_eq_true rfl) (Nat.le_of_ble_eq_true rfl) rfl ?_
          simp only [Option.toList_some, List.cons_append, List.nil_append, fR_fR, fR_s]
          refine m_putI fX10_209 (by decide +kernel) rfl (by decide) rfl rfl ?_
          refine m_blk [(.aload_n 0, .null)] (Nat.le_of_ble_eq_true rfl) (by decide +kernel) ?_
          refine gx_aload_n_0 ((gx_nil ?_))
          refine m_getI fX10_209 (by decide +kernel) rfl ?_
          try simp only [vU_s, vU_n, ne_eq, Nat.reduceEqDiff, not_false_eq_true, ]
          refine m_end (some (.int _)) rfl ⟨by decide +kernel, _, rfl, rfl⟩ ?_ ?_ ?_
          · refine congrArg (fun x => some (Value.int (nI x))) ?_
            simp only [fmt, fmA, fmQ, List.length_append, List.length_cons, List.length_nil, dgt_len, dgu_len, if_neg hq0, List.length_append, List.length_cons, List.length_nil, dgt_len]
            all_goals omega
          · refine (?_ : vU (vU V 13 _) 12 (nI _) = vU (vU V 13 _) 12 (nI _))
            congr 2
            · rw [bI_t hn]; rfl
            · simp only [fmt, fmA, fmQ, List.length_append, List.length_cons, List.length_nil, dgt_len, dgu_len, if_neg hq0, List.length_append, List.length_cons, List.length_nil, dgt_len]
              all_goals omega
          · congr 1
            repeat rw [wr_at]
            · simp only [fmt, fmA, fmQ, List.append_assoc, List.append_nil, List.cons_append, List.nil_append, if_neg hp0, if_neg hq0]
            all_goals (simp only [List.length_append, List.length_cons, List.length_nil, dgt_len, dgu_len]; try omega)
        · try simp only [bI_0, Decidable.not_not] at c144
          obtain rfl : q = 0 := (nI_eq (b := 0) (by omega) (by omega)).mp (by rw [c144]; decide)
          refine m_blk [(.iload_n 2, .null), (.goto 26, .retAddr 174)] (Nat.le_of_ble_eq_true rfl) (by decide +kernel) ?_
          refine gx_iload_n_2 (gx_goto ((gx_nil ?_)))
          refine m_putI fX10_209 (by decide +kernel) rfl (by decide) rfl rfl ?_
          refine m_blk [(.aload_n 0, .null)] (Nat.le_of_ble_eq_true rfl) (by decide +kernel) ?_
          refine gx_aload_n_0 ((gx_nil ?_))
          refine m_getI fX10_209 (by decide +kernel) rfl ?_
          try simp only [vU_s, vU_n, ne_eq, Nat.reduceEqDiff, not_false_eq_true, ]
          refine m_end (some (.int _)) rfl ⟨by decide +kernel, _, rfl, rfl⟩ ?_ ?_ ?_
          · refine congrArg (fun x => some (Value.int (nI x))) ?_
            simp only [fmt, fmA, fmQ, List.length_append, List.length_cons, List.length_nil, dgt_len, dgu_len, if_true]
            all_goals omega
          · refine (?_ : vU (vU V 13 _) 12 (nI _) = vU (vU V 13 _) 12 (nI _))
            congr 2
            · rw [bI_t hn]; rfl
            · simp only [fmt, fmA, fmQ, List.length_append, List.length_cons, List.length_nil, dgt_len, dgu_len, if_true]
              all_goals omega
          · congr 1
            repeat rw [wr_at]
            · simp only [fmt, fmA, fmQ, List.append_assoc, List.append_nil, List.cons_append, List.nil_append, if_neg hp0, if_true]
            all_goals (simp only [List.length_append, List.length_cons, List.length_nil, dgt_len, dgu_len]; try omega)
      · try simp only [bI_0, Decidable.not_not] at c91
        obtain ⟨a, b, ha, hb, rfl, ea, eb⟩ := hA.resolve_left (fun z => c91 z.2)
        have ta : tpd a = 0 := tpd_9 ha
        have tb : tpd b = 0 := tpd_9 hb
        refine m_blk [(.aload_n 0, .null), (.aload_n 0, .null), (.aload_n 0, .null), (.aload_n 0, .null), (.iload_n 2, .null), (.bipush 32, .int (nI 32))] (Nat.le_of_ble_eq_true rfl) (by decide +kernel) ?_
        refine gx_aload_n_0 (gx_aload_n_0 (gx_aload_n_0 (gx_aload_n_0 (gx_iload_n_2 (gx_bipush ((gx_nil ?_)))))))
        refine m_call kX10_200 (r_put (1 + (tpd m + 1) + 1 + (3 + 1) + 1 + (tpd w + 1) + 1) (by omega) 32) (by decide +kernel) rfl rfl (Nat.le_of_ble_eq_true rfl) (Nat.le_of_ble_eq_true rfl) (Nat.le_of_ble_eq_true rfl) rfl ?_
        simp only [Option.toList_some, List.cons_append, List.nil_append, fR_fR, fR_s]
        refine m_blk [(.bipush 114, .int (nI 114))] (Nat.le_of_ble_eq_true rfl) (by decide +kernel) ?_
        refine gx_bipush ((gx_nil ?_))
        refine m_call kX10_200 (r_put (1 + (tpd m + 1) + 1 + (3 + 1) + 1 + (tpd w + 1) + 1 + 1) (by omega) 114) (by decide +kernel) rfl rfl (Nat.le_of_ble_eq_true rfl) (Nat.le_of_ble_eq_true rfl) (Nat.le_of_ble_eq_true rfl) rfl ?_
        simp only [Option.toList_some, List.cons_append, List.nil_append, fR_fR, fR_s]
        refine m_blk [(.aload_n 0, .null), (.iload_n 1, .null), (.iconst 5, .int (nI 5))] (Nat.le_of_ble_eq_true rfl) (by decide +kernel) ?_
        refine gx_aload_n_0 (gx_iload_n_1 (gx_iconst ((gx_nil ?_))))
        refine m_call kX10_153 (r_of (F := fR F 11 _) hc h3 (nI m) 5 (by decide)) (by decide +kernel) rfl rfl (Nat.le_of_ble_eq_true rfl) (Nat.le_of_ble_eq_true rfl) (Nat.le_of_ble_eq_true rfl) rfl ?_
        try simp only [fR_n0]
        rw [ea]
        refine m_call kX10_203 (r_writesNumber (1 + (tpd m + 1) + 1 + (3 + 1) + 1 + (tpd w + 1) + 1 + 1 + 1) a (by omega) (by omega)) (by decide +kernel) rfl rfl (Nat.le_of_ble_eq_true rfl) (Nat.le_of_ble_eq_true rfl) (Nat.le_of_ble_eq_true rfl) rfl ?_
        simp only [Option.toList_some, List.cons_append, List.nil_append, fR_fR, fR_s]
        refine m_blk [(.bipush 46, .int (nI 46))] (Nat.le_of_ble_eq_true rfl) (by decide +kernel) ?_
        refine gx_bipush ((gx_nil ?_))
        refine m_call kX10_200 (r_put (1 + (tpd m + 1) + 1 + (3 + 1) + 1 + (tpd w + 1) + 1 + 1 + 1 + (tpd a + 1)) (by omega) 46) (by decide +kernel) rfl rfl (Nat.le_of_ble_eq_true rfl) (Nat.le_of_ble_eq_true rfl) (Nat.le_of_ble_eq_true rfl) rfl ?_
        simp only [Option.toList_some, List.cons_append, List.nil_append, fR_fR, fR_s]
        refine m_blk [(.istore_n 2, .null), (.aload_n 0, .null), (.iload_n 2, .null), (.aload_n 0, .null), (.iload_n 1, .null), (.bipush 6, .int (nI 6))] (Nat.le_of_ble_eq_true rfl) (by decide +kernel) ?_
        refine gx_istore_n_2 rfl (gx_aload_n_0 (gx_iload_n_2 (gx_aload_n_0 (gx_iload_n_1 (gx_bipush ((gx_nil ?_)))))))
        refine m_call kX10_153 (r_of (F := fR F 11 _) hc h3 (nI m) 6 (by decide)) (by decide +kernel) rfl rfl (Nat.le_of_ble_eq_true rfl) (Nat.le_of_ble_eq_true rfl) (Nat.le_of_ble_eq_true rfl) rfl ?_
        try simp only [fR_n0]
        rw [eb]
        refine m_call kX10_203 (r_writesNumber (1 + (tpd m + 1) + 1 + (3 + 1) + 1 + (tpd w + 1) + 1 + 1 + 1 + (tpd a + 1) + 1) b (by omega) (by omega)) (by decide +kernel) rfl rfl (Nat.le_of_ble_eq_true rfl) (Nat.le_of_ble_eq_true rfl) (Nat.le_of_ble_eq_true rfl) rfl ?_
        simp only [Option.toList_some, List.cons_append, List.nil_append, fR_fR, fR_s]
        refine m_blk [(.istore_n 2, .null), (.aload_n 0, .null), (.aload_n 0, .null), (.iload_n 1, .null), (.iconst 4, .int (nI 4))] (Nat.le_of_ble_eq_true rfl) (by decide +kernel) ?_
        refine gx_istore_n_2 rfl (gx_aload_n_0 (gx_aload_n_0 (gx_iload_n_1 (gx_iconst ((gx_nil ?_))))))
        refine m_call kX10_153 (r_of (F := fR F 11 _) hc h3 (nI m) 4 (by decide)) (by decide +kernel) rfl rfl (Nat.le_of_ble_eq_true rfl) (Nat.le_of_ble_eq_true rfl) (Nat.le_of_ble_eq_true rfl) rfl ?_
        try simp only [fR_n0]
        rw [eq]
        refine m_if_ne (off := 7) (tgt := 151) (by decide +kernel) (by decide) (fun c144 => ?_) (fun c144 => ?_)
        · try simp only [bI_0, Decidable.not_not] at c144
          have hq0 : ¬ q = 0 := fun z => c144 (by rw [z]; decide)
          refine m_blk [(.aload_n 0, .null), (.aload_n 0, .null), (.aload_n 0, .null), (.iload_n 2, .null), (.bipush 32, .int (nI 32))] (Nat.le_of_ble_eq_true rfl) (by decide +kernel) ?_
          refine gx_aload_n_0 (gx_aload_n_0 (gx_aload_n_0 (gx_iload_n_2 (gx_bipush ((gx_nil ?_))))))
          refine m_call kX10_200 (r_put (1 + (tpd m + 1) + 1 + (3 + 1) + 1 + (tpd w + 1) + 1 + 1 + 1 + (tpd a + 1) + 1 + (tpd b + 1)) (by omega) 32) (by decide +kernel) rfl rfl (Nat.le_of_ble_eq_true rfl) (Nat.le_of_ble_eq_true rfl) (Nat.le_of_ble_eq_true rfl) rfl ?_
          simp only [Option.toList_some, List.cons_append, List.nil_append, fR_fR, fR_s]
          refine m_blk [(.bipush 42, .int (nI 42))] (Nat.le_of_ble_eq_true rfl) (by decide +kernel) ?_
          refine gx_bipush ((gx_nil ?_))
          refine m_call kX10_200 (r_put (1 + (tpd m + 1) + 1 + (3 + 1) + 1 + (tpd w + 1) + 1 + 1 + 1 + (tpd a + 1) + 1 + (tpd b + 1) + 1) (by omega) 42) (by decide +kernel) rfl rfl (Nat.le_of_ble_eq_true rfl) (Nat.le_of_ble_eq_true rfl) (Nat.le_of_ble_eq_true rfl) rfl ?_
          simp only [Option.toList_some, List.cons_append, List.nil_append, fR_fR, fR_s]
          refine m_blk [(.aload_n 0, .null), (.iload_n 1, .null), (.iconst 4, .int (nI 4))] (Nat.le_of_ble_eq_true rfl) (by decide +kernel) ?_
          refine gx_aload_n_0 (gx_iload_n_1 (gx_iconst ((gx_nil ?_))))
          refine m_call kX10_153 (r_of (F := fR F 11 _) hc h3 (nI m) 4 (by decide)) (by decide +kernel) rfl rfl (Nat.le_of_ble_eq_true rfl) (Nat.le_of_ble_eq_true rfl) (Nat.le_of_ble_eq_true rfl) rfl ?_
          try simp only [fR_n0]
          rw [eq]
          refine m_call kX10_203 (r_writesNumber (1 + (tpd m + 1) + 1 + (3 + 1) + 1 + (tpd w + 1) + 1 + 1 + 1 + (tpd a + 1) + 1 + (tpd b + 1) + 1 + 1) q (by omega) (by omega)) (by decide +kernel) rfl rfl (Nat.le_of_ble_eq_true rfl) (Nat.le_of_ble_eq_true rfl) (Nat.le_of_ble_eq_true rfl) rfl ?_
          simp only [Option.toList_some, List.cons_append, List.nil_append, fR_fR, fR_s]
          refine m_putI fX10_209 (by decide +kernel) rfl (by decide) rfl rfl ?_
          refine m_blk [(.aload_n 0, .null)] (Nat.le_of_ble_eq_true rfl) (by decide +kernel) ?_
          refine gx_aload_n_0 ((gx_nil ?_))
          refine m_getI fX10_209 (by decide +kernel) rfl ?_
          try simp only [vU_s, vU_n, ne_eq, Nat.reduceEqDiff, not_false_eq_true, ]
          refine m_end (some (.int _)) rfl ⟨by decide +kernel, _, rfl, rfl⟩ ?_ ?_ ?_
          · refine congrArg (fun x => some (Value.int (nI x))) ?_
            simp only [fmt, fmA, fmQ, List.length_append, List.length_cons, List.length_nil, dgt_len, dgu_len, if_neg hq0, List.length_append, List.length_cons, List.length_nil, dgt_len]
            all_goals omega
          · refine (?_ : vU (vU V 13 _) 12 (nI _) = vU (vU V 13 _) 12 (nI _))
            congr 2
            · rw [bI_t hn]; rfl
            · simp only [fmt, fmA, fmQ, List.length_append, List.length_cons, List.length_nil, dgt_len, dgu_len, if_neg hq0, List.length_append, List.length_cons, List.length_nil, dgt_len]
              all_goals omega
          · congr 1
            repeat rw [wr_at]
            · simp only [fmt, fmA, fmQ, List.append_assoc, List.append_nil, List.cons_append, List.nil_append, if_neg hp0, if_neg hq0]
            all_goals (simp only [List.length_append, List.length_cons, List.length_nil, dgt_len, dgu_len]; try omega)
        · try simp only [bI_0, Decidable.not_not] at c144
          obtain rfl : q = 0 := (nI_eq (b := 0) (by omega) (by omega)).mp (by rw [c144]; decide)
          refine m_blk [(.iload_n 2, .null), (.goto 26, .retAddr 174)] (Nat.le_of_ble_eq_true rfl) (by decide +kernel) ?_
          refine gx_iload_n_2 (gx_goto ((gx_nil ?_)))
          refine m_putI fX10_209 (by decide +kernel) rfl (by decide) rfl rfl ?_
          refine m_blk [(.aload_n 0, .null)] (Nat.le_of_ble_eq_true rfl) (by decide +kernel) ?_
          refine gx_aload_n_0 ((gx_nil ?_))
          refine m_getI fX10_209 (by decide +kernel) rfl ?_
          try simp only [vU_s, vU_n, ne_eq, Nat.reduceEqDiff, not_false_eq_true, ]
          refine m_end (some (.int _)) rfl ⟨by decide +kernel, _, rfl, rfl⟩ ?_ ?_ ?_
          · refine congrArg (fun x => some (Value.int (nI x))) ?_
            simp only [fmt, fmA, fmQ, List.length_append, List.length_cons, List.length_nil, dgt_len, dgu_len, if_true]
            all_goals omega
          · refine (?_ : vU (vU V 13 _) 12 (nI _) = vU (vU V 13 _) 12 (nI _))
            congr 2
            · rw [bI_t hn]; rfl
            · simp only [fmt, fmA, fmQ, List.length_append, List.length_cons, List.length_nil, dgt_len, dgu_len, if_true]
              all_goals omega
          · congr 1
            repeat rw [wr_at]
            · simp only [fmt, fmA, fmQ, List.append_assoc, List.append_nil, List.cons_append, List.nil_append, if_neg hp0, if_true]
            all_goals (simp only [List.length_append, List.length_cons, List.length_nil, dgt_len, dgu_len]; try omega)
    · try simp only [bI_0, Decidable.not_not] at c25
      obtain rfl : pr = 1 := (nI_eq (by omega) (by omega)).mp c25
      refine m_blk [(.bipush 80, .int (nI 80)), (.goto 5, .retAddr 35)] (Nat.le_of_ble_eq_true rfl) (by decide +kernel) ?_
      refine gx_bipush (gx_goto ((gx_nil ?_)))
      refine m_call kX10_200 (r_put 0 (by omega) 80) (by decide +kernel) rfl rfl (Nat.le_of_ble_eq_true rfl) (Nat.le_of_ble_eq_true rfl) (Nat.le_of_ble_eq_true rfl) rfl ?_
      simp only [Option.toList_some, List.cons_append, List.nil_append, fR_fR, fR_s]
      refine m_blk [(.iload_n 1, .null)] (Nat.le_of_ble_eq_true rfl) (by decide +kernel) ?_
      refine gx_iload_n_1 ((gx_nil ?_))
      refine m_call kX10_203 (r_writesNumber 1 m hm (by omega)) (by decide +kernel) rfl rfl (Nat.le_of_ble_eq_true rfl) (Nat.le_of_ble_eq_true rfl) (Nat.le_of_ble_eq_true rfl) rfl ?_
      simp only [Option.toList_some, List.cons_append, List.nil_append, fR_fR, fR_s]
      refine m_blk [(.bipush 58, .int (nI 58))] (Nat.le_of_ble_eq_true rfl) (by decide +kernel) ?_
      refine gx_bipush ((gx_nil ?_))
      refine m_call kX10_200 (r_put (1 + (tpd m + 1)) (by omega) 58) (by decide +kernel) rfl rfl (Nat.le_of_ble_eq_true rfl) (Nat.le_of_ble_eq_true rfl) (Nat.le_of_ble_eq_true rfl) rfl ?_
      simp only [Option.toList_some, List.cons_append, List.nil_append, fR_fR, fR_s]
      refine m_blk [(.istore_n 2, .null), (.aload_n 0, .null), (.aload_n 0, .null), (.iload_n 2, .null), (.aload_n 0, .null), (.iload_n 1, .null), (.iconst 1, .int (nI 1))] (Nat.le_of_ble_eq_true rfl) (by decide +kernel) ?_
      refine gx_istore_n_2 rfl (gx_aload_n_0 (gx_aload_n_0 (gx_iload_n_2 (gx_aload_n_0 (gx_iload_n_1 (gx_iconst ((gx_nil ?_))))))))
      refine m_call kX10_153 (r_of (F := fR F 11 _) hc h3 (nI m) 1 (by decide)) (by decide +kernel) rfl rfl (Nat.le_of_ble_eq_true rfl) (Nat.le_of_ble_eq_true rfl) (Nat.le_of_ble_eq_true rfl) rfl ?_
      try simp only [fR_n0]
      rw [ecd]
      refine m_call kX10_206 (r_writesCode (1 + (tpd m + 1) + 1) cd (by omega) (by omega)) (by decide +kernel) rfl rfl (Nat.le_of_ble_eq_true rfl) (Nat.le_of_ble_eq_true rfl) (Nat.le_of_ble_eq_true rfl) rfl ?_
      simp only [Option.toList_some, List.cons_append, List.nil_append, fR_fR, fR_s]
      refine m_blk [(.bipush 32, .int (nI 32))] (Nat.le_of_ble_eq_true rfl) (by decide +kernel) ?_
      refine gx_bipush ((gx_nil ?_))
      refine m_call kX10_200 (r_put (1 + (tpd m + 1) + 1 + (3 + 1)) (by omega) 32) (by decide +kernel) rfl rfl (Nat.le_of_ble_eq_true rfl) (Nat.le_of_ble_eq_true rfl) (Nat.le_of_ble_eq_true rfl) rfl ?_
      simp only [Option.toList_some, List.cons_append, List.nil_append, fR_fR, fR_s]
      refine m_blk [(.istore_n 2, .null), (.aload_n 0, .null), (.aload_n 0, .null), (.iload_n 2, .null), (.aload_n 0, .null), (.iload_n 1, .null), (.iconst 2, .int (nI 2))] (Nat.le_of_ble_eq_true rfl) (by decide +kernel) ?_
      refine gx_istore_n_2 rfl (gx_aload_n_0 (gx_aload_n_0 (gx_iload_n_2 (gx_aload_n_0 (gx_iload_n_1 (gx_iconst ((gx_nil ?_))))))))
      refine m_call kX10_153 (r_of (F := fR F 11 _) hc h3 (nI m) 2 (by decide)) (by decide +kernel) rfl rfl (Nat.le_of_ble_eq_true rfl) (Nat.le_of_ble_eq_true rfl) (Nat.le_of_ble_eq_true rfl) rfl ?_
      try simp only [fR_n0]
      rw [ew]
      refine m_call kX10_203 (r_writesNumber (1 + (tpd m + 1) + 1 + (3 + 1) + 1) w (by omega) (by omega)) (by decide +kernel) rfl rfl (Nat.le_of_ble_eq_true rfl) (Nat.le_of_ble_eq_true rfl) (Nat.le_of_ble_eq_true rfl) rfl ?_
      simp only [Option.toList_some, List.cons_append, List.nil_append, fR_fR, fR_s]
      refine m_blk [(.bipush 103, .int (nI 103))] (Nat.le_of_ble_eq_true rfl) (by decide +kernel) ?_
      refine gx_bipush ((gx_nil ?_))
      refine m_call kX10_200 (r_put (1 + (tpd m + 1) + 1 + (3 + 1) + 1 + (tpd w + 1)) (by omega) 103) (by decide +kernel) rfl rfl (Nat.le_of_ble_eq_true rfl) (Nat.le_of_ble_eq_true rfl) (Nat.le_of_ble_eq_true rfl) rfl ?_
      simp only [Option.toList_some, List.cons_append, List.nil_append, fR_fR, fR_s]
      refine m_blk [(.istore_n 2, .null), (.aload_n 0, .null), (.iload_n 1, .null), (.iconst 5, .int (nI 5))] (Nat.le_of_ble_eq_true rfl) (by decide +kernel) ?_
      refine gx_istore_n_2 rfl (gx_aload_n_0 (gx_iload_n_1 (gx_iconst ((gx_nil ?_)))))
      refine m_call kX10_153 (r_of (F := fR F 11 _) hc h3 (nI m) 5 (by decide)) (by decide +kernel) rfl rfl (Nat.le_of_ble_eq_true rfl) (Nat.le_of_ble_eq_true rfl) (Nat.le_of_ble_eq_true rfl) rfl ?_
      try simp only [fR_n0]
      refine m_blk [(.iconst (-1), .int (-1))] (Nat.le_of_ble_eq_true rfl) (by decide +kernel) ?_
      refine gx_iconst ((gx_nil ?_))
      refine m_icmp_eq (off := 46) (tgt := 137) (by decide +kernel) (by decide) (fun c91 => ?_) (fun c91 => ?_)
      · try simp only [bI_0, Decidable.not_not] at c91
        obtain rfl : A = none := by
          rcases hA with z | ⟨a, b, h1, h2, h3, h4, h5⟩
          · exact z.1
          · exact absurd (h4.symm.trans c91) (nI_nm1 (by omega))
        refine m_blk [(.aload_n 0, .null), (.aload_n 0, .null), (.iload_n 1, .null), (.iconst 4, .int (nI 4))] (Nat.le_of_ble_eq_true rfl) (by decide +kernel) ?_
        refine gx_aload_n_0 (gx_aload_n_0 (gx_iload_n_1 (gx_iconst ((gx_nil ?_)))))
        refine m_call kX10_153 (r_of (F := fR F 11 _) hc h3 (nI m) 4 (by decide)) (by decide +kernel) rfl rfl (Nat.le_of_ble_eq_true rfl) (Nat.le_of_ble_eq_true rfl) (Nat.le_of_ble_eq_true rfl) rfl ?_
        try simp only [fR_n0]
        rw [eq]
        refine m_if_ne (off := 7) (tgt := 151) (by decide +kernel) (by decide) (fun c144 => ?_) (fun c144 => ?_)
        · try simp only [bI_0, Decidable.not_not] at c144
          have hq0 : ¬ q = 0 := fun z => c144 (by rw [z]; decide)
          refine m_blk [(.aload_n 0, .null), (.aload_n 0, .null), (.aload_n 0, .null), (.iload_n 2, .null), (.bipush 32, .int (nI 32))] (Nat.le_of_ble_eq_true rfl) (by decide +kernel) ?_
          refine gx_aload_n_0 (gx_aload_n_0 (gx_aload_n_0 (gx_iload_n_2 (gx_bipush ((gx_nil ?_))))))
          refine m_call kX10_200 (r_put (1 + (tpd m + 1) + 1 + (3 + 1) + 1 + (tpd w + 1) + 1) (by omega) 32) (by decide +kernel) rfl rfl (Nat.le_of_ble_eq_true rfl) (Nat.le_of_ble_eq_true rfl) (Nat.le_of_ble_eq_true rfl) rfl ?_
          simp only [Option.toList_some, List.cons_append, List.nil_append, fR_fR, fR_s]
          refine m_blk [(.bipush 42, .int (nI 42))] (Nat.le_of_ble_eq_true rfl) (by decide +kernel) ?_
          refine gx_bipush ((gx_nil ?_))
          refine m_call kX10_200 (r_put (1 + (tpd m + 1) + 1 + (3 + 1) + 1 + (tpd w + 1) + 1 + 1) (by omega) 42) (by decide +kernel) rfl rfl (Nat.le_of_ble_eq_true rfl) (Nat.le_of_ble_eq_true rfl) (Nat.le_of_ble_eq_true rfl) rfl ?_
          simp only [Option.toList_some, List.cons_append, List.nil_append, fR_fR, fR_s]
          refine m_blk [(.aload_n 0, .null), (.iload_n 1, .null), (.iconst 4, .int (nI 4))] (Nat.le_of_ble_eq_true rfl) (by decide +kernel) ?_
          refine gx_aload_n_0 (gx_iload_n_1 (gx_iconst ((gx_nil ?_))))
          refine m_call kX10_153 (r_of (F := fR F 11 _) hc h3 (nI m) 4 (by decide)) (by decide +kernel) rfl rfl (Nat.le_of_ble_eq_true rfl) (Nat.le_of_ble_eq_true rfl) (Nat.le_of_ble_eq_true rfl) rfl ?_
          try simp only [fR_n0]
          rw [eq]
          refine m_call kX10_203 (r_writesNumber (1 + (tpd m + 1) + 1 + (3 + 1) + 1 + (tpd w + 1) + 1 + 1 + 1) q (by omega) (by omega)) (by decide +kernel) rfl rfl (Nat.le_of_ble_eq_true rfl) (Nat.le_of_ble_eq_true rfl) (Nat.le_of_ble_eq_true rfl) rfl ?_
          simp only [Option.toList_some, List.cons_append, List.nil_append, fR_fR, fR_s]
          refine m_putI fX10_209 (by decide +kernel) rfl (by decide) rfl rfl ?_
          refine m_blk [(.aload_n 0, .null)] (Nat.le_of_ble_eq_true rfl) (by decide +kernel) ?_
          refine gx_aload_n_0 ((gx_nil ?_))
          refine m_getI fX10_209 (by decide +kernel) rfl ?_
          try simp only [vU_s, vU_n, ne_eq, Nat.reduceEqDiff, not_false_eq_true, ]
          refine m_end (some (.int _)) rfl ⟨by decide +kernel, _, rfl, rfl⟩ ?_ ?_ ?_
          · refine congrArg (fun x => some (Value.int (nI x))) ?_
            simp only [fmt, fmA, fmQ, List.length_append, List.length_cons, List.length_nil, dgt_len, dgu_len, if_neg hq0, List.length_append, List.length_cons, List.length_nil, dgt_len]
            all_goals omega
          · refine (?_ : vU (vU V 13 _) 12 (nI _) = vU (vU V 13 _) 12 (nI _))
            congr 2
            · rw [bI_t hn]; rfl
            · simp only [fmt, fmA, fmQ, List.length_append, List.length_cons, List.length_nil, dgt_len, dgu_len, if_neg hq0, List.length_append, List.length_cons, List.length_nil, dgt_len]
              all_goals omega
          · congr 1
            repeat rw [wr_at]
            · simp only [fmt, fmA, fmQ, List.append_assoc, List.append_nil, List.cons_append, List.nil_append, if_true, if_neg hq0]
            all_goals (simp only [List.length_append, List.length_cons, List.length_nil, dgt_len, dgu_len]; try omega)
        · try simp only [bI_0, Decidable.not_not] at c144
          obtain rfl : q = 0 := (nI_eq (b := 0) (by omega) (by omega)).mp (by rw [c144]; decide)
          refine m_blk [(.iload_n 2, .null), (.goto 26, .retAddr 174)] (Nat.le_of_ble_eq_true rfl) (by decide +kernel) ?_
          refine gx_iload_n_2 (gx_goto ((gx_nil ?_)))
          refine m_putI fX10_209 (by decide +kernel) rfl (by decide) rfl rfl ?_
          refine m_blk [(.aload_n 0, .null)] (Nat.le_of_ble_eq_true rfl) (by decide +kernel) ?_
          refine gx_aload_n_0 ((gx_nil ?_))
          refine m_getI fX10_209 (by decide +kernel) rfl ?_
          try simp only [vU_s, vU_n, ne_eq, Nat.reduceEqDiff, not_false_eq_true, ]
          refine m_end (some (.int _)) rfl ⟨by decide +kernel, _, rfl, rfl⟩ ?_ ?_ ?_
          · refine congrArg (fun x => some (Value.int (nI x))) ?_
            simp only [fmt, fmA, fmQ, List.length_append, List.length_cons, List.length_nil, dgt_len, dgu_len, if_true]
            all_goals omega
          · refine (?_ : vU (vU V 13 _) 12 (nI _) = vU (vU V 13 _) 12 (nI _))
            congr 2
            · rw [bI_t hn]; rfl
            · simp only [fmt, fmA, fmQ, List.length_append, List.length_cons, List.length_nil, dgt_len, dgu_len, if_true]
              all_goals omega
          · congr 1
            repeat rw [wr_at]
            · simp only [fmt, fmA, fmQ, List.append_assoc, List.append_nil, List.cons_append, List.nil_append, if_true, if_true]
            all_goals (simp only [List.length_append, List.length_cons, List.length_nil, dgt_len, dgu_len]; try omega)
      · try simp only [bI_0, Decidable.not_not] at c91
        obtain ⟨a, b, ha, hb, rfl, ea, eb⟩ := hA.resolve_left (fun z => c91 z.2)
        have ta : tpd a = 0 := tpd_9 ha
        have tb : tpd b = 0 := tpd_9 hb
        refine m_blk [(.aload_n 0, .null), (.aload_n 0, .null), (.aload_n 0, .null), (.aload_n 0, .null), (.iload_n 2, .null), (.bipush 32, .int (nI 32))] (Nat.le_of_ble_eq_true rfl) (by decide +kernel) ?_
        refine gx_aload_n_0 (gx_aload_n_0 (gx_aload_n_0 (gx_aload_n_0 (gx_iload_n_2 (gx_bipush ((gx_nil ?_)))))))
        refine m_call kX10_200 (r_put (1 + (tpd m + 1) + 1 + (3 + 1) + 1 + (tpd w + 1) + 1) (by omega) 32) (by decide +kernel) rfl rfl (Nat.le_of_ble_eq_true rfl) (Nat.le_of_ble_eq_true rfl) (Nat.le_of_ble_eq_true rfl) rfl ?_
        simp only [Option.toList_some, List.cons_append, List.nil_append, fR_fR, fR_s]
        refine m_blk [(.bipush 114, .int (nI 114))] (Nat.le_of_ble_eq_true rfl) (by decide +kernel) ?_
        refine gx_bipush ((gx_nil ?_))
        refine m_call kX10_200 (r_put (1 + (tpd m + 1) + 1 + (3 + 1) + 1 + (tpd w + 1) + 1 + 1) (by omega) 114) (by decide +kernel) rfl rfl (Nat.le_of_ble_eq_true rfl) (Nat.le_of_ble_eq_true rfl) (Nat.le_of_ble_eq_true rfl) rfl ?_
        simp only [Option.toList_some, List.cons_append, List.nil_append, fR_fR, fR_s]
        refine m_blk [(.aload_n 0, .null), (.iload_n 1, .null), (.iconst 5, .int (nI 5))] (Nat.le_of_ble_eq_true rfl) (by decide +kernel) ?_
        refine gx_aload_n_0 (gx_iload_n_1 (gx_iconst ((gx_nil ?_))))
        refine m_call kX10_153 (r_of (F := fR F 11 _) hc h3 (nI m) 5 (by decide)) (by decide +kernel) rfl rfl (Nat.le_of_ble_eq_true rfl) (Nat.le_of_ble_eq_true rfl) (Nat.le_of_ble_eq_true rfl) rfl ?_
        try simp only [fR_n0]
        rw [ea]
        refine m_call kX10_203 (r_writesNumber (1 + (tpd m + 1) + 1 + (3 + 1) + 1 + (tpd w + 1) + 1 + 1 + 1) a (by omega) (by omega)) (by decide +kernel) rfl rfl (Nat.le_of_ble_eq_true rfl) (Nat.le_of_ble_eq_true rfl) (Nat.le_of_ble_eq_true rfl) rfl ?_
        simp only [Option.toList_some, List.cons_append, List.nil_append, fR_fR, fR_s]
        refine m_blk [(.bipush 46, .int (nI 46))] (Nat.le_of_ble_eq_true rfl) (by decide +kernel) ?_
        refine gx_bipush ((gx_nil ?_))
        refine m_call kX10_200 (r_put (1 + (tpd m + 1) + 1 + (3 + 1) + 1 + (tpd w + 1) + 1 + 1 + 1 + (tpd a + 1)) (by omega) 46) (by decide +kernel) rfl rfl (Nat.le_of_ble_eq_true rfl) (Nat.le_of_ble_eq_true rfl) (Nat.le_of_ble_eq_true rfl) rfl ?_
        simp only [Option.toList_some, List.cons_append, List.nil_append, fR_fR, fR_s]
        refine m_blk [(.istore_n 2, .null), (.aload_n 0, .null), (.iload_n 2, .null), (.aload_n 0, .null), (.iload_n 1, .null), (.bipush 6, .int (nI 6))] (Nat.le_of_ble_eq_true rfl) (by decide +kernel) ?_
        refine gx_istore_n_2 rfl (gx_aload_n_0 (gx_iload_n_2 (gx_aload_n_0 (gx_iload_n_1 (gx_bipush ((gx_nil ?_)))))))
        refine m_call kX10_153 (r_of (F := fR F 11 _) hc h3 (nI m) 6 (by decide)) (by decide +kernel) rfl rfl (Nat.le_of_ble_eq_true rfl) (Nat.le_of_ble_eq_true rfl) (Nat.le_of_ble_eq_true rfl) rfl ?_
        try simp only [fR_n0]
        rw [eb]
        refine m_call kX10_203 (r_writesNumber (1 + (tpd m + 1) + 1 + (3 + 1) + 1 + (tpd w + 1) + 1 + 1 + 1 + (tpd a + 1) + 1) b (by omega) (by omega)) (by decide +kernel) rfl rfl (Nat.le_of_ble_eq_true rfl) (Nat.le_of_ble_eq_true rfl) (Nat.le_of_ble_eq_true rfl) rfl ?_
        simp only [Option.toList_some, List.cons_append, List.nil_append, fR_fR, fR_s]
        refine m_blk [(.istore_n 2, .null), (.aload_n 0, .null), (.aload_n 0, .null), (.iload_n 1, .null), (.iconst 4, .int (nI 4))] (Nat.le_of_ble_eq_true rfl) (by decide +kernel) ?_
        refine gx_istore_n_2 rfl (gx_aload_n_0 (gx_aload_n_0 (gx_iload_n_1 (gx_iconst ((gx_nil ?_))))))
        refine m_call kX10_153 (r_of (F := fR F 11 _) hc h3 (nI m) 4 (by decide)) (by decide +kernel) rfl rfl (Nat.le_of_ble_eq_true rfl) (Nat.le_of_ble_eq_true rfl) (Nat.le_of_ble_eq_true rfl) rfl ?_
        try simp only [fR_n0]
        rw [eq]
        refine m_if_ne (off := 7) (tgt := 151) (by decide +kernel) (by decide) (fun c144 => ?_) (fun c144 => ?_)
        · try simp only [bI_0, Decidable.not_not] at c144
          have hq0 : ¬ q = 0 := fun z => c144 (by rw [z]; decide)
          refine m_blk [(.aload_n 0, .null), (.aload_n 0, .null), (.aload_n 0, .null), (.iload_n 2, .null), (.bipush 32, .int (nI 32))] (Nat.le_of_ble_eq_true rfl) (by decide +kernel) ?_
          refine gx_aload_n_0 (gx_aload_n_0 (gx_aload_n_0 (gx_iload_n_2 (gx_bipush ((gx_nil ?_))))))
          refine m_call kX10_200 (r_put (1 + (tpd m + 1) + 1 + (3 + 1) + 1 + (tpd w + 1) + 1 + 1 + 1 + (tpd a + 1) + 1 + (tpd b + 1)) (by omega) 32) (by decide +kernel) rfl rfl (Nat.le_of_ble_eq_true rfl) (Nat.le_of_ble_eq_true rfl) (Nat.le_of_ble_eq_true rfl) rfl ?_
          simp only [Option.toList_some, List.cons_append, List.nil_append, fR_fR, fR_s]
          refine m_blk [(.bipush 42, .int (nI 42))] (Nat.le_of_ble_eq_true rfl) (by decide +kernel) ?_
          refine gx_bipush ((gx_nil ?_))
          refine m_call kX10_200 (r_put (1 + (tpd m + 1) + 1 + (3 + 1) + 1 + (tpd w + 1) + 1 + 1 + 1 + (tpd a + 1) + 1 + (tpd b + 1) + 1) (by omega) 42) (by decide +kernel) rfl rfl (Nat.le_of_ble_eq_true rfl) (Nat.le_of_ble_eq_true rfl) (Nat.le_of_ble_eq_true rfl) rfl ?_
          simp only [Option.toList_some, List.cons_append, List.nil_append, fR_fR, fR_s]
          refine m_blk [(.aload_n 0, .null), (.iload_n 1, .null), (.iconst 4, .int (nI 4))] (Nat.le_of_ble_eq_true rfl) (by decide +kernel) ?_
          refine gx_aload_n_0 (gx_iload_n_1 (gx_iconst ((gx_nil ?_))))
          refine m_call kX10_153 (r_of (F := fR F 11 _) hc h3 (nI m) 4 (by decide)) (by decide +kernel) rfl rfl (Nat.le_of_ble_eq_true rfl) (Nat.le_of_ble_eq_true rfl) (Nat.le_of_ble_eq_true rfl) rfl ?_
          try simp only [fR_n0]
          rw [eq]
          refine m_call kX10_203 (r_writesNumber (1 + (tpd m + 1) + 1 + (3 + 1) + 1 + (tpd w + 1) + 1 + 1 + 1 + (tpd a + 1) + 1 + (tpd b + 1) + 1 + 1) q (by omega) (by omega)) (by decide +kernel) rfl rfl (Nat.le_of_ble_eq_true rfl) (Nat.le_of_ble_eq_true rfl) (Nat.le_of_ble_eq_true rfl) rfl ?_
          simp only [Option.toList_some, List.cons_append, List.nil_append, fR_fR, fR_s]
          refine m_putI fX10_209 (by decide +kernel) rfl (by decide) rfl rfl ?_
          refine m_blk [(.aload_n 0, .null)] (Nat.le_of_ble_eq_true rfl) (by decide +kernel) ?_
          refine gx_aload_n_0 ((gx_nil ?_))
          refine m_getI fX10_209 (by decide +kernel) rfl ?_
          try simp only [vU_s, vU_n, ne_eq, Nat.reduceEqDiff, not_false_eq_true, ]
          refine m_end (some (.int _)) rfl ⟨by decide +kernel, _, rfl, rfl⟩ ?_ ?_ ?_
          · refine congrArg (fun x => some (Value.int (nI x))) ?_
            simp only [fmt, fmA, fmQ, List.length_append, List.length_cons, List.length_nil, dgt_len, dgu_len, if_neg hq0, List.length_append, List.length_cons, List.length_nil, dgt_len]
            all_goals omega
          · refine (?_ : vU (vU V 13 _) 12 (nI _) = vU (vU V 13 _) 12 (nI _))
            congr 2
            · rw [bI_t hn]; rfl
            · simp only [fmt, fmA, fmQ, List.length_append, List.length_cons, List.length_nil, dgt_len, dgu_len, if_neg hq0, List.length_append, List.length_cons, List.length_nil, dgt_len]
              all_goals omega
          · congr 1
            repeat rw [wr_at]
            · simp only [fmt, fmA, fmQ, List.append_assoc, List.append_nil, List.cons_append, List.nil_append, if_true, if_neg hq0]
            all_goals (simp only [List.length_append, List.length_cons, List.length_nil, dgt_len, dgu_len]; try omega)
        · try simp only [bI_0, Decidable.not_not] at c144
          obtain rfl : q = 0 := (nI_eq (b := 0) (by omega) (by omega)).mp (by rw [c144]; decide)
          refine m_blk [(.iload_n 2, .null), (.goto 26, .retAddr 174)] (Nat.le_of_ble_eq_true rfl) (by decide +kernel) ?_
          refine gx_iload_n_2 (gx_goto ((gx_nil ?_)))
          refine m_putI fX10_209 (by decide +kernel) rfl (by decide) rfl rfl ?_
          refine m_blk [(.aload_n 0, .null)] (Nat.le_of_ble_eq_true rfl) (by decide +kernel) ?_
          refine gx_aload_n_0 ((gx_nil ?_))
          refine m_getI fX10_209 (by decide +kernel) rfl ?_
          try simp only [vU_s, vU_n, ne_eq, Nat.reduceEqDiff, not_false_eq_true, ]
          refine m_end (some (.int _)) rfl ⟨by decide +kernel, _, rfl, rfl⟩ ?_ ?_ ?_
          · refine congrArg (fun x => some (Value.int (nI x))) ?_
            simp only [fmt, fmA, fmQ, List.length_append, List.length_cons, List.length_nil, dgt_len, dgu_len, if_true]
            all_goals omega
          · refine (?_ : vU (vU V 13 _) 12 (nI _) = vU (vU V 13 _) 12 (nI _))
            congr 2
            · rw [bI_t hn]; rfl
            · simp only [fmt, fmA, fmQ, List.length_append, List.length_cons, List.length_nil, dgt_len, dgu_len, if_true]
              all_goals omega
          · congr 1
            repeat rw [wr_at]
            · simp only [fmt, fmA, fmQ, List.append_assoc, List.append_nil, List.cons_append, List.nil_append, if_true, if_true]
            all_goals (simp only [List.length_append, List.length_cons, List.length_nil, dgt_len, dgu_len]; try omega)
  · try simp only [bI_0, Decidable.not_not] at c9
    exact (hn c9).elim
end S27ref18leantxt
