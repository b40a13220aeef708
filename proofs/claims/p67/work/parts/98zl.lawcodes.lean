/-! THE LAW: codes of routes are right -/
section GLg
variable {Γ : gE} {bm de mi : Nat} {h : gHp} {m : Nat} {N : Nat → Int32} {c t nx : Nat}
theorem lP.up (hd : gDi Γ) (H : lP bm Γ de h m N c t nx) {q : Nat} {e : va_E} (hq : h q = none) : lP bm Γ de (gUp h q e) m N c t nx := by
  obtain ⟨V, F, B, G, hB, e9, I, hn, hbm⟩ := H
  exact ⟨V, F, B, G.fr hd (gFr.all (K := fun _ => False) (gAll_up hq)) (fun _ _ y => y), hB, e9, I, hn, hbm⟩
theorem gUp_2 {q : Nat} {e e' : va_E} : gUp h q e' = gUp (gUp h q e) q e' := by
  funext a
  unfold gUp
  by_cases y : a = q
  · rw [if_pos y, if_pos y]
  · rw [if_neg y, if_neg y, if_neg y]
theorem ctR_s {rt : Int32} {k : Nat} : ctR N t rt (k + 1) = ctR N t rt k + if rRoute N (nI k) t = rt then 1 else 0 := rfl
theorem rt_cases (I : rIV N c t nx) {cd : Nat} (hcd : cd < 10000) (hl : ¬ lnt N t cd = 0) : ∃ r, r < 6 ∧ rRoute N (nI cd) t = nI r := by
  have hr := (not_congr (ml_lnt I.ht I.pv I.up hcd).2).mpr hl
  unfold rRoute at hr ⊢
  by_cases w : rMatch N (nI cd) (nI 4) (nI 4) t = -1
  · rw [if_pos w] at hr
    exact absurd rfl hr
  · rw [if_neg w]
    rcases rMatch_in (N := N) (dg := nI cd) (ln := nI 4) (most := nI 4) (c := t) with e | ⟨k, hk, e⟩
    · exact absurd e w
    · have ht := I.ht
      obtain ⟨-, -, -, -, -, r, hr5, er⟩ := pv_at I.pv hk
      rw [e, nI_clamp (by omega)]
      exact ⟨r, by omega, er⟩
theorem ct_up (I : rIV N c t nx) {f : Nat → Int32} {k r9 : Nat} (hr9 : r9 < 6) (e : rRoute N (nI k) t = nI r9) (hf : ∀ r, r < 6 → f r = nI (ctR N t (nI r) k)) : ∀ r, r < 6 → upd f r9 (f r9 + nI 1) r = nI (ctR N t (nI r) (k + 1)) := by
  intro r hr
  rw [ctR_s, e]
  by_cases y : r = r9
  · subst y
    rw [pk_us, if_pos rfl, hf r hr, nI_add]
  · rw [pk_un y, if_neg (fun z => y ((nI_eq (by omega) (by omega)).mp z).symm), Nat.add_zero]
    exact hf r hr
theorem ct_no (I : rIV N c t nx) {f : Nat → Int32} {k : Nat} (hk : k < 10000) (e : lnt N t k = 0) (hf : ∀ r, r < 6 → f r = nI (ctR N t (nI r) k)) : ∀ r, r < 6 → f r = nI (ctR N t (nI r) (k + 1)) := by
  intro r hr
  rw [ctR_s, (ml_lnt I.ht I.pv I.up hk).2.mpr e, if_neg (fun z => nI_nm1 (n := r) (by omega) z.symm), Nat.add_zero]
  exact hf r hr
theorem la_areCodesRight (hd : gDi Γ) (hp : gPxs Γ) (H : lP bm Γ de h m N c t nx) : gC Γ M_L_areCodesRight [.ref m] h 40 1 6 (fun v h' => v = some (.int (nI 1)) ∧ lP bm Γ de h' m N c t nx) (fun _ _ => False) := by
  have I := H.iv.1
  have loop2 : ∀ (q : Nat), h q = none → ∀ n i (f : Nat → Int32), i + n = 6 → (∀ r, r < 6 → f r = nI (ctR N t (nI r) 10000)) → G Γ M_L_areCodesRight 40 1 6 (fun v h' => v = some (.int (nI 1)) ∧ lP bm Γ de h' m N c t nx) (fun _ _ => False) 0 0 43 [some (.ref m), some (.ref q), some (.int (nI 1)), some (.int (nI i))] [] (gUp h q (gI Γ 6 f)) := by
    intro q hq n
    induction n with
    | zero =>
      intro i f hi hf
      have H9 := H.up hd (e := gI Γ 6 f) hq
      have hq9 : (gUp h q (gI Γ 6 f)) q = some (gI Γ 6 f) := gUp_s _ _ _
      obtain ⟨fs, hm⟩ := H9.at12
      refine g_blk [(.iload_n 3, .null), (.bipush 6, .int (nI 6))] (Nat.le_of_ble_eq_true rfl) (by decide +kernel) ?_
      refine gx_iload_n_3 (gx_bipush ((gx_nil ?_)))
      refine g_icmp_ge (off := 30) (tgt := 76) (by decide +kernel) (by decide) (fun c46 => ?_) (fun c46 => ?_)
      · try simp only [bI_0, Decidable.not_not] at c46
        refine g_blk [(.iload_n 2, .null)] (Nat.le_of_ble_eq_true rfl) (by decide +kernel) ?_
        refine gx_iload_n_2 ((gx_nil ?_))
        refine g_end (some (.int _)) rfl ⟨by decide +kernel, _, rfl, (by first | rfl | exact bI_nar _)⟩ ?_
        exact ⟨rfl, H9⟩
      · try simp only [bI_0, Decidable.not_not] at c46
        exact absurd (nI_le (by omega) (by omega)) c46
    | succ n ih =>
      intro i f hi hf
      have H9 := H.up hd (e := gI Γ 6 f) hq
      have hq9 : (gUp h q (gI Γ 6 f)) q = some (gI Γ 6 f) := gUp_s _ _ _
      obtain ⟨fs, hm⟩ := H9.at12
      refine g_blk [(.iload_n 3, .null), (.bipush 6, .int (nI 6))] (Nat.le_of_ble_eq_true rfl) (by decide +kernel) ?_
      refine gx_iload_n_3 (gx_bipush ((gx_nil ?_)))
      refine g_icmp_ge (off := 30) (tgt := 76) (by decide +kernel) (by decide) (fun c46 => ?_) (fun c46 => ?_)
      · try simp only [bI_0, Decidable.not_not] at c46
        exact absurd ((nI_leI (by omega) (by omega)).mp c46) (by omega)
      · try simp only [bI_0, Decidable.not_not] at c46
        refine g_blk [(.iload_n 2, .null)] (Nat.le_of_ble_eq_true rfl) (by decide +kernel) ?_
        refine gx_iload_n_2 ((gx_nil ?_))
        refine g_if_eq (off := 18) (tgt := 68) (by decide +kernel) (by decide) (fun c50 => ?_) (fun c50 => ?_)
        · exact absurd c50 (by decide)
        · try simp only [bI_0, Decidable.not_not] at c50
          refine g_blk [(.aload_n 0, .null), (.iload_n 3, .null)] (Nat.le_of_ble_eq_true rfl) (by decide +kernel) ?_
          refine gx_aload_n_0 (gx_iload_n_3 ((gx_nil ?_)))
          refine g_pV kL_123 (lr_codesOf hp H9 (by omega)) (by decide +kernel) rfl rfl hm rfl (Nat.le_of_ble_eq_true rfl) (Nat.le_of_ble_eq_true rfl) (Nat.le_of_ble_eq_true rfl) rfl ?_
          simp only [Option.toList_some, Option.toList_none, List.cons_append, List.nil_append]
          refine g_blk [(.aload_n 1, .null), (.iload_n 3, .null)] (Nat.le_of_ble_eq_true rfl) (by decide +kernel) ?_
          refine gx_aload_n_1 (gx_iload_n_3 ((gx_nil ?_)))
          refine g_iaload (by decide +kernel) hq9 (vp_in_nI (by omega) (by omega)) ?_
          rw [nI_clamp (by omega), hf i (by omega)]
          refine g_icmp_ne (off := 7) (tgt := 68) (by decide +kernel) (by decide) (fun c61 => ?_) (fun c61 => ?_)
          · try simp only [bI_0, Decidable.not_not] at c61
            exact absurd (by first | rfl | trivial) c61
          · try simp only [bI_0, Decidable.not_not] at c61
            refine g_blk [(.iconst 1, .int (nI 1)), (.goto 4, .retAddr 69), (.istore_n 2, .null), (.iinc 3 1, .int (nI 1)), (.goto (-30), .retAddr 43)] (Nat.le_of_ble_eq_true rfl) (by decide +kernel) ?_
            refine gx_iconst (gx_goto (gx_istore_n_2 rfl (gx_iinc_3 rfl (gx_goto ((gx_nil ?_))))))
            try simp only [nI_add, pk_mul, Nat.add_zero, Nat.zero_add, Nat.reduceAdd, Nat.reduceMul]
            exact ih (i + 1) f (by omega) hf
  have loop1 : ∀ (q : Nat), h q = none → ∀ n k (f : Nat → Int32), k + n = 10000 → (∀ r, r < 6 → f r = nI (ctR N t (nI r) k)) → G Γ M_L_areCodesRight 40 1 6 (fun v h' => v = some (.int (nI 1)) ∧ lP bm Γ de h' m N c t nx) (fun _ _ => False) 0 0 7 [some (.ref m), some (.ref q), some (.int (nI k)), none] [] (gUp h q (gI Γ 6 f)) := by
    intro q hq n
    induction n with
    | zero =>
      intro k f hi hf
      have ek : k = 10000 := by omega
      subst ek
      refine g_blk [(.iload_n 2, .null), (.sipush 10000, .int (nI 10000))] (Nat.le_of_ble_eq_true rfl) (by decide +kernel) ?_
      refine gx_iload_n_2 (gx_sipush ((gx_nil ?_)))
      refine g_icmp_ge (off := 28) (tgt := 39) (by decide +kernel) (by decide) (fun c11 => ?_) (fun c11 => ?_)
      · try simp only [bI_0, Decidable.not_not] at c11
        refine g_blk [(.iconst 1, .int (nI 1)), (.istore_n 2, .null), (.iconst 0, .int (nI 0)), (.istore_n 3, .null)] (Nat.le_of_ble_eq_true rfl) (by decide +kernel) ?_
        refine gx_iconst (gx_istore_n_2 rfl (gx_iconst (gx_istore_n_3 rfl ((gx_nil ?_)))))
        exact loop2 q hq 6 0 f (by omega) hf
      · try simp only [bI_0, Decidable.not_not] at c11
        exact absurd (Int32.le_refl _) c11
    | succ n ih =>
      intro k f hi hf
      have H9 := H.up hd (e := gI Γ 6 f) hq
      have hq9 : (gUp h q (gI Γ 6 f)) q = some (gI Γ 6 f) := gUp_s _ _ _
      obtain ⟨fs, hm⟩ := H9.at12
      refine g_blk [(.iload_n 2, .null), (.sipush 10000, .int (nI 10000))] (Nat.le_of_ble_eq_true rfl) (by decide +kernel) ?_
      refine gx_iload_n_2 (gx_sipush ((gx_nil ?_)))
      refine g_icmp_ge (off := 28) (tgt := 39) (by decide +kernel) (by decide) (fun c11 => ?_) (fun c11 => ?_)
      · try simp only [bI_0, Decidable.not_not] at c11
        exact absurd ((nI_leI (by omega) (by omega)).mp c11) (by omega)
      · try simp only [bI_0, Decidable.not_not] at c11
        refine g_blk [(.aload_n 0, .null), (.iload_n 2, .null)] (Nat.le_of_ble_eq_true rfl) (by decide +kernel) ?_
        refine gx_aload_n_0 (gx_iload_n_2 ((gx_nil ?_)))
        refine g_pV kL_88 (lr_matchLength hp H9 (by omega)) (by decide +kernel) rfl rfl hm rfl (Nat.le_of_ble_eq_true rfl) (Nat.le_of_ble_eq_true rfl) (Nat.le_of_ble_eq_true rfl) rfl ?_
        simp only [Option.toList_some, Option.toList_none, List.cons_append, List.nil_append]
        refine g_if_le (off := 14) (tgt := 33) (by decide +kernel) (by decide) (fun c19 => ?_) (fun c19 => ?_)
        · try simp only [bI_0, Decidable.not_not] at c19
          have hl : lnt N t k = 0 := by
            have hl4 := lnt_le (N := N) (t := t) (cd := k)
            have c19 : nI (lnt N t k) ≤ nI 0 := by rw [z0]; exact c19
            have := (nI_leI (by omega) (by omega)).mp c19
            omega
          refine g_blk [(.iinc 2 1, .int (nI 1)), (.goto (-29), .retAddr 7)] (Nat.le_of_ble_eq_true rfl) (by decide +kernel) ?_
          refine gx_iinc_2 rfl (gx_goto ((gx_nil ?_)))
          try simp only [nI_add, pk_mul, Nat.add_zero, Nat.zero_add, Nat.reduceAdd, Nat.reduceMul]
          exact ih (k + 1) _ (by omega) (ct_no I (by omega) hl hf)
        · try simp only [bI_0, Decidable.not_not] at c19
          have hl : ¬ lnt N t k = 0 := fun z => c19 (by rw [z]; decide)
          obtain ⟨r9, hr9, er9⟩ := rt_cases I (show k < 10000 by omega) hl
          refine g_blk [(.aload_n 1, .null), (.aload_n 0, .null), (.iload_n 2, .null)] (Nat.le_of_ble_eq_true rfl) (by decide +kernel) ?_
          refine gx_aload_n_1 (gx_aload_n_0 (gx_iload_n_2 ((gx_nil ?_))))
          refine g_pV kL_82 (lr_routeFor hp H9 (by omega) hl) (by decide +kernel) rfl rfl hm rfl (Nat.le_of_ble_eq_true rfl) (Nat.le_of_ble_eq_true rfl) (Nat.le_of_ble_eq_true rfl) rfl ?_
          simp only [Option.toList_some, Option.toList_none, List.cons_append, List.nil_append]
          rw [er9]
          refine g_blk [(.dup2, .null)] (Nat.le_of_ble_eq_true rfl) (by decide +kernel) ?_
          refine gx_dup2ir ((gx_nil ?_))
          refine g_iaload (by decide +kernel) hq9 (vp_in_nI (by omega) (by omega)) ?_
          rw [nI_clamp (by omega)]
          refine g_blk [(.iconst 1, .int (nI 1)), (.iadd, .null)] (Nat.le_of_ble_eq_true rfl) (by decide +kernel) ?_
          refine gx_iconst (gx_iadd ((gx_nil ?_)))
          try simp only [nI_add, pk_mul, Nat.add_zero, Nat.zero_add, Nat.reduceAdd, Nat.reduceMul]
          refine g_iastore (by decide +kernel) hq9 (vp_in_nI (by omega) (by omega)) ?_
          rw [nI_clamp (by omega)]
          refine g_hp (h1 := gUp h q (gI Γ 6 (upd f r9 (f r9 + nI 1)))) gUp_2 ?_
          refine g_blk [(.iinc 2 1, .int (nI 1)), (.goto (-29), .retAddr 7)] (Nat.le_of_ble_eq_true rfl) (by decide +kernel) ?_
          refine gx_iinc_2 rfl (gx_goto ((gx_nil ?_)))
          try simp only [nI_add, pk_mul, Nat.add_zero, Nat.zero_add, Nat.reduceAdd, Nat.reduceMul]
          exact ih (k + 1) _ (by omega) (ct_up I hr9 er9 hf)
  obtain ⟨fs, hm⟩ := H.at12
  refine gC_of (by decide) rfl (Nat.le_of_ble_eq_true rfl) [some (.ref m), none, none, none] rfl ?_
  refine g_blk [(.bipush 6, .int (nI 6))] (Nat.le_of_ble_eq_true rfl) (by decide +kernel) ?_
  refine gx_bipush (gx_nil ?_)
  refine g_newarr_i (N := 6) (rc' := 0) (rs' := 0) (by decide +kernel) wAI (by decide) (by decide) (by decide) (by omega) (by omega) (fun q hq => ?_)
  refine g_blk [(.astore_n 1, .null), (.iconst 0, .int (nI 0)), (.istore_n 2, .null)] (Nat.le_of_ble_eq_true rfl) (by decide +kernel) ?_
  refine gx_astore_n_1 rfl (gx_iconst (gx_istore_n_2 rfl (gx_nil ?_)))
  exact loop1 q hq 10000 0 _ (by omega) (fun r hr => rfl)
end GLg
