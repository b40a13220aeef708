/-! THE LAW: longest prefixes, bags for letters, sorting, as the class answers -/
section GLe
variable {Γ : gE} {bm de mi : Nat} {h : gHp} {m : Nat} {N : Nat → Int32} {c t nx : Nat} {fs : List Value}
theorem lnt_le {cd : Nat} : lnt N t cd ≤ 4 := by
  unfold lnt
  split <;> (try split) <;> (try split) <;> (try split) <;> omega
/-- a code's route, told as the law tells it -/
def roV (N : Nat → Int32) (t cd : Nat) : Int32 := if lnt N t cd = 0 then (-2004) else rRoute N (nI cd) t
theorem px_ok {d k : Nat} (h1 : 1 ≤ k) (h2 : k ≤ 4) (hd : d < 10 ^ k) : rPx (nI d) (nI k) = true := by
  have : 10 ^ k ≤ 10 ^ 4 := Nat.pow_le_pow_right (by decide) h2
  exact (rPx_at h1 h2).mpr ⟨nI_nn (by omega), nI_lt hd (by omega)⟩
theorem la_longest (hp : gPxs Γ) (H : lP bm Γ de h m N c t nx) (hm : h m = some (gJ 12 fs)) {cd : Nat} (hcd : cd < 10000) : pC Γ M_L_longest [.ref m, .int (nI cd)] h 32 (some (.int (nI (lnt N t cd)))) := by
  refine pC_of (by decide) rfl (Nat.le_of_ble_eq_true rfl) [some (.ref m), some (.int (nI cd))] rfl ?_
  refine g_blk [(.aload_n 0, .null), (.iload_n 1, .null), (.iconst 4, .int (nI 4))] (Nat.le_of_ble_eq_true rfl) (by decide +kernel) ?_
  refine gx_aload_n_0 (gx_iload_n_1 (gx_iconst ((gx_nil ?_))))
  refine g_pV kL_115 (lr_hasPrefix hp H (d := cd) (l := 4) (by omega) (by omega) (px_ok (by decide) (by decide) (by omega))) (by decide +kernel) rfl rfl hm rfl (Nat.le_of_ble_eq_true rfl) (Nat.le_of_ble_eq_true rfl) (Nat.le_of_ble_eq_true rfl) rfl ?_
  simp only [Option.toList_some, Option.toList_none, List.cons_append, List.nil_append]
  refine g_if_eq (off := 7) (tgt := 13) (by decide +kernel) (by decide) (fun c6 => ?_) (fun c6 => ?_)
  · try simp only [bI_0, Decidable.not_not] at c6
    refine g_blk [(.aload_n 0, .null), (.iload_n 1, .null), (.bipush 10, .int (nI 10))] (Nat.le_of_ble_eq_true rfl) (by decide +kernel) ?_
    refine gx_aload_n_0 (gx_iload_n_1 (gx_bipush ((gx_nil ?_))))
    refine g_idiv (by decide) (by decide +kernel) ?_
    rw [pk_div (by omega) (by omega) (by omega)]
    refine g_blk [(.iconst 3, .int (nI 3))] (Nat.le_of_ble_eq_true rfl) (by decide +kernel) ?_
    refine gx_iconst ((gx_nil ?_))
    refine g_pV kL_115 (lr_hasPrefix hp H (d := cd / 10) (l := 3) (by omega) (by omega) (px_ok (by decide) (by decide) (by omega))) (by decide +kernel) rfl rfl hm rfl (Nat.le_of_ble_eq_true rfl) (Nat.le_of_ble_eq_true rfl) (Nat.le_of_ble_eq_true rfl) rfl ?_
    simp only [Option.toList_some, Option.toList_none, List.cons_append, List.nil_append]
    refine g_if_eq (off := 7) (tgt := 29) (by decide +kernel) (by decide) (fun c22 => ?_) (fun c22 => ?_)
    · try simp only [bI_0, Decidable.not_not] at c22
      refine g_blk [(.aload_n 0, .null), (.iload_n 1, .null), (.bipush 100, .int (nI 100))] (Nat.le_of_ble_eq_true rfl) (by decide +kernel) ?_
      refine gx_aload_n_0 (gx_iload_n_1 (gx_bipush ((gx_nil ?_))))
      refine g_idiv (by decide) (by decide +kernel) ?_
      rw [pk_div (by omega) (by omega) (by omega)]
      refine g_blk [(.iconst 2, .int (nI 2))] (Nat.le_of_ble_eq_true rfl) (by decide +kernel) ?_
      refine gx_iconst ((gx_nil ?_))
      refine g_pV kL_115 (lr_hasPrefix hp H (d := cd / 100) (l := 2) (by omega) (by omega) (px_ok (by decide) (by decide) (by omega))) (by decide +kernel) rfl rfl hm rfl (Nat.le_of_ble_eq_true rfl) (Nat.le_of_ble_eq_true rfl) (Nat.le_of_ble_eq_true rfl) rfl ?_
      simp only [Option.toList_some, Option.toList_none, List.cons_append, List.nil_append]
      refine g_if_eq (off := 7) (tgt := 45) (by decide +kernel) (by decide) (fun c38 => ?_) (fun c38 => ?_)
      · try simp only [bI_0, Decidable.not_not] at c38
        refine g_blk [(.aload_n 0, .null), (.iload_n 1, .null), (.sipush 1000, .int (nI 1000))] (Nat.le_of_ble_eq_true rfl) (by decide +kernel) ?_
        refine gx_aload_n_0 (gx_iload_n_1 (gx_sipush ((gx_nil ?_))))
        refine g_idiv (by decide) (by decide +kernel) ?_
        rw [pk_div (by omega) (by omega) (by omega)]
        refine g_blk [(.iconst 1, .int (nI 1))] (Nat.le_of_ble_eq_true rfl) (by decide +kernel) ?_
        refine gx_iconst ((gx_nil ?_))
        refine g_pV kL_115 (lr_hasPrefix hp H (d := cd / 1000) (l := 1) (by omega) (by omega) (px_ok (by decide) (by decide) (by omega))) (by decide +kernel) rfl rfl hm rfl (Nat.le_of_ble_eq_true rfl) (Nat.le_of_ble_eq_true rfl) (Nat.le_of_ble_eq_true rfl) rfl ?_
        simp only [Option.toList_some, Option.toList_none, List.cons_append, List.nil_append]
        refine g_if_eq (off := 7) (tgt := 62) (by decide +kernel) (by decide) (fun c55 => ?_) (fun c55 => ?_)
        · try simp only [bI_0, Decidable.not_not] at c55
          refine g_blk [(.iconst 0, .int (nI 0))] (Nat.le_of_ble_eq_true rfl) (by decide +kernel) ?_
          refine gx_iconst ((gx_nil ?_))
          refine g_end (some (.int _)) rfl ⟨by decide +kernel, _, rfl, rfl⟩ ⟨?_, rfl⟩
          unfold lnt
          rw [if_pos c6, if_pos c22, if_pos c38, if_pos c55]
        · try simp only [bI_0, Decidable.not_not] at c55
          refine g_blk [(.iconst 1, .int (nI 1)), (.goto 4, .retAddr 63)] (Nat.le_of_ble_eq_true rfl) (by decide +kernel) ?_
          refine gx_iconst (gx_goto ((gx_nil ?_)))
          refine g_end (some (.int _)) rfl ⟨by decide +kernel, _, rfl, rfl⟩ ⟨?_, rfl⟩
          unfold lnt
          rw [if_pos c6, if_pos c22, if_pos c38, if_neg c55]
      · try simp only [bI_0, Decidable.not_not] at c38
        refine g_blk [(.iconst 2, .int (nI 2)), (.goto 21, .retAddr 63)] (Nat.le_of_ble_eq_true rfl) (by decide +kernel) ?_
        refine gx_iconst (gx_goto ((gx_nil ?_)))
        refine g_end (some (.int _)) rfl ⟨by decide +kernel, _, rfl, rfl⟩ ⟨?_, rfl⟩
        unfold lnt
        rw [if_pos c6, if_pos c22, if_neg c38]
    · try simp only [bI_0, Decidable.not_not] at c22
      refine g_blk [(.iconst 3, .int (nI 3)), (.goto 37, .retAddr 63)] (Nat.le_of_ble_eq_true rfl) (by decide +kernel) ?_
      refine gx_iconst (gx_goto ((gx_nil ?_)))
      refine g_end (some (.int _)) rfl ⟨by decide +kernel, _, rfl, rfl⟩ ⟨?_, rfl⟩
      unfold lnt
      rw [if_pos c6, if_neg c22]
  · try simp only [bI_0, Decidable.not_not] at c6
    refine g_blk [(.iconst 4, .int (nI 4)), (.goto 53, .retAddr 63)] (Nat.le_of_ble_eq_true rfl) (by decide +kernel) ?_
    refine gx_iconst (gx_goto ((gx_nil ?_)))
    refine g_end (some (.int _)) rfl ⟨by decide +kernel, _, rfl, rfl⟩ ⟨?_, rfl⟩
    unfold lnt
    rw [if_neg c6]
theorem la_route (hp : gPxs Γ) (H : lP bm Γ de h m N c t nx) (hm : h m = some (gJ 12 fs)) {cd : Nat} (hcd : cd < 10000) : pC Γ M_L_route [.ref m, .int (nI cd)] h 32 (some (.int (roV N t cd))) := by
  refine pC_of (by decide) rfl (Nat.le_of_ble_eq_true rfl) [some (.ref m), some (.int (nI cd)), none] rfl ?_
  refine g_blk [(.aload_n 0, .null), (.iload_n 1, .null)] (Nat.le_of_ble_eq_true rfl) (by decide +kernel) ?_
  refine gx_aload_n_0 (gx_iload_n_1 ((gx_nil ?_)))
  refine g_pV kL_88 (lr_matchLength hp H hcd) (by decide +kernel) rfl rfl hm rfl (Nat.le_of_ble_eq_true rfl) (Nat.le_of_ble_eq_true rfl) (Nat.le_of_ble_eq_true rfl) rfl ?_
  simp only [Option.toList_some, Option.toList_none, List.cons_append, List.nil_append]
  refine g_blk [(.istore_n 2, .null), (.iload_n 2, .null)] (Nat.le_of_ble_eq_true rfl) (by decide +kernel) ?_
  refine gx_istore_n_2 rfl (gx_iload_n_2 ((gx_nil ?_)))
  refine g_if_ne (off := 9) (tgt := 16) (by decide +kernel) (by decide) (fun c7 => ?_) (fun c7 => ?_)
  · try simp only [bI_0, Decidable.not_not] at c7
    have hl : ¬ lnt N t cd = 0 := fun z => c7 (by rw [z]; decide)
    refine g_blk [(.aload_n 0, .null), (.iload_n 1, .null)] (Nat.le_of_ble_eq_true rfl) (by decide +kernel) ?_
    refine gx_aload_n_0 (gx_iload_n_1 ((gx_nil ?_)))
    refine g_pV kL_82 (lr_routeFor hp H hcd hl) (by decide +kernel) rfl rfl hm rfl (Nat.le_of_ble_eq_true rfl) (Nat.le_of_ble_eq_true rfl) (Nat.le_of_ble_eq_true rfl) rfl ?_
    simp only [Option.toList_some, Option.toList_none, List.cons_append, List.nil_append]
    refine g_end (some (.int _)) rfl ⟨by decide +kernel, _, rfl, rfl⟩ ⟨?_, rfl⟩
    unfold roV
    first | rw [if_pos hl] | rw [if_neg hl]
  · try simp only [bI_0, Decidable.not_not] at c7
    have hl : lnt N t cd = 0 := nI_z (by have := lnt_le (N := N) (t := t) (cd := cd); omega) c7
    refine g_blk [(.sipush (-2004), .int (-2004)), (.goto 8, .retAddr 21)] (Nat.le_of_ble_eq_true rfl) (by decide +kernel) ?_
    refine gx_sipush (gx_goto ((gx_nil ?_)))
    refine g_end (some (.int _)) rfl ⟨by decide +kernel, _, rfl, rfl⟩ ⟨?_, rfl⟩
    unfold roV
    first | rw [if_pos hl] | rw [if_neg hl]
theorem lr_bagWeight (hp : gPxs Γ) (H : lP bm Γ de h m N c t nx) {r b : Nat} (hr : r < 6) (hb : b < rg N r) : pC Γ M_X9_bagWeight [.ref m, .int (nI r), .int (nI b)] h 30 (some (.int (rWt N (nI r) (nI b) c))) := by
  obtain ⟨V, F, B, G, hB, rfl, I, hn, hbm⟩ := H
  have ec := I.c_eq
  subst ec
  have g1 := (I.g3 (a := r) (by omega)).1
  have e0 : tBg (F 0) (nI r) (nI b) = 0 := by
    unfold tBg
    exact lq_t2 (r_n hr) ((bg_in I hr (by omega)).mpr hb)
  have z := (fa_bagWeight hp G hB (nI r) (nI b)).1 e0
  rw [if_pos e0] at z
  exact z
/-- the bag for a letter's weight, told as the law tells it -/
def bgV (N : Nat → Int32) (r : Nat) (w : Int32) (c : Nat) : Int32 := if rBag N (nI r) w c (rg N r) = -1 then (-2005) else rBag N (nI r) w c (rg N r)
theorem bg_at {r i : Nat} {w : Int32} (hi : i < rg N r) (h3 : rg N r ≤ 3) (hf : rWt N (nI r) (nI i) c + w ≤ nI 150) (hno : ∀ j, j < i → ¬ rFits N (nI r) w c j = true) : bgV N r w c = nI i := by
  have e : rBag N (nI r) w c (rg N r) = nI i := by
    unfold rBag
    rw [rFst_at (decide_eq_true hf) hno hi]
  unfold bgV
  rw [e, if_neg (nI_nm1 (by omega))]
theorem bg_full {r : Nat} {w : Int32} (h3 : ¬ rg N r < 3) (hno : ∀ j, j < rg N r → ¬ rFits N (nI r) w c j = true) : bgV N r w c = (-2005) := by
  have e : rBag N (nI r) w c (rg N r) = -1 := by
    unfold rBag
    rw [rFst_none hno]
    exact if_neg h3
  unfold bgV
  rw [e, if_pos rfl]
theorem bg_new {r : Nat} {w : Int32} (h3 : rg N r < 3) (hno : ∀ j, j < rg N r → ¬ rFits N (nI r) w c j = true) : bgV N r w c = nI (rg N r) := by
  have e : rBag N (nI r) w c (rg N r) = nI (rg N r) := by
    unfold rBag
    rw [rFst_none hno]
    exact if_pos h3
  unfold bgV
  rw [e, if_neg (nI_nm1 (by omega))]
theorem la_bag (hp : gPxs Γ) (H : lP bm Γ de h m N c t nx) (hm : h m = some (gJ 12 fs)) {r : Nat} (hr : r < 6) (w : Int32) : pC Γ M_L_bag [.ref m, .int (nI r), .int w] h 32 (some (.int (bgV N r w c))) := by
  have I := H.iv.1
  obtain ⟨g3, -⟩ := I.g3 (a := r) (by omega)
  have loop : ∀ n i, i ≤ rg N r → rg N r < i + n → (∀ j, j < i → ¬ rFits N (nI r) w c j = true) → pG Γ M_L_bag 32 (some (.int (bgV N r w c))) h 2 [some (.ref m), some (.int (nI r)), some (.int w), some (.int (nI i))] [] := by
    intro n
    induction n with
    | zero => intro i h1 h2; omega
    | succ n ih =>
      intro i hi hn hno
      refine g_blk [(.iload_n 3, .null), (.aload_n 0, .null), (.iload_n 1, .null)] (Nat.le_of_ble_eq_true rfl) (by decide +kernel) ?_
      refine gx_iload_n_3 (gx_aload_n_0 (gx_iload_n_1 ((gx_nil ?_))))
      refine g_pV kL_169 (lr_bagCount hp H hr) (by decide +kernel) rfl rfl hm rfl (Nat.le_of_ble_eq_true rfl) (Nat.le_of_ble_eq_true rfl) (Nat.le_of_ble_eq_true rfl) rfl ?_
      simp only [Option.toList_some, Option.toList_none, List.cons_append, List.nil_append]
      refine g_icmp_ge (off := 25) (tgt := 33) (by decide +kernel) (by decide) (fun c8 => ?_) (fun c8 => ?_)
      · try simp only [bI_0, Decidable.not_not] at c8
        have hie : i = rg N r := by
          have := (nI_leI (by omega) (by omega)).mp c8
          omega
        subst hie
        refine g_blk [(.aload_n 0, .null), (.iload_n 1, .null)] (Nat.le_of_ble_eq_true rfl) (by decide +kernel) ?_
        refine gx_aload_n_0 (gx_iload_n_1 ((gx_nil ?_)))
        refine g_pV kL_169 (lr_bagCount hp H hr) (by decide +kernel) rfl rfl hm rfl (Nat.le_of_ble_eq_true rfl) (Nat.le_of_ble_eq_true rfl) (Nat.le_of_ble_eq_true rfl) rfl ?_
        simp only [Option.toList_some, Option.toList_none, List.cons_append, List.nil_append]
        refine g_blk [(.iconst 3, .int (nI 3))] (Nat.le_of_ble_eq_true rfl) (by decide +kernel) ?_
        refine gx_iconst ((gx_nil ?_))
        refine g_icmp_ge (off := 11) (tgt := 50) (by decide +kernel) (by decide) (fun c39 => ?_) (fun c39 => ?_)
        · try simp only [bI_0, Decidable.not_not] at c39
          refine g_blk [(.sipush (-2005), .int (-2005))] (Nat.le_of_ble_eq_true rfl) (by decide +kernel) ?_
          refine gx_sipush ((gx_nil ?_))
          refine g_end (some (.int _)) rfl ⟨by decide +kernel, _, rfl, rfl⟩ ⟨?_, rfl⟩
          rw [bg_full (by have := (nI_leI (by omega) (by omega)).mp c39; omega) hno]
        · try simp only [bI_0, Decidable.not_not] at c39
          refine g_blk [(.aload_n 0, .null), (.iload_n 1, .null)] (Nat.le_of_ble_eq_true rfl) (by decide +kernel) ?_
          refine gx_aload_n_0 (gx_iload_n_1 ((gx_nil ?_)))
          refine g_pV kL_169 (lr_bagCount hp H hr) (by decide +kernel) rfl rfl hm rfl (Nat.le_of_ble_eq_true rfl) (Nat.le_of_ble_eq_true rfl) (Nat.le_of_ble_eq_true rfl) rfl ?_
          simp only [Option.toList_some, Option.toList_none, List.cons_append, List.nil_append]
          refine g_blk [(.goto 6, .retAddr 53)] (Nat.le_of_ble_eq_true rfl) (by decide +kernel) ?_
          refine gx_goto ((gx_nil ?_))
          refine g_end (some (.int _)) rfl ⟨by decide +kernel, _, rfl, rfl⟩ ⟨?_, rfl⟩
          rw [bg_new (by rcases Nat.lt_or_ge (rg N r) 3 with q | q <;> first | exact q | exact absurd (nI_le q (by omega)) c39) hno]
      · try simp only [bI_0, Decidable.not_not] at c8
        have hib : i < rg N r := by
          rcases Nat.lt_or_ge i (rg N r) with q | q
          · exact q
          · exact absurd (nI_le q (by omega)) c8
        refine g_blk [(.aload_n 0, .null), (.iload_n 1, .null), (.iload_n 3, .null)] (Nat.le_of_ble_eq_true rfl) (by decide +kernel) ?_
        refine gx_aload_n_0 (gx_iload_n_1 (gx_iload_n_3 ((gx_nil ?_))))
        refine g_pV kL_91 (lr_bagWeight hp H hr hib) (by decide +kernel) rfl rfl hm rfl (Nat.le_of_ble_eq_true rfl) (Nat.le_of_ble_eq_true rfl) (Nat.le_of_ble_eq_true rfl) rfl ?_
        simp only [Option.toList_some, Option.toList_none, List.cons_append, List.nil_append]
        refine g_blk [(.iload_n 2, .null), (.iadd, .null), (.sipush 150, .int (nI 150))] (Nat.le_of_ble_eq_true rfl) (by decide +kernel) ?_
        refine gx_iload_n_2 (gx_iadd (gx_sipush ((gx_nil ?_))))
        try simp only [nI_add, Nat.add_zero, Nat.zero_add, Nat.reduceAdd]
        refine g_icmp_gt (off := 5) (tgt := 27) (by decide +kernel) (by decide) (fun c22 => ?_) (fun c22 => ?_)
        · try simp only [bI_0, Decidable.not_not] at c22
          refine g_blk [(.iinc 3 1, .int (nI 1)), (.goto (-28), .retAddr 2)] (Nat.le_of_ble_eq_true rfl) (by decide +kernel) ?_
          refine gx_iinc_3 rfl (gx_goto ((gx_nil ?_)))
          try simp only [nI_add, Nat.add_zero, Nat.zero_add, Nat.reduceAdd]
          exact ih (i + 1) (by omega) (by omega) (fun j hj => by
            by_cases y : j = i
            · subst y
              exact fun z => absurd (of_decide_eq_true z) (Int32.not_le.mpr c22)
            · exact hno j (by omega))
        · try simp only [bI_0, Decidable.not_not] at c22
          refine g_blk [(.iload_n 3, .null)] (Nat.le_of_ble_eq_true rfl) (by decide +kernel) ?_
          refine gx_iload_n_3 ((gx_nil ?_))
          refine g_end (some (.int _)) rfl ⟨by decide +kernel, _, rfl, rfl⟩ ⟨?_, rfl⟩
          rw [bg_at hib g3 (Int32.not_lt.mp c22) hno]
  refine pC_of (by decide) rfl (Nat.le_of_ble_eq_true rfl) [some (.ref m), some (.int (nI r)), some (.int w), none] rfl ?_
  refine g_blk [(.iconst 0, .int (nI 0)), (.istore_n 3, .null)] (Nat.le_of_ble_eq_true rfl) (by decide +kernel) ?_
  refine gx_iconst (gx_istore_n_3 rfl ((gx_nil ?_)))
  exact loop (rg N r + 1) 0 (Nat.zero_le _) (by omega) (fun j hj => by omega)
/-- what it gives to put a letter -/
def puV (N : Nat → Int32) (p r c : Nat) : Int32 := if N (62 + 7 * p + 5) = -1 ∧ (N (62 + 7 * p + 3) = nI 1 ∨ N 0 < N (8 + 3 * r)) then bgV N r (N (62 + 7 * p + 2)) c else (-2005)
theorem la_put (hp : gPxs Γ) (H : lP bm Γ de h m N c t nx) (hm : h m = some (gJ 12 fs)) {p : Nat} (hpc : p < c) {r : Nat} (hr : r < 6) : pC Γ M_L_put [.ref m, .int (N (62 + 7 * p)), .int (nI r)] h 34 (some (.int (puV N p r c))) := by
  refine pC_of (by decide) rfl (Nat.le_of_ble_eq_true rfl) [some (.ref m), some (.int (N (62 + 7 * p))), some (.int (nI r)), none] rfl ?_
  refine g_blk [(.aload_n 0, .null), (.iload_n 1, .null)] (Nat.le_of_ble_eq_true rfl) (by decide +kernel) ?_
  refine gx_aload_n_0 (gx_iload_n_1 ((gx_nil ?_)))
  refine g_pV kL_181 (lr_isPriority hp H hpc) (by decide +kernel) rfl rfl hm rfl (Nat.le_of_ble_eq_true rfl) (Nat.le_of_ble_eq_true rfl) (Nat.le_of_ble_eq_true rfl) rfl ?_
  simp only [Option.toList_some, Option.toList_none, List.cons_append, List.nil_append]
  refine g_if_ne (off := 19) (tgt := 24) (by decide +kernel) (by decide) (fun c5 => ?_) (fun c5 => ?_)
  · try simp only [bI_0, Decidable.not_not] at c5
    have hl9 : (N (62 + 7 * p + 3) = nI 1 ∨ N 0 < N (8 + 3 * r)) := Or.inl c5
    refine g_blk [(.iconst 0, .int (nI 0)), (.istore_n 3, .null), (.aload_n 0, .null), (.iload_n 1, .null)] (Nat.le_of_ble_eq_true rfl) (by decide +kernel) ?_
    refine gx_iconst (gx_istore_n_3 rfl (gx_aload_n_0 (gx_iload_n_1 ((gx_nil ?_)))))
    refine g_pV kL_191 (lr_isInTray hp H hpc) (by decide +kernel) rfl rfl hm rfl (Nat.le_of_ble_eq_true rfl) (Nat.le_of_ble_eq_true rfl) (Nat.le_of_ble_eq_true rfl) rfl ?_
    simp only [Option.toList_some, Option.toList_none, List.cons_append, List.nil_append]
    refine g_if_eq (off := 7) (tgt := 38) (by decide +kernel) (by decide) (fun c31 => ?_) (fun c31 => ?_)
    · try simp only [bI_0, Decidable.not_not] at c31
      refine g_blk [(.sipush (-2005), .int (-2005)), (.goto 13, .retAddr 54)] (Nat.le_of_ble_eq_true rfl) (by decide +kernel) ?_
      refine gx_sipush (gx_goto ((gx_nil ?_)))
      refine g_end (some (.int _)) rfl ⟨by decide +kernel, _, rfl, rfl⟩ ⟨?_, rfl⟩
      unfold puV
      rw [if_neg (fun z => c31 z.1)]
    · try simp only [bI_0, Decidable.not_not] at c31
      refine g_blk [(.iload_n 3, .null)] (Nat.le_of_ble_eq_true rfl) (by decide +kernel) ?_
      refine gx_iload_n_3 ((gx_nil ?_))
      refine g_if_eq (off := 9) (tgt := 44) (by decide +kernel) (by decide) (fun c35 => ?_) (fun c35 => ?_)
      · try simp only [bI_0, Decidable.not_not] at c35
        refine g_blk [(.aload_n 0, .null), (.iload_n 2, .null), (.aload_n 0, .null), (.iload_n 1, .null)] (Nat.le_of_ble_eq_true rfl) (by decide +kernel) ?_
        refine gx_aload_n_0 (gx_iload_n_2 (gx_aload_n_0 (gx_iload_n_1 ((gx_nil ?_)))))
        refine g_pV kL_178 (lr_weightOf hp H hpc) (by decide +kernel) rfl rfl hm rfl (Nat.le_of_ble_eq_true rfl) (Nat.le_of_ble_eq_true rfl) (Nat.le_of_ble_eq_true rfl) rfl ?_
        simp only [Option.toList_some, Option.toList_none, List.cons_append, List.nil_append]
        refine g_pS kL_194 (la_bag hp H hm hr _) (by decide +kernel) rfl rfl (Nat.le_of_ble_eq_true rfl) (Nat.le_of_ble_eq_true rfl) (Nat.le_of_ble_eq_true rfl) rfl ?_
        simp only [Option.toList_some, Option.toList_none, List.cons_append, List.nil_append]
        refine g_end (some (.int _)) rfl ⟨by decide +kernel, _, rfl, rfl⟩ ⟨?_, rfl⟩
        unfold puV
        rw [if_pos ⟨c31, hl9⟩]
      · exact absurd (by decide) c35
  · try simp only [bI_0, Decidable.not_not] at c5
    refine g_blk [(.aload_n 0, .null)] (Nat.le_of_ble_eq_true rfl) (by decide +kernel) ?_
    refine gx_aload_n_0 ((gx_nil ?_))
    refine g_pV kL_151 (lr_hour H) (by decide +kernel) rfl rfl hm rfl (Nat.le_of_ble_eq_true rfl) (Nat.le_of_ble_eq_true rfl) (Nat.le_of_ble_eq_true rfl) rfl ?_
    simp only [Option.toList_some, Option.toList_none, List.cons_append, List.nil_append]
    refine g_blk [(.aload_n 0, .null), (.iload_n 2, .null)] (Nat.le_of_ble_eq_true rfl) (by decide +kernel) ?_
    refine gx_aload_n_0 (gx_iload_n_2 ((gx_nil ?_)))
    refine g_pV kL_172 (lr_cutoff hp H hr) (by decide +kernel) rfl rfl hm rfl (Nat.le_of_ble_eq_true rfl) (Nat.le_of_ble_eq_true rfl) (Nat.le_of_ble_eq_true rfl) rfl ?_
    simp only [Option.toList_some, Option.toList_none, List.cons_append, List.nil_append]
    refine g_icmp_lt (off := 7) (tgt := 24) (by decide +kernel) (by decide) (fun c17 => ?_) (fun c17 => ?_)
    · try simp only [bI_0, Decidable.not_not] at c17
      have hl9 : (N (62 + 7 * p + 3) = nI 1 ∨ N 0 < N (8 + 3 * r)) := Or.inr c17
      refine g_blk [(.iconst 0, .int (nI 0)), (.istore_n 3, .null), (.aload_n 0, .null), (.iload_n 1, .null)] (Nat.le_of_ble_eq_true rfl) (by decide +kernel) ?_
      refine gx_iconst (gx_istore_n_3 rfl (gx_aload_n_0 (gx_iload_n_1 ((gx_nil ?_)))))
      refine g_pV kL_191 (lr_isInTray hp H hpc) (by decide +kernel) rfl rfl hm rfl (Nat.le_of_ble_eq_true rfl) (Nat.le_of_ble_eq_true rfl) (Nat.le_of_ble_eq_true rfl) rfl ?_
      simp only [Option.toList_some, Option.toList_none, List.cons_append, List.nil_append]
      refine g_if_eq (off := 7) (tgt := 38) (by decide +kernel) (by decide) (fun c31 => ?_) (fun c31 => ?_)
      · try simp only [bI_0, Decidable.not_not] at c31
        refine g_blk [(.sipush (-2005), .int (-2005)), (.goto 13, .retAddr 54)] (Nat.le_of_ble_eq_true rfl) (by decide +kernel) ?_
        refine gx_sipush (gx_goto ((gx_nil ?_)))
        refine g_end (some (.int _)) rfl ⟨by decide +kernel, _, rfl, rfl⟩ ⟨?_, rfl⟩
        unfold puV
        rw [if_neg (fun z => c31 z.1)]
      · try simp only [bI_0, Decidable.not_not] at c31
        refine g_blk [(.iload_n 3, .null)] (Nat.le_of_ble_eq_true rfl) (by decide +kernel) ?_
        refine gx_iload_n_3 ((gx_nil ?_))
        refine g_if_eq (off := 9) (tgt := 44) (by decide +kernel) (by decide) (fun c35 => ?_) (fun c35 => ?_)
        · try simp only [bI_0, Decidable.not_not] at c35
          refine g_blk [(.aload_n 0, .null), (.iload_n 2, .null), (.aload_n 0, .null), (.iload_n 1, .null)] (Nat.le_of_ble_eq_true rfl) (by decide +kernel) ?_
          refine gx_aload_n_0 (gx_iload_n_2 (gx_aload_n_0 (gx_iload_n_1 ((gx_nil ?_)))))
          refine g_pV kL_178 (lr_weightOf hp H hpc) (by decide +kernel) rfl rfl hm rfl (Nat.le_of_ble_eq_true rfl) (Nat.le_of_ble_eq_true rfl) (Nat.le_of_ble_eq_true rfl) rfl ?_
          simp only [Option.toList_some, Option.toList_none, List.cons_append, List.nil_append]
          refine g_pS kL_194 (la_bag hp H hm hr _) (by decide +kernel) rfl rfl (Nat.le_of_ble_eq_true rfl) (Nat.le_of_ble_eq_true rfl) (Nat.le_of_ble_eq_true rfl) rfl ?_
          simp only [Option.toList_some, Option.toList_none, List.cons_append, List.nil_append]
          refine g_end (some (.int _)) rfl ⟨by decide +kernel, _, rfl, rfl⟩ ⟨?_, rfl⟩
          unfold puV
          rw [if_pos ⟨c31, hl9⟩]
        · exact absurd (by decide) c35
    · try simp only [bI_0, Decidable.not_not] at c17
      have hl9 : ¬ (N (62 + 7 * p + 3) = nI 1 ∨ N 0 < N (8 + 3 * r)) := fun z => z.elim c5 c17
      refine g_blk [(.iconst 1, .int (nI 1)), (.goto 4, .retAddr 25), (.istore_n 3, .null), (.aload_n 0, .null), (.iload_n 1, .null)] (Nat.le_of_ble_eq_true rfl) (by decide +kernel) ?_
      refine gx_iconst (gx_goto (gx_istore_n_3 rfl (gx_aload_n_0 (gx_iload_n_1 ((gx_nil ?_))))))
      refine g_pV kL_191 (lr_isInTray hp H hpc) (by decide +kernel) rfl rfl hm rfl (Nat.le_of_ble_eq_true rfl) (Nat.le_of_ble_eq_true rfl) (Nat.le_of_ble_eq_true rfl) rfl ?_
      simp only [Option.toList_some, Option.toList_none, List.cons_append, List.nil_append]
      refine g_if_eq (off := 7) (tgt := 38) (by decide +kernel) (by decide) (fun c31 => ?_) (fun c31 => ?_)
      · try simp only [bI_0, Decidable.not_not] at c31
        refine g_blk [(.sipush (-2005), .int (-2005)), (.goto 13, .retAddr 54)] (Nat.le_of_ble_eq_true rfl) (by decide +kernel) ?_
        refine gx_sipush (gx_goto ((gx_nil ?_)))
        refine g_end (some (.int _)) rfl ⟨by decide +kernel, _, rfl, rfl⟩ ⟨?_, rfl⟩
        unfold puV
        rw [if_neg (fun z => c31 z.1)]
      · try simp only [bI_0, Decidable.not_not] at c31
        refine g_blk [(.iload_n 3, .null)] (Nat.le_of_ble_eq_true rfl) (by decide +kernel) ?_
        refine gx_iload_n_3 ((gx_nil ?_))
        refine g_if_eq (off := 9) (tgt := 44) (by decide +kernel) (by decide) (fun c35 => ?_) (fun c35 => ?_)
        · exact absurd c35 (by decide)
        · try simp only [bI_0, Decidable.not_not] at c35
          refine g_blk [(.sipush (-2005), .int (-2005)), (.goto 13, .retAddr 54)] (Nat.le_of_ble_eq_true rfl) (by decide +kernel) ?_
          refine gx_sipush (gx_goto ((gx_nil ?_)))
          refine g_end (some (.int _)) rfl ⟨by decide +kernel, _, rfl, rfl⟩ ⟨?_, rfl⟩
          unfold puV
          rw [if_neg (fun z => hl9 z.2)]
theorem ro_1 (I : rIV N c t nx) {p cd r : Nat} (ecd : N (62 + 7 * p + 1) = nI cd) (hcd : cd < 10000) (hr : r < 6) (e : rLR N p t = nI r) : roV N t cd = nI r := by
  unfold rLR at e
  rw [ecd] at e
  unfold roV
  rw [if_neg (fun z => nI_nm1 (n := r) (by omega) (e.symm.trans ((ml_lnt I.ht I.pv I.up hcd).2.mpr z))), e]
theorem ro_0 (I : rIV N c t nx) {p cd : Nat} (ecd : N (62 + 7 * p + 1) = nI cd) (hcd : cd < 10000) (e : rLR N p t = -1) : roV N t cd = (-2004) := by
  unfold rLR at e
  rw [ecd] at e
  unfold roV
  rw [if_pos ((ml_lnt I.ht I.pv I.up hcd).2.mp e)]
theorem lr_cases (I : rIV N c t nx) (p : Nat) : rLR N p t = -1 ∨ ∃ r, r < 6 ∧ rLR N p t = nI r := by
  rcases rLR_in (N := N) (i := p) I.ht I.pv with y | y
  · exact Or.inl y
  · exact Or.inr ⟨rIx (rLR N p t), (r5_lt y).2, (r5_lt y).1⟩
theorem la_sorted1 (hp : gPxs Γ) (H : lP bm Γ de h m N c t nx) (hm : h m = some (gJ 12 fs)) {p : Nat} (hpc : p < c) {r : Nat} (hr : r < 6) (e : rLR N p t = nI r) : pC Γ M_L_sorted [.ref m, .int (N (62 + 7 * p))] h 36 (some (.int (puV N p r c))) := by
  have I := H.iv.1
  obtain ⟨i9, cd, w9, pr9, q9, ei9, hi9, ecd, hcd, -⟩ := I.let9 hpc
  refine pC_of (by decide) rfl (Nat.le_of_ble_eq_true rfl) [some (.ref m), some (.int (N (62 + 7 * p))), none] rfl ?_
  refine g_blk [(.aload_n 0, .null), (.aload_n 0, .null), (.iload_n 1, .null)] (Nat.le_of_ble_eq_true rfl) (by decide +kernel) ?_
  refine gx_aload_n_0 (gx_aload_n_0 (gx_iload_n_1 ((gx_nil ?_))))
  refine g_pV kL_70 (lr_codeOf hp H hpc) (by decide +kernel) rfl rfl hm rfl (Nat.le_of_ble_eq_true rfl) (Nat.le_of_ble_eq_true rfl) (Nat.le_of_ble_eq_true rfl) rfl ?_
  simp only [Option.toList_some, Option.toList_none, List.cons_append, List.nil_append]
  rw [ecd]
  refine g_pS kL_198 (la_route hp H hm hcd) (by decide +kernel) rfl rfl (Nat.le_of_ble_eq_true rfl) (Nat.le_of_ble_eq_true rfl) (Nat.le_of_ble_eq_true rfl) rfl ?_
  simp only [Option.toList_some, Option.toList_none, List.cons_append, List.nil_append]
  rw [ro_1 I ecd hcd hr e]
  refine g_blk [(.istore_n 2, .null), (.iload_n 2, .null)] (Nat.le_of_ble_eq_true rfl) (by decide +kernel) ?_
  refine gx_istore_n_2 rfl (gx_iload_n_2 ((gx_nil ?_)))
  refine g_if_ge (off := 9) (tgt := 20) (by decide +kernel) (by decide) (fun c11 => ?_) (fun c11 => ?_)
  · try simp only [bI_0, Decidable.not_not] at c11
    refine g_blk [(.aload_n 0, .null), (.iload_n 1, .null), (.iload_n 2, .null)] (Nat.le_of_ble_eq_true rfl) (by decide +kernel) ?_
    refine gx_aload_n_0 (gx_iload_n_1 (gx_iload_n_2 ((gx_nil ?_))))
    refine g_pS kL_201 (la_put hp H hm hpc hr) (by decide +kernel) rfl rfl (Nat.le_of_ble_eq_true rfl) (Nat.le_of_ble_eq_true rfl) (Nat.le_of_ble_eq_true rfl) rfl ?_
    simp only [Option.toList_some, Option.toList_none, List.cons_append, List.nil_append]
    refine g_end (some (.int _)) rfl ⟨by decide +kernel, _, rfl, rfl⟩ ⟨?_, rfl⟩
    rfl
  · try simp only [bI_0, Decidable.not_not] at c11
    exact absurd (nI_pos' (by omega)) c11
theorem la_sorted0 (hp : gPxs Γ) (H : lP bm Γ de h m N c t nx) (hm : h m = some (gJ 12 fs)) {p : Nat} (hpc : p < c) (e : rLR N p t = -1) : pC Γ M_L_sorted [.ref m, .int (N (62 + 7 * p))] h 36 (some (.int ((-2005)))) := by
  have I := H.iv.1
  obtain ⟨i9, cd, w9, pr9, q9, ei9, hi9, ecd, hcd, -⟩ := I.let9 hpc
  refine pC_of (by decide) rfl (Nat.le_of_ble_eq_true rfl) [some (.ref m), some (.int (N (62 + 7 * p))), none] rfl ?_
  refine g_blk [(.aload_n 0, .null), (.aload_n 0, .null), (.iload_n 1, .null)] (Nat.le_of_ble_eq_true rfl) (by decide +kernel) ?_
  refine gx_aload_n_0 (gx_aload_n_0 (gx_iload_n_1 ((gx_nil ?_))))
  refine g_pV kL_70 (lr_codeOf hp H hpc) (by decide +kernel) rfl rfl hm rfl (Nat.le_of_ble_eq_true rfl) (Nat.le_of_ble_eq_true rfl) (Nat.le_of_ble_eq_true rfl) rfl ?_
  simp only [Option.toList_some, Option.toList_none, List.cons_append, List.nil_append]
  rw [ecd]
  refine g_pS kL_198 (la_route hp H hm hcd) (by decide +kernel) rfl rfl (Nat.le_of_ble_eq_true rfl) (Nat.le_of_ble_eq_true rfl) (Nat.le_of_ble_eq_true rfl) rfl ?_
  simp only [Option.toList_some, Option.toList_none, List.cons_append, List.nil_append]
  rw [ro_0 I ecd hcd e]
  refine g_blk [(.istore_n 2, .null), (.iload_n 2, .null)] (Nat.le_of_ble_eq_true rfl) (by decide +kernel) ?_
  refine gx_istore_n_2 rfl (gx_iload_n_2 ((gx_nil ?_)))
  refine g_if_ge (off := 9) (tgt := 20) (by decide +kernel) (by decide) (fun c11 => ?_) (fun c11 => ?_)
  · try simp only [bI_0, Decidable.not_not] at c11
    exact absurd c11 (by decide)
  · try simp only [bI_0, Decidable.not_not] at c11
    refine g_blk [(.sipush (-2005), .int (-2005)), (.goto 9, .retAddr 26)] (Nat.le_of_ble_eq_true rfl) (by decide +kernel) ?_
    refine gx_sipush (gx_goto ((gx_nil ?_)))
    refine g_end (some (.int _)) rfl ⟨by decide +kernel, _, rfl, rfl⟩ ⟨?_, rfl⟩
    rfl
theorem go_iff (I : rIV N c t nx) {p r : Nat} (hr : r < 6) : rGo N p (nI r) c (rOp N (nI r)) = true ↔ 0 ≤ puV N p r c := by
  obtain ⟨g3, -⟩ := I.g3 (a := r) (by omega)
  have eo := I.op (r := r) (by omega)
  have e : rGo N p (nI r) c (rOp N (nI r)) = true ↔ (N (62 + 7 * p + 5) = -1 ∧ (nI 0 ≤ nI r ∧ nI r ≤ nI 5) ∧ (N (62 + 7 * p + 3) = nI 1 ∨ N 0 < N (8 + 3 * rIx (nI r))) ∧ ¬ rBag N (nI r) (N (62 + 7 * p + 2)) c (rOp N (nI r)) = -1) := ⟨fun z => of_decide_eq_true z, fun z => decide_eq_true z⟩
  rw [e, rIx_nI (by omega), eo]
  unfold puV
  by_cases y : N (62 + 7 * p + 5) = -1 ∧ (N (62 + 7 * p + 3) = nI 1 ∨ N 0 < N (8 + 3 * r))
  · rw [if_pos y]
    unfold bgV
    by_cases z : rBag N (nI r) (N (62 + 7 * p + 2)) c (rg N r) = -1
    · rw [if_pos z]
      exact ⟨fun w => absurd z w.2.2.2, fun w => absurd w (by decide)⟩
    · rw [if_neg z]
      obtain ⟨k, hk, ek⟩ := rBag_in g3 z
      exact ⟨fun w => by rw [ek]; exact nI_pos' (by omega), fun w => ⟨y.1, r_n hr, y.2, z⟩⟩
  · rw [if_neg y]
    exact ⟨fun w => absurd ⟨w.1, w.2.2.1⟩ y, fun w => absurd w (by decide)⟩
theorem go_no {p : Nat} {b : Nat} : ¬ rGo N p (-1) c b = true := fun z => by
  have z := of_decide_eq_true z
  exact absurd z.2.1.1 (by decide)
end GLe
