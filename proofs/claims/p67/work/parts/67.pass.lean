/-! HOURS PASS -/
section GPh
variable {Γ : gE} {de : Nat} {h : gHp}
theorem lqF_G {N0 : Nat → Int32} {rt : Int32} {t : Nat} {l : List lqT} (h : ∀ x ∈ l, lqG x) : ∀ y ∈ l.filterMap (lqF N0 rt t), lqG y := by
  intro y hy
  obtain ⟨x, hx, e⟩ := List.mem_filterMap.mp hy
  have g := h x hx
  unfold lqF at e
  by_cases a : x.2.2.2.2.2.1 = rt
  · rw [if_pos a] at e
    by_cases b : rRoute N0 x.2.1 t = rt
    · rw [if_pos b] at e; cases e
    · rw [if_neg b] at e
      by_cases d : x.2.2.2.2.1 + nI 1 = nI 3
      · rw [if_pos d] at e; cases e
      · rw [if_neg d] at e
        cases e
        obtain ⟨m, cd, w, pr, q, em, hm, ec, hcd, ew, hw1, hw2, ep, hpr, eq, hq, eA⟩ := g
        refine ⟨m, cd, w, pr, q + 1, em, hm, ec, hcd, ew, hw1, hw2, ep, hpr, ?_, ?_, Or.inl rfl⟩
        · show x.2.2.2.2.1 + nI 1 = _
          rw [eq, nI_add]
        · have : ¬ q + 1 = 3 := fun y => d (by rw [eq, nI_add, y])
          omega
  · rw [if_neg a] at e
    cases e
    exact g
/-- the state within passHours -/
def gPK (Γ : gE) (de : Nat) (h0 : gHp) (o la ta ca da ba pa ep t : Nat) (fl fq ls0 ps : List Nat) (N5 : Int32) (X : (Nat → Int32) × Int32) (h : gHp) : Prop := ∃ c ls, gOx Γ de h o X.1 c t la ta ca da ba pa ep fl fq ls ps ∧ gNd ca da ba fl fq ls ∧ (∀ q ∈ ls, q ∈ ls0) ∧ gKeep (fun q => q ∈ gFp o ta ca da ba fl fq ls0) h0 h ∧ c ≤ 20 ∧ X.1 3 = nI c ∧ X.1 4 = nI t ∧ rPv X.1 t ∧ rLv1 X.1 c ∧ (∃ hh, hh < 24 ∧ X.1 0 = nI hh) ∧ X.1 5 = N5 + X.2
theorem gSub {o ta ca da ba : Nat} {fl fq ls lk : List Nat} (hlk : ∀ q ∈ lk, q ∈ ls) : ∀ q ∈ gFp o ta ca da ba fl fq lk, q ∈ gFp o ta ca da ba fl fq ls := fun q hq => by
  rcases gFp_m.mp hq with z | z | z | z | z | z | z | z
  · exact gFp_m.mpr (by simp [z])
  · exact gFp_m.mpr (by simp [z])
  · exact gFp_m.mpr (by simp [z])
  · exact gFp_m.mpr (by simp [z])
  · exact gFp_m.mpr (by simp [z])
  · exact gFp_m.mpr (by simp [z])
  · exact gFp_m.mpr (by simp [z])
  · exact gFp_m.mpr (by simp [hlk q z])
theorem rTick_k {N : Nat → Int32} {q : Nat} (h0 : q ≠ 0) (h1 : q ≠ 1) : rTick N q = N q := by unfold rTick; rw [pk_un h0, pk_un h1]
theorem rTick_0 {N : Nat → Int32} {hh : Nat} (h24 : hh < 24) (h0 : N 0 = nI hh) : ∃ h2, h2 < 24 ∧ rTick N 0 = nI h2 := by
  have t0 : rTick N 0 = nI hh + nI 1 - (nI hh + nI 1) / nI 24 * nI 24 := by unfold rTick; rw [pk_us, h0]
  rw [nI_add, pk_div (by omega) (by omega) (by omega), pk_mul, pk_sub (by omega)] at t0
  exact ⟨_, by omega, t0⟩
theorem gPK_tick {h0 h1 h2 : gHp} {o la ta ca da ba pa ep t c : Nat} {fl fq ls0 ps ls : List Nat} {N5 : Int32} {X : (Nat → Int32) × Int32} (ht : t ≤ 12) (H : gOx Γ de h2 o (rTick X.1) c t la ta ca da ba pa ep fl fq ls ps) (g : gNd ca da ba fl fq ls) (hl : ∀ q ∈ ls, q ∈ ls0) (k : gKeep (fun q => q ∈ gFp o ta ca da ba fl fq ls0) h0 h1) (k2 : gKeep (fun q => q = o) h1 h2) (hc : c ≤ 20) (h3 : X.1 3 = nI c) (h4 : X.1 4 = nI t) (hv : rPv X.1 t) (hw : rLv1 X.1 c) (hh : ∃ hh, hh < 24 ∧ X.1 0 = nI hh) (h5 : X.1 5 = N5 + X.2) : gPK Γ de h0 o la ta ca da ba pa ep t fl fq ls0 ps N5 (rTick X.1, X.2) h2 := by
  obtain ⟨hh, h24, e0⟩ := hh
  exact ⟨c, ls, H, g, hl, gK_tr k k2 (fun z y => Or.inl (by rw [y]; exact memO)), hc, (rTick_k (by omega) (by omega)).trans h3, (rTick_k (by omega) (by omega)).trans h4, rPv_cg ht (fun q q1 q2 => (rTick_k (by omega) (by omega)).symm) hv, lqG_cg (fun q q1 q2 => (rTick_k (by omega) (by omega)).symm) hw, rTick_0 h24 e0, (rTick_k (by omega) (by omega)).trans h5⟩
theorem gPK_send {h0 h1 h2 h3 : gHp} {o la ta ca da ba pa ep t c i : Nat} {fl fq ls0 ps ls : List Nat} {N5 : Int32} {X : (Nat → Int32) × Int32} (ht : t ≤ 12) (hi : i ≤ 5) (hl : ∀ q ∈ ls, q ∈ ls0) (k : gKeep (fun q => q ∈ gFp o ta ca da ba fl fq ls0) h0 h1) (hc : c ≤ 20) (e3 : X.1 3 = nI c) (e4 : X.1 4 = nI t) (hv : rPv X.1 t) (hw : rLv1 X.1 c) (hh : ∃ hh, hh < 24 ∧ X.1 0 = nI hh) (h5 : X.1 5 = N5 + X.2) (he : X.1 (8 + 3 * i + 1) = X.1 0)
    (k2 : gKeep (fun q => q = ba) h1 h2) (S : gSt Γ de h2 o la ta ca da ba pa ep t fl fq ps ls (gSd (nI i) t c (upd X.1 (8 + 3 * i + 2) (nI 0)) c) h3) : gPK Γ de h0 o la ta ca da ba pa ep t fl fq ls0 ps N5 (rRt X i) h3 := by
  have et : rtt X.1 = t := by unfold rtt; rw [e4, nI_clamp (by omega)]
  have ec : rc X.1 = c := by unfold rc; rw [e3, nI_clamp (by omega)]
  have eX : rRt X i = (rDE (nI i) (rDL (nI i) t c X.1 0 (nI 0)), X.2 + (rDL (nI i) t c X.1 0 (nI 0)).2) := by
    unfold rRt
    rw [if_pos he, et, ec]
  obtain ⟨a1, a2, a3, a4, a5, a6, a7, a8, a9, a10⟩ := gSd_rDE (N := X.1) hi hc ht e3
  obtain ⟨lk, S1, S2, S3, S4⟩ := S
  rw [eX]
  refine ⟨_, lk, gOx_cong S1 a3, S2, fun q hq => hl q (S3 q hq), gK_tr k (gK_tr (S := fun q => q ∈ gFp o ta ca da ba fl fq ls) gKeep.rf (gK_tr (S := fun q => q ∈ gFp o ta ca da ba fl fq ls) (gKeep.tr (gKeep.rf) (fun x e n q => k2 x e (fun z => n (by rw [z]; exact memB)) q)) S4 (fun z y => Or.inl y)) (fun z y => Or.inl y)) (fun z y => Or.inl (gSub hl z y)), by omega, a2, ?_, rPv_cg ht (fun q q1 q2 => (a9 q (by omega) (by omega) (by omega) (by omega) (by omega) (by omega)).symm) hv, ?_, ?_, ?_⟩
  · exact (a9 4 (by omega) (by omega) (by omega) (by omega) (by omega) (by omega)).trans e4
  · rw [lqG_iff] at hw ⊢
    rw [a4]
    exact lqF_G hw
  · obtain ⟨hh, h24, e0⟩ := hh
    exact ⟨hh, h24, (a9 0 (by omega) (by omega) (by omega) (by omega) (by omega) (by omega)).trans e0⟩
  · exact a6.trans (by rw [h5, Int32.add_assoc])
theorem of_passHours {o c t la ta ca da ba pa ep : Nat} {fl fq ls ps : List Nat} {N : Nat → Int32} (H : gOx Γ de h o N c t la ta ca da ba pa ep fl fq ls ps) (nd : (gFp o ta ca da ba fl fq ls).Nodup) (hc : c ≤ 20) (ht : t ≤ 12) (h3 : N 3 = nI c) (h4 : N 4 = nI t) (hv : rPv N t) (hw : rLv1 N c) (hh : ∃ hh, hh < 24 ∧ N 0 = nI hh) (hrs : Int32) : gC Γ M_X4_passHours [.ref o, .int hrs] h 8 0 0 (cmdZ Γ de h o la ta ca da ba pa ep (gFp o ta ca da ba fl fq ls) (rT (bI (nI 1 ≤ hrs ∧ hrs ≤ nI 48)) (nI 1) (nI 1)) ((rHF hrs.toNatClampNeg (N, nI 0)).2) (ccd (-1) 0 0) ((rHF hrs.toNatClampNeg (N, nI 0)).1) (rc (rHF hrs.toNatClampNeg (N, nI 0)).1) t) (fun _ _ => False) := by
  have H0 := H
  obtain ⟨ho, HL, hlc, hls, hta, HP, hpc, hps, hep, ⟨fc, hca, hfc⟩, ⟨fd, hda, hfd⟩, ⟨fb, hba, hfb⟩⟩ := H0
  have g0 := gNd_of nd
  by_cases hq : nI 1 ≤ hrs ∧ hrs ≤ nI 48
  · obtain ⟨H9, hH, rfl⟩ := nI_of2 (M := nI 48) (n := 48) (by decide) (by rw [Int32.not_lt]; exact Int32.le_trans (by decide) hq.1) hq.2
    rw [nI_clamp (by omega)]
    have hτ : rT (bI (nI 1 ≤ nI H9 ∧ nI H9 ≤ nI 48)) (nI 1) (nI 1) = 0 := (rT_iff _ _ _).mpr ⟨by rw [bI_0]; exact fun y => y hq, by decide, by decide⟩
    rw [hτ]
    obtain ⟨Y, hY⟩ : ∃ Y, rHF H9 (N, nI 0) = Y := ⟨_, rfl⟩
    rw [hY]
    have inn : ∀ (Z : Option Value → gHp → Prop) n i k X hk, i + n = 6 → gPK Γ de h o la ta ca da ba pa ep t fl fq ls ps (N 5) X hk → (∀ h', gPK Γ de h o la ta ca da ba pa ep t fl fq ls ps (N 5) (rRF n i X) h' → G Γ M_X4_passHours 8 0 0 Z (fun _ _ => False) 0 0 73 [some (.ref o), some (.int (nI H9)), some (.int (N 5)), some (.int (nI k)), none] [] h') → G Γ M_X4_passHours 8 0 0 Z (fun _ _ => False) 0 0 32 [some (.ref o), some (.int (nI H9)), some (.int (N 5)), some (.int (nI k)), some (.int (nI i))] [] hk := by
      intro Z n
      induction n with
      | zero =>
        intro i k X hk hi K cont
        refine g_blk [(.iload 4, .null), (.bipush 6, .int (nI 6))] (Nat.le_of_ble_eq_true rfl) (by decide +kernel) ?_
        refine gx_iload_4 (gx_bipush ((gx_nil ?_)))
        refine g_icmp_ge (off := 37) (tgt := 73) (by decide +kernel) (by decide) (fun c36 => ?_) (fun c36 => ?_)
        · try simp only [bI_0, Decidable.not_not] at c36
          exact g_wk (by simp [gLe]) (cont hk K)
        · try simp only [bI_0, Decidable.not_not] at c36
          exact absurd (nI_le (a := 6) (b := i) (by omega) (by omega)) c36
      | succ n ih =>
        intro i k X hk hi K cont
        have K0 := K
        obtain ⟨ck, lk, Hk, gk, hlk, kk, hck, e3, e4, hvk, hwk, hhk, h5k⟩ := K0
        have H0 := Hk
        obtain ⟨ho, HL, hlc, hls, hta, HP, hpc, hps, hep, ⟨fc, hca, hfc⟩, ⟨fd, hda, hfd⟩, ⟨fb, hba, hfb⟩⟩ := H0
        refine g_blk [(.iload 4, .null), (.bipush 6, .int (nI 6))] (Nat.le_of_ble_eq_true rfl) (by decide +kernel) ?_
        refine gx_iload_4 (gx_bipush ((gx_nil ?_)))
        refine g_icmp_ge (off := 37) (tgt := 73) (by decide +kernel) (by decide) (fun c36 => ?_) (fun c36 => ?_)
        · try simp only [bI_0, Decidable.not_not] at c36
          exact absurd c36 (nI_ge (by omega) (by omega))
        · try simp only [bI_0, Decidable.not_not] at c36
          refine g_blk [(.aload_n 0, .null)] (Nat.le_of_ble_eq_true rfl) (by decide +kernel) ?_
          refine gx_aload_n_0 ((gx_nil ?_))
          refine g_getf fX4_29 (by decide +kernel) ho rfl ?_
          refine g_blk [(.iload 4, .null)] (Nat.le_of_ble_eq_true rfl) (by decide +kernel) ?_
          refine gx_iload_4 ((gx_nil ?_))
          refine g_iaload (by decide +kernel) hda (vp_in_nI (by omega) (by omega)) ?_
          rw [nI_clamp (by omega)]
          refine g_blk [(.aload_n 0, .null)] (Nat.le_of_ble_eq_true rfl) (by decide +kernel) ?_
          refine gx_aload_n_0 ((gx_nil ?_))
          refine g_getf fX4_35 (by decide +kernel) ho rfl ?_
          refine g_icmp_ne (off := 17) (tgt := 67) (by decide +kernel) (by decide) (fun c50 => ?_) (fun c50 => ?_)
          · try simp only [bI_0, Decidable.not_not] at c50
            refine g_blk [(.iinc 4 1, .int (nI 1)), (.goto (-38), .retAddr 32)] (Nat.le_of_ble_eq_true rfl) (by decide +kernel) ?_
            refine gx_iinc_4 rfl (gx_goto ((gx_nil ?_)))
            try simp only [nI_add, Nat.add_zero, Nat.zero_add, Nat.reduceAdd]
            have eX : rRt X i = X := if_neg (fun z => c50 (by rw [hfd i (by omega)]; exact z))
            exact ih (i + 1) k X hk (by omega) K (fun h' K' => cont h' (by show gPK Γ de h o la ta ca da ba pa ep t fl fq ls ps (N 5) (rRF n (i + 1) (rRt X i)) h'; rw [eX]; exact K'))
          · try simp only [bI_0, Decidable.not_not] at c50
            refine g_blk [(.aload_n 0, .null)] (Nat.le_of_ble_eq_true rfl) (by decide +kernel) ?_
            refine gx_aload_n_0 ((gx_nil ?_))
            refine g_getf fX4_32 (by decide +kernel) ho rfl ?_
            refine g_blk [(.iload 4, .null), (.iconst 0, .int (nI 0))] (Nat.le_of_ble_eq_true rfl) (by decide +kernel) ?_
            refine gx_iload_4 (gx_iconst ((gx_nil ?_)))
            refine g_iastore (by decide +kernel) hba (vp_in_nI (by omega) (by omega)) ?_
            rw [nI_clamp (by omega)]
            have H6 := gOx_upB Hk (gNd_to Hk gk) (N' := upd X.1 (8 + 3 * i + 2) (nI 0)) (f := upd fb i (nI 0)) (fun r hr => by
              by_cases y : r = i
              · subst y; rw [pk_us, pk_us]
              · rw [pk_un y, pk_un (by omega)]; exact hfb r hr) (fun q q1 q2 => (pk_un (by unfold gRel at q1; omega)).symm)
            have k6 : gKeep (fun q => q = ba) hk (gUp hk ba (gI Γ 6 (upd fb i (nI 0)))) := gUp_k
            revert H6 k6
            generalize gUp hk ba (gI Γ 6 (upd fb i (nI 0))) = h6
            intro H6 k6
            have ho6 := H6.1
            refine g_blk [(.aload_n 0, .null), (.iload 4, .null)] (Nat.le_of_ble_eq_true rfl) (by decide +kernel) ?_
            refine gx_aload_n_0 (gx_iload_4 ((gx_nil ?_)))
            refine g_callV (rc' := 0) (rs' := 0) kX4_144 (of_sendLetters H6 (gNd_to H6 gk) hck ht (rPv_cg ht (fun q q1 q2 => (pk_un (by omega)).symm) hvk) (lqG_cg (fun q q1 q2 => (pk_un (by omega)).symm) hwk) (r := i) (by omega)) (by decide +kernel) rfl rfl ho6 rfl (Nat.le_of_ble_eq_true rfl) (Nat.le_of_ble_eq_true rfl) (Nat.le_of_ble_eq_true rfl) (by omega) (by omega) rfl (fun _ _ z => z.elim) (fun v9 h5 hz => ?_)
            obtain ⟨rfl, hz⟩ := hz
            simp only [Option.toList_some, Option.toList_none, List.cons_append, List.nil_append]
            refine g_blk [(.iinc 4 1, .int (nI 1)), (.goto (-38), .retAddr 32)] (Nat.le_of_ble_eq_true rfl) (by decide +kernel) ?_
            refine gx_iinc_4 rfl (gx_goto ((gx_nil ?_)))
            try simp only [nI_add, Nat.add_zero, Nat.zero_add, Nat.reduceAdd]
            exact ih (i + 1) k (rRt X i) h5 (by omega) (gPK_send ht (by omega) hlk kk hck e3 e4 hvk hwk hhk h5k (by rw [← hfd i (by omega)]; exact c50) k6 hz) cont
    have out : ∀ n k X hk, k + n = H9 → gPK Γ de h o la ta ca da ba pa ep t fl fq ls ps (N 5) X hk → rHF n X = Y → G Γ M_X4_passHours 8 0 0 (cmdZ Γ de h o la ta ca da ba pa ep (gFp o ta ca da ba fl fq ls) 0 Y.2 (ccd (-1) 0 0) Y.1 (rc Y.1) t) (fun _ _ => False) 0 0 20 [some (.ref o), some (.int (nI H9)), some (.int (N 5)), some (.int (nI k)), none] [] hk := by
      intro n
      induction n with
      | zero =>
        intro k X hk hi K eX
        have eX2 : X = Y := eX
        subst eX2
        obtain ⟨ck, lk, Hk, gk, hlk, kk, hck, e3, e4, hvk, hwk, hhk, h5k⟩ := K
        have ho := Hk.1
        refine g_blk [(.iload_n 3, .null), (.iload_n 1, .null)] (Nat.le_of_ble_eq_true rfl) (by decide +kernel) ?_
        refine gx_iload_n_3 (gx_iload_n_1 ((gx_nil ?_)))
        refine g_icmp_ge (off := 57) (tgt := 79) (by decide +kernel) (by decide) (fun c22 => ?_) (fun c22 => ?_)
        · try simp only [bI_0, Decidable.not_not] at c22
          refine g_blk [(.aload_n 0, .null)] (Nat.le_of_ble_eq_true rfl) (by decide +kernel) ?_
          refine gx_aload_n_0 ((gx_nil ?_))
          refine g_getf fX4_45 (by decide +kernel) ho rfl ?_
          refine g_blk [(.iload_n 2, .null), (.isub, .null)] (Nat.le_of_ble_eq_true rfl) (by decide +kernel) ?_
          refine gx_iload_n_2 (gx_isub ((gx_nil ?_)))
          refine g_end (some (.int _)) rfl ⟨by decide +kernel, _, rfl, rfl⟩ ?_
          have ec : rc X.1 = ck := by unfold rc; rw [e3, nI_clamp (by omega)]
          refine Or.inl ⟨rfl, by rw [h5k, Int32.add_comm, Int32.add_sub_cancel], ?_⟩
          rw [ec]
          exact ⟨fl, fq, lk, ps, Hk, gNd_to Hk gk, fun q hq => Or.inl (gSub hlk q hq), kk⟩
        · try simp only [bI_0, Decidable.not_not] at c22
          exact absurd (nI_le (by omega) (by omega)) c22
      | succ n ih =>
        intro k X hk hi K eX
        obtain ⟨ck, lk, Hk, gk, hlk, kk, hck, e3, e4, hvk, hwk, hhk, h5k⟩ := K
        have ho := Hk.1
        obtain ⟨h9, h24, h09⟩ := hhk
        refine g_blk [(.iload_n 3, .null), (.iload_n 1, .null)] (Nat.le_of_ble_eq_true rfl) (by decide +kernel) ?_
        refine gx_iload_n_3 (gx_iload_n_1 ((gx_nil ?_)))
        refine g_icmp_ge (off := 57) (tgt := 79) (by decide +kernel) (by decide) (fun c22 => ?_) (fun c22 => ?_)
        · try simp only [bI_0, Decidable.not_not] at c22
          exact absurd c22 (nI_ge (by omega) (by omega))
        · try simp only [bI_0, Decidable.not_not] at c22
          refine g_blk [(.aload_n 0, .null)] (Nat.le_of_ble_eq_true rfl) (by decide +kernel) ?_
          refine gx_aload_n_0 ((gx_nil ?_))
          refine g_callV (rc' := 0) (rs' := 0) kX4_141 (of_moveClock Hk h24 h09) (by decide +kernel) rfl rfl ho rfl (Nat.le_of_ble_eq_true rfl) (Nat.le_of_ble_eq_true rfl) (Nat.le_of_ble_eq_true rfl) (by omega) (by omega) rfl (fun _ _ z => z.elim) (fun v9 h5 hz => ?_)
          obtain ⟨rfl, hz⟩ := hz
          simp only [Option.toList_some, Option.toList_none, List.cons_append, List.nil_append]
          refine g_blk [(.iconst 0, .int (nI 0)), (.istore 4, .null)] (Nat.le_of_ble_eq_true rfl) (by decide +kernel) ?_
          refine gx_iconst (gx_istore_4 rfl ((gx_nil ?_)))
          refine inn _ 6 0 k (rTick X.1, X.2) h5 (by omega) (gPK_tick ht hz.1 gk hlk kk hz.2 hck e3 e4 hvk hwk ⟨h9, h24, h09⟩ h5k) (fun h' K' => ?_)
          refine g_blk [(.iinc 3 1, .int (nI 1)), (.goto (-56), .retAddr 20)] (Nat.le_of_ble_eq_true rfl) (by decide +kernel) ?_
          refine gx_iinc_3 rfl (gx_goto ((gx_nil ?_)))
          try simp only [nI_add, Nat.add_zero, Nat.zero_add, Nat.reduceAdd]
          exact g_wk (by simp [gLe]) (ih (k + 1) _ h' (by omega) K' eX)
    refine gC_of (by decide) rfl (Nat.le_of_ble_eq_true rfl) [some (.ref o), some (.int (nI H9)), none, none, none] rfl ?_
    refine g_blk [(.iload_n 1, .null), (.iconst 1, .int (nI 1))] (Nat.le_of_ble_eq_true rfl) (by decide +kernel) ?_
    refine gx_iload_n_1 (gx_iconst ((gx_nil ?_)))
    refine g_icmp_lt (off := 9) (tgt := 11) (by decide +kernel) (by decide) (fun c2 => ?_) (fun c2 => ?_)
    · try simp only [bI_0, Decidable.not_not] at c2
      exact absurd c2 (Int32.not_lt.mpr hq.1)
    · try simp only [bI_0, Decidable.not_not] at c2
      refine g_blk [(.iload_n 1, .null), (.bipush 48, .int (nI 48))] (Nat.le_of_ble_eq_true rfl) (by decide +kernel) ?_
      refine gx_iload_n_1 (gx_bipush ((gx_nil ?_)))
      refine g_icmp_le (off := 5) (tgt := 13) (by decide +kernel) (by decide) (fun c8 => ?_) (fun c8 => ?_)
      · try simp only [bI_0, Decidable.not_not] at c8
        refine g_blk [(.aload_n 0, .null)] (Nat.le_of_ble_eq_true rfl) (by decide +kernel) ?_
        refine gx_aload_n_0 ((gx_nil ?_))
        refine g_getf fX4_45 (by decide +kernel) ho rfl ?_
        refine g_blk [(.istore_n 2, .null), (.iconst 0, .int (nI 0)), (.istore_n 3, .null)] (Nat.le_of_ble_eq_true rfl) (by decide +kernel) ?_
        refine gx_istore_n_2 rfl (gx_iconst (gx_istore_n_3 rfl ((gx_nil ?_))))
        exact out H9 0 (N, nI 0) h (by omega) ⟨c, ls, H, g0, fun q hq => hq, gKeep.rf, hc, h3, h4, hv, hw, hh, (a_n0 _).symm⟩ hY
      · try simp only [bI_0, Decidable.not_not] at c8
        exact absurd hq.2 c8
  · have hτ : ¬ rT (bI (nI 1 ≤ hrs ∧ hrs ≤ nI 48)) (nI 1) (nI 1) = 0 := fun z => by
      have := ((rT_iff _ _ _).mp z).1
      rw [bI_0] at this
      exact this (fun y => hq y)
    have h1 : rT (bI (nI 1 ≤ hrs ∧ hrs ≤ nI 48)) (nI 1) (nI 1) = nI 1 := by rw [bI_f hq, rT_1]
    refine gC_of (by decide) rfl (Nat.le_of_ble_eq_true rfl) [some (.ref o), some (.int hrs), none, none, none] rfl ?_
    refine g_blk [(.iload_n 1, .null), (.iconst 1, .int (nI 1))] (Nat.le_of_ble_eq_true rfl) (by decide +kernel) ?_
    refine gx_iload_n_1 (gx_iconst ((gx_nil ?_)))
    refine g_icmp_lt (off := 9) (tgt := 11) (by decide +kernel) (by decide) (fun c2 => ?_) (fun c2 => ?_)
    · try simp only [bI_0, Decidable.not_not] at c2
      refine g_blk [(.iconst (-1), .int (-1))] (Nat.le_of_ble_eq_true rfl) (by decide +kernel) ?_
      refine gx_iconst ((gx_nil ?_))
      refine g_end (some (.int _)) rfl ⟨by decide +kernel, _, rfl, rfl⟩ ?_
      exact Or.inr ⟨hτ, by rw [h1]; rfl, rfl⟩
    · try simp only [bI_0, Decidable.not_not] at c2
      refine g_blk [(.iload_n 1, .null), (.bipush 48, .int (nI 48))] (Nat.le_of_ble_eq_true rfl) (by decide +kernel) ?_
      refine gx_iload_n_1 (gx_bipush ((gx_nil ?_)))
      refine g_icmp_le (off := 5) (tgt := 13) (by decide +kernel) (by decide) (fun c8 => ?_) (fun c8 => ?_)
      · try simp only [bI_0, Decidable.not_not] at c8
        exact absurd ⟨Int32.not_lt.mp c2, c8⟩ hq
      · try simp only [bI_0, Decidable.not_not] at c8
        refine g_blk [(.iconst (-1), .int (-1))] (Nat.le_of_ble_eq_true rfl) (by decide +kernel) ?_
        refine gx_iconst ((gx_nil ?_))
        refine g_end (some (.int _)) rfl ⟨by decide +kernel, _, rfl, rfl⟩ ?_
        exact Or.inr ⟨hτ, by rw [h1]; rfl, rfl⟩
end GPh
