/-! THE FACE: THE FULLEST BAG, THE RANKS -/
section GFt
variable {Γ : gE} {de : Nat} {h : gHp} {m B : Nat} {V : Nat → Int32} {F : Nat → Nat → Int32}
theorem m1_lt {s : Nat} (h : s < 2147483648) : (-1 : Int32) < nI s := by
  have h1 : ¬ nI s < 0 := nI_nn h
  have h2 : (0 : Int32) ≤ nI s := Int32.not_lt.mp h1
  exact Int32.lt_of_lt_of_le (by decide) h2
theorem gHv_f {N : Nat → Int32} {rt : Int32} {c : Nat} (hw : rLv1 N c) (hc : c ≤ 20) : ∀ k, gHv N rt c (k + 1) = (rFb N rt c k, rWt N rt (rFb N rt c k) c)
  | 0 => by
    have hb : lqS rt (nI 0) (lqs N c) < 2147483648 := by
      have := lqS_le50 (rt := rt) (bg := nI 0) (lqG_iff.mp hw)
      rw [lqs_len] at this
      omega
    rw [gHv_s]
    rw [if_pos (show (gHv N rt c 0).2 < rWt N rt (nI 0) c from by rw [rWt_S hw]; exact m1_lt hb)]
    rfl
  | k + 1 => by
    rw [gHv_s, gHv_f hw hc k, rFb_s]
    dsimp only
    split
    · rfl
    · rfl
theorem lt0_iff {b : Nat} (hb : b < 2147483648) : (0 : Int32) < nI b ↔ 0 < b := by
  rw [← z0]
  constructor
  · intro z
    rcases Nat.eq_zero_or_pos b with y | y
    · subst y; exact absurd z (fun y => Int32.lt_irrefl y)
    · exact y
  · intro z
    refine Int32.not_le.mp (fun y => ?_)
    have := (nI_leI (by omega) (by omega)).mp y
    omega
theorem rFb_in (N : Nat → Int32) (rt : Int32) (c : Nat) : ∀ k, ∃ y, y ≤ k ∧ rFb N rt c k = nI y
  | 0 => ⟨0, by omega, rfl⟩
  | k + 1 => by
    rw [rFb_s]
    split
    · exact ⟨k + 1, by omega, rfl⟩
    · obtain ⟨y, h1, h2⟩ := rFb_in N rt c k
      exact ⟨y, by omega, h2⟩
theorem fa_fullestBag (hp : gPxs Γ) (G : gMO Γ de h m V F B) (hB9 : B ≤ 9000) (rt : Int32) : fQ Γ M_X9_fullestBag [.ref m, .int rt] h (tFb (F 0) rt) (.int (if tFb (F 0) rt = 0 then rFb (F 0) rt (rc (F 0)) ((rOp (F 0) rt) - 1) else nI 0)) (nmOf xIO xNS xNS) := by
  obtain ⟨nx, o, svv, hl, tt, bu, sb, la, ta, ca, da, ba, pa, ep, fl, fq, ls, ps, hm, H, I, hB⟩ := G.rd
  have hc := I.hc
  have ht := I.ht
  have hw := I.lv (by omega)
  have hlen := H.2.2.1
  by_cases hy : nI 0 ≤ rt ∧ rt ≤ nI 5
  · obtain ⟨b1, b2, b3⟩ := gCb_at I.OK hy
    cases hb : rOp (F 0) rt with
    | zero =>
      rw [hb] at b2 b3
      have et : tFb (F 0) rt = nI 2 := by unfold tFb; rw [bI_t hy, b3, bI_f (fun z => by have := (lt0_iff (by omega)).mp z; omega)]; exact rT_2
      exact fQ_no (mo_fullestBag_none hp hm H hc (b9 := 0) (by omega) hy b2 rfl) (by decide) (by decide) (by decide) (by rw [et]; exact n2x) (nmB _ et) rfl
    | succ k =>
      rw [hb] at b1 b2 b3
      have e0 : tFb (F 0) rt = 0 := by unfold tFb; rw [bI_t hy, b3, bI_t ((lt0_iff (by omega)).mpr (by omega))]; exact rT_0
      have ev := gHv_f (rt := rt) hw hc k
      have hne : ¬ (gHv (F 0) rt (rc (F 0)) (k + 1)).1 = -1 := by
        rw [ev]
        obtain ⟨y, hy1, hy2⟩ := rFb_in (F 0) rt (rc (F 0)) k
        dsimp only
        rw [hy2]
        exact nI_nm1 (by omega)
      refine fQ_x (fQ_pure (mo_fullestBag hm H hc b1 hy b2 hne) (by decide) e0 rfl) (fun _ => ?_)
      rw [if_pos e0, ev]
      rfl
  · have et : tFb (F 0) rt = nI 1 := by unfold tFb; rw [bI_f hy]; exact rT_1
    exact fQ_no (mo_fullestBag_no hp hm hy) (by decide) (by decide) (by decide) (by rw [et]; exact n1x) (nmA _ et) rfl
def rkW (N : Nat → Int32) (c i : Nat) : Nat := lqS (nI i) (-1) (lqs N c)
def rkK (N : Nat → Int32) (c i : Nat) : Nat := (1000 - rkW N c i) * 24 + (3 - rg N i) * 6 + i
def cntL (K : Nat → Nat) (x : Nat) : Nat → Nat
  | 0 => 0
  | k + 1 => cntL K x k + (if K k < x then 1 else 0)
theorem cntL_le {K : Nat → Nat} {x : Nat} : ∀ k, cntL K x k ≤ k
  | 0 => Nat.le_refl _
  | k + 1 => by
    have := cntL_le (K := K) (x := x) k
    unfold cntL
    split <;> omega
theorem cntL_mono {K : Nat → Nat} {x y : Nat} (hxy : y ≤ x) : ∀ k, cntL K y k ≤ cntL K x k
  | 0 => Nat.le_refl _
  | k + 1 => by
    have := cntL_mono (K := K) hxy k
    unfold cntL
    split <;> split <;> omega
theorem cntL_lt {K : Nat → Nat} {x a : Nat} (h : K a < x) : ∀ k, a < k → cntL K (K a) k < cntL K x k
  | 0, hk => by omega
  | k + 1, hk => by
    have hm := cntL_mono (K := K) (Nat.le_of_lt h) k
    by_cases e : a = k
    · subst e
      unfold cntL
      rw [if_neg (Nat.lt_irrefl _), if_pos h]
      omega
    · have := cntL_lt (K := K) h k (by omega)
      unfold cntL
      split <;> split <;> omega
theorem nI_eqI {a b : Nat} (ha : a < 2147483648) (hb : b < 2147483648) : nI a = nI b ↔ a = b := by
  constructor
  · intro z
    have h1 := (nI_leI ha hb).mp (by rw [z]; exact Int32.le_refl _)
    have h2 := (nI_leI hb ha).mp (by rw [z]; exact Int32.le_refl _)
    omega
  · intro z; rw [z]
/-- signs of differences of small numbers -/
theorem sb_sg {a b : Nat} (ha : a < 1000000) (hb : b < 1000000) : (0 < nI a - nI b ↔ b < a) ∧ (nI a - nI b = 0 ↔ a = b) := by
  have e : (nI a - nI b).toInt = (a : Int) - (b : Int) := by
    rw [Int32.toInt_sub, nI_toInt (by omega), nI_toInt (by omega), Int.bmod_def]
    omega
  refine ⟨?_, ?_⟩
  · rw [Int32.lt_iff_toInt_lt, e, Int32.toInt_zero]
    omega
  · rw [← Int32.toInt_inj, e, Int32.toInt_zero]
    omega
theorem rkW_at {N : Nat → Int32} {c : Nat} (hw : rLv1 N c) (hc : c ≤ 20) (i : Nat) : rWt N (nI i) (-1) c = nI (rkW N c i) ∧ rkW N c i ≤ 1000 := by
  refine ⟨rWt_S hw, ?_⟩
  have := lqS_le50 (rt := nI i) (bg := -1) (lqG_iff.mp hw)
  rw [lqs_len] at this
  unfold rkW
  omega
theorem gCb_rg {N : Nat → Int32} {c t nx i : Nat} (I : rIV N c t nx) (hi : i < 6) : gCb N (nI i) = nI (rg N i) ∧ rg N i ≤ 3 ∧ N (8 + 3 * i + 2) = nI (rg N i) := by
  obtain ⟨h1, h2⟩ := I.g3 (a := i) (by omega)
  refine ⟨?_, h1, h2⟩
  unfold gCb
  rw [if_pos (r_in hi), rIx_nI (by omega)]
  exact h2
theorem gRb_K {N : Nat → Int32} {c t nx a b : Nat} (I : rIV N c t nx) (hn : nx ≤ 100000) (ha : a < 6) (hb : b < 6) : gRb N c a b = decide (rkK N c a < rkK N c b) := by
  obtain ⟨wa, wa2⟩ := rkW_at (I.lv hn) I.hc a
  obtain ⟨wb, wb2⟩ := rkW_at (I.lv hn) I.hc b
  obtain ⟨ga, ga2, -⟩ := gCb_rg I ha
  obtain ⟨gb, gb2, -⟩ := gCb_rg I hb
  unfold gRb rkK
  rw [decide_eq_decide, wa, wb, ga, gb, nI_ltI (by omega) (by omega), nI_eqI (by omega) (by omega), nI_ltI (by omega) (by omega), nI_eqI (by omega) (by omega), nI_ltI (by omega) (by omega)]
  omega
theorem rMo_K {N : Nat → Int32} {c t nx a b : Nat} (I : rIV N c t nx) (hn : nx ≤ 100000) (ha : a < 6) (hb : b < 6) : rMo N c a b = decide (rkK N c b < rkK N c a) := by
  obtain ⟨wa, wa2⟩ := rkW_at (I.lv hn) I.hc a
  obtain ⟨wb, wb2⟩ := rkW_at (I.lv hn) I.hc b
  obtain ⟨-, ga2, ga⟩ := gCb_rg I ha
  obtain ⟨-, gb2, gb⟩ := gCb_rg I hb
  unfold rMo rkK
  rw [decide_eq_decide, wa, wb, ga, gb, (sb_sg (by omega) (by omega)).1, (sb_sg (by omega) (by omega)).2, (sb_sg (by omega) (by omega)).1, (sb_sg (by omega) (by omega)).2, nI_ltI (by omega) (by omega)]
  omega
theorem bI_d {p : Prop} [Decidable p] : bI (decide p = true) = if p then nI 1 else nI 0 := by
  by_cases h : p
  · rw [bI_t (decide_eq_true h), if_pos h]
  · rw [bI_f (fun z => h (of_decide_eq_true z)), if_neg h]
theorem gRank_K {N : Nat → Int32} {c t nx a : Nat} (I : rIV N c t nx) (hn : nx ≤ 100000) (ha : a < 6) : ∀ k, k ≤ 6 → gRank N c a k = nI (cntL (rkK N c) (rkK N c a) k)
  | 0, _ => rfl
  | k + 1, hk => by
    show gRank N c a k + bI (gRb N c k a = true) = nI (cntL (rkK N c) (rkK N c a) k + (if rkK N c k < rkK N c a then 1 else 0))
    rw [gRank_K I hn ha k (by omega), gRb_K I hn (by omega) ha, bI_d, ← nI_add]
    split <;> rfl
theorem rAh_K {N : Nat → Int32} {c t nx a : Nat} (I : rIV N c t nx) (hn : nx ≤ 100000) (ha : a < 6) : ∀ k, k ≤ 6 → rAh N c a k = nI (cntL (rkK N c) (rkK N c a) k)
  | 0, _ => rfl
  | k + 1, hk => by
    show rAh N c a k + bI (rMo N c a k = true) = nI (cntL (rkK N c) (rkK N c a) k + (if rkK N c k < rkK N c a then 1 else 0))
    rw [rAh_K I hn ha k (by omega), rMo_K I hn ha (by omega), bI_d, ← nI_add]
    split <;> rfl
theorem rank_ne {N : Nat → Int32} {c t nx a b : Nat} (I : rIV N c t nx) (hn : nx ≤ 100000) (ha : a < 6) (hb : b < 6) (hab : ¬ a = b) : ¬ gRank N c a 6 = gRank N c b 6 := by
  rw [gRank_K I hn ha 6 (by omega), gRank_K I hn hb 6 (by omega)]
  have h1 := cntL_le (K := rkK N c) (x := rkK N c a) 6
  have h2 := cntL_le (K := rkK N c) (x := rkK N c b) 6
  rw [nI_eqI (by omega) (by omega)]
  have hK : ¬ rkK N c a = rkK N c b := by
    have e1 := (gCb_rg I ha).2.1
    have e2 := (gCb_rg I hb).2.1
    have e3 := (rkW_at (I.lv hn) I.hc a).2
    have e4 := (rkW_at (I.lv hn) I.hc b).2
    unfold rkK
    omega
  rcases Nat.lt_or_gt_of_ne hK with z | z
  · have := cntL_lt (K := rkK N c) z 6 ha
    omega
  · have := cntL_lt (K := rkK N c) z 6 hb
    omega
theorem rRk_at {N : Nat → Int32} {c t nx r : Nat} {rk : Int32} (I : rIV N c t nx) (hn : nx ≤ 100000) (hr : r < 6) (e : gRank N c r 6 = rk) : ∀ k, k ≤ 6 → rRk N c rk k = if r < k then nI r else -1
  | 0, _ => rfl
  | k + 1, hk => by
    rw [rRk_s, rRk_at I hn hr e k (by omega), rAh_K I hn (by omega) 6 (by omega), ← gRank_K I hn (by omega) 6 (by omega)]
    by_cases hk2 : k = r
    · subst hk2
      rw [if_pos e, if_pos (by omega)]
    · rw [if_neg (fun z => rank_ne I hn (show k < 6 by omega) hr hk2 (z.trans e.symm))]
      by_cases h9 : r < k
      · rw [if_pos h9, if_pos (by omega)]
      · rw [if_neg h9, if_neg (by omega)]
theorem rRk_no {N : Nat → Int32} {c t nx : Nat} {rk : Int32} (I : rIV N c t nx) (hn : nx ≤ 100000) (e : ∀ r, r < 6 → ¬ gRank N c r 6 = rk) : ∀ k, k ≤ 6 → rRk N c rk k = -1
  | 0, _ => rfl
  | k + 1, hk => by
    rw [rRk_s, rRk_no I hn e k (by omega), rAh_K I hn (by omega) 6 (by omega), ← gRank_K I hn (by omega) 6 (by omega), if_neg (e k (by omega))]
variable {hl tt bu sb : Nat} {sv : Value} {bl e8 f8 : Int32}
theorem mo_routeByWeight {o c t la ta ca da ba pa ep : Nat} {fl fq ls ps : List Nat} {N : Nat → Int32} (hm : gMc h m o sv hl tt bu bl sb e8 f8) (H : gOx Γ de h o N c t la ta ca da ba pa ep fl fq ls ps) (hc : c ≤ 20) {r : Nat} {rk : Int32} (hr : r < 6) (e : gRank N c r 6 = rk) (hu : ∀ j, j < r → ¬ gRank N c j 6 = rk) : pC Γ M_X9_routeByWeight [.ref m, .int rk] h 6 (some (.int (nI r))) := by
  have H0 := H
  obtain ⟨ho, HL, hlc, hls, hta, HP, hpc, hps, hep, ⟨fc, hca, hfc⟩, ⟨fd, hda, hfd⟩, ⟨fb, hba, hfb⟩⟩ := H0
  have loop : ∀ n i, i + n = r → pG Γ M_X9_routeByWeight 6 (some (.int (nI r))) h 2 [some (.ref m), some (.int rk), some (.int (nI i))] [] := by
    intro n
    induction n with
    | zero =>
      intro i hi
      have : i = r := by omega
      subst this
      refine g_blk [(.iload_n 2, .null), (.bipush 6, .int (nI 6))] (Nat.le_of_ble_eq_true rfl) (by decide +kernel) ?_
      refine gx_iload_n_2 (gx_bipush ((gx_nil ?_)))
      refine g_icmp_ge (off := 23) (tgt := 28) (by decide +kernel) (by decide) (fun c5 => ?_) (fun c5 => ?_)
      · try simp only [bI_0, Decidable.not_not] at c5
        exact absurd ((nI_leI (by omega) (by omega)).mp c5) (by omega)
      · try simp only [bI_0, Decidable.not_not] at c5
        refine g_blk [(.aload_n 0, .null)] (Nat.le_of_ble_eq_true rfl) (by decide +kernel) ?_
        refine gx_aload_n_0 ((gx_nil ?_))
        refine g_getf fX9_10 (by decide +kernel) hm rfl ?_
        refine g_blk [(.iload_n 2, .null)] (Nat.le_of_ble_eq_true rfl) (by decide +kernel) ?_
        refine gx_iload_n_2 ((gx_nil ?_))
        refine g_pV kX9_306 (of_rankOf H hc (by omega)) (by decide +kernel) rfl rfl ho rfl (Nat.le_of_ble_eq_true rfl) (Nat.le_of_ble_eq_true rfl) (Nat.le_of_ble_eq_true rfl) rfl ?_
        simp only [Option.toList_some, Option.toList_none, List.cons_append, List.nil_append]
        refine g_blk [(.iload_n 1, .null)] (Nat.le_of_ble_eq_true rfl) (by decide +kernel) ?_
        refine gx_iload_n_1 ((gx_nil ?_))
        refine g_icmp_ne (off := 5) (tgt := 22) (by decide +kernel) (by decide) (fun c17 => ?_) (fun c17 => ?_)
        · try simp only [bI_0, Decidable.not_not] at c17
          exact absurd e c17
        · try simp only [bI_0, Decidable.not_not] at c17
          refine g_blk [(.iload_n 2, .null)] (Nat.le_of_ble_eq_true rfl) (by decide +kernel) ?_
          refine gx_iload_n_2 ((gx_nil ?_))
          refine g_end (some (.int _)) rfl ⟨by decide +kernel, _, rfl, rfl⟩ ⟨?_, rfl⟩
          rfl
    | succ n ih =>
      intro i hi
      refine g_blk [(.iload_n 2, .null), (.bipush 6, .int (nI 6))] (Nat.le_of_ble_eq_true rfl) (by decide +kernel) ?_
      refine gx_iload_n_2 (gx_bipush ((gx_nil ?_)))
      refine g_icmp_ge (off := 23) (tgt := 28) (by decide +kernel) (by decide) (fun c5 => ?_) (fun c5 => ?_)
      · try simp only [bI_0, Decidable.not_not] at c5
        exact absurd ((nI_leI (by omega) (by omega)).mp c5) (by omega)
      · try simp only [bI_0, Decidable.not_not] at c5
        refine g_blk [(.aload_n 0, .null)] (Nat.le_of_ble_eq_true rfl) (by decide +kernel) ?_
        refine gx_aload_n_0 ((gx_nil ?_))
        refine g_getf fX9_10 (by decide +kernel) hm rfl ?_
        refine g_blk [(.iload_n 2, .null)] (Nat.le_of_ble_eq_true rfl) (by decide +kernel) ?_
        refine gx_iload_n_2 ((gx_nil ?_))
        refine g_pV kX9_306 (of_rankOf H hc (by omega)) (by decide +kernel) rfl rfl ho rfl (Nat.le_of_ble_eq_true rfl) (Nat.le_of_ble_eq_true rfl) (Nat.le_of_ble_eq_true rfl) rfl ?_
        simp only [Option.toList_some, Option.toList_none, List.cons_append, List.nil_append]
        refine g_blk [(.iload_n 1, .null)] (Nat.le_of_ble_eq_true rfl) (by decide +kernel) ?_
        refine gx_iload_n_1 ((gx_nil ?_))
        refine g_icmp_ne (off := 5) (tgt := 22) (by decide +kernel) (by decide) (fun c17 => ?_) (fun c17 => ?_)
        · try simp only [bI_0, Decidable.not_not] at c17
          refine g_blk [(.iinc 2 1, .int (nI 1)), (.goto (-23), .retAddr 2)] (Nat.le_of_ble_eq_true rfl) (by decide +kernel) ?_
          refine gx_iinc_2 rfl (gx_goto ((gx_nil ?_)))
          try simp only [nI_add]
          exact ih (i + 1) (by omega)
        · try simp only [bI_0, Decidable.not_not] at c17
          exact absurd c17 (hu i (by omega))
  refine pC_of (by decide) rfl (Nat.le_of_ble_eq_true rfl) [some (.ref m), some (.int rk), none] rfl ?_
  refine g_blk [(.iconst 0, .int (nI 0)), (.istore_n 2, .null)] (Nat.le_of_ble_eq_true rfl) (by decide +kernel) ?_
  refine gx_iconst (gx_istore_n_2 rfl ((gx_nil ?_)))
  exact loop r 0 (by omega)
theorem mo_routeByWeight_no {o c t la ta ca da ba pa ep : Nat} {fl fq ls ps : List Nat} {N : Nat → Int32} (hp : gPxs Γ) (hm : gMc h m o sv hl tt bu bl sb e8 f8) (H : gOx Γ de h o N c t la ta ca da ba pa ep fl fq ls ps) (hc : c ≤ 20) {rk : Int32} (hu : ∀ j, j < 6 → ¬ gRank N c j 6 = rk) : gC Γ M_X9_routeByWeight [.ref m, .int rk] h 6 1 6 (fun _ _ => False) (fun E h' => E = xNS ∧ h' = h) := by
  have H0 := H
  obtain ⟨ho, HL, hlc, hls, hta, HP, hpc, hps, hep, ⟨fc, hca, hfc⟩, ⟨fd, hda, hfd⟩, ⟨fb, hba, hfb⟩⟩ := H0
  have loop : ∀ n i, i + n = 6 → G Γ M_X9_routeByWeight 6 1 6 (fun _ _ => False) (fun E h' => E = xNS ∧ h' = h) 1 6 2 [some (.ref m), some (.int rk), some (.int (nI i))] [] h := by
    intro n
    induction n with
    | zero =>
      intro i hi
      have : i = 6 := by omega
      subst this
      refine g_blk [(.iload_n 2, .null), (.bipush 6, .int (nI 6))] (Nat.le_of_ble_eq_true rfl) (by decide +kernel) ?_
      refine gx_iload_n_2 (gx_bipush ((gx_nil ?_)))
      refine g_icmp_ge (off := 23) (tgt := 28) (by decide +kernel) (by decide) (fun c5 => ?_) (fun c5 => ?_)
      · try simp only [bI_0, Decidable.not_not] at c5
        obtain ⟨sa, hsa⟩ := hp.at (k := 309) (tx := "there is no such rank") (by decide)
        exact g_throwXW thr_ns hp.1 hsa (by decide +kernel) (by decide +kernel) (by decide +kernel) (by decide +kernel) (by decide +kernel) rfl (by decide) (Nat.le_of_ble_eq_true rfl) (by omega) (by omega) ⟨rfl, rfl⟩
      · try simp only [bI_0, Decidable.not_not] at c5
        exact absurd (Int32.le_refl _) c5
    | succ n ih =>
      intro i hi
      refine g_blk [(.iload_n 2, .null), (.bipush 6, .int (nI 6))] (Nat.le_of_ble_eq_true rfl) (by decide +kernel) ?_
      refine gx_iload_n_2 (gx_bipush ((gx_nil ?_)))
      refine g_icmp_ge (off := 23) (tgt := 28) (by decide +kernel) (by decide) (fun c5 => ?_) (fun c5 => ?_)
      · try simp only [bI_0, Decidable.not_not] at c5
        exact absurd ((nI_leI (by omega) (by omega)).mp c5) (by omega)
      · try simp only [bI_0, Decidable.not_not] at c5
        refine g_blk [(.aload_n 0, .null)] (Nat.le_of_ble_eq_true rfl) (by decide +kernel) ?_
        refine gx_aload_n_0 ((gx_nil ?_))
        refine g_getf fX9_10 (by decide +kernel) hm rfl ?_
        refine g_blk [(.iload_n 2, .null)] (Nat.le_of_ble_eq_true rfl) (by decide +kernel) ?_
        refine gx_iload_n_2 ((gx_nil ?_))
        refine g_pV kX9_306 (of_rankOf H hc (by omega)) (by decide +kernel) rfl rfl ho rfl (Nat.le_of_ble_eq_true rfl) (Nat.le_of_ble_eq_true rfl) (Nat.le_of_ble_eq_true rfl) rfl ?_
        simp only [Option.toList_some, Option.toList_none, List.cons_append, List.nil_append]
        refine g_blk [(.iload_n 1, .null)] (Nat.le_of_ble_eq_true rfl) (by decide +kernel) ?_
        refine gx_iload_n_1 ((gx_nil ?_))
        refine g_icmp_ne (off := 5) (tgt := 22) (by decide +kernel) (by decide) (fun c17 => ?_) (fun c17 => ?_)
        · try simp only [bI_0, Decidable.not_not] at c17
          refine g_blk [(.iinc 2 1, .int (nI 1)), (.goto (-23), .retAddr 2)] (Nat.le_of_ble_eq_true rfl) (by decide +kernel) ?_
          refine gx_iinc_2 rfl (gx_goto ((gx_nil ?_)))
          try simp only [nI_add]
          exact ih (i + 1) (by omega)
        · try simp only [bI_0, Decidable.not_not] at c17
          exact absurd c17 (hu i (by omega))
  refine gC_of (by decide) rfl (Nat.le_of_ble_eq_true rfl) [some (.ref m), some (.int rk), none] rfl ?_
  refine g_blk [(.iconst 0, .int (nI 0)), (.istore_n 2, .null)] (Nat.le_of_ble_eq_true rfl) (by decide +kernel) ?_
  refine gx_iconst (gx_istore_n_2 rfl ((gx_nil ?_)))
  exact loop 6 0 (by omega)
theorem fa_routeByWeight (hp : gPxs Γ) (G : gMO Γ de h m V F B) (hB9 : B ≤ 9000) (rk : Int32) : fQ Γ M_X9_routeByWeight [.ref m, .int rk] h (rT (bI (¬ rRk (F 0) (rc (F 0)) rk 6 = -1)) (nI 1) (nI 1)) (.int (if rT (bI (¬ rRk (F 0) (rc (F 0)) rk 6 = -1)) (nI 1) (nI 1) = 0 then rRk (F 0) (rc (F 0)) rk 6 else nI 0)) (nmOf xNS xNS xNS) := by
  obtain ⟨nx, o, svv, hl, tt, bu, sb, la, ta, ca, da, ba, pa, ep, fl, fq, ls, ps, hm, H, I, hB⟩ := G.rd
  have hc := I.hc
  have ht := I.ht
  have hw := I.lv (by omega)
  have hlen := H.2.2.1
  by_cases hx : ∃ r, r < 6 ∧ gRank (F 0) (rc (F 0)) r 6 = rk
  · obtain ⟨r, hr, e⟩ := hx
    have er := rRk_at I (by omega) hr e 6 (Nat.le_refl _)
    rw [if_pos hr] at er
    have e0 : rT (bI (¬ rRk (F 0) (rc (F 0)) rk 6 = -1)) (nI 1) (nI 1) = 0 := by rw [er, bI_t (nI_nm1 (by omega))]; exact rT_0
    refine fQ_x (fQ_pure (mo_routeByWeight hm H hc hr e (fun j hj => by rw [← e]; exact rank_ne I (by omega) (by omega) hr (by omega))) (by decide) e0 rfl) (fun _ => ?_)
    rw [if_pos e0, er]
  · have hno : ∀ r, r < 6 → ¬ gRank (F 0) (rc (F 0)) r 6 = rk := fun r hr e => hx ⟨r, hr, e⟩
    refine fQ_no (mo_routeByWeight_no hp hm H hc hno) (by decide) (by decide) (by decide) ?_ nm_s rfl
    rw [rRk_no I (by omega) hno 6 (Nat.le_refl _), bI_f (fun z => z rfl), rT_1]
    exact n1x
end GFt
