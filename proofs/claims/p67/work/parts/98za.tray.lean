/-! THE FACE: THE TRAY, THE COPY SORTED, THE TREE -/
section GFza
variable {Γ : gE} {de mi : Nat} {h h' h1 : gHp} {m B : Nat} {V : Nat → Int32} {F : Nat → Nat → Int32} {ex : List oT}
theorem g_topE {M : gM} {d mc ms rc9 rs9 pc : Nat} {Z : Option Value → gHp → Prop} {ZX : String → gHp → Prop} {L : List (Option Value)} {x y : Int32} {st : List Value} (e : x = y) (k : G Γ M d mc ms Z ZX rc9 rs9 pc L (.int y :: st) h) : G Γ M d mc ms Z ZX rc9 rs9 pc L (.int x :: st) h := e ▸ k
theorem gTI_s {N : Nat → Int32} {p : Int32} {i : Nat} : gTI N p (i + 1) = gTI N p i ++ (if gTy N p i = true then [i] else []) := rfl
theorem gTy_iff {N : Nat → Int32} {p : Int32} {i : Nat} : gTy N p i = true ↔ (N (62 + 7 * i + 5) = -1 ∧ N (62 + 7 * i + 3) = p) := ⟨fun z => of_decide_eq_true z, fun z => decide_eq_true z⟩
theorem rLn_T {N : Nat → Int32} {c : Nat} (hw : rLv1 N c) (hc : c ≤ 20) : ∀ k, k ≤ c → rLn N (-1) (-1) k = nI ((gTI N (nI 1) k).length + (gTI N (nI 0) k).length)
  | 0, _ => rfl
  | k + 1, hk => by
    obtain ⟨m9, cd, w, pr, q, em, hm9, ec, hcd, ew, hw1, hw2, ep8, hpr, eq, hq, eA⟩ := hw k (by omega)
    rw [rLn_s, rLn_T hw hc k (by omega), gTI_s, gTI_s, List.length_append, List.length_append]
    by_cases h5 : N (62 + 7 * k + 5) = -1
    · rw [if_pos ⟨h5, Or.inl rfl⟩]
      have : pr = 0 ∨ pr = 1 := by omega
      rcases this with rfl | rfl
      · rw [if_neg (fun z => by have := (gTy_iff.mp z).2; rw [ep8] at this; exact absurd this (by decide)), if_pos (gTy_iff.mpr ⟨h5, ep8⟩), nI_add]
        simp only [List.length_nil, List.length_singleton]
        congr 1 <;> omega
      · rw [if_pos (gTy_iff.mpr ⟨h5, ep8⟩), if_neg (fun z => by have := (gTy_iff.mp z).2; rw [ep8] at this; exact absurd this (by decide)), nI_add]
        simp only [List.length_nil, List.length_singleton]
        congr 1 <;> omega
    · rw [if_neg (fun z => h5 z.1), if_neg (fun z => h5 (gTy_iff.mp z).1), if_neg (fun z => h5 (gTy_iff.mp z).1), a_n0]
      simp only [List.length_nil]
      congr 1
/-- the p-th of a list of places, by its id -/
def tqL (N : Nat → Int32) (p : Int32) (l : List Nat) : Int32 := if ¬ p < 0 ∧ p.toNatClampNeg < l.length then N (62 + 7 * ((l[p.toNatClampNeg]?).getD 0)) else -1
theorem sb0_iff {x y : Int32} : x - y = 0 ↔ x = y := by
  constructor
  · intro z
    have := congrArg (fun w => w + y) z
    simp only [Int32.sub_add_cancel, Int32.zero_add] at this
    exact this
  · intro z
    rw [z, Int32.sub_self]
theorem nn_eq {p : Int32} (h : ¬ p < 0) : p = nI p.toNatClampNeg ∧ p.toNatClampNeg < 2147483648 := by
  have h1 : 0 ≤ p.toInt := by
    have := Int32.not_lt.mp h
    rw [Int32.le_iff_toInt_le, Int32.toInt_zero] at this
    exact this
  have h2 : p.toInt < 2147483648 := by
    have := Int32.toInt_lt p
    omega
  have h3 : p.toNatClampNeg = p.toInt.toNat := rfl
  have h4 : p.toNatClampNeg < 2147483648 := by rw [h3]; omega
  refine ⟨?_, h4⟩
  rw [← Int32.toInt_inj, nI_toInt h4, h3]
  omega
theorem tqL_app {N : Nat → Int32} {p : Int32} {l : List Nat} {i : Nat} (hl : l.length < 1000) : tqL N p (l ++ [i]) = if p - nI l.length = 0 then N (62 + 7 * i) else tqL N p l := by
  unfold tqL
  rw [List.length_append]
  simp only [List.length_singleton]
  by_cases hp : p < 0
  · rw [if_neg (fun z => z.1 hp), if_neg (fun z => by
      rw [sb0_iff] at z
      rw [z] at hp
      exact nI_nn (by omega) hp), if_neg (fun z => z.1 hp)]
  · obtain ⟨e1, e2⟩ := nn_eq hp
    by_cases hq : p.toNatClampNeg = l.length
    · rw [if_pos ⟨hp, by omega⟩, if_pos (by rw [sb0_iff, ← hq]; exact e1), hq, List.getElem?_append_right (by omega), Nat.sub_self]
      rfl
    · have hno : ¬ p - nI l.length = 0 := fun z => hq (by
        rw [sb0_iff, e1] at z
        exact (nI_eqI e2 (by omega)).mp z)
      by_cases hr : p.toNatClampNeg < l.length
      · rw [if_pos ⟨hp, by omega⟩, if_neg hno, if_pos ⟨hp, hr⟩, List.getElem?_append_left hr]
      · rw [if_neg (fun z => by omega), if_neg hno, if_neg (fun z => hr z.2)]
def TLk (N : Nat → Int32) (c k : Nat) : List Nat := if k ≤ c then gTI N (nI 1) k else gTI N (nI 1) c ++ gTI N (nI 0) (k - c)
theorem TLk_len {N : Nat → Int32} {c k : Nat} (hc : c ≤ 20) (hk : k ≤ 2 * c) : (TLk N c k).length < 1000 := by
  unfold TLk
  have h1 := gTI_len (N := N) (p := nI 1) (c := k)
  have h2 := gTI_len (N := N) (p := nI 1) (c := c)
  have h3 := gTI_len (N := N) (p := nI 0) (c := k - c)
  split
  · omega
  · rw [List.length_append]; omega
theorem TLk_s {N : Nat → Int32} {c k : Nat} (hk : k < 2 * c) : TLk N c (k + 1) = TLk N c k ++ (if N (62 + 7 * (k % c) + 5) = -1 ∧ N (62 + 7 * (k % c) + 3) = (if k < c then nI 1 else nI 0) then [k % c] else []) := by
  unfold TLk
  by_cases h : k < c
  · rw [if_pos (by omega), if_pos (by omega), gTI_s, Nat.mod_eq_of_lt h, if_pos h]
    congr 1
    by_cases hy : gTy N (nI 1) k = true
    · rw [if_pos hy, if_pos (gTy_iff.mp hy)]
    · rw [if_neg hy, if_neg (fun z => hy (gTy_iff.mpr z))]
  · have hm : k % c = k - c := by
      rw [Nat.mod_eq_sub_mod (by omega), Nat.mod_eq_of_lt (by omega)]
    have e1 : k + 1 - c = (k - c) + 1 := by omega
    rw [if_neg (by omega), e1, gTI_s, if_neg h, hm, ← List.append_assoc]
    congr 1
    · by_cases h2 : k ≤ c
      · have : k = c := by omega
        subst this
        rw [if_pos (by omega), Nat.sub_self]
        exact List.append_nil _
      · rw [if_neg h2]
    · by_cases hy : gTy N (nI 0) (k - c) = true
      · rw [if_pos hy, if_pos (gTy_iff.mp hy)]
      · rw [if_neg hy, if_neg (fun z => hy (gTy_iff.mpr z))]
theorem rTr_T {N : Nat → Int32} {p : Int32} {c : Nat} (hc : c ≤ 20) : ∀ k, k ≤ 2 * c → rTr N p c k = (p - nI (TLk N c k).length, tqL N p (TLk N c k))
  | 0, _ => by
    have e : TLk N c 0 = [] := by unfold TLk; rw [if_pos (Nat.zero_le _)]; rfl
    rw [e]
    unfold tqL
    rw [if_neg (fun z => by simp only [List.length_nil] at z; omega)]
    show (p, (-1 : Int32)) = (p - nI 0, -1)
    rw [z0, Int32.sub_zero]
  | k + 1, hk => by
    have hl := TLk_len (N := N) hc (show k ≤ 2 * c by omega)
    rw [rTr_s, rTr_T hc k (by omega), TLk_s (by omega)]
    dsimp only
    by_cases hcn : N (62 + 7 * (k % c) + 5) = -1 ∧ N (62 + 7 * (k % c) + 3) = (if k < c then nI 1 else nI 0)
    · rw [if_pos hcn, if_pos hcn, tqL_app hl, List.length_append, List.length_singleton]
      refine Prod.ext ?_ rfl
      show p - nI (TLk N c k).length + -1 = p - nI ((TLk N c k).length + 1)
      rw [n_m1, ← nI_add, Int32.sub_eq_add_neg, Int32.sub_eq_add_neg, Int32.sub_eq_add_neg, Int32.neg_add, Int32.sub_eq_add_neg, Int32.add_assoc]
    · rw [if_neg hcn, if_neg hcn, List.append_nil]
theorem TLk_2 {N : Nat → Int32} {c : Nat} : TLk N c (2 * c) = gTI N (nI 1) c ++ gTI N (nI 0) c := by
  unfold TLk
  by_cases h : 2 * c ≤ c
  · have : c = 0 := by omega
    subst this
    rfl
  · have e : 2 * c - c = c := by omega
    rw [if_neg h, e]
variable {hl tt bu sb o c t la ta ca da ba pa ep : Nat} {sv : Value} {bl e8 f8 : Int32} {fl fq ls ps : List Nat} {N : Nat → Int32}
theorem mo_traySize (hpl : gPall Γ de mi) (hm : gMc h m o sv hl tt bu bl sb e8 f8) (H : gOx Γ de h o N c t la ta ca da ba pa ep fl fq ls ps) (hc : c ≤ 20) (hw : rLv1 N c) : gC Γ M_X9_traySize [.ref m] h 10 41 2563 (fun v h' => v = some (.int (nI (gTI N (nI 1) c ++ gTI N (nI 0) c).length)) ∧ gAll h h') (fun _ _ => False) := by
  have H0 := H
  obtain ⟨ho, HL, hlc, hls, hta, HP, hpc, hps, hep, ⟨fc, hca, hfc⟩, ⟨fd, hda, hfd⟩, ⟨fb, hba, hfb⟩⟩ := H0
  refine gC_of (by decide) rfl (Nat.le_of_ble_eq_true rfl) [some (.ref m)] rfl ?_
  refine g_blk [(.aload_n 0, .null)] (Nat.le_of_ble_eq_true rfl) (by decide +kernel) ?_
  refine gx_aload_n_0 ((gx_nil ?_))
  refine g_getf fX9_10 (by decide +kernel) hm rfl ?_
  refine g_callV (rc' := 0) (rs' := 0) kX9_211 (of_orderedTray hpl H hc hw) (by decide +kernel) rfl rfl ho rfl (Nat.le_of_ble_eq_true rfl) (Nat.le_of_ble_eq_true rfl) (Nat.le_of_ble_eq_true rfl) (by omega) (by omega) rfl (fun _ _ z => z.elim) (fun v9 h5 hz => ?_)
  obtain ⟨tr, ft, rfl, HT, hfr, ka⟩ := hz
  have hm5 := ka _ _ (fun z => z) hm
  simp only [Option.toList_some, Option.toList_none, List.cons_append, List.nil_append]
  refine g_pV kX9_133 (al_size HT) (by decide +kernel) rfl rfl (al_cell HT) rfl (Nat.le_of_ble_eq_true rfl) (Nat.le_of_ble_eq_true rfl) (Nat.le_of_ble_eq_true rfl) rfl ?_
  simp only [Option.toList_some, Option.toList_none, List.cons_append, List.nil_append]
  refine g_end (some (.int _)) rfl ⟨by decide +kernel, _, rfl, rfl⟩ ?_
  exact ⟨by rw [List.length_map], ka⟩
theorem mo_trayAt (hpl : gPall Γ de mi) (hm : gMc h m o sv hl tt bu bl sb e8 f8) (H : gOx Γ de h o N c t la ta ca da ba pa ep fl fq ls ps) (hc : c ≤ 20) (hw : rLv1 N c) {p i a : Nat} (hx : (gTI N (nI 1) c ++ gTI N (nI 0) c)[p]? = some i) (hpl9 : p < 100) (hx9 : ls[i]? = some a) : gC Γ M_X9_trayAt [.ref m, .int (nI p)] h 10 41 2563 (fun v h' => v = some (.int (N (62 + 7 * i))) ∧ gAll h h') (fun _ _ => False) := by
  have H0 := H
  obtain ⟨ho, HL, hlc, hls, hta, HP, hpc, hps, hep, ⟨fc, hca, hfc⟩, ⟨fd, hda, hfd⟩, ⟨fb, hba, hfb⟩⟩ := H0
  have hl9 := hls i a hx9
  have hplen : p < (gTI N (nI 1) c ++ gTI N (nI 0) c).length := (List.getElem?_eq_some_iff.mp hx).1
  have hlen9 : ((gTI N (nI 1) c ++ gTI N (nI 0) c).map (gAd ls)).length = (gTI N (nI 1) c ++ gTI N (nI 0) c).length := List.length_map _
  have h100 : (gTI N (nI 1) c ++ gTI N (nI 0) c).length ≤ 100 := by
    have h1 := gTI_len (N := N) (p := nI 1) (c := c)
    have h2 := gTI_len (N := N) (p := nI 0) (c := c)
    rw [List.length_append]
    omega
  have hxa : ((gTI N (nI 1) c ++ gTI N (nI 0) c).map (gAd ls))[p]? = some a := by
    rw [List.getElem?_map, hx]
    exact congrArg some (gAd_at hx9)
  refine gC_of (by decide) rfl (Nat.le_of_ble_eq_true rfl) [some (.ref m), some (.int (nI p)), none] rfl ?_
  refine g_blk [(.aload_n 0, .null)] (Nat.le_of_ble_eq_true rfl) (by decide +kernel) ?_
  refine gx_aload_n_0 ((gx_nil ?_))
  refine g_getf fX9_10 (by decide +kernel) hm rfl ?_
  refine g_callV (rc' := 0) (rs' := 0) kX9_211 (of_orderedTray hpl H hc hw) (by decide +kernel) rfl rfl ho rfl (Nat.le_of_ble_eq_true rfl) (Nat.le_of_ble_eq_true rfl) (Nat.le_of_ble_eq_true rfl) (by omega) (by omega) rfl (fun _ _ z => z.elim) (fun v9 h5 hz => ?_)
  obtain ⟨tr, ft, rfl, HT, hfr, ka⟩ := hz
  have hl5 : gLet h5 N i a := ka _ _ (fun z => z) hl9
  simp only [Option.toList_some, Option.toList_none, List.cons_append, List.nil_append]
  refine g_blk [(.astore_n 2, .null), (.iload_n 1, .null)] (Nat.le_of_ble_eq_true rfl) (by decide +kernel) ?_
  refine gx_astore_n_2 rfl (gx_iload_n_1 ((gx_nil ?_)))
  refine g_if_lt (off := 11) (tgt := 20) (by decide +kernel) (by decide) (fun c9 => ?_) (fun c9 => ?_)
  · try simp only [bI_0, Decidable.not_not] at c9
    exact absurd c9 (nI_nn (by omega))
  · try simp only [bI_0, Decidable.not_not] at c9
    refine g_blk [(.iload_n 1, .null), (.aload_n 2, .null)] (Nat.le_of_ble_eq_true rfl) (by decide +kernel) ?_
    refine gx_iload_n_1 (gx_aload_n_2 ((gx_nil ?_)))
    refine g_pV kX9_133 (al_size HT) (by decide +kernel) rfl rfl (al_cell HT) rfl (Nat.le_of_ble_eq_true rfl) (Nat.le_of_ble_eq_true rfl) (Nat.le_of_ble_eq_true rfl) rfl ?_
    simp only [Option.toList_some, Option.toList_none, List.cons_append, List.nil_append]
    rw [hlen9]
    refine g_icmp_lt (off := 13) (tgt := 30) (by decide +kernel) (by decide) (fun c17 => ?_) (fun c17 => ?_)
    · try simp only [bI_0, Decidable.not_not] at c17
      refine g_blk [(.aload_n 2, .null), (.iload_n 1, .null)] (Nat.le_of_ble_eq_true rfl) (by decide +kernel) ?_
      refine gx_aload_n_2 (gx_iload_n_1 ((gx_nil ?_)))
      refine g_pV kX9_159 (al_get HT hxa) (by decide +kernel) rfl rfl (al_cell HT) rfl (Nat.le_of_ble_eq_true rfl) (Nat.le_of_ble_eq_true rfl) (Nat.le_of_ble_eq_true rfl) rfl ?_
      try simp only [Option.toList_some, Option.toList_none, List.cons_append, List.nil_append, bI_0, n1_0, n0_0, Decidable.not_not, not_true_eq_false, not_false_eq_true]
      refine g_castO hl5 rfl rfl (clX9_162) (by decide +kernel) ?_
      refine g_getf fX9_164 (by decide +kernel) hl5 rfl ?_
      refine g_end (some (.int _)) rfl ⟨by decide +kernel, _, rfl, rfl⟩ ?_
      exact ⟨rfl, ka⟩
    · try simp only [bI_0, Decidable.not_not] at c17
      exact absurd (Int32.not_lt.mp c17) (fun z => by have := (nI_leI (by omega) (by omega)).mp z; omega)
theorem mo_trayAt_no (hp : gPxs Γ) (hpl : gPall Γ de mi) (hm : gMc h m o sv hl tt bu bl sb e8 f8) (H : gOx Γ de h o N c t la ta ca da ba pa ep fl fq ls ps) (hc : c ≤ 20) (hw : rLv1 N c) {x : Int32} (hx : ¬ (nI 0 ≤ x ∧ x ≤ nI (gTI N (nI 1) c ++ gTI N (nI 0) c).length - nI 1)) : gC Γ M_X9_trayAt [.ref m, .int x] h 10 42 2569 (fun _ _ => False) (fun E h' => E = xNS ∧ gAll h h') := by
  have H0 := H
  obtain ⟨ho, HL, hlc, hls, hta, HP, hpc, hps, hep, ⟨fc, hca, hfc⟩, ⟨fd, hda, hfd⟩, ⟨fb, hba, hfb⟩⟩ := H0
  have hlen9 : ((gTI N (nI 1) c ++ gTI N (nI 0) c).map (gAd ls)).length = (gTI N (nI 1) c ++ gTI N (nI 0) c).length := List.length_map _
  have h100 : (gTI N (nI 1) c ++ gTI N (nI 0) c).length ≤ 100 := by
    have h1 := gTI_len (N := N) (p := nI 1) (c := c)
    have h2 := gTI_len (N := N) (p := nI 0) (c := c)
    rw [List.length_append]
    omega
  refine gC_of (by decide) rfl (Nat.le_of_ble_eq_true rfl) [some (.ref m), some (.int x), none] rfl ?_
  refine g_blk [(.aload_n 0, .null)] (Nat.le_of_ble_eq_true rfl) (by decide +kernel) ?_
  refine gx_aload_n_0 ((gx_nil ?_))
  refine g_getf fX9_10 (by decide +kernel) hm rfl ?_
  refine g_callV (rc' := 1) (rs' := 6) kX9_211 (of_orderedTray hpl H hc hw) (by decide +kernel) rfl rfl ho rfl (Nat.le_of_ble_eq_true rfl) (Nat.le_of_ble_eq_true rfl) (Nat.le_of_ble_eq_true rfl) (by omega) (by omega) rfl (fun _ _ z => z.elim) (fun v9 h5 hz => ?_)
  obtain ⟨tr, ft, rfl, HT, hfr, ka⟩ := hz
  simp only [Option.toList_some, Option.toList_none, List.cons_append, List.nil_append]
  refine g_blk [(.astore_n 2, .null), (.iload_n 1, .null)] (Nat.le_of_ble_eq_true rfl) (by decide +kernel) ?_
  refine gx_astore_n_2 rfl (gx_iload_n_1 ((gx_nil ?_)))
  refine g_if_lt (off := 11) (tgt := 20) (by decide +kernel) (by decide) (fun c9 => ?_) (fun c9 => ?_)
  · try simp only [bI_0, Decidable.not_not] at c9
    obtain ⟨sa, hsa⟩ := hp.at (k := 215) (tx := "the tray has no such position") (by decide)
    exact g_throwX thr_ns hp.1 hsa (by decide +kernel) (by decide +kernel) (by decide +kernel) (by decide +kernel) (by decide +kernel) rfl (by decide) (Nat.le_of_ble_eq_true rfl) (by omega) (by omega) ⟨rfl, ka⟩
  · try simp only [bI_0, Decidable.not_not] at c9
    refine g_blk [(.iload_n 1, .null), (.aload_n 2, .null)] (Nat.le_of_ble_eq_true rfl) (by decide +kernel) ?_
    refine gx_iload_n_1 (gx_aload_n_2 ((gx_nil ?_)))
    refine g_pV kX9_133 (al_size HT) (by decide +kernel) rfl rfl (al_cell HT) rfl (Nat.le_of_ble_eq_true rfl) (Nat.le_of_ble_eq_true rfl) (Nat.le_of_ble_eq_true rfl) rfl ?_
    simp only [Option.toList_some, Option.toList_none, List.cons_append, List.nil_append]
    rw [hlen9]
    refine g_icmp_lt (off := 13) (tgt := 30) (by decide +kernel) (by decide) (fun c17 => ?_) (fun c17 => ?_)
    · try simp only [bI_0, Decidable.not_not] at c17
      exact absurd (rg_of c9 (Int32.not_le.mpr c17) (by omega)) hx
    · try simp only [bI_0, Decidable.not_not] at c17
      obtain ⟨sa, hsa⟩ := hp.at (k := 215) (tx := "the tray has no such position") (by decide)
      exact g_throwX thr_ns hp.1 hsa (by decide +kernel) (by decide +kernel) (by decide +kernel) (by decide +kernel) (by decide +kernel) rfl (by decide) (Nat.le_of_ble_eq_true rfl) (by omega) (by omega) ⟨rfl, ka⟩
theorem mo_sortableCount {fo : List Nat} {nx : Nat} (hpl : gPall Γ de mi) (hm : gMc h m o sv hl tt bu bl sb e8 f8) (H : gOf Γ de h N c t o fo) (I : rIV N c t nx) (hn : nx < 100000) : gC Γ M_X9_sortableCount [.ref m] h 11 101 4793 (fun v h' => v = some (.int (rSA N c t).2) ∧ gAll h h') (fun _ _ => False) := by
  obtain ⟨la9, ta9, ca9, da9, ba9, ho⟩ := H.cell
  refine gC_of (by decide) rfl (Nat.le_of_ble_eq_true rfl) [some (.ref m)] rfl ?_
  refine g_blk [(.aload_n 0, .null)] (Nat.le_of_ble_eq_true rfl) (by decide +kernel) ?_
  refine gx_aload_n_0 ((gx_nil ?_))
  refine g_getf fX9_10 (by decide +kernel) hm rfl ?_
  refine g_callV (rc' := 41) (rs' := 2563) kX9_54 (H.dup hpl I (by omega)) (by decide +kernel) rfl rfl ho rfl (Nat.le_of_ble_eq_true rfl) (Nat.le_of_ble_eq_true rfl) (Nat.le_of_ble_eq_true rfl) (by omega) (by omega) rfl (fun _ _ z => z.elim) (fun v9 h5 hz => ?_)
  obtain ⟨b, fpb, rfl, Hb, hfr, ka⟩ := hz
  obtain ⟨la5, ta5, ca5, da5, ba5, hb5⟩ := Hb.cell
  simp only [Option.toList_some, Option.toList_none, List.cons_append, List.nil_append]
  refine g_callV (rc' := 0) (rs' := 0) kX9_84 (Hb.sortTray hpl I hn) (by decide +kernel) rfl rfl hb5 rfl (Nat.le_of_ble_eq_true rfl) (Nat.le_of_ble_eq_true rfl) (Nat.le_of_ble_eq_true rfl) (by omega) (by omega) rfl (fun _ _ z => z.elim) (fun v9 h6 hz => ?_)
  obtain ⟨z1, rfl, c6, t6, fp6, hG6, H6, hf6, hk6⟩ : _ ∧ _ := by
    rcases hz with z | z
    · exact z
    · exact absurd z0 z.1
  simp only [Option.toList_some, Option.toList_none, List.cons_append, List.nil_append]
  refine g_end (some (.int _)) rfl ⟨by decide +kernel, _, rfl, rfl⟩ ?_
  exact ⟨rfl, gAll_tr ka hk6 hfr⟩
theorem fN_all {M : gM} {av : List Value} {d mc ms W : Nat} {x : Value} {F1 : Nat → Nat → Int32} {τ : Int32} (hd : gDi Γ) (G : gMO Γ de h m V F B) (c : gC Γ M av h d mc ms (fun v h' => v = some x ∧ gAll h h') (fun _ _ => False)) (h1 : d ≤ 30) (h2 : mc ≤ cW W) (h3 : ms ≤ W) (hF : ∀ j, j = 0 ∨ j = 3 ∨ j = 4 ∨ j = 9 ∨ j = 11 → F1 j = F j) : fN Γ M av h W x (fP Γ de h m (vU V 13 τ) F1 B) :=
  gC_wide (gC_post c (fun v h' z => ⟨z.1, (G.fr hd (gFr.all (K := fun _ => False) z.2) (fun _ _ y => y)).eqv (fun j hj => vU_n (by omega)) hF, gFr.all z.2⟩) (fun _ _ z => z)) h1 h2 h3
theorem fa_sortableCount (hd : gDi Γ) (hpl : gPall Γ de mi) (G : gMO Γ de h m V F B) (hB9 : B ≤ 9000) : fN Γ M_X9_sortableCount [.ref m] h 4793 (.int ((rSA (F 0) (rc (F 0)) (rtt (F 0))).2)) (fP Γ de h m (vU V 13 (nI 0)) (fR F 2 (F 0)) B) := by
  obtain ⟨nx, o, svv, hl, tt, bu, sb, fo, hm, H, I, hB⟩ := G.ro
  exact fN_all hd G (mo_sortableCount hpl hm H I (by omega)) (by decide) (by decide) (by decide) (fun j hj => by rcases hj with rfl | rfl | rfl | rfl | rfl <;> rfl)
theorem fa_traySize (hd : gDi Γ) (hpl : gPall Γ de mi) (G : gMO Γ de h m V F B) (hB9 : B ≤ 9000) : fN Γ M_X9_traySize [.ref m] h 2563 (.int (rLn (F 0) (-1) (-1) (rc (F 0)))) (fP Γ de h m (vU V 13 (nI 0)) (F) B) := by
  obtain ⟨nx, o, svv, hl, tt, bu, sb, la, ta, ca, da, ba, pa, ep, fl, fq, ls, ps, hm, H, I, hB⟩ := G.rd
  have hc := I.hc
  have ht := I.ht
  have hw := I.lv (by omega)
  have hlen := H.2.2.1
  exact fN_x (fN_all hd G (mo_traySize hpl hm H hc hw) (by decide) (by decide) (by decide) (fun _ _ => rfl)) (by rw [rLn_T hw hc _ (Nat.le_refl _), List.length_append])
theorem fa_trayAt (hd : gDi Γ) (hpl : gPall Γ de mi) (hp : gPxs Γ) (G : gMO Γ de h m V F B) (hB9 : B ≤ 9000) (p : Int32) : fC Γ M_X9_trayAt [.ref m, .int p] h 2569 (rT (bI (¬ (rTr (F 0) p (rc (F 0)) (2 * (rc (F 0)))).2 = -1)) (nI 1) (nI 1)) (.int (if rT (bI (¬ (rTr (F 0) p (rc (F 0)) (2 * (rc (F 0)))).2 = -1)) (nI 1) (nI 1) = 0 then (rTr (F 0) p (rc (F 0)) (2 * (rc (F 0)))).2 else nI 0)) (nmOf xNS xNS xNS) (fP Γ de h m (vU V 13 (rT (bI (¬ (rTr (F 0) p (rc (F 0)) (2 * (rc (F 0)))).2 = -1)) (nI 1) (nI 1))) (F) B) := by
  obtain ⟨nx, o, svv, hl, tt, bu, sb, la, ta, ca, da, ba, pa, ep, fl, fq, ls, ps, hm, H, I, hB⟩ := G.rd
  have hc := I.hc
  have ht := I.ht
  have hw := I.lv (by omega)
  have hlen := H.2.2.1
  have hP : ∀ (τ : Int32) (h' : gHp), gAll h h' → fP Γ de h m (vU V 13 τ) F B h' := fun τ h' z => ⟨(G.fr hd (gFr.all (K := fun _ => False) z) (fun _ _ y => y)).eqv (fun j hj => vU_n (by omega)) (fun _ _ => rfl), gFr.all z⟩
  have h100 : (gTI (F 0) (nI 1) (rc (F 0)) ++ gTI (F 0) (nI 0) (rc (F 0))).length ≤ 100 := by
    have h1 := gTI_len (N := F 0) (p := nI 1) (c := rc (F 0))
    have h2 := gTI_len (N := F 0) (p := nI 0) (c := rc (F 0))
    rw [List.length_append]
    omega
  have eT : (rTr (F 0) p (rc (F 0)) (2 * rc (F 0))).2 = tqL (F 0) p (gTI (F 0) (nI 1) (rc (F 0)) ++ gTI (F 0) (nI 0) (rc (F 0))) := by rw [rTr_T hc _ (Nat.le_refl _), TLk_2]
  by_cases hx : nI 0 ≤ p ∧ p ≤ nI (gTI (F 0) (nI 1) (rc (F 0)) ++ gTI (F 0) (nI 0) (rc (F 0))).length - nI 1
  · obtain ⟨k, hk, rfl⟩ := in_rg (by omega) hx
    obtain ⟨i, hi⟩ : ∃ z, (gTI (F 0) (nI 1) (rc (F 0)) ++ gTI (F 0) (nI 0) (rc (F 0)))[k]? = some z := ⟨_, List.getElem?_eq_getElem hk⟩
    have hic : i < rc (F 0) := by
      rcases List.mem_append.mp (List.mem_of_getElem? hi) with z | z
      · exact (gTI_m z).1
      · exact (gTI_m z).1
    obtain ⟨a, hx9⟩ : ∃ z, ls[i]? = some z := ⟨_, List.getElem?_eq_getElem (by omega)⟩
    obtain ⟨m9, cd, w, pr, q, em, hm9, -⟩ := hw i hic
    have ev : tqL (F 0) (nI k) (gTI (F 0) (nI 1) (rc (F 0)) ++ gTI (F 0) (nI 0) (rc (F 0))) = F 0 (62 + 7 * i) := by
      unfold tqL
      rw [nI_clamp (by omega), if_pos ⟨nI_nn (by omega), hk⟩, hi]
      rfl
    have e0 : rT (bI (¬ (rTr (F 0) (nI k) (rc (F 0)) (2 * (rc (F 0)))).2 = -1)) (nI 1) (nI 1) = 0 := by rw [eT, ev, em, bI_t (nI_nm1 (by omega))]; exact rT_0
    refine fC_x (fC_ok (mo_trayAt hpl hm H hc hw hi (by omega) hx9) (by decide) (by decide) (by decide) e0 (fun v h' z => ⟨z.1, hP _ h' z.2⟩)) (fun _ => ?_)
    rw [if_pos e0, eT, ev]
  · have ev : tqL (F 0) p (gTI (F 0) (nI 1) (rc (F 0)) ++ gTI (F 0) (nI 0) (rc (F 0))) = -1 := by
      unfold tqL
      refine if_neg (fun z => hx ?_)
      obtain ⟨e1, e2⟩ := nn_eq z.1
      rw [e1]
      exact in_rgi (by omega) z.2
    have et : rT (bI (¬ (rTr (F 0) p (rc (F 0)) (2 * (rc (F 0)))).2 = -1)) (nI 1) (nI 1) = nI 1 := by rw [eT, ev, bI_f (fun z => z rfl)]; exact rT_1
    refine gC_wide (gC_post (mo_trayAt_no hp hpl hm H hc hw hx) (fun _ _ z => z.elim) (fun E h' z => ?_)) (by decide) (by decide) (by decide)
    exact ⟨by rw [et]; exact n1x, z.1.trans nm_s.symm, hP _ h' z.2⟩
theorem gMX.tr (G : gMX Γ de h m V F B ex) : ∃ o svv hl tt bu sb ch ro k9 C R, gMc h m o svv hl tt bu (V 10) sb (V 7) (V 8) ∧ gTR Γ h tt ch ro C R k9 ∧ (∀ q, q < 490 → C q ≤ 48) ∧ ∀ (h1 : gHp) (C' : Nat → Nat) (R' : Nat → Int32) (k' : Nat), gTR Γ h1 tt ch ro C' R' k' → (∀ q, q < 490 → C' q ≤ 48) → gKeep (tS tt ch ro) h h1 → gMX Γ de h1 m V F B ex ∧ gFr (kC Γ) h h1 ∧ gMc h1 m o svv hl tt bu (V 10) sb (V 7) (V 8) := by
  obtain ⟨o, fo, sv, fr, svv, hl, tt, bu, sb, fl, a1, a2, a3, a4, a5, ⟨a6, a7⟩, ⟨⟨ch, ro, k9, C, R, t1, t2⟩, t3, t4⟩⟩ := G
  refine ⟨o, svv, hl, tt, bu, sb, ch, ro, k9, C, R, a1, t1, t2, fun h1 C' R' k' c1 c2 k => ?_⟩
  obtain ⟨d1, ⟨f, d2, d3⟩, ⟨g, d4, d5⟩, d6⟩ := t1
  have kt : gFr tgT h h1 := gFr.of k (fun q hq e y => by
    rcases hq with rfl | rfl | rfl
    · rw [d1] at y; cases y; exact Or.inl rfl
    · rw [d2] at y; cases y; exact Or.inr (Or.inl rfl)
    · rw [d4] at y; cases y; exact Or.inr (Or.inr rfl))
  have kk : gFr (kC Γ) h h1 := gFr.of k (fun q hq e y => by
    rcases hq with rfl | rfl | rfl
    · rw [d1] at y; cases y; exact kC_J (by decide)
    · rw [d2] at y; cases y; exact kC_I (by decide)
    · rw [d4] at y; cases y; exact kC_I (by decide))
  exact ⟨⟨o, fo, sv, fr, svv, hl, tt, bu, sb, fl, kt _ _ a1 (by unfold tgT; show ¬ ((12 : Nat) = 10 ∨ (12 : Nat) = 590 ∨ (12 : Nat) = 149); decide), fun y hy => (a2 y hy).ft kt (fun e z => by unfold tgO at z; unfold tgT; omega), a3, a4, a5, ⟨gAL_ft a6 kt (fun e z => by unfold tgT; omega), a7⟩, ⟨ch, ro, k', C', R', c1, c2⟩, t3.ft kt (fun e z => by unfold tgB at z; unfold tgT; omega), t4.ft kt (fun e z => by unfold tgL at z; unfold tgT; omega)⟩, kk, kt _ _ a1 (by unfold tgT; show ¬ ((12 : Nat) = 10 ∨ (12 : Nat) = 590 ∨ (12 : Nat) = 149); decide)⟩
theorem fa_isConsistent (G : gMO Γ de h m V F B) (hB9 : B ≤ 9000) : fN Γ M_X9_isConsistent [.ref m] h 0 (.int (nI 1)) (fP Γ de h m (vU V 13 (nI 0)) (F) B) := by
  obtain ⟨nx, o, svv, hl, tt, bu, sb, la, ta, ca, da, ba, pa, ep, fl, fq, ls, ps, hm, H, I, hB⟩ := G.rd
  have hc := I.hc
  have ht := I.ht
  have hw := I.lv (by omega)
  have hlen := H.2.2.1
  obtain ⟨ho, HL, hlc, hls, hta, HP, hpc, hps9, hep, -⟩ := id H
  obtain ⟨o2, svv2, hl2, tt2, bu2, sb2, ch, ro, k9, C, R, hm2, HT, hC, hG⟩ := gMX.tr G
  have ee := Option.some.inj (hm2.symm.trans hm)
  cases ee
  have htt := HT.1
  refine gC_wide (d := 10) (mc := 0) (ms := 0) ?_ (by decide) (Nat.zero_le _) (Nat.zero_le _)
  refine gC_of (by decide) rfl (Nat.le_of_ble_eq_true rfl) [some (.ref m)] rfl ?_
  refine g_blk [(.aload_n 0, .null)] (Nat.le_of_ble_eq_true rfl) (by decide +kernel) ?_
  refine gx_aload_n_0 ((gx_nil ?_))
  refine g_getf fX9_29 (by decide +kernel) hm rfl ?_
  refine g_blk [(.aload_n 0, .null)] (Nat.le_of_ble_eq_true rfl) (by decide +kernel) ?_
  refine gx_aload_n_0 ((gx_nil ?_))
  refine g_getf fX9_10 (by decide +kernel) hm rfl ?_
  refine g_getf fX9_66 (by decide +kernel) ho rfl ?_
  refine g_callV (rc' := 0) (rs' := 0) kX9_242 (tr_build HT hC hta HP hpc hps9 ht I.pv) (by decide +kernel) rfl rfl htt rfl (Nat.le_of_ble_eq_true rfl) (Nat.le_of_ble_eq_true rfl) (Nat.le_of_ble_eq_true rfl) (by omega) (by omega) rfl (fun _ _ z => z.elim) (fun v9 h5 hz => ?_)
  obtain ⟨rfl, C5, R5, k5, HT5, hI5, kt5⟩ := hz
  obtain ⟨G5, kf5, em5⟩ := hG h5 C5 R5 k5 HT5 hI5.2.2.2.2 kt5
  obtain ⟨nx5, o5, svv5, hl5, tt5, bu5, sb5, la5, ta5, ca5, da5, ba5, pa5, ep5, fl5, fq5, ls5, ps5, hm5, H5, I5, hB5⟩ := gMO.rd G5
  have ee5 := Option.some.inj (hm5.symm.trans em5)
  cases ee5
  have htt5 := HT5.1
  have ho5 := H5.1
  simp only [Option.toList_some, Option.toList_none, List.cons_append, List.nil_append]
  refine g_blk [(.aload_n 0, .null)] (Nat.le_of_ble_eq_true rfl) (by decide +kernel) ?_
  refine gx_aload_n_0 ((gx_nil ?_))
  refine g_getf fX9_10 (by decide +kernel) hm5 rfl ?_
  refine g_blk [(.aload_n 0, .null)] (Nat.le_of_ble_eq_true rfl) (by decide +kernel) ?_
  refine gx_aload_n_0 ((gx_nil ?_))
  refine g_getf fX9_29 (by decide +kernel) hm5 rfl ?_
  refine g_pV kX9_340 (of_routesAgree H5 I5.hc I5.ht I5.pv (I5.lv (by omega)) I5.up HT5 hI5) (by decide +kernel) rfl rfl ho5 rfl (Nat.le_of_ble_eq_true rfl) (Nat.le_of_ble_eq_true rfl) (Nat.le_of_ble_eq_true rfl) rfl ?_
  simp only [Option.toList_some, Option.toList_none, List.cons_append, List.nil_append]
  refine g_if_eq (off := 27) (tgt := 52) (by decide +kernel) (by decide) (fun c25 => ?_) (fun c25 => ?_)
  · try simp only [bI_0, Decidable.not_not] at c25
    exact absurd c25 (by decide)
  · try simp only [bI_0, Decidable.not_not] at c25
    refine g_blk [(.aload_n 0, .null)] (Nat.le_of_ble_eq_true rfl) (by decide +kernel) ?_
    refine gx_aload_n_0 ((gx_nil ?_))
    refine g_getf fX9_10 (by decide +kernel) hm5 rfl ?_
    refine g_pV kX9_344 (of_sound H5 I5.hc I5.OK (fun r hr => I5.sound (by omega) r hr)) (by decide +kernel) rfl rfl ho5 rfl (Nat.le_of_ble_eq_true rfl) (Nat.le_of_ble_eq_true rfl) (Nat.le_of_ble_eq_true rfl) rfl ?_
    simp only [Option.toList_some, Option.toList_none, List.cons_append, List.nil_append]
    refine g_if_eq (off := 17) (tgt := 52) (by decide +kernel) (by decide) (fun c35 => ?_) (fun c35 => ?_)
    · try simp only [bI_0, Decidable.not_not] at c35
      exact absurd c35 (by decide)
    · try simp only [bI_0, Decidable.not_not] at c35
      refine g_blk [(.aload_n 0, .null)] (Nat.le_of_ble_eq_true rfl) (by decide +kernel) ?_
      refine gx_aload_n_0 ((gx_nil ?_))
      refine g_getf fX9_10 (by decide +kernel) hm5 rfl ?_
      refine g_pV kX9_347 (of_addUp H5) (by decide +kernel) rfl rfl ho5 rfl (Nat.le_of_ble_eq_true rfl) (Nat.le_of_ble_eq_true rfl) (Nat.le_of_ble_eq_true rfl) rfl ?_
      simp only [Option.toList_some, Option.toList_none, List.cons_append, List.nil_append]
      rw [bI_t I5.addUp]
      refine g_if_eq (off := 7) (tgt := 52) (by decide +kernel) (by decide) (fun c45 => ?_) (fun c45 => ?_)
      · try simp only [bI_0, Decidable.not_not] at c45
        exact absurd c45 (by decide)
      · try simp only [bI_0, Decidable.not_not] at c45
        refine g_blk [(.iconst 1, .int (nI 1)), (.goto 4, .retAddr 53)] (Nat.le_of_ble_eq_true rfl) (by decide +kernel) ?_
        refine gx_iconst (gx_goto ((gx_nil ?_)))
        refine g_end (some (.int _)) rfl ⟨by decide +kernel, _, rfl, (by first | rfl | exact bI_nar _)⟩ ?_
        exact ⟨rfl, G5.eqv (fun j hj => vU_n (by omega)) (fun _ _ => rfl), kf5⟩
theorem fa_routeForByTree (hp : gPxs Γ) (G : gMO Γ de h m V F B) (hB9 : B ≤ 9000) (code : Int32) : fC Γ M_X9_routeForByTree [.ref m, .int code] h 6 (rT (bI (nI 0 ≤ code ∧ code ≤ nI 9999)) (bI ((nI 0 ≤ code ∧ code ≤ nI 9999) ∧ ¬ rRoute (F 0) code (rtt (F 0)) = -1)) (nI 1)) (.int (if rT (bI (nI 0 ≤ code ∧ code ≤ nI 9999)) (bI ((nI 0 ≤ code ∧ code ≤ nI 9999) ∧ ¬ rRoute (F 0) code (rtt (F 0)) = -1)) (nI 1) = 0 then rRoute (F 0) code (rtt (F 0)) else nI 0)) (nmOf xIA xNS xNS) (fP Γ de h m (vU V 13 (rT (bI (nI 0 ≤ code ∧ code ≤ nI 9999)) (bI ((nI 0 ≤ code ∧ code ≤ nI 9999) ∧ ¬ rRoute (F 0) code (rtt (F 0)) = -1)) (nI 1))) (F) B) := by
  obtain ⟨nx, o, svv, hl, tt, bu, sb, la, ta, ca, da, ba, pa, ep, fl, fq, ls, ps, hm, H, I, hB⟩ := G.rd
  have hc := I.hc
  have ht := I.ht
  have hw := I.lv (by omega)
  have hlen := H.2.2.1
  obtain ⟨ho, HL, hlc, hls, hta, HP, hpc, hps9, hep, -⟩ := id H
  obtain ⟨o2, svv2, hl2, tt2, bu2, sb2, ch, ro, k9, C, R, hm2, HT, hC, hG⟩ := gMX.tr G
  have ee := Option.some.inj (hm2.symm.trans hm)
  cases ee
  have htt := HT.1
  by_cases hy : nI 0 ≤ code ∧ code ≤ nI 9999
  · obtain ⟨cd, rfl, -, hcd⟩ := i32_in (by decide) (by decide) hy
    have eb := rRoute_bst ht I.pv I.up (cd := cd) (by omega)
    by_cases hr : rRoute (F 0) (nI cd) (rtt (F 0)) = -1
    · have et : rT (bI (nI 0 ≤ (nI cd) ∧ (nI cd) ≤ nI 9999)) (bI ((nI 0 ≤ (nI cd) ∧ (nI cd) ≤ nI 9999) ∧ ¬ rRoute (F 0) (nI cd) (rtt (F 0)) = -1)) (nI 1) = nI 2 := by rw [bI_t hy, bI_f (fun z => z.2 hr)]; exact rT_2
      refine gC_wide (d := 8) (mc := 1) (ms := 6) ?_ (by decide) (by decide) (by decide)
      refine gC_of (by decide) rfl (Nat.le_of_ble_eq_true rfl) [some (.ref m), some (.int (nI cd))] rfl ?_
      refine g_blk [(.iload_n 1, .null)] (Nat.le_of_ble_eq_true rfl) (by decide +kernel) ?_
      refine gx_iload_n_1 ((gx_nil ?_))
      refine g_pS kX9_229 (mo_requireCode (cd_in (by omega))) (by decide +kernel) rfl rfl (Nat.le_of_ble_eq_true rfl) (Nat.le_of_ble_eq_true rfl) (Nat.le_of_ble_eq_true rfl) rfl ?_
      simp only [Option.toList_some, Option.toList_none, List.cons_append, List.nil_append]
      refine g_blk [(.aload_n 0, .null)] (Nat.le_of_ble_eq_true rfl) (by decide +kernel) ?_
      refine gx_aload_n_0 ((gx_nil ?_))
      refine g_getf fX9_29 (by decide +kernel) hm rfl ?_
      refine g_blk [(.aload_n 0, .null)] (Nat.le_of_ble_eq_true rfl) (by decide +kernel) ?_
      refine gx_aload_n_0 ((gx_nil ?_))
      refine g_getf fX9_10 (by decide +kernel) hm rfl ?_
      refine g_getf fX9_66 (by decide +kernel) ho rfl ?_
      refine g_callV (rc' := 1) (rs' := 6) kX9_242 (tr_build HT hC hta HP hpc hps9 ht I.pv) (by decide +kernel) rfl rfl htt rfl (Nat.le_of_ble_eq_true rfl) (Nat.le_of_ble_eq_true rfl) (Nat.le_of_ble_eq_true rfl) (by omega) (by omega) rfl (fun _ _ z => z.elim) (fun v9 h5 hz => ?_)
      obtain ⟨rfl, C5, R5, k5, HT5, hI5, kt5⟩ := hz
      obtain ⟨G5, kf5, em5⟩ := hG h5 C5 R5 k5 HT5 hI5.2.2.2.2 kt5
      obtain ⟨nx5, o5, svv5, hl5, tt5, bu5, sb5, la5, ta5, ca5, da5, ba5, pa5, ep5, fl5, fq5, ls5, ps5, hm5, H5, I5, hB5⟩ := gMO.rd G5
      have ee5 := Option.some.inj (hm5.symm.trans em5)
      cases ee5
      have htt5 := HT5.1
      have ho5 := H5.1
      simp only [Option.toList_some, Option.toList_none, List.cons_append, List.nil_append]
      refine g_blk [(.aload_n 0, .null)] (Nat.le_of_ble_eq_true rfl) (by decide +kernel) ?_
      refine gx_aload_n_0 ((gx_nil ?_))
      refine g_getf fX9_29 (by decide +kernel) hm5 rfl ?_
      refine g_blk [(.iload_n 1, .null)] (Nat.le_of_ble_eq_true rfl) (by decide +kernel) ?_
      refine gx_iload_n_1 ((gx_nil ?_))
      refine g_pV kX9_246 (tr_route HT5 hI5 (by omega)) (by decide +kernel) rfl rfl htt5 rfl (Nat.le_of_ble_eq_true rfl) (Nat.le_of_ble_eq_true rfl) (Nat.le_of_ble_eq_true rfl) rfl ?_
      simp only [Option.toList_some, Option.toList_none, List.cons_append, List.nil_append]
      refine g_topE (eb.symm.trans hr) ?_
      refine g_callS (rc' := 0) (rs' := 0) kX9_239 (mo_foundRoute_no hp) (by decide +kernel) rfl rfl (Nat.le_of_ble_eq_true rfl) (Nat.le_of_ble_eq_true rfl) (Nat.le_of_ble_eq_true rfl) (by omega) (by omega) rfl (fun E h9 z => ?_) (fun _ _ z => z.elim)
      obtain ⟨rfl, rfl⟩ := z
      exact ⟨by rw [et]; exact n2x, by rw [et, nm2], G5.eqv (fun j hj => vU_n (by omega)) (fun _ _ => rfl), kf5⟩
    · have e0 : rT (bI (nI 0 ≤ (nI cd) ∧ (nI cd) ≤ nI 9999)) (bI ((nI 0 ≤ (nI cd) ∧ (nI cd) ≤ nI 9999) ∧ ¬ rRoute (F 0) (nI cd) (rtt (F 0)) = -1)) (nI 1) = 0 := by rw [bI_t hy, bI_t ⟨hy, hr⟩]; exact rT_0
      refine gC_wide (d := 8) (mc := 1) (ms := 6) ?_ (by decide) (by decide) (by decide)
      refine gC_of (by decide) rfl (Nat.le_of_ble_eq_true rfl) [some (.ref m), some (.int (nI cd))] rfl ?_
      refine g_blk [(.iload_n 1, .null)] (Nat.le_of_ble_eq_true rfl) (by decide +kernel) ?_
      refine gx_iload_n_1 ((gx_nil ?_))
      refine g_pS kX9_229 (mo_requireCode (cd_in (by omega))) (by decide +kernel) rfl rfl (Nat.le_of_ble_eq_true rfl) (Nat.le_of_ble_eq_true rfl) (Nat.le_of_ble_eq_true rfl) rfl ?_
      simp only [Option.toList_some, Option.toList_none, List.cons_append, List.nil_append]
      refine g_blk [(.aload_n 0, .null)] (Nat.le_of_ble_eq_true rfl) (by decide +kernel) ?_
      refine gx_aload_n_0 ((gx_nil ?_))
      refine g_getf fX9_29 (by decide +kernel) hm rfl ?_
      refine g_blk [(.aload_n 0, .null)] (Nat.le_of_ble_eq_true rfl) (by decide +kernel) ?_
      refine gx_aload_n_0 ((gx_nil ?_))
      refine g_getf fX9_10 (by decide +kernel) hm rfl ?_
      refine g_getf fX9_66 (by decide +kernel) ho rfl ?_
      refine g_callV (rc' := 0) (rs' := 0) kX9_242 (tr_build HT hC hta HP hpc hps9 ht I.pv) (by decide +kernel) rfl rfl htt rfl (Nat.le_of_ble_eq_true rfl) (Nat.le_of_ble_eq_true rfl) (Nat.le_of_ble_eq_true rfl) (by omega) (by omega) rfl (fun _ _ z => z.elim) (fun v9 h5 hz => ?_)
      obtain ⟨rfl, C5, R5, k5, HT5, hI5, kt5⟩ := hz
      obtain ⟨G5, kf5, em5⟩ := hG h5 C5 R5 k5 HT5 hI5.2.2.2.2 kt5
      obtain ⟨nx5, o5, svv5, hl5, tt5, bu5, sb5, la5, ta5, ca5, da5, ba5, pa5, ep5, fl5, fq5, ls5, ps5, hm5, H5, I5, hB5⟩ := gMO.rd G5
      have ee5 := Option.some.inj (hm5.symm.trans em5)
      cases ee5
      have htt5 := HT5.1
      have ho5 := H5.1
      simp only [Option.toList_some, Option.toList_none, List.cons_append, List.nil_append]
      refine g_blk [(.aload_n 0, .null)] (Nat.le_of_ble_eq_true rfl) (by decide +kernel) ?_
      refine gx_aload_n_0 ((gx_nil ?_))
      refine g_getf fX9_29 (by decide +kernel) hm5 rfl ?_
      refine g_blk [(.iload_n 1, .null)] (Nat.le_of_ble_eq_true rfl) (by decide +kernel) ?_
      refine gx_iload_n_1 ((gx_nil ?_))
      refine g_pV kX9_246 (tr_route HT5 hI5 (by omega)) (by decide +kernel) rfl rfl htt5 rfl (Nat.le_of_ble_eq_true rfl) (Nat.le_of_ble_eq_true rfl) (Nat.le_of_ble_eq_true rfl) rfl ?_
      simp only [Option.toList_some, Option.toList_none, List.cons_append, List.nil_append]
      rw [← eb]
      refine g_pS kX9_239 (mo_foundRoute hr) (by decide +kernel) rfl rfl (Nat.le_of_ble_eq_true rfl) (Nat.le_of_ble_eq_true rfl) (Nat.le_of_ble_eq_true rfl) rfl ?_
      simp only [Option.toList_some, Option.toList_none, List.cons_append, List.nil_append]
      refine g_end (some (.int _)) rfl ⟨by decide +kernel, _, rfl, rfl⟩ ?_
      exact ⟨e0, by rw [if_pos e0], G5.eqv (fun j hj => vU_n (by omega)) (fun _ _ => rfl), kf5⟩
  · have et : rT (bI (nI 0 ≤ code ∧ code ≤ nI 9999)) (bI ((nI 0 ≤ code ∧ code ≤ nI 9999) ∧ ¬ rRoute (F 0) code (rtt (F 0)) = -1)) (nI 1) = nI 1 := by rw [bI_f hy]; exact rT_1
    refine fC_no (d := 7) (mc := 1) (ms := 6) ?_ (by decide) (by decide) (by decide) (by rw [et]; exact n1x) (nmA _ et) G.self
    refine gC_of (by decide) rfl (Nat.le_of_ble_eq_true rfl) [some (.ref m), some (.int code)] rfl ?_
    refine g_blk [(.iload_n 1, .null)] (Nat.le_of_ble_eq_true rfl) (by decide +kernel) ?_
    refine gx_iload_n_1 ((gx_nil ?_))
    exact g_callS (rc' := 0) (rs' := 0) kX9_229 (mo_requireCode_no hp hy) (by decide +kernel) rfl rfl (Nat.le_of_ble_eq_true rfl) (Nat.le_of_ble_eq_true rfl) (Nat.le_of_ble_eq_true rfl) (Nat.le_refl _) (Nat.le_refl _) rfl (fun _ _ z => z) (fun _ _ z => z.elim)
end GFza
