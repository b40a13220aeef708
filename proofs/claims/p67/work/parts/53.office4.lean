section GOf4
variable {Γ : gE} {de : Nat} {h : gHp}
def gLate (N : Nat → Int32) (i : Nat) (rt : Int32) : Bool := decide (N (62 + 7 * i + 3) = 0 ∧ (nI 0 ≤ rt ∧ rt ≤ nI 5) ∧ N (8 + 3 * rIx rt) ≤ N 0)
theorem of_isLate {o c t la ta ca da ba pa ep : Nat} {fl fq ls ps : List Nat} {N : Nat → Int32} (H : gOx Γ de h o N c t la ta ca da ba pa ep fl fq ls ps) {i a : Nat} (hx9 : ls[i]? = some a) (rt : Int32) : pC Γ M_X4_isLate [.ref o, .ref a, .int rt] h 1 (some (.int (bI (gLate N i rt = true)))) := by
  have H0 := H
  obtain ⟨ho, HL, hlc, hls, hta, HP, hpc, hps, hep, ⟨fc, hca, hfc⟩, ⟨fd, hda, hfd⟩, ⟨fb, hba, hfb⟩⟩ := H0
  have hl9 := hls i a hx9
  refine pC_of (by decide) rfl (Nat.le_of_ble_eq_true rfl) [some (.ref o), some (.ref a), some (.int rt)] rfl ?_
  refine g_blk [(.aload_n 1, .null)] (Nat.le_of_ble_eq_true rfl) (by decide +kernel) ?_
  refine gx_aload_n_1 ((gx_nil ?_))
  refine g_getf fX4_137 (by decide +kernel) hl9 rfl ?_
  refine g_if_ne (off := 27) (tgt := 31) (by decide +kernel) (by decide) (fun c4 => ?_) (fun c4 => ?_)
  · try simp only [bI_0, Decidable.not_not] at c4
    refine g_blk [(.iconst 0, .int (nI 0))] (Nat.le_of_ble_eq_true rfl) (by decide +kernel) ?_
    refine gx_iconst ((gx_nil ?_))
    refine g_end (some (.int _)) rfl ⟨by decide +kernel, _, rfl, by first | rfl | exact bI_nar _⟩ ⟨?_, rfl⟩
    first | rw [bI_t (p := gLate N i (nI r) = true) (decide_eq_true ⟨c4, c11, by rw [rIx_nI (by omega)]; exact Int32.not_lt.mp c24⟩)] | rw [bI_f (p := gLate N i (nI r) = true) (fun z => absurd (of_decide_eq_true z).2.2 (by rw [rIx_nI (by omega)]; exact Int32.not_le.mpr c24))] | rw [bI_f (p := gLate N i rt = true) (fun z => c4 (of_decide_eq_true z).1)] | rw [bI_f (p := gLate N i rt = true) (fun z => c11 (of_decide_eq_true z).2.1)]
  · try simp only [bI_0, Decidable.not_not] at c4
    refine g_blk [(.iload_n 2, .null)] (Nat.le_of_ble_eq_true rfl) (by decide +kernel) ?_
    refine gx_iload_n_2 ((gx_nil ?_))
    refine g_pSN kX4_95 (pc_isRoute _) (by decide +kernel) rfl rfl (Nat.le_of_ble_eq_true rfl) (Nat.le_of_ble_eq_true rfl) (Nat.le_of_ble_eq_true rfl) rfl ?_
    try simp only [Option.toList_some, Option.toList_none, List.cons_append, List.nil_append, bI_0, n1_0, n0_0, Decidable.not_not, not_true_eq_false, not_false_eq_true, nI_add, Nat.add_zero, Nat.zero_add, Nat.reduceAdd]
    refine g_if_eq (off := 20) (tgt := 31) (by decide +kernel) (by decide) (fun c11 => ?_) (fun c11 => ?_)
    · try simp only [bI_0, Decidable.not_not] at c11
      refine g_blk [(.iconst 0, .int (nI 0))] (Nat.le_of_ble_eq_true rfl) (by decide +kernel) ?_
      refine gx_iconst ((gx_nil ?_))
      refine g_end (some (.int _)) rfl ⟨by decide +kernel, _, rfl, by first | rfl | exact bI_nar _⟩ ⟨?_, rfl⟩
      first | rw [bI_t (p := gLate N i (nI r) = true) (decide_eq_true ⟨c4, c11, by rw [rIx_nI (by omega)]; exact Int32.not_lt.mp c24⟩)] | rw [bI_f (p := gLate N i (nI r) = true) (fun z => absurd (of_decide_eq_true z).2.2 (by rw [rIx_nI (by omega)]; exact Int32.not_le.mpr c24))] | rw [bI_f (p := gLate N i rt = true) (fun z => c4 (of_decide_eq_true z).1)] | rw [bI_f (p := gLate N i rt = true) (fun z => c11 (of_decide_eq_true z).2.1)]
    · try simp only [bI_0, Decidable.not_not] at c11
      obtain ⟨r, hr6, rfl⟩ : ∃ r, r < 6 ∧ rt = nI r := ⟨rIx rt, (r5_lt c11).2, (r5_lt c11).1⟩
      refine g_blk [(.aload_n 0, .null)] (Nat.le_of_ble_eq_true rfl) (by decide +kernel) ?_
      refine gx_aload_n_0 ((gx_nil ?_))
      refine g_getf fX4_35 (by decide +kernel) ho rfl ?_
      refine g_blk [(.aload_n 0, .null)] (Nat.le_of_ble_eq_true rfl) (by decide +kernel) ?_
      refine gx_aload_n_0 ((gx_nil ?_))
      refine g_getf fX4_25 (by decide +kernel) ho rfl ?_
      refine g_blk [(.iload_n 2, .null)] (Nat.le_of_ble_eq_true rfl) (by decide +kernel) ?_
      refine gx_iload_n_2 ((gx_nil ?_))
      refine g_iaload (by decide +kernel) hca (vp_in_nI hr6 (by omega)) ?_
      rw [nI_clamp (by omega), hfc r hr6]
      refine g_icmp_lt (off := 7) (tgt := 31) (by decide +kernel) (by decide) (fun c24 => ?_) (fun c24 => ?_)
      · try simp only [bI_0, Decidable.not_not] at c24
        refine g_blk [(.iconst 0, .int (nI 0))] (Nat.le_of_ble_eq_true rfl) (by decide +kernel) ?_
        refine gx_iconst ((gx_nil ?_))
        refine g_end (some (.int _)) rfl ⟨by decide +kernel, _, rfl, by first | rfl | exact bI_nar _⟩ ⟨?_, rfl⟩
        first | rw [bI_t (p := gLate N i (nI r) = true) (decide_eq_true ⟨c4, c11, by rw [rIx_nI (by omega)]; exact Int32.not_lt.mp c24⟩)] | rw [bI_f (p := gLate N i (nI r) = true) (fun z => absurd (of_decide_eq_true z).2.2 (by rw [rIx_nI (by omega)]; exact Int32.not_le.mpr c24))] | rw [bI_f (p := gLate N i rt = true) (fun z => c4 (of_decide_eq_true z).1)] | rw [bI_f (p := gLate N i rt = true) (fun z => c11 (of_decide_eq_true z).2.1)]
      · try simp only [bI_0, Decidable.not_not] at c24
        refine g_blk [(.iconst 1, .int (nI 1)), (.goto 4, .retAddr 32)] (Nat.le_of_ble_eq_true rfl) (by decide +kernel) ?_
        refine gx_iconst (gx_goto ((gx_nil ?_)))
        refine g_end (some (.int _)) rfl ⟨by decide +kernel, _, rfl, by first | rfl | exact bI_nar _⟩ ⟨?_, rfl⟩
        first | rw [bI_t (p := gLate N i (nI r) = true) (decide_eq_true ⟨c4, c11, by rw [rIx_nI (by omega)]; exact Int32.not_lt.mp c24⟩)] | rw [bI_f (p := gLate N i (nI r) = true) (fun z => absurd (of_decide_eq_true z).2.2 (by rw [rIx_nI (by omega)]; exact Int32.not_le.mpr c24))] | rw [bI_f (p := gLate N i rt = true) (fun z => c4 (of_decide_eq_true z).1)] | rw [bI_f (p := gLate N i rt = true) (fun z => c11 (of_decide_eq_true z).2.1)]
theorem rFst_none {p : Nat → Bool} : ∀ {b : Nat}, (∀ i, i < b → ¬ p i = true) → rFst p b = none
  | 0, _ => rfl
  | b + 1, hn => by
    unfold rFst
    rw [rFst_none (fun i hi => hn i (Nat.lt_succ_of_lt hi))]
    dsimp only
    rw [if_neg (hn b (Nat.lt_succ_self _))]
theorem rFst_at {p : Nat → Bool} {i : Nat} (hp : p i = true) (hn : ∀ j, j < i → ¬ p j = true) : ∀ {b : Nat}, i < b → rFst p b = some i
  | 0, hi => absurd hi (Nat.not_lt_zero _)
  | b + 1, hi => by
    unfold rFst
    by_cases z : i = b
    · subst z
      rw [rFst_none hn]
      dsimp only
      rw [if_pos hp]
    · rw [rFst_at hp hn (show i < b by omega)]
def gBf (N : Nat → Int32) (i : Nat) (rt : Int32) (c : Nat) : Int32 := if rGo N i rt c (rOp N rt) = true then rBag N rt (N (62 + 7 * i + 2)) c (rOp N rt) else -1
theorem gBf_ne {N : Nat → Int32} {i c : Nat} {rt : Int32} : ¬ gBf N i rt c = -1 ↔ rGo N i rt c (rOp N rt) = true := by
  unfold gBf
  by_cases z : rGo N i rt c (rOp N rt) = true
  · rw [if_pos z]
    exact ⟨fun _ => z, fun _ => (of_decide_eq_true z).2.2.2⟩
  · rw [if_neg z]
    exact ⟨fun y => absurd rfl y, fun y => absurd y z⟩
/-- bag or none, said without the last part of 'rGo' -/
theorem gBf_of {N : Nat → Int32} {i c : Nat} {rt : Int32} (h1 : N (62 + 7 * i + 5) = -1) (h2 : nI 0 ≤ rt ∧ rt ≤ nI 5) (h3 : N (62 + 7 * i + 3) = nI 1 ∨ N 0 < N (8 + 3 * rIx rt)) : gBf N i rt c = rBag N rt (N (62 + 7 * i + 2)) c (rOp N rt) := by
  unfold gBf
  by_cases z : rBag N rt (N (62 + 7 * i + 2)) c (rOp N rt) = -1
  · rw [if_neg (fun y => (of_decide_eq_true y).2.2.2 z), z]
  · rw [if_pos (show rGo N i rt c (rOp N rt) = true from decide_eq_true ⟨h1, h2, h3, z⟩)]
theorem gBf_no {N : Nat → Int32} {i c : Nat} {rt : Int32} (h : ¬ (N (62 + 7 * i + 5) = -1 ∧ (nI 0 ≤ rt ∧ rt ≤ nI 5) ∧ (N (62 + 7 * i + 3) = nI 1 ∨ N 0 < N (8 + 3 * rIx rt)))) : gBf N i rt c = -1 := if_neg (fun z => h ⟨(of_decide_eq_true z).1, (of_decide_eq_true z).2.1, (of_decide_eq_true z).2.2.1⟩)
theorem of_bagFor {o c t la ta ca da ba pa ep : Nat} {fl fq ls ps : List Nat} {N : Nat → Int32} (H : gOx Γ de h o N c t la ta ca da ba pa ep fl fq ls ps) (hc : c ≤ 20) (ht : t ≤ 12) (hv : rPv N t) (hw : rLv1 N c) (hOK : rOK N) {i a : Nat} (hx9 : ls[i]? = some a) (rt : Int32) : pC Γ M_X4_bagFor [.ref o, .ref a, .int rt] h 4 (some (.int (gBf N i rt c))) := by
  have H0 := H
  obtain ⟨ho, HL, hlc, hls, hta, HP, hpc, hps, hep, ⟨fc, hca, hfc⟩, ⟨fd, hda, hfd⟩, ⟨fb, hba, hfb⟩⟩ := H0
  have hic : i < c := by rw [← hlc]; exact (List.getElem?_eq_some_iff.mp hx9).1
  have hl9 := hls i a hx9
  obtain ⟨m, cd, w, pr, q, em, hm, ec, hcd, ew, hw1, hw2, ep', hpr, eq, hq, eA⟩ := hw i hic
  have loop : (N (62 + 7 * i + 5) = -1) → (nI 0 ≤ rt ∧ rt ≤ nI 5) → (N (62 + 7 * i + 3) = nI 1 ∨ N 0 < N (8 + 3 * rIx rt)) → ∀ n b, b ≤ rOp N rt → rOp N rt < b + n → (∀ j, j < b → ¬ rFits N rt (N (62 + 7 * i + 2)) c j = true) → pG Γ M_X4_bagFor 4 (some (.int (gBf N i rt c))) h 35 [some (.ref o), some (.ref a), some (.int rt), some (.int (nI (rOp N rt))), some (.int (nI b))] [] := by
    intro g1 g2 g3 n
    have hop := hOK.get rt
    have hrn : ¬ rt = -1 := fun z => by rw [z] at g2; exact absurd g2.1 (by decide)
    induction n with
    | zero => intro b h1 h2; omega
    | succ n ih =>
      intro b hi hn hno
      refine g_blk [(.iload 4, .null), (.iload_n 3, .null)] (Nat.le_of_ble_eq_true rfl) (by decide +kernel) ?_
      refine gx_iload_4 (gx_iload_n_3 ((gx_nil ?_)))
      refine g_icmp_ge (off := 30) (tgt := 68) (by decide +kernel) (by decide) (fun c38 => ?_) (fun c38 => ?_)
      · try simp only [bI_0, Decidable.not_not] at c38
        have hic2 : b = rOp N rt := by
          have := (nI_leI (by omega) (by omega)).mp c38
          omega
        rw [hic2] at hno
        refine g_blk [(.iload_n 3, .null), (.iconst 3, .int (nI 3))] (Nat.le_of_ble_eq_true rfl) (by decide +kernel) ?_
        refine gx_iload_n_3 (gx_iconst ((gx_nil ?_)))
        refine g_icmp_ge (off := 7) (tgt := 77) (by decide +kernel) (by decide) (fun c70 => ?_) (fun c70 => ?_)
        · try simp only [bI_0, Decidable.not_not] at c70
          refine g_blk [(.iconst (-1), .int (-1))] (Nat.le_of_ble_eq_true rfl) (by decide +kernel) ?_
          refine gx_iconst ((gx_nil ?_))
          refine g_end (some (.int _)) rfl ⟨by decide +kernel, _, rfl, rfl⟩ ⟨?_, rfl⟩
          rw [gBf_of g1 g2 g3]
          unfold rBag
          rw [rFst_none hno]
          dsimp only
          rw [if_neg (fun z => absurd (nI_lt z (by omega)) (Int32.not_lt.mpr c70))]
        · try simp only [bI_0, Decidable.not_not] at c70
          refine g_blk [(.iload_n 3, .null), (.goto 4, .retAddr 78)] (Nat.le_of_ble_eq_true rfl) (by decide +kernel) ?_
          refine gx_iload_n_3 (gx_goto ((gx_nil ?_)))
          refine g_end (some (.int _)) rfl ⟨by decide +kernel, _, rfl, rfl⟩ ⟨?_, rfl⟩
          rw [gBf_of g1 g2 g3]
          unfold rBag
          rw [rFst_none hno]
          dsimp only
          rw [if_pos ((nI_ltI (by omega) (by omega)).mp (Int32.not_le.mp c70))]
      · try simp only [bI_0, Decidable.not_not] at c38
        have hic2 : b < rOp N rt := by
          rcases Nat.lt_or_ge b (rOp N rt) with q | q
          · exact q
          · exact absurd (nI_le q (by omega)) c38
        refine g_blk [(.aload_n 0, .null), (.iload_n 2, .null), (.iload 4, .null)] (Nat.le_of_ble_eq_true rfl) (by decide +kernel) ?_
        refine gx_aload_n_0 (gx_iload_n_2 (gx_iload_4 ((gx_nil ?_))))
        refine g_pV kX4_130 (of_weightInBag H hc hrn (nI_nm1 (by omega))) (by decide +kernel) rfl rfl ho rfl (Nat.le_of_ble_eq_true rfl) (Nat.le_of_ble_eq_true rfl) (Nat.le_of_ble_eq_true rfl) rfl ?_
        try simp only [Option.toList_some, Option.toList_none, List.cons_append, List.nil_append, bI_0, n1_0, n0_0, Decidable.not_not, not_true_eq_false, not_false_eq_true, nI_add, Nat.add_zero, Nat.zero_add, Nat.reduceAdd]
        refine g_blk [(.aload_n 1, .null)] (Nat.le_of_ble_eq_true rfl) (by decide +kernel) ?_
        refine gx_aload_n_1 ((gx_nil ?_))
        refine g_getf fX4_134 (by decide +kernel) hl9 rfl ?_
        refine g_blk [(.iadd, .null), (.sipush 150, .int (nI 150))] (Nat.le_of_ble_eq_true rfl) (by decide +kernel) ?_
        refine gx_iadd (gx_sipush ((gx_nil ?_)))
        try simp only [nI_add, Nat.add_zero, Nat.zero_add, Nat.reduceAdd]
        refine g_icmp_gt (off := 6) (tgt := 62) (by decide +kernel) (by decide) (fun c56 => ?_) (fun c56 => ?_)
        · try simp only [bI_0, Decidable.not_not] at c56
          refine g_blk [(.iinc 4 1, .int (nI 1)), (.goto (-30), .retAddr 35)] (Nat.le_of_ble_eq_true rfl) (by decide +kernel) ?_
          refine gx_iinc_4 rfl (gx_goto ((gx_nil ?_)))
          try simp only [nI_add, Nat.add_zero, Nat.zero_add, Nat.reduceAdd]
          refine ih (b + 1) (by omega) (by omega) (fun j hj => ?_)
          rcases Nat.lt_or_ge j b with q | q
          · exact hno j q
          · obtain rfl : j = b := by omega
            exact fun z => absurd (of_decide_eq_true z) (Int32.not_le.mpr c56)
        · try simp only [bI_0, Decidable.not_not] at c56
          refine g_blk [(.iload 4, .null)] (Nat.le_of_ble_eq_true rfl) (by decide +kernel) ?_
          refine gx_iload_4 ((gx_nil ?_))
          refine g_end (some (.int _)) rfl ⟨by decide +kernel, _, rfl, rfl⟩ ⟨?_, rfl⟩
          rw [gBf_of g1 g2 g3]
          unfold rBag
          rw [rFst_at (show rFits N rt (N (62 + 7 * i + 2)) c b = true from decide_eq_true (Int32.not_lt.mp c56)) hno hic2]
  refine pC_of (by decide) rfl (Nat.le_of_ble_eq_true rfl) [some (.ref o), some (.ref a), some (.int rt), none, none] rfl ?_
  refine g_blk [(.aload_n 1, .null)] (Nat.le_of_ble_eq_true rfl) (by decide +kernel) ?_
  refine gx_aload_n_1 ((gx_nil ?_))
  refine g_pV kX4_102 (le_inTray hl9) (by decide +kernel) rfl rfl hl9 rfl (Nat.le_of_ble_eq_true rfl) (Nat.le_of_ble_eq_true rfl) (Nat.le_of_ble_eq_true rfl) rfl ?_
  try simp only [Option.toList_some, Option.toList_none, List.cons_append, List.nil_append, bI_0, n1_0, n0_0, Decidable.not_not, not_true_eq_false, not_false_eq_true, nI_add, Nat.add_zero, Nat.zero_add, Nat.reduceAdd]
  refine g_if_eq (off := 19) (tgt := 23) (by decide +kernel) (by decide) (fun c4 => ?_) (fun c4 => ?_)
  · try simp only [bI_0, Decidable.not_not] at c4
    refine g_blk [(.iconst (-1), .int (-1))] (Nat.le_of_ble_eq_true rfl) (by decide +kernel) ?_
    refine gx_iconst ((gx_nil ?_))
    refine g_end (some (.int _)) rfl ⟨by decide +kernel, _, rfl, rfl⟩ ⟨?_, rfl⟩
    rw [gBf_no (fun z => c4 z.1)]
  · try simp only [bI_0, Decidable.not_not] at c4
    refine g_blk [(.iload_n 2, .null)] (Nat.le_of_ble_eq_true rfl) (by decide +kernel) ?_
    refine gx_iload_n_2 ((gx_nil ?_))
    refine g_pSN kX4_95 (pc_isRoute _) (by decide +kernel) rfl rfl (Nat.le_of_ble_eq_true rfl) (Nat.le_of_ble_eq_true rfl) (Nat.le_of_ble_eq_true rfl) rfl ?_
    try simp only [Option.toList_some, Option.toList_none, List.cons_append, List.nil_append, bI_0, n1_0, n0_0, Decidable.not_not, not_true_eq_false, not_false_eq_true, nI_add, Nat.add_zero, Nat.zero_add, Nat.reduceAdd]
    refine g_if_eq (off := 12) (tgt := 23) (by decide +kernel) (by decide) (fun c11 => ?_) (fun c11 => ?_)
    · try simp only [bI_0, Decidable.not_not] at c11
      refine g_blk [(.iconst (-1), .int (-1))] (Nat.le_of_ble_eq_true rfl) (by decide +kernel) ?_
      refine gx_iconst ((gx_nil ?_))
      refine g_end (some (.int _)) rfl ⟨by decide +kernel, _, rfl, rfl⟩ ⟨?_, rfl⟩
      rw [gBf_no (fun z => c11 z.2.1)]
    · try simp only [bI_0, Decidable.not_not] at c11
      refine g_blk [(.aload_n 0, .null), (.aload_n 1, .null), (.iload_n 2, .null)] (Nat.le_of_ble_eq_true rfl) (by decide +kernel) ?_
      refine gx_aload_n_0 (gx_aload_n_1 (gx_iload_n_2 ((gx_nil ?_))))
      refine g_pV kX4_126 (of_isLate H hx9 rt) (by decide +kernel) rfl rfl ho rfl (Nat.le_of_ble_eq_true rfl) (Nat.le_of_ble_eq_true rfl) (Nat.le_of_ble_eq_true rfl) rfl ?_
      try simp only [Option.toList_some, Option.toList_none, List.cons_append, List.nil_append, bI_0, n1_0, n0_0, Decidable.not_not, not_true_eq_false, not_false_eq_true, nI_add, Nat.add_zero, Nat.zero_add, Nat.reduceAdd]
      refine g_if_eq (off := 5) (tgt := 25) (by decide +kernel) (by decide) (fun c20 => ?_) (fun c20 => ?_)
      · try simp only [bI_0, Decidable.not_not] at c20
        have hz3 : nI 0 = (0 : Int32) := by decide
        have hop := hOK.get rt
        have g3 : N (62 + 7 * i + 3) = nI 1 ∨ N 0 < N (8 + 3 * rIx rt) := by
          by_cases y : N (62 + 7 * i + 3) = 0
          · refine Or.inr (Int32.not_le.mp (fun z => c20 (decide_eq_true ⟨y, c11, z⟩)))
          · refine Or.inl ?_
            rw [ep'] at y ⊢
            rcases (show pr = 0 ∨ pr = 1 by omega) with z | z
            · subst z; exact absurd hz3 y
            · rw [z]
        obtain ⟨r5, hr5, er5⟩ : ∃ r, r < 6 ∧ rt = nI r := ⟨rIx rt, (r5_lt c11).2, (r5_lt c11).1⟩
        have hba9 : ((Int32.toNatClampNeg rt) : Nat) = r5 := by rw [er5, nI_clamp (by omega)]
        have hbg : fb r5 = nI (rOp N rt) := by rw [hfb r5 hr5, ← hop.2, er5, rIx_nI (by omega)]
        refine g_blk [(.aload_n 0, .null)] (Nat.le_of_ble_eq_true rfl) (by decide +kernel) ?_
        refine gx_aload_n_0 ((gx_nil ?_))
        refine g_getf fX4_32 (by decide +kernel) ho rfl ?_
        refine g_blk [(.iload_n 2, .null)] (Nat.le_of_ble_eq_true rfl) (by decide +kernel) ?_
        refine gx_iload_n_2 ((gx_nil ?_))
        refine g_iaload (by decide +kernel) hba (by rw [er5]; exact vp_in_nI hr5 (by omega)) ?_
        rw [hba9, hbg]
        refine g_blk [(.istore_n 3, .null), (.iconst 0, .int (nI 0)), (.istore 4, .null)] (Nat.le_of_ble_eq_true rfl) (by decide +kernel) ?_
        refine gx_istore_n_3 rfl (gx_iconst (gx_istore_4 rfl ((gx_nil ?_))))
        exact loop c4 c11 g3 (rOp N rt + 1) 0 (Nat.zero_le _) (by omega) (fun j hj => absurd hj (Nat.not_lt_zero _))
      · try simp only [bI_0, Decidable.not_not] at c20
        refine g_blk [(.iconst (-1), .int (-1))] (Nat.le_of_ble_eq_true rfl) (by decide +kernel) ?_
        refine gx_iconst ((gx_nil ?_))
        refine g_end (some (.int _)) rfl ⟨by decide +kernel, _, rfl, rfl⟩ ⟨?_, rfl⟩
        have hlt := of_decide_eq_true (show gLate N i rt = true from c20)
        rw [gBf_no (fun z => by
          rcases z.2.2 with y | y
          · rw [hlt.1] at y; exact absurd y (by decide)
          · exact absurd y (Int32.not_lt.mpr hlt.2.2))]
theorem of_sortingBag {o c t la ta ca da ba pa ep : Nat} {fl fq ls ps : List Nat} {N : Nat → Int32} (H : gOx Γ de h o N c t la ta ca da ba pa ep fl fq ls ps) (hc : c ≤ 20) (ht : t ≤ 12) (hv : rPv N t) (hw : rLv1 N c) (hOK : rOK N) {i a : Nat} (hx9 : ls[i]? = some a) : pC Γ M_X4_sortingBag [.ref o, .ref a] h 6 (some (.int (gBf N i (rLR N i t) c))) := by
  have H0 := H
  obtain ⟨ho, HL, hlc, hls, hta, HP, hpc, hps, hep, ⟨fc, hca, hfc⟩, ⟨fd, hda, hfd⟩, ⟨fb, hba, hfb⟩⟩ := H0
  have hic : i < c := by rw [← hlc]; exact (List.getElem?_eq_some_iff.mp hx9).1
  have hl9 := hls i a hx9
  obtain ⟨m, cd, w, pr, q, em, hm, ec, hcd, ew, hw1, hw2, ep', hpr, eq, hq, eA⟩ := hw i hic
  refine pC_of (by decide) rfl (Nat.le_of_ble_eq_true rfl) [some (.ref o), some (.ref a)] rfl ?_
  refine g_blk [(.aload_n 0, .null), (.aload_n 1, .null), (.aload_n 0, .null), (.aload_n 1, .null)] (Nat.le_of_ble_eq_true rfl) (by decide +kernel) ?_
  refine gx_aload_n_0 (gx_aload_n_1 (gx_aload_n_0 (gx_aload_n_1 ((gx_nil ?_)))))
  refine g_pV kX4_116 (of_routeByCode H hc ht hv hw hx9) (by decide +kernel) rfl rfl ho rfl (Nat.le_of_ble_eq_true rfl) (Nat.le_of_ble_eq_true rfl) (Nat.le_of_ble_eq_true rfl) rfl ?_
  try simp only [Option.toList_some, Option.toList_none, List.cons_append, List.nil_append, bI_0, n1_0, n0_0, Decidable.not_not, not_true_eq_false, not_false_eq_true, nI_add, Nat.add_zero, Nat.zero_add, Nat.reduceAdd]
  refine g_pV kX4_119 (of_bagFor H hc ht hv hw hOK hx9 _) (by decide +kernel) rfl rfl ho rfl (Nat.le_of_ble_eq_true rfl) (Nat.le_of_ble_eq_true rfl) (Nat.le_of_ble_eq_true rfl) rfl ?_
  try simp only [Option.toList_some, Option.toList_none, List.cons_append, List.nil_append, bI_0, n1_0, n0_0, Decidable.not_not, not_true_eq_false, not_false_eq_true, nI_add, Nat.add_zero, Nat.zero_add, Nat.reduceAdd]
  refine g_end (some (.int _)) rfl ⟨by decide +kernel, _, rfl, rfl⟩ ⟨?_, rfl⟩
  rfl
/-- a route out of the table is one -/
theorem rLR_in {N : Nat → Int32} {i t : Nat} (ht : t ≤ 12) (hv : rPv N t) : rLR N i t = -1 ∨ (nI 0 ≤ rLR N i t ∧ rLR N i t ≤ nI 5) := by
  unfold rLR rRoute
  rcases rMatch_in (N := N) (dg := N (62 + 7 * i + 1)) (ln := nI 4) (most := nI 4) (c := t) with z | ⟨k, hk, z⟩
  · rw [if_pos z]; exact Or.inl rfl
  · rw [z, if_neg (nI_nm1 (by omega)), nI_clamp (by omega)]
    obtain ⟨dg, ln, rt, -, -, e, -, -, -, h5⟩ := hv k hk
    rw [e]
    exact Or.inr ⟨nI_le (by omega) (by omega), nI_le h5 (by omega)⟩
theorem gLate_iff {N : Nat → Int32} {i t : Nat} (ht : t ≤ 12) (hv : rPv N t) : gLate N i (rLR N i t) = true ↔ (N (62 + 7 * i + 3) = 0 ∧ ¬ rLR N i t = -1 ∧ N (8 + 3 * rIx (rLR N i t) + 0) ≤ N 0) := by
  constructor
  · intro z
    have y := of_decide_eq_true z
    exact ⟨y.1, fun x => by rw [x] at y; exact absurd y.2.1.1 (by decide), y.2.2⟩
  · rintro ⟨z1, z2, z3⟩
    exact decide_eq_true ⟨z1, (rLR_in ht hv).resolve_left z2, z3⟩
theorem of_countLate {o c t la ta ca da ba pa ep : Nat} {fl fq ls ps : List Nat} {N : Nat → Int32} (H : gOx Γ de h o N c t la ta ca da ba pa ep fl fq ls ps) (hc : c ≤ 20) (ht : t ≤ 12) (hv : rPv N t) (hw : rLv1 N c) : pC Γ M_X4_countLate [.ref o] h 6 (some (.int (rLt N t c))) := by
  have H0 := H
  obtain ⟨ho, HL, hlc, hls, hta, HP, hpc, hps, hep, ⟨fc, hca, hfc⟩, ⟨fd, hda, hfd⟩, ⟨fb, hba, hfb⟩⟩ := H0
  have loop : ∀ n i, i ≤ c → c < i + n → pG Γ M_X4_countLate 6 (some (.int (rLt N t c))) h 4 [some (.ref o), some (.int (rLt N t i)), some (.int (nI i)), none] [] := by
    intro n
    induction n with
    | zero => intro i h1 h2; omega
    | succ n ih =>
      intro i hi hn
      refine g_blk [(.iload_n 2, .null), (.aload_n 0, .null)] (Nat.le_of_ble_eq_true rfl) (by decide +kernel) ?_
      refine gx_iload_n_2 (gx_aload_n_0 ((gx_nil ?_)))
      refine g_getf fX4_12 (by decide +kernel) ho rfl ?_
      refine g_pV kX4_55 (al_size HL) (by decide +kernel) rfl rfl (al_cell HL) rfl (Nat.le_of_ble_eq_true rfl) (Nat.le_of_ble_eq_true rfl) (Nat.le_of_ble_eq_true rfl) rfl ?_
      simp only [Option.toList_some, List.cons_append, List.nil_append]
      rw [hlc]
      refine g_icmp_ge (off := 44) (tgt := 56) (by decide +kernel) (by decide) (fun c12 => ?_) (fun c12 => ?_)
      · try simp only [bI_0, Decidable.not_not] at c12
        have hic : c = i := by
          have := (nI_leI (by omega) (by omega)).mp c12
          omega
        subst hic
        refine g_blk [(.iload_n 1, .null)] (Nat.le_of_ble_eq_true rfl) (by decide +kernel) ?_
        refine gx_iload_n_1 ((gx_nil ?_))
        refine g_end (some (.int _)) rfl ⟨by decide +kernel, _, rfl, rfl⟩ ⟨?_, rfl⟩
        rfl
      · try simp only [bI_0, Decidable.not_not] at c12
        have hic : i < c := by
          rcases Nat.lt_or_ge i c with q | q
          · exact q
          · exact absurd (nI_le q (by omega)) c12
        obtain ⟨a9, hx9⟩ : ∃ z, ls[i]? = some z := ⟨_, List.getElem?_eq_getElem (by omega)⟩
        have hl9 := hls i a9 hx9
        refine g_blk [(.aload_n 0, .null)] (Nat.le_of_ble_eq_true rfl) (by decide +kernel) ?_
        refine gx_aload_n_0 ((gx_nil ?_))
        refine g_getf fX4_12 (by decide +kernel) ho rfl ?_
        refine g_blk [(.iload_n 2, .null)] (Nat.le_of_ble_eq_true rfl) (by decide +kernel) ?_
        refine gx_iload_n_2 ((gx_nil ?_))
        refine g_pV kX4_59 (al_get HL hx9) (by decide +kernel) rfl rfl (al_cell HL) rfl (Nat.le_of_ble_eq_true rfl) (Nat.le_of_ble_eq_true rfl) (Nat.le_of_ble_eq_true rfl) rfl ?_
        try simp only [Option.toList_some, Option.toList_none, List.cons_append, List.nil_append, bI_0, n1_0, n0_0, Decidable.not_not, not_true_eq_false, not_false_eq_true, nI_add, Nat.add_zero, Nat.zero_add, Nat.reduceAdd]
        refine g_castO hl9 rfl rfl (clX4_63) (by decide +kernel) ?_
        refine g_blk [(.astore_n 3, .null), (.aload_n 3, .null)] (Nat.le_of_ble_eq_true rfl) (by decide +kernel) ?_
        refine gx_astore_n_3 rfl (gx_aload_n_3 ((gx_nil ?_)))
        refine g_pV kX4_102 (le_inTray hl9) (by decide +kernel) rfl rfl hl9 rfl (Nat.le_of_ble_eq_true rfl) (Nat.le_of_ble_eq_true rfl) (Nat.le_of_ble_eq_true rfl) rfl ?_
        try simp only [Option.toList_some, Option.toList_none, List.cons_append, List.nil_append, bI_0, n1_0, n0_0, Decidable.not_not, not_true_eq_false, not_false_eq_true, nI_add, Nat.add_zero, Nat.zero_add, Nat.reduceAdd]
        refine g_if_eq (off := 19) (tgt := 50) (by decide +kernel) (by decide) (fun c31 => ?_) (fun c31 => ?_)
        · try simp only [bI_0, Decidable.not_not] at c31
          refine g_blk [(.iinc 2 1, .int (nI 1)), (.goto (-49), .retAddr 4)] (Nat.le_of_ble_eq_true rfl) (by decide +kernel) ?_
          refine gx_iinc_2 rfl (gx_goto ((gx_nil ?_)))
          try simp only [nI_add, Nat.add_zero, Nat.zero_add, Nat.reduceAdd]
          have e9 := ih (i + 1) (by omega) (by omega)
          rw [show rLt N t (i + 1) = rLt N t i + (if N (62 + 7 * i + 5) = -1 ∧ N (62 + 7 * i + 3) = 0 ∧ ¬ rLR N i t = -1 ∧ N (8 + 3 * rIx (rLR N i t) + 0) ≤ N 0 then nI 1 else nI 0) from rfl, if_neg (fun z => c31 z.1), a_n0] at e9
          exact g_wk (by simp [gLe, nI_add]) e9
        · try simp only [bI_0, Decidable.not_not] at c31
          refine g_blk [(.aload_n 0, .null), (.aload_n 3, .null), (.aload_n 0, .null), (.aload_n 3, .null)] (Nat.le_of_ble_eq_true rfl) (by decide +kernel) ?_
          refine gx_aload_n_0 (gx_aload_n_3 (gx_aload_n_0 (gx_aload_n_3 ((gx_nil ?_)))))
          refine g_pV kX4_116 (of_routeByCode H hc ht hv hw hx9) (by decide +kernel) rfl rfl ho rfl (Nat.le_of_ble_eq_true rfl) (Nat.le_of_ble_eq_true rfl) (Nat.le_of_ble_eq_true rfl) rfl ?_
          try simp only [Option.toList_some, Option.toList_none, List.cons_append, List.nil_append, bI_0, n1_0, n0_0, Decidable.not_not, not_true_eq_false, not_false_eq_true, nI_add, Nat.add_zero, Nat.zero_add, Nat.reduceAdd]
          refine g_pV kX4_126 (of_isLate H hx9 _) (by decide +kernel) rfl rfl ho rfl (Nat.le_of_ble_eq_true rfl) (Nat.le_of_ble_eq_true rfl) (Nat.le_of_ble_eq_true rfl) rfl ?_
          try simp only [Option.toList_some, Option.toList_none, List.cons_append, List.nil_append, bI_0, n1_0, n0_0, Decidable.not_not, not_true_eq_false, not_false_eq_true, nI_add, Nat.add_zero, Nat.zero_add, Nat.reduceAdd]
          refine g_if_eq (off := 6) (tgt := 50) (by decide +kernel) (by decide) (fun c44 => ?_) (fun c44 => ?_)
          · try simp only [bI_0, Decidable.not_not] at c44
            refine g_blk [(.iinc 2 1, .int (nI 1)), (.goto (-49), .retAddr 4)] (Nat.le_of_ble_eq_true rfl) (by decide +kernel) ?_
            refine gx_iinc_2 rfl (gx_goto ((gx_nil ?_)))
            try simp only [nI_add, Nat.add_zero, Nat.zero_add, Nat.reduceAdd]
            have e9 := ih (i + 1) (by omega) (by omega)
            rw [show rLt N t (i + 1) = rLt N t i + (if N (62 + 7 * i + 5) = -1 ∧ N (62 + 7 * i + 3) = 0 ∧ ¬ rLR N i t = -1 ∧ N (8 + 3 * rIx (rLR N i t) + 0) ≤ N 0 then nI 1 else nI 0) from rfl, if_neg (fun z => c44 ((gLate_iff ht hv).mpr ⟨z.2.1, z.2.2.1, z.2.2.2⟩)), a_n0] at e9
            exact g_wk (by simp [gLe, nI_add]) e9
          · try simp only [bI_0, Decidable.not_not] at c44
            refine g_blk [(.iinc 1 1, .int (nI 1)), (.iinc 2 1, .int (nI 1)), (.goto (-49), .retAddr 4)] (Nat.le_of_ble_eq_true rfl) (by decide +kernel) ?_
            refine gx_iinc_1 rfl (gx_iinc_2 rfl (gx_goto ((gx_nil ?_))))
            try simp only [nI_add, Nat.add_zero, Nat.zero_add, Nat.reduceAdd]
            have e9 := ih (i + 1) (by omega) (by omega)
            rw [show rLt N t (i + 1) = rLt N t i + (if N (62 + 7 * i + 5) = -1 ∧ N (62 + 7 * i + 3) = 0 ∧ ¬ rLR N i t = -1 ∧ N (8 + 3 * rIx (rLR N i t) + 0) ≤ N 0 then nI 1 else nI 0) from rfl, if_pos (⟨c31, (gLate_iff ht hv).mp c44⟩)] at e9
            exact g_wk (by simp [gLe, nI_add]) e9
  refine pC_of (by decide) rfl (Nat.le_of_ble_eq_true rfl) [some (.ref o), none, none, none] rfl ?_
  refine g_blk [(.iconst 0, .int (nI 0)), (.istore_n 1, .null), (.iconst 0, .int (nI 0)), (.istore_n 2, .null)] (Nat.le_of_ble_eq_true rfl) (by decide +kernel) ?_
  refine gx_iconst (gx_istore_n_1 rfl (gx_iconst (gx_istore_n_2 rfl ((gx_nil ?_)))))
  exact loop (c + 1) 0 (Nat.zero_le _) (by omega)
end GOf4
