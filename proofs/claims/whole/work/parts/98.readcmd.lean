/-! THE PARSER READS A COMMAND -/
section GPc
variable {Γ : gE} {h : gHp} {de o tb n p cl : Nat} {tx ks : Nat → Nat} {fp : List Nat} {cs : List pcT} {d1 d10 : Nat} {vf : Value}
def rcZc (Γ : gE) (de : Nat) (h : gHp) (o tb n cl : Nat) (tx ks : Nat → Nat) (fp : List Nat) (cs : List pcT) (R : Nat ⊕ (pcT × Nat)) (v : Option Value) (h' : gHp) : Prop := ∃ fp', (∀ q ∈ fp', q ∈ fp ∨ h q = none) ∧ gKeep (fun q => q = o ∨ q ∈ fp) h h' ∧ match R with
  | .inl e => v = some (.int (nI 0)) ∧ gPL Γ de h' o tb n e cl tx ks fp' cs
  | .inr (c, p') => v = some (.int (nI 1)) ∧ gPL Γ de h' o tb n p' cl tx ks fp' (cs ++ [c])
theorem rcZc.tr {h5 h' : gHp} {R : Nat ⊕ (pcT × Nat)} {v : Option Value} (k : gKeep (fun z => z = o) h h5) (ho : ∃ e, h5 o = some e) (z : rcZc Γ de h5 o tb n cl tx ks fp cs R v h') : rcZc Γ de h o tb n cl tx ks fp cs R v h' := by
  obtain ⟨fp', z1, z2, z3⟩ := z
  refine ⟨fp', fun q hq => ?_, fun q e q1 q2 => z2 q e q1 (k q e (fun y => q1 (Or.inl y)) q2), z3⟩
  rcases z1 q hq with y | y
  · exact Or.inl y
  · refine Or.inr ?_
    cases e : h q with
    | none => rfl
    | some e9 =>
      by_cases w : q = o
      · obtain ⟨e8, h8⟩ := ho
        rw [w, h8] at y; cases y
      · rw [k q _ w e] at y; cases y
theorem rcZc.no {e : Nat} {h' : gHp} (H : gPL Γ de h' o tb n e cl tx ks fp cs) (k : gKeep (fun z => z = o) h h') : rcZc Γ de h o tb n cl tx ks fp cs (.inl e) (some (.int (nI 0))) h' :=
  ⟨fp, fun q hq => Or.inl hq, fun q e q1 q2 => k q e (fun y => q1 (Or.inl y)) q2, rfl, H⟩
theorem rcZc.yes {h' : gHp} {fp' : List Nat} {x : pcT} {p' : Nat} (H : gPL Γ de h' o tb n p' cl tx ks fp' (cs ++ [x])) (a : ∀ q ∈ fp', q ∈ fp ∨ h q = none) (k : gKeep (fun q => q ∈ fp) h h') : rcZc Γ de h o tb n cl tx ks fp cs (.inr (x, p')) (some (.int (nI 1))) h' :=
  ⟨fp', a, fun q e q1 q2 => k q e (fun y => q1 (Or.inr y)) q2, rfl, H⟩
theorem kd2_le : ∀ w, w < 10 → kd2 w ≤ 2 := by decide
theorem kd1_le : ∀ w, w < 10 → kd1 w ≤ 4 := by decide
def sndR (tx : Nat → Nat) (n w a l p : Nat) : Nat ⊕ (pcT × Nat) := if kd2 w = 0 then .inr ((w, a, 0, l), p) else if ¬ (p < n ∧ tx p = 32) then .inl p else if (nmv tx n (kd2 w) (p + 1) 0).2 = 0 then .inl (p + 1) else .inr ((w, a, (nmv tx n (kd2 w) (p + 1) 0).1, l), p + 1 + (nmv tx n (kd2 w) (p + 1) 0).2)
theorem pe_second {mi ka : Nat} {ss : Nat → Nat} (hp : gPsb Γ d1 d10 vf) (hk : gPkw Γ ka ks ss) (hpl : gPall Γ de mi) (H : gPL Γ de h o tb n p cl tx ks fp cs) (hcs : cs.length ≤ 40) (hpn : p ≤ n) {w : Nat} (hw : w < 10) (a l : Nat) {Z : Option Value → gHp → Prop} (fin : ∀ v h', rcZc Γ de h o tb n cl tx ks fp cs (sndR tx n w a l p) v h' → Z v h') : G Γ M_X5_readCommand 8 2 68 Z (fun _ _ => False) 2 68 60 [some (.ref o), some (.ref (ks w)), some (.int (nI a)), some (.int (nI l)), none] [] h := by
  have H0 := H
  obtain ⟨hP, ho9, ht9, -⟩ := H0
  have ho := hP.1
  have hn60 := hP.2.2
  have kx := hk.2.2.2.1 w hw
  have hk2 := kd2_le w hw
  by_cases h2 : kd2 w = 0
  · refine g_blk [(.iconst 0, .int (nI 0)), (.istore 4, .null), (.aload_n 1, .null)] (Nat.le_of_ble_eq_true rfl) (by decide +kernel) ?_
    refine gx_iconst (gx_istore_4 rfl (gx_aload_n_1 ((gx_nil ?_))))
    refine g_getP kx.2.2.2 wKS (Or.inl rfl) (by decide +kernel) ?_
    refine g_if_le (off := 34) (tgt := 101) (by decide +kernel) (by decide) (fun c67 => ?_) (fun c67 => ?_)
    · try simp only [bI_0, Decidable.not_not] at c67
      refine pe_add hpl H hcs (w, a, 0, l) (fun h' fp' b1 b2 b3 => fin _ _ ?_)
      rw [show sndR tx n w a l p = .inr ((w, a, 0, l), p) from if_pos h2]
      exact rcZc.yes b1 b2 b3
    · try simp only [bI_0, Decidable.not_not] at c67
      exact absurd (by rw [h2]; decide) c67
  · by_cases hS : p < n ∧ tx p = 32
    · by_cases h4 : (nmv tx n (kd2 w) (p + 1) 0).2 = 0
      · refine g_blk [(.iconst 0, .int (nI 0)), (.istore 4, .null), (.aload_n 1, .null)] (Nat.le_of_ble_eq_true rfl) (by decide +kernel) ?_
        refine gx_iconst (gx_istore_4 rfl (gx_aload_n_1 ((gx_nil ?_))))
        refine g_getP kx.2.2.2 wKS (Or.inl rfl) (by decide +kernel) ?_
        refine g_if_le (off := 34) (tgt := 101) (by decide +kernel) (by decide) (fun c67 => ?_) (fun c67 => ?_)
        · try simp only [bI_0, Decidable.not_not] at c67
          exact absurd c67 (Int32.not_le.mpr (nI_p0 (by omega) (by omega)))
        · try simp only [bI_0, Decidable.not_not] at c67
          refine g_blk [(.aload_n 0, .null), (.bipush 32, .int (nI 32))] (Nat.le_of_ble_eq_true rfl) (by decide +kernel) ?_
          refine gx_aload_n_0 (gx_bipush ((gx_nil ?_)))
          refine g_callV (rc' := 2) (rs' := 68) kX5_33 (ps_skip hP hpn (x := 32) (by decide)) (by decide +kernel) rfl rfl ho rfl (Nat.le_of_ble_eq_true rfl) (Nat.le_of_ble_eq_true rfl) (Nat.le_of_ble_eq_true rfl) (by omega) (by omega) rfl (fun _ _ z => z.elim) (fun v9 h5 hz => ?_)
          obtain ⟨rfl, hP5, k5⟩ := hz
          rw [if_pos hS] at hP5
          rw [bI_t hS]
          have H5 := H.pos hP5 k5
          replace ho := hP5.1
          simp only [Option.toList_some, Option.toList_none, List.cons_append, List.nil_append]
          refine g_if_eq (off := 14) (tgt := 90) (by decide +kernel) (by decide) (fun c76 => ?_) (fun c76 => ?_)
          · try simp only [bI_0, Decidable.not_not] at c76
            exact absurd c76 (by decide)
          · try simp only [bI_0, Decidable.not_not] at c76
            refine g_blk [(.aload_n 0, .null), (.aload_n 1, .null)] (Nat.le_of_ble_eq_true rfl) (by decide +kernel) ?_
            refine gx_aload_n_0 (gx_aload_n_1 ((gx_nil ?_)))
            refine g_getP kx.2.2.2 wKS (Or.inl rfl) (by decide +kernel) ?_
            refine g_callV (rc' := 2) (rs' := 68) kX5_50 (ps_readNumber hP5 (by omega) (k := kd2 w) (by omega)) (by decide +kernel) rfl rfl ho rfl (Nat.le_of_ble_eq_true rfl) (Nat.le_of_ble_eq_true rfl) (Nat.le_of_ble_eq_true rfl) (by omega) (by omega) rfl (fun _ _ z => z.elim) (fun v9 h7 hz => ?_)
            obtain ⟨rfl, hP7, k7⟩ := hz
            rw [if_pos h4]
            rw [h4] at hP7
            have H7 := H5.pos hP7 k7
            simp only [Option.toList_some, Option.toList_none, List.cons_append, List.nil_append]
            refine g_blk [(.goto 4, .retAddr 91), (.istore 4, .null), (.iload 4, .null), (.iconst (-1), .int (-1))] (Nat.le_of_ble_eq_true rfl) (by decide +kernel) ?_
            refine gx_goto (gx_istore_4 rfl (gx_iload_4 (gx_iconst ((gx_nil ?_)))))
            refine g_icmp_ne (off := 5) (tgt := 101) (by decide +kernel) (by decide) (fun c96 => ?_) (fun c96 => ?_)
            · try simp only [bI_0, Decidable.not_not] at c96
              exact absurd trivial c96
            · try simp only [bI_0, Decidable.not_not] at c96
              refine g_blk [(.iconst 0, .int (nI 0))] (Nat.le_of_ble_eq_true rfl) (by decide +kernel) ?_
              refine gx_iconst ((gx_nil ?_))
              refine g_end (some (.int _)) rfl ⟨by decide +kernel, _, rfl, (by first | rfl | exact bI_nar _)⟩ ?_
              refine fin _ _ ?_
              rw [show sndR tx n w a l p = .inl (p + 1) from by unfold sndR; rw [if_neg h2, if_neg (fun z => z hS), if_pos h4]]
              exact rcZc.no H7 (k5.tr k7)
      · have hb := (nmv_le (tx := tx) (n := n) (k := kd2 w) (p := p + 1) (v := 0)).2.2
        have hp2 : 10 ^ kd2 w ≤ 10 ^ 2 := Nat.pow_le_pow_right (by decide) hk2
        refine g_blk [(.iconst 0, .int (nI 0)), (.istore 4, .null), (.aload_n 1, .null)] (Nat.le_of_ble_eq_true rfl) (by decide +kernel) ?_
        refine gx_iconst (gx_istore_4 rfl (gx_aload_n_1 ((gx_nil ?_))))
        refine g_getP kx.2.2.2 wKS (Or.inl rfl) (by decide +kernel) ?_
        refine g_if_le (off := 34) (tgt := 101) (by decide +kernel) (by decide) (fun c67 => ?_) (fun c67 => ?_)
        · try simp only [bI_0, Decidable.not_not] at c67
          exact absurd c67 (Int32.not_le.mpr (nI_p0 (by omega) (by omega)))
        · try simp only [bI_0, Decidable.not_not] at c67
          refine g_blk [(.aload_n 0, .null), (.bipush 32, .int (nI 32))] (Nat.le_of_ble_eq_true rfl) (by decide +kernel) ?_
          refine gx_aload_n_0 (gx_bipush ((gx_nil ?_)))
          refine g_callV (rc' := 2) (rs' := 68) kX5_33 (ps_skip hP hpn (x := 32) (by decide)) (by decide +kernel) rfl rfl ho rfl (Nat.le_of_ble_eq_true rfl) (Nat.le_of_ble_eq_true rfl) (Nat.le_of_ble_eq_true rfl) (by omega) (by omega) rfl (fun _ _ z => z.elim) (fun v9 h5 hz => ?_)
          obtain ⟨rfl, hP5, k5⟩ := hz
          rw [if_pos hS] at hP5
          rw [bI_t hS]
          have H5 := H.pos hP5 k5
          replace ho := hP5.1
          simp only [Option.toList_some, Option.toList_none, List.cons_append, List.nil_append]
          refine g_if_eq (off := 14) (tgt := 90) (by decide +kernel) (by decide) (fun c76 => ?_) (fun c76 => ?_)
          · try simp only [bI_0, Decidable.not_not] at c76
            exact absurd c76 (by decide)
          · try simp only [bI_0, Decidable.not_not] at c76
            refine g_blk [(.aload_n 0, .null), (.aload_n 1, .null)] (Nat.le_of_ble_eq_true rfl) (by decide +kernel) ?_
            refine gx_aload_n_0 (gx_aload_n_1 ((gx_nil ?_)))
            refine g_getP kx.2.2.2 wKS (Or.inl rfl) (by decide +kernel) ?_
            refine g_callV (rc' := 2) (rs' := 68) kX5_50 (ps_readNumber hP5 (by omega) (k := kd2 w) (by omega)) (by decide +kernel) rfl rfl ho rfl (Nat.le_of_ble_eq_true rfl) (Nat.le_of_ble_eq_true rfl) (Nat.le_of_ble_eq_true rfl) (by omega) (by omega) rfl (fun _ _ z => z.elim) (fun v9 h7 hz => ?_)
            obtain ⟨rfl, hP7, k7⟩ := hz
            rw [if_neg h4]
            have H7 := H5.pos hP7 k7
            simp only [Option.toList_some, Option.toList_none, List.cons_append, List.nil_append]
            refine g_blk [(.goto 4, .retAddr 91), (.istore 4, .null), (.iload 4, .null), (.iconst (-1), .int (-1))] (Nat.le_of_ble_eq_true rfl) (by decide +kernel) ?_
            refine gx_goto (gx_istore_4 rfl (gx_iload_4 (gx_iconst ((gx_nil ?_)))))
            refine g_icmp_ne (off := 5) (tgt := 101) (by decide +kernel) (by decide) (fun c96 => ?_) (fun c96 => ?_)
            · try simp only [bI_0, Decidable.not_not] at c96
              have hl5 : ∃ e, h7 o = some e := ⟨_, hP7.1⟩
              refine pe_add hpl H7 hcs (w, a, (nmv tx n (kd2 w) (p + 1) 0).1, l) (fun h' fp' b1 b2 b3 => fin _ _ ?_)
              rw [show sndR tx n w a l p = .inr ((w, a, (nmv tx n (kd2 w) (p + 1) 0).1, l), p + 1 + (nmv tx n (kd2 w) (p + 1) 0).2) from by unfold sndR; rw [if_neg h2, if_neg (fun z => z hS), if_neg h4]]
              exact rcZc.tr (k5.tr k7) hl5 (rcZc.yes b1 b2 b3)
            · try simp only [bI_0, Decidable.not_not] at c96
              exact absurd c96 (nI_nm1 (by omega))
    · refine g_blk [(.iconst 0, .int (nI 0)), (.istore 4, .null), (.aload_n 1, .null)] (Nat.le_of_ble_eq_true rfl) (by decide +kernel) ?_
      refine gx_iconst (gx_istore_4 rfl (gx_aload_n_1 ((gx_nil ?_))))
      refine g_getP kx.2.2.2 wKS (Or.inl rfl) (by decide +kernel) ?_
      refine g_if_le (off := 34) (tgt := 101) (by decide +kernel) (by decide) (fun c67 => ?_) (fun c67 => ?_)
      · try simp only [bI_0, Decidable.not_not] at c67
        exact absurd c67 (Int32.not_le.mpr (nI_p0 (by omega) (by omega)))
      · try simp only [bI_0, Decidable.not_not] at c67
        refine g_blk [(.aload_n 0, .null), (.bipush 32, .int (nI 32))] (Nat.le_of_ble_eq_true rfl) (by decide +kernel) ?_
        refine gx_aload_n_0 (gx_bipush ((gx_nil ?_)))
        refine g_callV (rc' := 2) (rs' := 68) kX5_33 (ps_skip hP hpn (x := 32) (by decide)) (by decide +kernel) rfl rfl ho rfl (Nat.le_of_ble_eq_true rfl) (Nat.le_of_ble_eq_true rfl) (Nat.le_of_ble_eq_true rfl) (by omega) (by omega) rfl (fun _ _ z => z.elim) (fun v9 h5 hz => ?_)
        obtain ⟨rfl, hP5, k5⟩ := hz
        rw [if_neg hS] at hP5
        rw [bI_f hS]
        have H5 := H.pos hP5 k5
        replace ho := hP5.1
        simp only [Option.toList_some, Option.toList_none, List.cons_append, List.nil_append]
        refine g_if_eq (off := 14) (tgt := 90) (by decide +kernel) (by decide) (fun c76 => ?_) (fun c76 => ?_)
        · try simp only [bI_0, Decidable.not_not] at c76
          refine g_blk [(.iconst (-1), .int (-1)), (.istore 4, .null), (.iload 4, .null), (.iconst (-1), .int (-1))] (Nat.le_of_ble_eq_true rfl) (by decide +kernel) ?_
          refine gx_iconst (gx_istore_4 rfl (gx_iload_4 (gx_iconst ((gx_nil ?_)))))
          refine g_icmp_ne (off := 5) (tgt := 101) (by decide +kernel) (by decide) (fun c96 => ?_) (fun c96 => ?_)
          · exact absurd (by decide) c96
          · try simp only [bI_0, Decidable.not_not] at c96
            refine g_blk [(.iconst 0, .int (nI 0))] (Nat.le_of_ble_eq_true rfl) (by decide +kernel) ?_
            refine gx_iconst ((gx_nil ?_))
            refine g_end (some (.int _)) rfl ⟨by decide +kernel, _, rfl, (by first | rfl | exact bI_nar _)⟩ ?_
            refine fin _ _ ?_
            rw [show sndR tx n w a l p = .inl p from by unfold sndR; rw [if_neg h2, if_pos hS]]
            exact rcZc.no H5 k5
        · try simp only [bI_0, Decidable.not_not] at c76
          exact absurd (by decide) c76
theorem pnR_s {w : Nat} (h0 : ¬ (nmv tx n (kd1 w) p 0).2 = 0) : pnR tx n w p = sndR tx n w (nmv tx n (kd1 w) p 0).1 (nmv tx n (kd1 w) p 0).2 (p + (nmv tx n (kd1 w) p 0).2) := by
  unfold pnR sndR
  rw [if_neg h0]
theorem pe_first {mi ka : Nat} {ss : Nat → Nat} (hp : gPsb Γ d1 d10 vf) (hk : gPkw Γ ka ks ss) (hpl : gPall Γ de mi) (H : gPL Γ de h o tb n p cl tx ks fp cs) (hcs : cs.length ≤ 40) (hpn : p ≤ n) {w : Nat} (hw : w < 10) {Z : Option Value → gHp → Prop} (fin : ∀ v h', rcZc Γ de h o tb n cl tx ks fp cs (pnR tx n w p) v h' → Z v h') : G Γ M_X5_readCommand 8 2 68 Z (fun _ _ => False) 2 68 31 [some (.ref o), some (.ref (ks w)), some (.int (nI 0)), some (.int (nI 0)), none] [] h := by
  have H0 := H
  obtain ⟨hP, ho9, ht9, -⟩ := H0
  have ho := hP.1
  have hn60 := hP.2.2
  have kx := hk.2.2.2.1 w hw
  have hk1 := kd1_le w hw
  have hle := nmv_le (tx := tx) (n := n) (k := kd1 w) (p := p) (v := 0)
  by_cases h0 : (nmv tx n (kd1 w) p 0).2 = 0
  · refine g_blk [(.aload_n 0, .null)] (Nat.le_of_ble_eq_true rfl) (by decide +kernel) ?_
    refine gx_aload_n_0 ((gx_nil ?_))
    refine g_getf fX5_9 (by decide +kernel) ho rfl ?_
    refine g_blk [(.istore 4, .null), (.aload_n 0, .null), (.aload_n 1, .null)] (Nat.le_of_ble_eq_true rfl) (by decide +kernel) ?_
    refine gx_istore_4 rfl (gx_aload_n_0 (gx_aload_n_1 ((gx_nil ?_))))
    refine g_getP kx.2.2.1 wKF (Or.inl rfl) (by decide +kernel) ?_
    refine g_callV (rc' := 2) (rs' := 68) kX5_50 (ps_readNumber hP hpn (k := kd1 w) (by omega)) (by decide +kernel) rfl rfl ho rfl (Nat.le_of_ble_eq_true rfl) (Nat.le_of_ble_eq_true rfl) (Nat.le_of_ble_eq_true rfl) (by omega) (by omega) rfl (fun _ _ z => z.elim) (fun v9 h5 hz => ?_)
    obtain ⟨rfl, hP5, k5⟩ := hz
    rw [if_pos h0]
    rw [h0] at hP5
    have H5 := H.pos hP5 k5
    replace ho := hP5.1
    simp only [Option.toList_some, Option.toList_none, List.cons_append, List.nil_append]
    refine g_blk [(.istore_n 2, .null), (.aload_n 0, .null)] (Nat.le_of_ble_eq_true rfl) (by decide +kernel) ?_
    refine gx_istore_n_2 rfl (gx_aload_n_0 ((gx_nil ?_)))
    refine g_getf fX5_9 (by decide +kernel) ho rfl ?_
    refine g_blk [(.iload 4, .null), (.isub, .null)] (Nat.le_of_ble_eq_true rfl) (by decide +kernel) ?_
    refine gx_iload_4 (gx_isub ((gx_nil ?_)))
    rw [nI_subN (by omega), show p + 0 - p = 0 by omega]
    refine g_blk [(.istore_n 3, .null), (.iload_n 3, .null)] (Nat.le_of_ble_eq_true rfl) (by decide +kernel) ?_
    refine gx_istore_n_3 rfl (gx_iload_n_3 ((gx_nil ?_)))
    refine g_if_ne (off := 5) (tgt := 60) (by decide +kernel) (by decide) (fun c55 => ?_) (fun c55 => ?_)
    · try simp only [bI_0, Decidable.not_not] at c55
      exact absurd (by decide) c55
    · try simp only [bI_0, Decidable.not_not] at c55
      refine g_blk [(.iconst 0, .int (nI 0))] (Nat.le_of_ble_eq_true rfl) (by decide +kernel) ?_
      refine gx_iconst ((gx_nil ?_))
      refine g_end (some (.int _)) rfl ⟨by decide +kernel, _, rfl, (by first | rfl | exact bI_nar _)⟩ ?_
      refine fin _ _ ?_
      rw [pnR_A h0]
      exact rcZc.no H5 k5
  · refine g_blk [(.aload_n 0, .null)] (Nat.le_of_ble_eq_true rfl) (by decide +kernel) ?_
    refine gx_aload_n_0 ((gx_nil ?_))
    refine g_getf fX5_9 (by decide +kernel) ho rfl ?_
    refine g_blk [(.istore 4, .null), (.aload_n 0, .null), (.aload_n 1, .null)] (Nat.le_of_ble_eq_true rfl) (by decide +kernel) ?_
    refine gx_istore_4 rfl (gx_aload_n_0 (gx_aload_n_1 ((gx_nil ?_))))
    refine g_getP kx.2.2.1 wKF (Or.inl rfl) (by decide +kernel) ?_
    refine g_callV (rc' := 2) (rs' := 68) kX5_50 (ps_readNumber hP hpn (k := kd1 w) (by omega)) (by decide +kernel) rfl rfl ho rfl (Nat.le_of_ble_eq_true rfl) (Nat.le_of_ble_eq_true rfl) (Nat.le_of_ble_eq_true rfl) (by omega) (by omega) rfl (fun _ _ z => z.elim) (fun v9 h5 hz => ?_)
    obtain ⟨rfl, hP5, k5⟩ := hz
    rw [if_neg h0]
    have H5 := H.pos hP5 k5
    replace ho := hP5.1
    simp only [Option.toList_some, Option.toList_none, List.cons_append, List.nil_append]
    refine g_blk [(.istore_n 2, .null), (.aload_n 0, .null)] (Nat.le_of_ble_eq_true rfl) (by decide +kernel) ?_
    refine gx_istore_n_2 rfl (gx_aload_n_0 ((gx_nil ?_)))
    refine g_getf fX5_9 (by decide +kernel) ho rfl ?_
    refine g_blk [(.iload 4, .null), (.isub, .null)] (Nat.le_of_ble_eq_true rfl) (by decide +kernel) ?_
    refine gx_iload_4 (gx_isub ((gx_nil ?_)))
    rw [nI_subN (by omega), Nat.add_sub_cancel_left]
    refine g_blk [(.istore_n 3, .null), (.iload_n 3, .null)] (Nat.le_of_ble_eq_true rfl) (by decide +kernel) ?_
    refine gx_istore_n_3 rfl (gx_iload_n_3 ((gx_nil ?_)))
    refine g_if_ne (off := 5) (tgt := 60) (by decide +kernel) (by decide) (fun c55 => ?_) (fun c55 => ?_)
    · try simp only [bI_0, Decidable.not_not] at c55
      have hl5 : ∃ e, h5 o = some e := ⟨_, hP5.1⟩
      refine g_weak (L' := [some (.ref o), some (.ref (ks w)), some (.int (nI (nmv tx n (kd1 w) p 0).1)), some (.int (nI (nmv tx n (kd1 w) p 0).2)), none]) (by simp [gLe]) (Nat.le_refl _) (Nat.le_refl _) (pe_second hp hk hpl H5 hcs (by omega) hw _ _ (fun v h' z => fin v h' ?_))
      rw [pnR_s h0]
      exact rcZc.tr k5 hl5 z
    · try simp only [bI_0, Decidable.not_not] at c55
      exact absurd ((nI_eq (by omega) (by decide)).mp (show nI _ = nI 0 from by rw [c55]; decide)) h0
theorem ps_readCommand {mi ka : Nat} {ss : Nat → Nat} (hp : gPsb Γ d1 d10 vf) (hk : gPkw Γ ka ks ss) (hpl : gPall Γ de mi) (H : gPL Γ de h o tb n p cl tx ks fp cs) (hcs : cs.length ≤ 40) (hpn : p ≤ n) : gC Γ M_X5_readCommand [.ref o] h 8 2 68 (rcZc Γ de h o tb n cl tx ks fp cs (pcR tx n p)) (fun _ _ => False) := by
  have H0 := H
  obtain ⟨hP, ho9, ht9, -⟩ := H0
  have ho := hP.1
  have hn60 := hP.2.2
  refine gC_of (by decide) rfl (Nat.le_of_ble_eq_true rfl) [some (.ref o), none, none, none, none] rfl ?_
  refine g_blk [(.aload_n 0, .null)] (Nat.le_of_ble_eq_true rfl) (by decide +kernel) ?_
  refine gx_aload_n_0 ((gx_nil ?_))
  refine g_callV (rc' := 2) (rs' := 68) kX5_37 (ps_readKeyword hp hk hP hpn) (by decide +kernel) rfl rfl ho rfl (Nat.le_of_ble_eq_true rfl) (Nat.le_of_ble_eq_true rfl) (Nat.le_of_ble_eq_true rfl) (by omega) (by omega) rfl (fun _ _ z => z.elim) (fun v9 h5 hz => ?_)
  obtain ⟨rfl, hP5, k5⟩ := hz
  have H5 := H.pos hP5 k5
  replace ho := hP5.1
  have hl5 : ∃ e, h5 o = some e := ⟨_, hP5.1⟩
  simp only [Option.toList_some, Option.toList_none, List.cons_append, List.nil_append]
  cases hq : kd tx n p 10 with
  | none =>
    rw [show fnd ks none = Value.null from rfl]
    refine g_blk [(.astore_n 1, .null), (.aload_n 1, .null)] (Nat.le_of_ble_eq_true rfl) (by decide +kernel) ?_
    refine gx_astoreN_n_1 rfl (gx_aloadN_n_1 ((gx_nil ?_)))
    refine g_ifnonnullN (off := 5) (by decide +kernel) ?_
    refine g_blk [(.iconst 0, .int (nI 0))] (Nat.le_of_ble_eq_true rfl) (by decide +kernel) ?_
    refine gx_iconst ((gx_nil ?_))
    refine g_end (some (.int _)) rfl ⟨by decide +kernel, _, rfl, (by first | rfl | exact bI_nar _)⟩ ?_
    rw [pcR_no hq]
    exact rcZc.no H5 k5
  | some w =>
    rw [show fnd ks (some w) = Value.ref (ks w) from rfl]
    obtain ⟨hw, hc⟩ := kd_in hq
    have hlen := (kdL_max hw hc 10 (Nat.le_refl _)).2 hw
    rw [hlen] at hP5 H5 ho
    have hl := kw_len w hw
    have hle := (cm_le (tx := tx) (n := n) (W := kw w) (p := p)).2
    rw [hc] at hle
    by_cases h4 : w = 4
    · subst h4
      have l4 : (kw 4).length = 4 := rfl
      rw [l4] at hle hP5 H5 ho
      by_cases hS : p + 4 < n ∧ tx (p + 4) = 32
      · refine g_blk [(.astore_n 1, .null), (.aload_n 1, .null)] (Nat.le_of_ble_eq_true rfl) (by decide +kernel) ?_
        refine gx_astore_n_1 rfl (gx_aload_n_1 ((gx_nil ?_)))
        refine g_ifnonnull (off := 5) (tgt := 11) (by decide +kernel) (by decide) ?_
        refine g_blk [(.iconst 0, .int (nI 0)), (.istore_n 2, .null), (.iconst 0, .int (nI 0)), (.istore_n 3, .null), (.aload_n 1, .null)] (Nat.le_of_ble_eq_true rfl) (by decide +kernel) ?_
        refine gx_iconst (gx_istore_n_2 rfl (gx_iconst (gx_istore_n_3 rfl (gx_aload_n_1 ((gx_nil ?_))))))
        refine g_gets hk.2.2.1 wSO (Or.inl rfl) (by decide +kernel) ?_
        refine g_acmp_ne (rx := some (ks 4)) (ry := some (ks 4)) (off := 12) (tgt := 31) (by decide +kernel) (by decide) (fun c19 => absurd rfl c19) (fun c19 => ?_)
        refine g_blk [(.aload_n 0, .null), (.bipush 32, .int (nI 32))] (Nat.le_of_ble_eq_true rfl) (by decide +kernel) ?_
        refine gx_aload_n_0 (gx_bipush ((gx_nil ?_)))
        refine g_callV (rc' := 2) (rs' := 68) kX5_33 (ps_skip hP5 (by omega) (x := 32) (by decide)) (by decide +kernel) rfl rfl ho rfl (Nat.le_of_ble_eq_true rfl) (Nat.le_of_ble_eq_true rfl) (Nat.le_of_ble_eq_true rfl) (by omega) (by omega) rfl (fun _ _ z => z.elim) (fun v9 h7 hz => ?_)
        obtain ⟨rfl, hP7, k7⟩ := hz
        rw [if_pos hS] at hP7
        rw [bI_t hS]
        have H7 := H5.pos hP7 k7
        have hl7 : ∃ e, h7 o = some e := ⟨_, hP7.1⟩
        replace ho := hP7.1
        simp only [Option.toList_some, Option.toList_none, List.cons_append, List.nil_append]
        refine g_if_eq (off := 32) (tgt := 60) (by decide +kernel) (by decide) (fun c28 => ?_) (fun c28 => ?_)
        · try simp only [bI_0, Decidable.not_not] at c28
          exact absurd c28 (by decide)
        · try simp only [bI_0, Decidable.not_not] at c28
          refine g_weak (by simp [gLe]) (Nat.le_refl _) (Nat.le_refl _) (pe_first hp hk hpl H7 hcs (by omega) (w := 4) (by decide) (fun v h' z => ?_))
          rw [pcR_4 hq, if_pos hS]
          exact rcZc.tr (k5.tr k7) hl7 z
      · refine g_blk [(.astore_n 1, .null), (.aload_n 1, .null)] (Nat.le_of_ble_eq_true rfl) (by decide +kernel) ?_
        refine gx_astore_n_1 rfl (gx_aload_n_1 ((gx_nil ?_)))
        refine g_ifnonnull (off := 5) (tgt := 11) (by decide +kernel) (by decide) ?_
        refine g_blk [(.iconst 0, .int (nI 0)), (.istore_n 2, .null), (.iconst 0, .int (nI 0)), (.istore_n 3, .null), (.aload_n 1, .null)] (Nat.le_of_ble_eq_true rfl) (by decide +kernel) ?_
        refine gx_iconst (gx_istore_n_2 rfl (gx_iconst (gx_istore_n_3 rfl (gx_aload_n_1 ((gx_nil ?_))))))
        refine g_gets hk.2.2.1 wSO (Or.inl rfl) (by decide +kernel) ?_
        refine g_acmp_ne (rx := some (ks 4)) (ry := some (ks 4)) (off := 12) (tgt := 31) (by decide +kernel) (by decide) (fun c19 => absurd rfl c19) (fun c19 => ?_)
        refine g_blk [(.aload_n 0, .null), (.bipush 32, .int (nI 32))] (Nat.le_of_ble_eq_true rfl) (by decide +kernel) ?_
        refine gx_aload_n_0 (gx_bipush ((gx_nil ?_)))
        refine g_callV (rc' := 2) (rs' := 68) kX5_33 (ps_skip hP5 (by omega) (x := 32) (by decide)) (by decide +kernel) rfl rfl ho rfl (Nat.le_of_ble_eq_true rfl) (Nat.le_of_ble_eq_true rfl) (Nat.le_of_ble_eq_true rfl) (by omega) (by omega) rfl (fun _ _ z => z.elim) (fun v9 h7 hz => ?_)
        obtain ⟨rfl, hP7, k7⟩ := hz
        rw [if_neg hS] at hP7
        rw [bI_f hS]
        have H7 := H5.pos hP7 k7
        have hl7 : ∃ e, h7 o = some e := ⟨_, hP7.1⟩
        replace ho := hP7.1
        simp only [Option.toList_some, Option.toList_none, List.cons_append, List.nil_append]
        refine g_if_eq (off := 32) (tgt := 60) (by decide +kernel) (by decide) (fun c28 => ?_) (fun c28 => ?_)
        · try simp only [bI_0, Decidable.not_not] at c28
          refine g_weak (by simp [gLe]) (Nat.le_refl _) (Nat.le_refl _) (pe_second hp hk hpl H7 hcs (by omega) (w := 4) (by decide) 0 0 (fun v h' z => ?_))
          rw [pcR_4 hq, if_neg hS]
          exact rcZc.tr (k5.tr k7) hl7 z
        · try simp only [bI_0, Decidable.not_not] at c28
          exact absurd (by decide) c28
    · refine g_blk [(.astore_n 1, .null), (.aload_n 1, .null)] (Nat.le_of_ble_eq_true rfl) (by decide +kernel) ?_
      refine gx_astore_n_1 rfl (gx_aload_n_1 ((gx_nil ?_)))
      refine g_ifnonnull (off := 5) (tgt := 11) (by decide +kernel) (by decide) ?_
      refine g_blk [(.iconst 0, .int (nI 0)), (.istore_n 2, .null), (.iconst 0, .int (nI 0)), (.istore_n 3, .null), (.aload_n 1, .null)] (Nat.le_of_ble_eq_true rfl) (by decide +kernel) ?_
      refine gx_iconst (gx_istore_n_2 rfl (gx_iconst (gx_istore_n_3 rfl (gx_aload_n_1 ((gx_nil ?_))))))
      refine g_gets hk.2.2.1 wSO (Or.inl rfl) (by decide +kernel) ?_
      refine g_acmp_ne (rx := some (ks w)) (ry := some (ks 4)) (off := 12) (tgt := 31) (by decide +kernel) (by decide) (fun c19 => ?_) (fun c19 => absurd (hk.2.2.2.2 w 4 hw (by decide) (Option.some.inj c19)) h4)
      refine g_weak (by simp [gLe]) (Nat.le_refl _) (Nat.le_refl _) (pe_first hp hk hpl H5 hcs (by rcases hle with z | z <;> omega) hw (fun v h' z => ?_))
      rw [pcR_w hq h4]
      exact rcZc.tr k5 hl5 z
end GPc
