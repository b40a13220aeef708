/-! A LETTER WRITTEN -/
section GWr
variable {Γ : gE} {h : gHp}
def sbI (Γ : gE) (h : gHp) (a v : Nat) (xs : List Nat) (hk : gHp) (K : Nat) : Prop := (∃ v' m', gSB Γ hk a v' m' xs ∧ (v' = v ∨ h v' = none) ∧ gKeep (fun z => z = a ∨ z = v) h hk ∧ ∃ e, hk v = some e) ∧ xs.length ≤ K
theorem sbI_tr {hk h2 : gHp} {a v v' m' v2 m2 : Nat} {xs ys : List Nat} (H' : gSB Γ hk a v' m' xs) (hv' : v' = v ∨ h v' = none) (k' : gKeep (fun z => z = a ∨ z = v) h hk) (ex : ∃ e, hk v = some e) (H2 : gSB Γ h2 a v2 m2 ys) (hv2 : v2 = v' ∨ hk v2 = none) (k2 : gKeep (fun z => z = a ∨ z = v') hk h2) (ex2 : ∃ e, h2 v' = some e) : ∃ v' m', gSB Γ h2 a v' m' ys ∧ (v' = v ∨ h v' = none) ∧ gKeep (fun z => z = a ∨ z = v) h h2 ∧ ∃ e, h2 v = some e := by
  have ha : ∃ e, hk a = some e := by
    obtain ⟨_, _, z, -⟩ := H'
    exact ⟨_, z⟩
  have ha2 : ∃ e, h2 a = some e := by
    obtain ⟨_, _, z, -⟩ := H2
    exact ⟨_, z⟩
  refine ⟨v2, m2, H2, ?_, gK_tr k' k2 (fun z y => ?_), ?_⟩
  · rcases hv2 with z | z
    · rw [z]; exact hv'
    · refine Or.inr (gK_no k' (fun q y => ?_) z)
      rcases y with y | y
      · rw [y]; exact ha
      · rw [y]; exact ex
  · rcases y with y | y
    · exact Or.inl (Or.inl y)
    · rcases hv' with x | x
      · exact Or.inl (Or.inr (y.trans x))
      · exact Or.inr (by rw [y]; exact x)
  · by_cases z : v = v'
    · rw [z]; exact ex2
    · by_cases y : v = a
      · rw [y]; exact ha2
      · obtain ⟨e, he⟩ := ex
        exact ⟨e, k2 v e (fun x => by rcases x with x | x; exact y x; exact z x) he⟩
theorem sbI_C {d1 d10 : Nat} {vf : Value} (hp : gPsb Γ d1 d10 vf) {hk : gHp} {a v K c : Nat} {xs : List Nat} (I : sbI Γ h a v xs hk K) (hc : c < 128) (hl : K < 34) : gC Γ M_J4_append_cf468 [.ref a, .int (nI c)] hk 5 1 34 (fun r h' => r = some (.ref a) ∧ sbI Γ h a v (xs ++ [c]) h' (K + 1)) (fun _ _ => False) := by
  obtain ⟨⟨v', m', H', hv', k', ex⟩, hK⟩ := I
  refine gC_post (sb_appC hp H' hc (by omega)) (fun r h' z => ?_) (fun _ _ z => z)
  obtain ⟨rfl, v2, m2, H2, hv2, k2, ex2⟩ := z
  exact ⟨rfl, sbI_tr H' hv' k' ex H2 hv2 k2 ex2, by rw [List.length_append]; exact Nat.add_le_add hK (Nat.le_refl 1)⟩
theorem sbI_I {d1 d10 : Nat} {vf : Value} (hp : gPsb Γ d1 d10 vf) {hk : gHp} {a v K n T : Nat} {xs : List Nat} (I : sbI Γ h a v xs hk K) (hn : n < 100000) (hT : tpd n ≤ T) (hl : K + (T + 1) ≤ 34) : gC Γ M_J4_append_bf812 [.ref a, .int (nI n)] hk 5 1 34 (fun r h' => r = some (.ref a) ∧ sbI Γ h a v (xs ++ dgt n) h' (K + (T + 1))) (fun _ _ => False) := by
  obtain ⟨⟨v', m', H', hv', k', ex⟩, hK⟩ := I
  refine gC_post (sb_appI hp H' hn (by omega)) (fun r h' z => ?_) (fun _ _ z => z)
  obtain ⟨rfl, v2, m2, H2, hv2, k2, ex2⟩ := z
  exact ⟨rfl, sbI_tr H' hv' k' ex H2 hv2 k2 ex2, by rw [List.length_append, dgt_len]; omega⟩
theorem sbI_S {d1 d10 : Nat} {vf : Value} (hp : gPsb Γ d1 d10 vf) {hk : gHp} {a v K s n : Nat} {xs ws : List Nat} (hs : gCs Γ s ws) (I : sbI Γ h a v xs hk K) (hn : ws.length = n) (hl : K + n ≤ 34) : gC Γ M_J4_append_15ec4 [.ref a, .ref s] hk 5 1 34 (fun r h' => r = some (.ref a) ∧ sbI Γ h a v (xs ++ ws) h' (K + n)) (fun _ _ => False) := by
  obtain ⟨⟨v', m', H', hv', k', ex⟩, hK⟩ := I
  refine gC_post (sb_appS hp hs H' (by omega)) (fun r h' z => ?_) (fun _ _ z => z)
  obtain ⟨rfl, v2, m2, H2, hv2, k2, ex2⟩ := z
  exact ⟨rfl, sbI_tr H' hv' k' ex H2 hv2 k2 ex2, by rw [List.length_append]; omega⟩
theorem sbI_cell {hk : gHp} {a v K le : Nat} {xs xs0 : List Nat} {m0 : Nat} {fs : List Value} (H0 : gSB Γ h a v m0 xs0) (I : sbI Γ h a v xs hk K) (hle : h le = some (gJ 6 fs)) : hk le = some (gJ 6 fs) := by
  obtain ⟨⟨v', m', H', hv', k', ex⟩, hK⟩ := I
  obtain ⟨_, _, ha, hv, -⟩ := H0
  refine k' le _ (fun z => ?_) hle
  rcases z with z | z
  · rw [z, ha] at hle; cases hle
  · rw [z, hv] at hle; cases hle
theorem sbI_at {hk : gHp} {a v K : Nat} {xs : List Nat} (I : sbI Γ h a v xs hk K) : ∃ fs, hk a = some (gJ 1 fs) := by
  obtain ⟨⟨v', m', ⟨_, _, ha, -⟩, -⟩, -⟩ := I
  exact ⟨_, ha⟩
def gPtx (Γ : gE) (sr ss : Nat) : Prop := gPs Γ RX3 53 " r" sr ∧ gCs Γ sr [32, 114] ∧ gPs Γ RX3 58 " *" ss ∧ gCs Γ ss [32, 42]
theorem dgu_take {cd j : Nat} (h : j ≤ 3) : (dgu cd 3).take (j + 1) = (dgu cd 3).take j ++ dgt (cd / 10 ^ (3 - j) % 10) := by
  have hd : cd / 10 ^ (3 - j) % 10 < 10 := Nat.mod_lt _ (by decide)
  have e : dgt (cd / 10 ^ (3 - j) % 10) = [48 + cd / 10 ^ (3 - j) % 10] := by
    unfold dgt
    rw [tpd_9 hd]
    show [48 + cd / 10 ^ (3 - j) % 10 / 10 ^ 0 % 10] = _
    rw [Nat.pow_zero, Nat.div_one, Nat.mod_mod]
  rw [e]
  have : j = 0 ∨ j = 1 ∨ j = 2 ∨ j = 3 := by omega
  rcases this with rfl | rfl | rfl | rfl <;> rfl
theorem le_inTray0 {a : Nat} {x0 x1 x2 x3 x4 x5 x6 : Int32} (ha : h a = some (gJ 6 [.int x0, .int x1, .int x2, .int x3, .int x4, .int x5, .int x6])) : pC Γ M_X3_inTray [.ref a] h 0 (some (.int (bI (x5 = -1)))) := by
  refine pC_of (by decide) rfl (Nat.le_of_ble_eq_true rfl) [some (.ref a)] rfl ?_
  refine g_blk [(.aload_n 0, .null)] (Nat.le_of_ble_eq_true rfl) (by decide +kernel) ?_
  refine gx_aload_n_0 ((gx_nil ?_))
  refine g_getf fX3_15 (by decide +kernel) ha rfl ?_
  refine g_blk [(.iconst (-1), .int (-1))] (Nat.le_of_ble_eq_true rfl) (by decide +kernel) ?_
  refine gx_iconst ((gx_nil ?_))
  refine g_icmp_ne (off := 7) (tgt := 12) (by decide +kernel) (by decide) (fun c5 => ?_) (fun c5 => ?_)
  · try simp only [bI_0, Decidable.not_not] at c5
    refine g_blk [(.iconst 0, .int (nI 0))] (Nat.le_of_ble_eq_true rfl) (by decide +kernel) ?_
    refine gx_iconst ((gx_nil ?_))
    refine g_end (some (.int _)) rfl ⟨by decide +kernel, _, rfl, by first | rfl | exact bI_nar _⟩ ⟨?_, rfl⟩
    rw [bI_f c5]
  · try simp only [bI_0, Decidable.not_not] at c5
    refine g_blk [(.iconst 1, .int (nI 1)), (.goto 4, .retAddr 13)] (Nat.le_of_ble_eq_true rfl) (by decide +kernel) ?_
    refine gx_iconst (gx_goto ((gx_nil ?_)))
    refine g_end (some (.int _)) rfl ⟨by decide +kernel, _, rfl, by first | rfl | exact bI_nar _⟩ ⟨?_, rfl⟩
    rw [bI_t c5]
theorem le_writeTo {d1 d10 : Nat} {vf : Value} (hp : gPsb Γ d1 d10 vf) {sr ss : Nat} (ht : gPtx Γ sr ss) {le m cd w pr q : Nat} {at9 bg : Int32} {A : Option (Nat × Nat)} (hle : h le = some (gJ 6 [.int (nI m), .int (nI cd), .int (nI w), .int (nI pr), .int (nI q), .int at9, .int bg])) (hm : m < 100000) (hcd : cd < 10000) (hw : w < 100) (hpr : pr ≤ 1) (hq : q < 10) (hA : (A = none ∧ at9 = -1) ∨ ∃ x y, x < 10 ∧ y < 10 ∧ A = some (x, y) ∧ at9 = nI x ∧ bg = nI y) {a v m9 : Nat} (H : gSB Γ h a v m9 []) : gC Γ M_X3_writeTo [.ref le, .ref a] h 6 21 714 (fun r h' => r = none ∧ sbI Γ h a v (fmt pr m cd w A q) h' 24) (fun _ _ => False) := by
  have I0 : sbI Γ h a v [] h 0 := ⟨⟨v, m9, H, Or.inl rfl, gKeep.rf, by obtain ⟨_, _, _, z, -⟩ := H; exact ⟨_, z⟩⟩, Nat.le_refl _⟩
  have tm := tpd_le m
  have tw := tpd_99 hw
  have tq := tpd_9 hq
  have fin : ∀ X hk, sbI Γ h a v X hk 11 → X = [if pr = 1 then 80 else 83] ++ dgt m ++ [58] ++ dgu cd 3 → G Γ M_X3_writeTo 6 21 714 (fun r h' => r = none ∧ sbI Γ h a v (fmt pr m cd w A q) h' 24) (fun _ _ => False) 14 476 61 [some (.ref le), some (.ref a), none] [] hk := by
    intro X hk I1 hX
    subst hX
    have l1 := sbI_cell H I1 hle
    refine g_blk [(.aload_n 1, .null), (.bipush 32, .int (nI 32))] (Nat.le_of_ble_eq_true rfl) (by decide +kernel) ?_
    refine gx_aload_n_1 (gx_bipush ((gx_nil ?_)))
    obtain ⟨_, a9I1⟩ := sbI_at I1
    refine g_callV (rc' := 13) (rs' := 442) kX3_40 (sbI_C hp I1 (c := 32) (by omega) (by omega)) (by decide +kernel) rfl rfl a9I1 rfl (Nat.le_of_ble_eq_true rfl) (Nat.le_of_ble_eq_true rfl) (Nat.le_of_ble_eq_true rfl) (by omega) (by omega) rfl (fun _ _ z => z.elim) (fun v9 h2 hz => ?_)
    obtain ⟨rfl, I2⟩ := hz
    simp only [Option.toList_some, Option.toList_none, List.cons_append, List.nil_append]
    refine g_blk [(.aload_n 0, .null)] (Nat.le_of_ble_eq_true rfl) (by decide +kernel) ?_
    refine gx_aload_n_0 ((gx_nil ?_))
    refine g_getf fX3_27 (by decide +kernel) (sbI_cell H I2 hle) rfl ?_
    obtain ⟨_, a9I2⟩ := sbI_at I2
    refine g_callV (rc' := 12) (rs' := 408) kX3_46 (sbI_I hp I2 (n := w) (T := 1) (by omega) tw (by omega)) (by decide +kernel) rfl rfl a9I2 rfl (Nat.le_of_ble_eq_true rfl) (Nat.le_of_ble_eq_true rfl) (Nat.le_of_ble_eq_true rfl) (by omega) (by omega) rfl (fun _ _ z => z.elim) (fun v9 h3 hz => ?_)
    obtain ⟨rfl, I3⟩ := hz
    simp only [Option.toList_some, Option.toList_none, List.cons_append, List.nil_append]
    refine g_blk [(.bipush 103, .int (nI 103))] (Nat.le_of_ble_eq_true rfl) (by decide +kernel) ?_
    refine gx_bipush ((gx_nil ?_))
    obtain ⟨_, a9I3⟩ := sbI_at I3
    refine g_callV (rc' := 11) (rs' := 374) kX3_40 (sbI_C hp I3 (c := 103) (by omega) (by omega)) (by decide +kernel) rfl rfl a9I3 rfl (Nat.le_of_ble_eq_true rfl) (Nat.le_of_ble_eq_true rfl) (Nat.le_of_ble_eq_true rfl) (by omega) (by omega) rfl (fun _ _ z => z.elim) (fun v9 h4 hz => ?_)
    obtain ⟨rfl, I4⟩ := hz
    simp only [Option.toList_some, Option.toList_none, List.cons_append, List.nil_append]
    refine g_blk [(.pop, .null), (.aload_n 0, .null)] (Nat.le_of_ble_eq_true rfl) (by decide +kernel) ?_
    refine gx_popr (gx_aload_n_0 ((gx_nil ?_)))
    refine g_pV kX3_49 (le_inTray0 (sbI_cell H I4 hle)) (by decide +kernel) rfl rfl (sbI_cell H I4 hle) rfl (Nat.le_of_ble_eq_true rfl) (Nat.le_of_ble_eq_true rfl) (Nat.le_of_ble_eq_true rfl) rfl ?_
    simp only [Option.toList_some, List.cons_append, List.nil_append]
    refine g_if_ne (off := 29) (tgt := 113) (by decide +kernel) (by decide) (fun c84 => ?_) (fun c84 => ?_)
    · try simp only [bI_0, Decidable.not_not] at c84
      have hA1 : A = none ∧ at9 = -1 := by
        rcases hA with z | ⟨x, y, z1, z2, z3, z4, z5⟩
        · exact z
        · rw [z4] at c84; exact absurd c84 (nI_nm1 (by omega))
      obtain ⟨rfl, rfl⟩ := hA1
      refine g_blk [(.aload_n 0, .null)] (Nat.le_of_ble_eq_true rfl) (by decide +kernel) ?_
      refine gx_aload_n_0 ((gx_nil ?_))
      refine g_getf fX3_9 (by decide +kernel) (sbI_cell H I4 hle) rfl ?_
      refine g_if_le (off := 17) (tgt := 134) (by decide +kernel) (by decide) (fun c117 => ?_) (fun c117 => ?_)
      · try simp only [bI_0, Decidable.not_not] at c117
        refine g_end none rfl ⟨by decide +kernel, rfl⟩ ?_
        have q0 : q = 0 := Nat.le_zero.mp ((nI_leI (by omega) (by decide)).mp (show nI q ≤ nI 0 from c117))
        refine ⟨rfl, ?_⟩
        have e : (([if pr = 1 then 80 else 83] ++ dgt m ++ [58] ++ dgu cd 3) ++ [32] ++ dgt w ++ [103]) = fmt pr m cd w none q := by
          unfold fmt fmQ
          rw [if_pos q0]
          simp only [fmA, List.append_assoc, List.cons_append, List.nil_append, List.append_nil]
        rw [← e]
        exact ⟨I4.1, Nat.le_trans I4.2 (by omega)⟩
      · try simp only [bI_0, Decidable.not_not] at c117
        refine g_blk [(.aload_n 1, .null)] (Nat.le_of_ble_eq_true rfl) (by decide +kernel) ?_
        refine gx_aload_n_1 ((gx_nil ?_))
        refine g_ldc ht.2.2.1 (by decide +kernel) ?_
        obtain ⟨_, a9I4⟩ := sbI_at I4
        refine g_callV (rc' := 1) (rs' := 34) kX3_55 (sbI_S hp ht.2.2.2 I4 (n := 2) rfl (by decide)) (by decide +kernel) rfl rfl a9I4 rfl (Nat.le_of_ble_eq_true rfl) (Nat.le_of_ble_eq_true rfl) (Nat.le_of_ble_eq_true rfl) (by omega) (by omega) rfl (fun _ _ z => z.elim) (fun v9 h9x hz => ?_)
        obtain ⟨rfl, I9⟩ := hz
        simp only [Option.toList_some, Option.toList_none, List.cons_append, List.nil_append]
        refine g_blk [(.aload_n 0, .null)] (Nat.le_of_ble_eq_true rfl) (by decide +kernel) ?_
        refine gx_aload_n_0 ((gx_nil ?_))
        refine g_getf fX3_9 (by decide +kernel) (sbI_cell H I9 hle) rfl ?_
        obtain ⟨_, a9I9⟩ := sbI_at I9
        refine g_callV (rc' := 0) (rs' := 0) kX3_46 (sbI_I hp I9 (n := q) (T := 0) (by omega) (by omega) (by simp)) (by decide +kernel) rfl rfl a9I9 rfl (Nat.le_of_ble_eq_true rfl) (Nat.le_of_ble_eq_true rfl) (Nat.le_of_ble_eq_true rfl) (by omega) (by omega) rfl (fun _ _ z => z.elim) (fun v9 h10 hz => ?_)
        obtain ⟨rfl, I10⟩ := hz
        simp only [Option.toList_some, Option.toList_none, List.cons_append, List.nil_append]
        refine g_blk [(.pop, .null)] (Nat.le_of_ble_eq_true rfl) (by decide +kernel) ?_
        refine gx_popr ((gx_nil ?_))
        refine g_end none rfl ⟨by decide +kernel, rfl⟩ ?_
        have q0 : ¬ q = 0 := fun z => c117 (by rw [z]; decide)
        refine ⟨rfl, ?_⟩
        have e : (([if pr = 1 then 80 else 83] ++ dgt m ++ [58] ++ dgu cd 3) ++ [32] ++ dgt w ++ [103] ++ [32, 42] ++ dgt q) = fmt pr m cd w none q := by
          unfold fmt fmQ
          rw [if_neg q0]
          simp only [fmA, List.append_assoc, List.cons_append, List.nil_append, List.append_nil]
        rw [← e]
        exact ⟨I10.1, Nat.le_trans I10.2 (by omega)⟩
    · try simp only [bI_0, Decidable.not_not] at c84
      have hA1 : ∃ x y, x < 10 ∧ y < 10 ∧ A = some (x, y) ∧ at9 = nI x ∧ bg = nI y := by
        rcases hA with z | z
        · exact absurd z.2 c84
        · exact z
      obtain ⟨x, y, hx, hy, rfl, rfl, rfl⟩ := hA1
      have tx := tpd_9 hx
      have ty := tpd_9 hy
      refine g_blk [(.aload_n 1, .null)] (Nat.le_of_ble_eq_true rfl) (by decide +kernel) ?_
      refine gx_aload_n_1 ((gx_nil ?_))
      refine g_ldc ht.1 (by decide +kernel) ?_
      obtain ⟨_, a9I4⟩ := sbI_at I4
      refine g_callV (rc' := 10) (rs' := 340) kX3_55 (sbI_S hp ht.2.1 I4 (n := 2) rfl (by decide)) (by decide +kernel) rfl rfl a9I4 rfl (Nat.le_of_ble_eq_true rfl) (Nat.le_of_ble_eq_true rfl) (Nat.le_of_ble_eq_true rfl) (by omega) (by omega) rfl (fun _ _ z => z.elim) (fun v9 h5 hz => ?_)
      obtain ⟨rfl, I5⟩ := hz
      simp only [Option.toList_some, Option.toList_none, List.cons_append, List.nil_append]
      refine g_blk [(.aload_n 0, .null)] (Nat.le_of_ble_eq_true rfl) (by decide +kernel) ?_
      refine gx_aload_n_0 ((gx_nil ?_))
      refine g_getf fX3_15 (by decide +kernel) (sbI_cell H I5 hle) rfl ?_
      obtain ⟨_, a9I5⟩ := sbI_at I5
      refine g_callV (rc' := 9) (rs' := 306) kX3_46 (sbI_I hp I5 (n := x) (T := 0) (by omega) (by omega) (by simp)) (by decide +kernel) rfl rfl a9I5 rfl (Nat.le_of_ble_eq_true rfl) (Nat.le_of_ble_eq_true rfl) (Nat.le_of_ble_eq_true rfl) (by omega) (by omega) rfl (fun _ _ z => z.elim) (fun v9 h6 hz => ?_)
      obtain ⟨rfl, I6⟩ := hz
      simp only [Option.toList_some, Option.toList_none, List.cons_append, List.nil_append]
      refine g_blk [(.bipush 46, .int (nI 46))] (Nat.le_of_ble_eq_true rfl) (by decide +kernel) ?_
      refine gx_bipush ((gx_nil ?_))
      obtain ⟨_, a9I6⟩ := sbI_at I6
      refine g_callV (rc' := 8) (rs' := 272) kX3_40 (sbI_C hp I6 (c := 46) (by omega) (by omega)) (by decide +kernel) rfl rfl a9I6 rfl (Nat.le_of_ble_eq_true rfl) (Nat.le_of_ble_eq_true rfl) (Nat.le_of_ble_eq_true rfl) (by omega) (by omega) rfl (fun _ _ z => z.elim) (fun v9 h7 hz => ?_)
      obtain ⟨rfl, I7⟩ := hz
      simp only [Option.toList_some, Option.toList_none, List.cons_append, List.nil_append]
      refine g_blk [(.aload_n 0, .null)] (Nat.le_of_ble_eq_true rfl) (by decide +kernel) ?_
      refine gx_aload_n_0 ((gx_nil ?_))
      refine g_getf fX3_18 (by decide +kernel) (sbI_cell H I7 hle) rfl ?_
      obtain ⟨_, a9I7⟩ := sbI_at I7
      refine g_callV (rc' := 7) (rs' := 238) kX3_46 (sbI_I hp I7 (n := y) (T := 0) (by omega) (by omega) (by simp)) (by decide +kernel) rfl rfl a9I7 rfl (Nat.le_of_ble_eq_true rfl) (Nat.le_of_ble_eq_true rfl) (Nat.le_of_ble_eq_true rfl) (by omega) (by omega) rfl (fun _ _ z => z.elim) (fun v9 h8 hz => ?_)
      obtain ⟨rfl, I8⟩ := hz
      simp only [Option.toList_some, Option.toList_none, List.cons_append, List.nil_append]
      refine g_blk [(.pop, .null), (.aload_n 0, .null)] (Nat.le_of_ble_eq_true rfl) (by decide +kernel) ?_
      refine gx_popr (gx_aload_n_0 ((gx_nil ?_)))
      refine g_getf fX3_9 (by decide +kernel) (sbI_cell H I8 hle) rfl ?_
      refine g_if_le (off := 17) (tgt := 134) (by decide +kernel) (by decide) (fun c117 => ?_) (fun c117 => ?_)
      · try simp only [bI_0, Decidable.not_not] at c117
        refine g_end none rfl ⟨by decide +kernel, rfl⟩ ?_
        have q0 : q = 0 := Nat.le_zero.mp ((nI_leI (by omega) (by decide)).mp (show nI q ≤ nI 0 from c117))
        refine ⟨rfl, ?_⟩
        have e : (([if pr = 1 then 80 else 83] ++ dgt m ++ [58] ++ dgu cd 3) ++ [32] ++ dgt w ++ [103] ++ [32, 114] ++ dgt x ++ [46] ++ dgt y) = fmt pr m cd w (some (x, y)) q := by
          unfold fmt fmQ
          rw [if_pos q0]
          simp only [fmA, List.append_assoc, List.cons_append, List.nil_append, List.append_nil]
        rw [← e]
        exact ⟨I8.1, Nat.le_trans I8.2 (by omega)⟩
      · try simp only [bI_0, Decidable.not_not] at c117
        refine g_blk [(.aload_n 1, .null)] (Nat.le_of_ble_eq_true rfl) (by decide +kernel) ?_
        refine gx_aload_n_1 ((gx_nil ?_))
        refine g_ldc ht.2.2.1 (by decide +kernel) ?_
        obtain ⟨_, a9I8⟩ := sbI_at I8
        refine g_callV (rc' := 1) (rs' := 34) kX3_55 (sbI_S hp ht.2.2.2 I8 (n := 2) rfl (by decide)) (by decide +kernel) rfl rfl a9I8 rfl (Nat.le_of_ble_eq_true rfl) (Nat.le_of_ble_eq_true rfl) (Nat.le_of_ble_eq_true rfl) (by omega) (by omega) rfl (fun _ _ z => z.elim) (fun v9 h9x hz => ?_)
        obtain ⟨rfl, I9⟩ := hz
        simp only [Option.toList_some, Option.toList_none, List.cons_append, List.nil_append]
        refine g_blk [(.aload_n 0, .null)] (Nat.le_of_ble_eq_true rfl) (by decide +kernel) ?_
        refine gx_aload_n_0 ((gx_nil ?_))
        refine g_getf fX3_9 (by decide +kernel) (sbI_cell H I9 hle) rfl ?_
        obtain ⟨_, a9I9⟩ := sbI_at I9
        refine g_callV (rc' := 0) (rs' := 0) kX3_46 (sbI_I hp I9 (n := q) (T := 0) (by omega) (by omega) (by simp)) (by decide +kernel) rfl rfl a9I9 rfl (Nat.le_of_ble_eq_true rfl) (Nat.le_of_ble_eq_true rfl) (Nat.le_of_ble_eq_true rfl) (by omega) (by omega) rfl (fun _ _ z => z.elim) (fun v9 h10 hz => ?_)
        obtain ⟨rfl, I10⟩ := hz
        simp only [Option.toList_some, Option.toList_none, List.cons_append, List.nil_append]
        refine g_blk [(.pop, .null)] (Nat.le_of_ble_eq_true rfl) (by decide +kernel) ?_
        refine gx_popr ((gx_nil ?_))
        refine g_end none rfl ⟨by decide +kernel, rfl⟩ ?_
        have q0 : ¬ q = 0 := fun z => c117 (by rw [z]; decide)
        refine ⟨rfl, ?_⟩
        have e : (([if pr = 1 then 80 else 83] ++ dgt m ++ [58] ++ dgu cd 3) ++ [32] ++ dgt w ++ [103] ++ [32, 114] ++ dgt x ++ [46] ++ dgt y ++ [32, 42] ++ dgt q) = fmt pr m cd w (some (x, y)) q := by
          unfold fmt fmQ
          rw [if_neg q0]
          simp only [fmA, List.append_assoc, List.cons_append, List.nil_append, List.append_nil]
        rw [← e]
        exact ⟨I10.1, Nat.le_trans I10.2 (by omega)⟩
  have loop : ∀ n j X hk, j + n = 4 → sbI Γ h a v X hk (7 + j) → X = [if pr = 1 then 80 else 83] ++ dgt m ++ [58] ++ (dgu cd 3).take j → G Γ M_X3_writeTo 6 21 714 (fun r h' => r = none ∧ sbI Γ h a v (fmt pr m cd w A q) h' 24) (fun _ _ => False) (14 + n) (476 + 34 * n) 35 [some (.ref le), some (.ref a), some (.int (nI (pwj j)))] [] hk := by
    intro n
    induction n with
    | zero =>
      intro j X hk hj I1 hX
      obtain rfl : j = 4 := by omega
      refine g_blk [(.iload_n 2, .null)] (Nat.le_of_ble_eq_true rfl) (by decide +kernel) ?_
      refine gx_iload_n_2 ((gx_nil ?_))
      refine g_if_le (off := 25) (tgt := 61) (by decide +kernel) (by decide) (fun c36 => ?_) (fun c36 => ?_)
      · try simp only [bI_0, Decidable.not_not] at c36
        exact g_wk (by simp [gLe]) (fin X hk I1 hX)
      · try simp only [bI_0, Decidable.not_not] at c36
        exact absurd (by decide) c36
    | succ n ih =>
      intro j X hk hj I1 hX
      have hj3 : j ≤ 3 := by omega
      have hpw := pwj_3 j hj3
      have l1 := sbI_cell H I1 hle
      have hd9 : cd / 10 ^ (3 - j) % 10 < 10 := Nat.mod_lt _ (by decide)
      have td := tpd_9 hd9
      refine g_blk [(.iload_n 2, .null)] (Nat.le_of_ble_eq_true rfl) (by decide +kernel) ?_
      refine gx_iload_n_2 ((gx_nil ?_))
      refine g_if_le (off := 25) (tgt := 61) (by decide +kernel) (by decide) (fun c36 => ?_) (fun c36 => ?_)
      · try simp only [bI_0, Decidable.not_not] at c36
        exact absurd c36 (nI_nle hpw.2.1 hpw.2.2)
      · try simp only [bI_0, Decidable.not_not] at c36
        refine g_blk [(.aload_n 1, .null), (.aload_n 0, .null)] (Nat.le_of_ble_eq_true rfl) (by decide +kernel) ?_
        refine gx_aload_n_1 (gx_aload_n_0 ((gx_nil ?_)))
        refine g_getf fX3_24 (by decide +kernel) l1 rfl ?_
        refine g_blk [(.iload_n 2, .null)] (Nat.le_of_ble_eq_true rfl) (by decide +kernel) ?_
        refine gx_iload_n_2 ((gx_nil ?_))
        refine g_idiv (pwj_n hj3) (by decide +kernel) ?_
        refine g_blk [(.bipush 10, .int (nI 10))] (Nat.le_of_ble_eq_true rfl) (by decide +kernel) ?_
        refine gx_bipush ((gx_nil ?_))
        refine g_irem (by decide) (by decide +kernel) ?_
        rw [dg_j (by omega) hj3]
        obtain ⟨_, a9⟩ := sbI_at I1
        refine g_callV (rc' := 14 + n) (rs' := 476 + 34 * n) kX3_46 (sbI_I hp I1 (n := cd / 10 ^ (3 - j) % 10) (T := 0) (by omega) (by omega) (by omega)) (by decide +kernel) rfl rfl a9 rfl (Nat.le_of_ble_eq_true rfl) (Nat.le_of_ble_eq_true rfl) (Nat.le_of_ble_eq_true rfl) (by omega) (by omega) rfl (fun _ _ z => z.elim) (fun v9 h2 hz => ?_)
        obtain ⟨rfl, I2⟩ := hz
        simp only [Option.toList_some, Option.toList_none, List.cons_append, List.nil_append]
        refine g_blk [(.pop, .null), (.iload_n 2, .null), (.bipush 10, .int (nI 10))] (Nat.le_of_ble_eq_true rfl) (by decide +kernel) ?_
        refine gx_popr (gx_iload_n_2 (gx_bipush ((gx_nil ?_))))
        refine g_idiv (by decide) (by decide +kernel) ?_
        rw [pwj_s j hj3]
        refine g_blk [(.istore_n 2, .null), (.goto (-23), .retAddr 35)] (Nat.le_of_ble_eq_true rfl) (by decide +kernel) ?_
        refine gx_istore_n_2 rfl (gx_goto ((gx_nil ?_)))
        exact ih (j + 1) _ h2 (by omega) I2 (by rw [hX, dgu_take hj3, List.append_assoc])
  refine gC_of (by decide) rfl (Nat.le_of_ble_eq_true rfl) [some (.ref le), some (.ref a), none] rfl ?_
  refine g_blk [(.aload_n 1, .null), (.aload_n 0, .null)] (Nat.le_of_ble_eq_true rfl) (by decide +kernel) ?_
  refine gx_aload_n_1 (gx_aload_n_0 ((gx_nil ?_)))
  refine g_getf fX3_30 (by decide +kernel) hle rfl ?_
  refine g_if_eq (off := 8) (tgt := 13) (by decide +kernel) (by decide) (fun c5 => ?_) (fun c5 => ?_)
  · try simp only [bI_0, Decidable.not_not] at c5
    refine g_blk [(.bipush 83, .int (nI 83))] (Nat.le_of_ble_eq_true rfl) (by decide +kernel) ?_
    refine gx_bipush ((gx_nil ?_))
    have ec : (if pr = 1 then 80 else 83) = 83 := by
      have p0 : pr = 0 := (nI_eq (by omega) (by decide)).mp (show nI pr = nI 0 from c5)
      exact if_neg (by omega)
    obtain ⟨_, a9I0⟩ := sbI_at I0
    refine g_callV (rc' := 20) (rs' := 680) kX3_40 (sbI_C hp I0 (c := 83) (by omega) (by omega)) (by decide +kernel) rfl rfl a9I0 rfl (Nat.le_of_ble_eq_true rfl) (Nat.le_of_ble_eq_true rfl) (Nat.le_of_ble_eq_true rfl) (by omega) (by omega) rfl (fun _ _ z => z.elim) (fun v9 h1x hz => ?_)
    obtain ⟨rfl, I1⟩ := hz
    simp only [Option.toList_some, Option.toList_none, List.cons_append, List.nil_append]
    refine g_blk [(.aload_n 0, .null)] (Nat.le_of_ble_eq_true rfl) (by decide +kernel) ?_
    refine gx_aload_n_0 ((gx_nil ?_))
    refine g_getf fX3_21 (by decide +kernel) (sbI_cell H I1 hle) rfl ?_
    obtain ⟨_, a9I1⟩ := sbI_at I1
    refine g_callV (rc' := 19) (rs' := 646) kX3_46 (sbI_I hp I1 (n := m) (T := 4) hm tm (by omega)) (by decide +kernel) rfl rfl a9I1 rfl (Nat.le_of_ble_eq_true rfl) (Nat.le_of_ble_eq_true rfl) (Nat.le_of_ble_eq_true rfl) (by omega) (by omega) rfl (fun _ _ z => z.elim) (fun v9 h2x hz => ?_)
    obtain ⟨rfl, I2⟩ := hz
    simp only [Option.toList_some, Option.toList_none, List.cons_append, List.nil_append]
    refine g_blk [(.bipush 58, .int (nI 58))] (Nat.le_of_ble_eq_true rfl) (by decide +kernel) ?_
    refine gx_bipush ((gx_nil ?_))
    obtain ⟨_, a9I2⟩ := sbI_at I2
    refine g_callV (rc' := 18) (rs' := 612) kX3_40 (sbI_C hp I2 (c := 58) (by omega) (by omega)) (by decide +kernel) rfl rfl a9I2 rfl (Nat.le_of_ble_eq_true rfl) (Nat.le_of_ble_eq_true rfl) (Nat.le_of_ble_eq_true rfl) (by omega) (by omega) rfl (fun _ _ z => z.elim) (fun v9 h3x hz => ?_)
    obtain ⟨rfl, I3⟩ := hz
    simp only [Option.toList_some, Option.toList_none, List.cons_append, List.nil_append]
    refine g_blk [(.pop, .null), (.sipush 1000, .int (nI 1000)), (.istore_n 2, .null)] (Nat.le_of_ble_eq_true rfl) (by decide +kernel) ?_
    refine gx_popr (gx_sipush (gx_istore_n_2 rfl ((gx_nil ?_))))
    refine g_weak (rc' := 14 + 4) (rs' := 476 + 34 * 4) ?_ (by omega) (by omega) (loop 4 0 _ h3x (by omega) (show sbI Γ h a v _ h3x 7 from I3) ?_)
    · simp [gLe, pwj]
    · rw [ec]; simp
  · try simp only [bI_0, Decidable.not_not] at c5
    refine g_blk [(.bipush 80, .int (nI 80)), (.goto 5, .retAddr 15)] (Nat.le_of_ble_eq_true rfl) (by decide +kernel) ?_
    refine gx_bipush (gx_goto ((gx_nil ?_)))
    have ec : (if pr = 1 then 80 else 83) = 80 := by
      have p0 : ¬ pr = 0 := fun z => c5 (by rw [z]; decide)
      exact if_pos (by omega)
    obtain ⟨_, a9I0⟩ := sbI_at I0
    refine g_callV (rc' := 20) (rs' := 680) kX3_40 (sbI_C hp I0 (c := 80) (by omega) (by omega)) (by decide +kernel) rfl rfl a9I0 rfl (Nat.le_of_ble_eq_true rfl) (Nat.le_of_ble_eq_true rfl) (Nat.le_of_ble_eq_true rfl) (by omega) (by omega) rfl (fun _ _ z => z.elim) (fun v9 h1x hz => ?_)
    obtain ⟨rfl, I1⟩ := hz
    simp only [Option.toList_some, Option.toList_none, List.cons_append, List.nil_append]
    refine g_blk [(.aload_n 0, .null)] (Nat.le_of_ble_eq_true rfl) (by decide +kernel) ?_
    refine gx_aload_n_0 ((gx_nil ?_))
    refine g_getf fX3_21 (by decide +kernel) (sbI_cell H I1 hle) rfl ?_
    obtain ⟨_, a9I1⟩ := sbI_at I1
    refine g_callV (rc' := 19) (rs' := 646) kX3_46 (sbI_I hp I1 (n := m) (T := 4) hm tm (by omega)) (by decide +kernel) rfl rfl a9I1 rfl (Nat.le_of_ble_eq_true rfl) (Nat.le_of_ble_eq_true rfl) (Nat.le_of_ble_eq_true rfl) (by omega) (by omega) rfl (fun _ _ z => z.elim) (fun v9 h2x hz => ?_)
    obtain ⟨rfl, I2⟩ := hz
    simp only [Option.toList_some, Option.toList_none, List.cons_append, List.nil_append]
    refine g_blk [(.bipush 58, .int (nI 58))] (Nat.le_of_ble_eq_true rfl) (by decide +kernel) ?_
    refine gx_bipush ((gx_nil ?_))
    obtain ⟨_, a9I2⟩ := sbI_at I2
    refine g_callV (rc' := 18) (rs' := 612) kX3_40 (sbI_C hp I2 (c := 58) (by omega) (by omega)) (by decide +kernel) rfl rfl a9I2 rfl (Nat.le_of_ble_eq_true rfl) (Nat.le_of_ble_eq_true rfl) (Nat.le_of_ble_eq_true rfl) (by omega) (by omega) rfl (fun _ _ z => z.elim) (fun v9 h3x hz => ?_)
    obtain ⟨rfl, I3⟩ := hz
    simp only [Option.toList_some, Option.toList_none, List.cons_append, List.nil_append]
    refine g_blk [(.pop, .null), (.sipush 1000, .int (nI 1000)), (.istore_n 2, .null)] (Nat.le_of_ble_eq_true rfl) (by decide +kernel) ?_
    refine gx_popr (gx_sipush (gx_istore_n_2 rfl ((gx_nil ?_))))
    refine g_weak (rc' := 14 + 4) (rs' := 476 + 34 * 4) ?_ (by omega) (by omega) (loop 4 0 _ h3x (by omega) (show sbI Γ h a v _ h3x 7 from I3) ?_)
    · simp [gLe, pwj]
    · rw [ec]; simp
end GWr
