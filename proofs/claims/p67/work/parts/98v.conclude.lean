/-! THE FACE: CHANGES CONCLUDED -/
section GFv
variable {Γ : gE} {de mi : Nat} {h h' h1 : gHp} {m B : Nat} {V : Nat → Int32} {F : Nat → Nat → Int32} {ex : List oT}
theorem gOne.kpl {x : oT} {hl : Nat} {fl xs : List Nat} (H : gOne Γ de h B x) (hk : gKeep (fun q => q ∈ fl) h h1) (hA : gAL Γ de h hl fl xs) (hd : ∀ q ∈ fl, q ∉ x.2.2) : gOne Γ de h1 B x := by
  obtain ⟨c, t, nx, a, b⟩ := H
  refine ⟨c, t, nx, a.kp hk (fun q hq z => hd q z hq) (fun q hq fs y => ?_), b⟩
  obtain ⟨e, e1, e2⟩ := gAL_tg hA q hq
  rw [e1] at y
  cases y
  rcases e2 with z | z
  · exact absurd z (by decide : ¬ (9 : Nat) = 4)
  · exact absurd z (by decide : ¬ (9 : Nat) = 50)
theorem gAL_tgk {hl : Nat} {fl xs : List Nat} (hA : gAL Γ de h hl fl xs) (hk : gKeep (fun q => q ∈ fl) h h1) : gFr (fun e => tg e = 4 ∨ tg e = 50) h h1 := gFr.of hk (fun q hq e y => by
  obtain ⟨e1, z1, z2⟩ := gAL_tg hA q hq
  rw [z1] at y
  cases y
  exact z2)
theorem gAL_kck {hl : Nat} {fl xs : List Nat} (hA : gAL Γ de h hl fl xs) (hk : gKeep (fun q => q ∈ fl) h h1) : gFr (kC Γ) h h1 := gFr.of hk (fun q hq e y => gAL_kc hA q hq e y)
theorem t12_4 : ¬ ((12 : Nat) = 4 ∨ (12 : Nat) = 50) := by decide
theorem tg_TBL4 {e : va_E} (z : tgT e ∨ tgB e ∨ tgL e) : ¬ (tg e = 4 ∨ tg e = 50) := by
  unfold tgT tgB tgL at z
  omega
/-- the first of the offices beside becomes a former one -/
theorem gMX.kp {x : oT} (G : gMX Γ de h m V F B (x :: ex)) : ∃ o svv hl tt bu sb fl xs r, gMc h m o svv hl tt bu (V 10) sb (V 7) (V 8) ∧ V 6 = nI r ∧ r ≤ 8 ∧ gAL Γ de h hl fl xs ∧ xs.length = r ∧ gEl h 7 xs ∧ (∃ vs, h x.2.1 = some (gJ 7 vs)) ∧ ∀ (h1 : gHp) (fl' : List Nat), gAL Γ de h1 hl fl' ((if xs.length = 8 then xs.eraseIdx 0 else xs) ++ [x.2.1]) → (∀ q ∈ fl', q ∈ fl ∨ h q = none) → gKeep (fun q => q ∈ fl) h h1 → gMX Γ de h1 m (vU V 6 (nI (rMr r))) (fR F 4 (rMem (F 4) x.1 r)) B ex ∧ gFr (kC Γ) h h1 := by
  obtain ⟨o, fo, sv, fr, svv, hl, tt, bu, sb, fl, a1, a2, a3, a4, ⟨a51, a52, a53⟩, ⟨a6, a7⟩, a8⟩ := G
  refine ⟨o, svv, hl, tt, bu, sb, fl, _, fr.length, a1, a51, a52, a6, List.length_map _, fun y hy => ?_, (a2 x List.mem_cons_self).at7, fun h1 fl' hA hf hk => ?_⟩
  · obtain ⟨z, hz, rfl⟩ := List.mem_map.mp hy
    exact (a2 z (List.mem_cons_of_mem _ (List.mem_append_right _ (List.mem_cons_of_mem _ (List.mem_append_right _ hz))))).at7
  · have kL := gAL_tgk a6 hk
    obtain ⟨f0, hf0, hsub⟩ := frN_sub fr x
    have e1 : ex ++ ((F 0, o, fo) :: (sv ++ frN fr x)) = (ex ++ ((F 0, o, fo) :: sv)) ++ (f0 ++ [x]) := by rw [hf0]; simp only [List.append_assoc, List.cons_append]
    have e2 : x :: (ex ++ ((F 0, o, fo) :: (sv ++ fr))) = x :: ((ex ++ ((F 0, o, fo) :: sv)) ++ fr) := by simp only [List.append_assoc, List.cons_append]
    have a2' : ∀ y ∈ x :: (ex ++ ((F 0, o, fo) :: (sv ++ fr))), gOne Γ de h B y := a2
    have a3' : (x :: (ex ++ ((F 0, o, fo) :: (sv ++ fr)))).Pairwise gApart := a3
    have a7' : ∀ q ∈ fl, ∀ y ∈ x :: (ex ++ ((F 0, o, fo) :: (sv ++ fr))), q ∉ y.2.2 := a7
    rw [e2] at a2' a3' a7'
    refine ⟨⟨o, fo, sv, frN fr x, svv, hl, tt, bu, sb, fl', kL _ _ a1 t12_4, ?_, ?_, a4, ⟨?_, ?_, ?_⟩, ⟨?_, ?_⟩, a8.ft kL (fun e z => tg_TBL4 z)⟩, gAL_kck a6 hk⟩
    · show ∀ y ∈ ex ++ ((F 0, o, fo) :: (sv ++ frN fr x)), gOne Γ de h1 B y
      rw [e1]
      intro y hy
      have hy := pw_mem hsub hy
      exact (a2' y hy).kpl hk a6 (fun q hq => a7' q hq y hy)
    · show (ex ++ ((F 0, o, fo) :: (sv ++ frN fr x))).Pairwise gApart
      rw [e1]
      exact pw_end hsub a3'
    · rw [frN_len a52]; rfl
    · rw [frN_len a52]; unfold rMr; split <;> omega
    · exact frN_row a52 a53
    · rw [frN_map]; exact hA
    · show ∀ q ∈ fl', ∀ y ∈ ex ++ ((F 0, o, fo) :: (sv ++ frN fr x)), q ∉ y.2.2
      rw [e1]
      intro q hq y hy z
      have hy := pw_mem hsub hy
      rcases hf q hq with w | w
      · exact a7' q w y hy z
      · obtain ⟨e, e3, -⟩ := (a2' y hy).cell q z
        rw [w] at e3
        cases e3
variable {hl tt bu sb o : Nat} {sv : Value} {bl e8 f8 : Int32}
theorem mo_keep {fl xs : List Nat} {b : Nat} (hpl : gPall Γ de mi) (hm : gMc h m o sv hl tt bu bl sb e8 f8) (HL : gAL Γ de h hl fl xs) (hxl : xs.length ≤ 8) (hE : gEl h 7 xs) (hb : ∃ vs, h b = some (gJ 7 vs)) : gC Γ M_X9_keepForUndo [.ref m, .ref b] h 8 1 64 (fun v h' => v = none ∧ ∃ fl', gAL Γ de h' hl fl' ((if xs.length = 8 then xs.eraseIdx 0 else xs) ++ [b]) ∧ (∀ q ∈ fl', q ∈ fl ∨ h q = none) ∧ gKeep (fun q => q ∈ fl) h h') (fun _ _ => False) := by
  have hnl : ∀ q ∈ fl, ∀ e, h q = some e → ¬ (tg e = 12 ∨ tg e = 7) := fun q hq e y => by
    obtain ⟨e1, z1, z2⟩ := gAL_tg HL q hq
    rw [z1] at y
    cases y
    omega
  have hnm : m ∉ fl := fun z => hnl m z _ hm (Or.inl rfl)
  refine gC_of (by decide) rfl (Nat.le_of_ble_eq_true rfl) [some (.ref m), some (.ref b)] rfl ?_
  refine g_blk [(.aload_n 0, .null)] (Nat.le_of_ble_eq_true rfl) (by decide +kernel) ?_
  refine gx_aload_n_0 ((gx_nil ?_))
  refine g_getf fX9_22 (by decide +kernel) hm rfl ?_
  refine g_pV kX9_133 (al_size HL) (by decide +kernel) rfl rfl (al_cell HL) rfl (Nat.le_of_ble_eq_true rfl) (Nat.le_of_ble_eq_true rfl) (Nat.le_of_ble_eq_true rfl) rfl ?_
  simp only [Option.toList_some, Option.toList_none, List.cons_append, List.nil_append]
  refine g_blk [(.bipush 8, .int (nI 8))] (Nat.le_of_ble_eq_true rfl) (by decide +kernel) ?_
  refine gx_bipush ((gx_nil ?_))
  refine g_icmp_lt (off := 12) (tgt := 21) (by decide +kernel) (by decide) (fun c9 => ?_) (fun c9 => ?_)
  · try simp only [bI_0, Decidable.not_not] at c9
    have h8 : ¬ xs.length = 8 := fun z => by
      have := (nI_ltI (by omega) (by omega)).mp c9
      omega
    refine g_blk [(.aload_n 0, .null)] (Nat.le_of_ble_eq_true rfl) (by decide +kernel) ?_
    refine gx_aload_n_0 ((gx_nil ?_))
    refine g_getf fX9_22 (by decide +kernel) hm rfl ?_
    refine g_blk [(.aload_n 1, .null)] (Nat.le_of_ble_eq_true rfl) (by decide +kernel) ?_
    refine gx_aload_n_1 ((gx_nil ?_))
    refine g_callV (rc' := 0) (rs' := 0) kX9_140 (al_add hpl HL (by omega) gCi_7 (by decide) hE hb) (by decide +kernel) rfl rfl (al_cell HL) rfl (Nat.le_of_ble_eq_true rfl) (Nat.le_of_ble_eq_true rfl) (Nat.le_of_ble_eq_true rfl) (by omega) (by omega) rfl (fun _ _ z => z.elim) (fun v9 h7 hz => ?_)
    obtain ⟨rfl, fl2, HL2, hf2, hk2⟩ := hz
    simp only [Option.toList_some, Option.toList_none, List.cons_append, List.nil_append]
    refine g_blk [(.pop, .null)] (Nat.le_of_ble_eq_true rfl) (by decide +kernel) ?_
    refine gx_popi ((gx_nil ?_))
    refine g_end none rfl ⟨by decide +kernel, rfl⟩ ?_
    exact ⟨rfl, fl2, by rw [if_neg h8]; exact HL2, hf2, hk2⟩
  · try simp only [bI_0, Decidable.not_not] at c9
    have h8 : xs.length = 8 := by
      rcases Nat.lt_or_ge xs.length 8 with z | z
      · exact absurd (nI_lt z (by omega)) c9
      · omega
    obtain ⟨x0, hx0⟩ : ∃ z, xs[0]? = some z := ⟨_, List.getElem?_eq_getElem (by omega)⟩
    refine g_blk [(.aload_n 0, .null)] (Nat.le_of_ble_eq_true rfl) (by decide +kernel) ?_
    refine gx_aload_n_0 ((gx_nil ?_))
    refine g_getf fX9_22 (by decide +kernel) hm rfl ?_
    refine g_blk [(.iconst 0, .int (nI 0))] (Nat.le_of_ble_eq_true rfl) (by decide +kernel) ?_
    refine gx_iconst ((gx_nil ?_))
    refine g_callV (rc' := 1) (rs' := 64) kX9_136 (al_remove HL hx0 gCi_7 hE (by decide)) (by decide +kernel) rfl rfl (al_cell HL) rfl (Nat.le_of_ble_eq_true rfl) (Nat.le_of_ble_eq_true rfl) (Nat.le_of_ble_eq_true rfl) (by omega) (by omega) rfl (fun _ _ z => z.elim) (fun v9 h6 hz => ?_)
    obtain ⟨rfl, HL6, hk6⟩ := hz
    have hm6 : gMc h6 m o sv hl tt bu bl sb e8 f8 := hk6 _ _ hnm hm
    have hE6 : gEl h6 7 (xs.eraseIdx 0) := fun y hy => by
      obtain ⟨vs, e⟩ := hE y (List.mem_of_mem_eraseIdx hy)
      exact ⟨vs, hk6 _ _ (fun z => hnl y z _ e (Or.inr rfl)) e⟩
    have hb6 : ∃ vs, h6 b = some (gJ 7 vs) := by
      obtain ⟨vs, e⟩ := hb
      exact ⟨vs, hk6 _ _ (fun z => hnl b z _ e (Or.inr rfl)) e⟩
    simp only [Option.toList_some, Option.toList_none, List.cons_append, List.nil_append]
    refine g_blk [(.pop, .null), (.aload_n 0, .null)] (Nat.le_of_ble_eq_true rfl) (by decide +kernel) ?_
    refine gx_popr (gx_aload_n_0 ((gx_nil ?_)))
    refine g_getf fX9_22 (by decide +kernel) hm6 rfl ?_
    refine g_blk [(.aload_n 1, .null)] (Nat.le_of_ble_eq_true rfl) (by decide +kernel) ?_
    refine gx_aload_n_1 ((gx_nil ?_))
    refine g_callV (rc' := 0) (rs' := 0) kX9_140 (al_add hpl HL6 (by rw [List.length_eraseIdx]; split <;> omega) gCi_7 (by decide) hE6 hb6) (by decide +kernel) rfl rfl (al_cell HL6) rfl (Nat.le_of_ble_eq_true rfl) (Nat.le_of_ble_eq_true rfl) (Nat.le_of_ble_eq_true rfl) (by omega) (by omega) rfl (fun _ _ z => z.elim) (fun v9 h7 hz => ?_)
    obtain ⟨rfl, fl2, HL2, hf2, hk2⟩ := hz
    simp only [Option.toList_some, Option.toList_none, List.cons_append, List.nil_append]
    refine g_blk [(.pop, .null)] (Nat.le_of_ble_eq_true rfl) (by decide +kernel) ?_
    refine gx_popi ((gx_nil ?_))
    refine g_end none rfl ⟨by decide +kernel, rfl⟩ ?_
    refine ⟨rfl, fl2, by rw [if_pos h8]; exact HL2, fun q hq => ?_, gKeep.tr hk6 hk2⟩
    rcases hf2 q hq with z | z
    · exact Or.inl z
    · by_cases w : q ∈ fl
      · exact Or.inl w
      · refine Or.inr ?_
        cases e : h q with
        | none => rfl
        | some e9 =>
          have := hk6 q e9 w e
          rw [z] at this
          cases this
def xOf (z : Int32) : String := if z = -1 then xIA else if z = -2 then xIO else if z = -3 then xNS else xIS
def cdI (z : Int32) : Prop := z = -1 ∨ z = -2 ∨ z = -3 ∨ z = -4
theorem mo_raise (hp : gPxs Γ) {z : Int32} (hz : cdI z) : gC Γ M_X9_raise [.int z] h 6 1 6 (fun _ _ => False) (fun E h' => E = xOf z ∧ h' = h) := by
  rcases hz with rfl | rfl | rfl | rfl
  · exact mo_raise1 hp
  · exact mo_raise2 hp
  · exact mo_raise3 hp
  · exact mo_raise4 hp
theorem mo_concluded_no {b : Nat} {z : Int32} (hp : gPxs Γ) (hz : cdI z) : gC Γ M_X9_concluded [.ref m, .ref b, .int z] h 7 1 6 (fun _ _ => False) (fun E h' => E = xOf z ∧ h' = h) := by
  refine gC_of (by decide) rfl (Nat.le_of_ble_eq_true rfl) [some (.ref m), some (.ref b), some (.int z)] rfl ?_
  refine g_blk [(.iload_n 2, .null)] (Nat.le_of_ble_eq_true rfl) (by decide +kernel) ?_
  refine gx_iload_n_2 ((gx_nil ?_))
  exact g_callS (rc' := 0) (rs' := 0) kX9_103 (mo_raise hp hz) (by decide +kernel) rfl rfl (Nat.le_of_ble_eq_true rfl) (Nat.le_of_ble_eq_true rfl) (Nat.le_of_ble_eq_true rfl) (Nat.le_refl _) (Nat.le_refl _) rfl (fun _ _ z => z) (fun _ _ z => z.elim)
theorem mo_concluded {fl xs : List Nat} {b : Nat} {z : Int32} (hpl : gPall Γ de mi) (hz : ¬ z < 0) (hm : gMc h m o sv hl tt bu bl sb e8 f8) (HL : gAL Γ de h hl fl xs) (hxl : xs.length ≤ 8) (hE : gEl h 7 xs) (hb : ∃ vs, h b = some (gJ 7 vs)) : gC Γ M_X9_concluded [.ref m, .ref b, .int z] h 9 1 64 (fun v h' => v = some (.int z) ∧ ∃ fl', gAL Γ de h' hl fl' ((if xs.length = 8 then xs.eraseIdx 0 else xs) ++ [b]) ∧ (∀ q ∈ fl', q ∈ fl ∨ h q = none) ∧ gKeep (fun q => q ∈ fl) h h') (fun _ _ => False) := by
  refine gC_of (by decide) rfl (Nat.le_of_ble_eq_true rfl) [some (.ref m), some (.ref b), some (.int z)] rfl ?_
  refine g_blk [(.iload_n 2, .null)] (Nat.le_of_ble_eq_true rfl) (by decide +kernel) ?_
  refine gx_iload_n_2 ((gx_nil ?_))
  refine g_pS kX9_103 (mo_raise0 hz) (by decide +kernel) rfl rfl (Nat.le_of_ble_eq_true rfl) (Nat.le_of_ble_eq_true rfl) (Nat.le_of_ble_eq_true rfl) rfl ?_
  simp only [Option.toList_some, Option.toList_none, List.cons_append, List.nil_append]
  refine g_blk [(.aload_n 0, .null), (.aload_n 1, .null)] (Nat.le_of_ble_eq_true rfl) (by decide +kernel) ?_
  refine gx_aload_n_0 (gx_aload_n_1 ((gx_nil ?_)))
  refine g_callV (rc' := 0) (rs' := 0) kX9_107 (mo_keep hpl hm HL hxl hE hb) (by decide +kernel) rfl rfl hm rfl (Nat.le_of_ble_eq_true rfl) (Nat.le_of_ble_eq_true rfl) (Nat.le_of_ble_eq_true rfl) (by omega) (by omega) rfl (fun _ _ z => z.elim) (fun v9 h5 hz => ?_)
  obtain ⟨rfl, hz9⟩ := hz
  simp only [Option.toList_some, Option.toList_none, List.cons_append, List.nil_append]
  refine g_blk [(.iload_n 2, .null)] (Nat.le_of_ble_eq_true rfl) (by decide +kernel) ?_
  refine gx_iload_n_2 ((gx_nil ?_))
  refine g_end (some (.int _)) rfl ⟨by decide +kernel, _, rfl, rfl⟩ ?_
  exact ⟨rfl, hz9⟩
/-- what a change of the office leaves, with its code -/
def chZ (Γ : gE) (de : Nat) (h : gHp) (o : Nat) (fp : List Nat) (nx : Nat) (X : trT) (code : Int32 → Int32) (v : Option Value) (h' : gHp) : Prop := (X.1 = 0 ∧ v = some (.int X.2.1) ∧ ∃ c' t' fp', trG nx c' t' X ∧ gOf Γ de h' X.2.2 c' t' o fp' ∧ (∀ q ∈ fp', q ∈ fp ∨ h q = none) ∧ gKeep (fun q => q ∈ fp) h h') ∨ (¬ X.1 = 0 ∧ v = some (.int (code X.1)) ∧ h' = h)
theorem chZ_of {la ta ca da ba pa ep c' t' nx : Nat} {fp : List Nat} {X : trT} {code : Int32 → Int32} {v : Option Value} (hz : cmdZ Γ de h o la ta ca da ba pa ep fp X.1 X.2.1 code X.2.2 c' t' v h') (G : X.1 = 0 → trG nx c' t' X) : chZ Γ de h o fp nx X code v h' := by
  rcases hz with ⟨z1, z2, z3⟩ | ⟨z1, z2, z3⟩
  · obtain ⟨fp', y1, y2, y3⟩ := z3.of
    exact Or.inl ⟨z1, z2, c', t', fp', G z1, y1, y2, y3⟩
  · exact Or.inr ⟨z1, z2, z3⟩
variable {M : gM} {d mc ms rc9 rs9 pc : Nat} {L : List (Option Value)} {h0 : gHp}
/-- the end of a change: concluded, returned -/
theorem ch_tail {x : oT} {X : trT} {code : Int32 → Int32} {nm : Int32 → String} {v9 : Option Value} {h5 h6 : gHp} {r o5 : Nat} {fo5 : List Nat} {nx : Nat} {z9 y9 : Int32} (hp : gPxs Γ) (hpl : gPall Γ de mi) (hlk : gLkV M.1.cls 62 12 M_X9_concluded 2) (hd1 : decode M.2.1 pc = .ok (.invokevirtual 62, 3)) (hd2 : gRet M.2.1 (pc + 3) M.2.2.2.1 (some (.int z9))) (hh : M.2.2.2.2 = []) (hdd : 10 ≤ d) (hr1 : 1 ≤ rc9) (hr2 : 64 ≤ rs9) (G5 : gMX Γ de h5 m V F B [x]) (ex0 : x.1 = F 0) (h6r : V 6 = nI r) (hr8 : r ≤ 8)
    (op : ∀ (h1 : gHp) (N' : Nat → Int32) (c' t' n' : Nat) (fo' : List Nat) (B' : Nat), B ≤ B' → gOf Γ de h1 N' c' t' o5 fo' → rIV N' c' t' n' → n' ≤ B' → (∀ q ∈ fo', q ∈ fo5 ∨ h5 q = none) → gKeep (fun q => q ∈ fo5) h5 h1 → gMX Γ de h1 m V (fR F 0 N') B' [x] ∧ gFr (kC Γ) h5 h1) (hnx : nx ≤ B) (kf : gFr (kC Γ) h0 h5)
    (hz : chZ Γ de h5 o5 fo5 nx X code v9 h6) (hv : v9 = some (.int z9)) (hc : ¬ X.1 = 0 → cdI (code X.1) ∧ nm X.1 = xOf (code X.1)) (hy : X.1 = 0 → y9 = X.2.1) : G Γ M d mc ms (fZ X.1 (.int y9) (fP Γ de h0 m (cV V X.1 r) (cF F X.1 X.2.2 r) (B + 1))) (fX X.1 nm (fP Γ de h0 m (cV V X.1 r) (cF F X.1 X.2.2 r) (B + 1))) rc9 rs9 pc L [.int z9, .ref x.2.1, .ref m] h6 := by
  rcases hz with ⟨z1, z2, c', t', fp', hG, z3, z4, z5⟩ | ⟨z1, z2, rfl⟩
  · obtain ⟨n, a, g1, g2, g3, g4⟩ := hG
    obtain ⟨G6, k6⟩ := op h6 _ c' t' n fp' (B + 1) (by omega) z3 g1 (by omega) z4 z5
    rw [hv] at z2
    cases z2
    obtain ⟨o7, svv, hl7, tt7, bu7, sb7, fl7, xs7, r7, b1, b2, b3, b4, b5, b6, b7, b8⟩ := G6.kp
    have er : r7 = r := (nI_eqI (by omega) (by omega)).mp (b2.symm.trans h6r)
    subst er
    refine g_callV (rc' := 0) (rs' := 0) hlk (mo_concluded hpl (by rw [g3]; exact nI_nn (by omega)) b1 b4 (by omega) b6 b7) hd1 rfl rfl b1 rfl hdd (Nat.le_of_ble_eq_true rfl) (Nat.le_of_ble_eq_true rfl) (by omega) (by omega) hh (fun _ _ z => z.elim) (fun v h7 hz7 => ?_)
    obtain ⟨rfl, fl', y1, y2, y3⟩ := hz7
    obtain ⟨G7, k7⟩ := b8 h7 fl' y1 y2 y3
    refine g_end (some (.int _)) rfl hd2 ⟨z1, by rw [hy z1], ?_, (kf.tr k6).tr k7⟩
    refine gMX.eqv G7 (fun j hj => ?_) (fun j hj => ?_)
    · unfold cV
      rw [if_pos z1]
      by_cases e : j = 6
      · subst e; rfl
      · rw [vU_n e, vU_n e, vU_n (by omega)]
    · unfold cF
      rw [if_pos z1, ex0]
      rcases hj with rfl | rfl | rfl | rfl | rfl <;> rfl
  · rw [hv] at z2
    cases z2
    obtain ⟨c1, c2⟩ := hc z1
    obtain ⟨o7, svv, hl7, tt7, bu7, sb7, fl7, xs7, r7, b1, -⟩ := G5.kp
    refine g_callV (rc' := 0) (rs' := 0) hlk (mo_concluded_no hp c1) hd1 rfl rfl b1 rfl (by omega) (Nat.le_of_ble_eq_true rfl) (Nat.le_of_ble_eq_true rfl) (by omega) (by omega) hh (fun E h' z => ?_) (fun _ _ z => z.elim)
    obtain ⟨rfl, rfl⟩ := z
    refine ⟨z1, c2.symm, (gMX.eqv G5.drop (fun j hj => ?_) (fun j hj => ?_)).mono (Nat.le_succ _), kf⟩
    · unfold cV
      rw [if_neg z1, vU_n (by omega)]
    · unfold cF
      rw [if_neg z1]
      rcases hj with rfl | rfl | rfl | rfl | rfl <;> rfl
end GFv
