/-! AN OFFICE MADE -/
section GOi
variable {Γ : gE} {de : Nat} {h : gHp}
set_option maxRecDepth 100000 in
theorem wAI : Cond.arrayClass .int ∈ lw_good := (gIn (List.mem_of_getElem? (i := 206) (by decide +kernel)) (by decide +kernel))
theorem gK_no {S : Nat → Prop} {h h1 : gHp} {q : Nat} (k : gKeep S h h1) (hs : ∀ z, S z → ∃ e, h1 z = some e) (hq : h1 q = none) : h q = none := by
  cases e : h q with
  | none => rfl
  | some x =>
    by_cases y : S q
    · obtain ⟨e9, h9⟩ := hs q y
      rw [hq] at h9; cases h9
    · rw [k q x y e] at hq; cases hq
theorem gK_up {S : Nat → Prop} {h h1 : gHp} {a : Nat} {e : va_E} (k : gKeep S h h1) (ha : S a ∨ h a = none) : gKeep S h (gUp h1 a e) := by
  intro z e9 z1 z2
  have za : z ≠ a := fun y => by
    rcases ha with x | x
    · exact z1 (y ▸ x)
    · rw [y, x] at z2; cases z2
  rw [gUp_n _ _ za]
  exact k z e9 z1 z2
theorem gK_tr {S S1 : Nat → Prop} {h h1 h2 : gHp} (k : gKeep S h h1) (k1 : gKeep S1 h1 h2) (hs : ∀ z, S1 z → S z ∨ h z = none) : gKeep S h h2 := by
  intro z e9 z1 z2
  refine k1 z e9 (fun y => ?_) (k z e9 z1 z2)
  rcases hs z y with x | x
  · exact z1 x
  · rw [x] at z2; cases z2
def gN0 (q : Nat) : Int32 := if 8 ≤ q ∧ q < 26 then (if q % 3 = 2 then nI 24 else if q % 3 = 0 then nI 6 else 0) else 0
theorem of_init {o : Nat} {x0 x1 x2 x3 x4 : Value} {y0 y1 y2 y3 y4 y5 : Int32} (hp : gPal Γ de) (ho : h o = some (gJ 7 [x0, x1, x2, x3, x4, .int y0, .int y1, .int y2, .int y3, .int y4, .int y5])) : gC Γ M_X4_init [.ref o] h 5 7 31 (fun v h' => v = none ∧ ∃ la ta ca da ba pa ep, gOx Γ de h' o gN0 0 0 la ta ca da ba pa ep [la] [pa] [] [] ∧ gNd ca da ba [la] [pa] [] ∧ (∀ q ∈ gFp o ta ca da ba [la] [pa] [], q = o ∨ h q = none) ∧ gKeep (fun z => z = o) h h') (fun _ _ => False) := by
  have loop : ∀ (la ta ca da ba pa ep : Nat) (hh : (h ca = none ∧ h da = none ∧ h ba = none ∧ h la = none ∧ h ta = none ∧ h pa = none)) (hne : ca ≠ da ∧ ca ≠ ba ∧ da ≠ ba ∧ la ≠ pa), ∀ n i hk fc fd, i + n = 6 → hk o = some (gJ 7 [.ref la, .ref ta, .ref ca, .ref da, .ref ba, .int 0, .int 0, .int 0, .int 0, .int 0, .int 0]) → gAL Γ de hk la [la] [] → hk ta = some (gJ 11 [.ref pa, .ref ep]) → gAL Γ de hk pa [pa] [] → hk ep = some (gJ 9 [.int 0, .int 0, .int (-1), .int (nI 10000), .int 0]) → hk ca = some (gI Γ 6 fc) → hk da = some (gI Γ 6 fd) → hk ba = some (gI Γ 6 (fun _ => 0)) → (∀ r, r < i → fc r = nI 24 ∧ fd r = nI 6) → gKeep (fun z => z = o) h hk → G Γ M_X4_init 5 7 31 (fun v h' => v = none ∧ ∃ la ta ca da ba pa ep, gOx Γ de h' o gN0 0 0 la ta ca da ba pa ep [la] [pa] [] [] ∧ gNd ca da ba [la] [pa] [] ∧ (∀ q ∈ gFp o ta ca da ba [la] [pa] [], q = o ∨ h q = none) ∧ gKeep (fun z => z = o) h h') (fun _ _ => False) 0 0 82 [some (.ref o), some (.int (nI i))] [] hk := by
    intro la ta ca da ba pa ep hh hne n
    induction n with
    | zero =>
      intro i hk fc fd hi k1 k2 k3 k4 k5 k6 k7 k8 k9 k10
      obtain rfl : i = 6 := by omega
      refine g_blk [(.iload_n 1, .null), (.bipush 6, .int (nI 6))] (Nat.le_of_ble_eq_true rfl) (by decide +kernel) ?_
      refine gx_iload_n_1 (gx_bipush ((gx_nil ?_)))
      refine g_icmp_ge (off := 25) (tgt := 110) (by decide +kernel) (by decide) (fun c85 => ?_) (fun c85 => ?_)
      · try simp only [bI_0, Decidable.not_not] at c85
        refine g_end none rfl ⟨by decide +kernel, rfl⟩ ?_
        refine ⟨rfl, la, ta, ca, da, ba, pa, ep, ⟨k1, k2, rfl, fun i a z => absurd z (by simp), k3, k4, rfl, fun j p z => absurd z (by simp), k5, ⟨fc, k6, fun r hr => ?_⟩, ⟨fd, k7, fun r hr => ?_⟩, ⟨_, k8, fun r hr => ?_⟩⟩, ⟨List.nodup_nil, hne.1, hne.2.1, hne.2.2.1, fun q hq hq2 => hne.2.2.2 (by rw [← List.mem_singleton.mp hq, ← List.mem_singleton.mp hq2])⟩, fun q hq => ?_, k10⟩
        · rw [(k9 r hr).1]; unfold gN0; rw [if_pos (by omega), if_pos (by omega)]
        · rw [(k9 r hr).2]; unfold gN0; rw [if_pos (by omega), if_neg (by omega), if_pos (by omega)]
        · unfold gN0; rw [if_pos (by omega), if_neg (by omega), if_neg (by omega)]
        · unfold gFp at hq
          simp only [List.mem_cons, List.cons_append, List.nil_append, List.not_mem_nil, or_false] at hq
          rcases hq with z | z | z | z | z | z | z
          · exact Or.inl z
          · exact Or.inr (by rw [z]; exact hh.2.2.2.2.1)
          · exact Or.inr (by rw [z]; exact hh.1)
          · exact Or.inr (by rw [z]; exact hh.2.1)
          · exact Or.inr (by rw [z]; exact hh.2.2.1)
          · exact Or.inr (by rw [z]; exact hh.2.2.2.1)
          · exact Or.inr (by rw [z]; exact hh.2.2.2.2.2)
      · try simp only [bI_0, Decidable.not_not] at c85
        exact absurd (nI_le (by omega) (by omega)) c85
    | succ n ih =>
      intro i hk fc fd hi k1 k2 k3 k4 k5 k6 k7 k8 k9 k10
      refine g_blk [(.iload_n 1, .null), (.bipush 6, .int (nI 6))] (Nat.le_of_ble_eq_true rfl) (by decide +kernel) ?_
      refine gx_iload_n_1 (gx_bipush ((gx_nil ?_)))
      refine g_icmp_ge (off := 25) (tgt := 110) (by decide +kernel) (by decide) (fun c85 => ?_) (fun c85 => ?_)
      · try simp only [bI_0, Decidable.not_not] at c85
        exact absurd c85 (nI_ge (by omega) (by omega))
      · try simp only [bI_0, Decidable.not_not] at c85
        refine g_blk [(.aload_n 0, .null)] (Nat.le_of_ble_eq_true rfl) (by decide +kernel) ?_
        refine gx_aload_n_0 ((gx_nil ?_))
        refine g_getf fX4_25 (by decide +kernel) k1 rfl ?_
        refine g_blk [(.iload_n 1, .null), (.bipush 24, .int (nI 24))] (Nat.le_of_ble_eq_true rfl) (by decide +kernel) ?_
        refine gx_iload_n_1 (gx_bipush ((gx_nil ?_)))
        refine g_iastore (by decide +kernel) k6 (vp_in_nI (by omega) (by omega)) ?_
        rw [nI_clamp (by omega)]
        have ca_o : o ≠ ca := fun z => by rw [z, k6] at k1; cases k1
        have m1 : gUp hk ca (gI Γ 6 (upd fc i (nI 24))) o = _ := (gUp_n _ _ ca_o).trans k1
        have m7 : gUp hk ca (gI Γ 6 (upd fc i (nI 24))) da = _ := (gUp_n _ _ hne.1.symm).trans k7
        refine g_blk [(.aload_n 0, .null)] (Nat.le_of_ble_eq_true rfl) (by decide +kernel) ?_
        refine gx_aload_n_0 ((gx_nil ?_))
        refine g_getf fX4_29 (by decide +kernel) m1 rfl ?_
        refine g_blk [(.iload_n 1, .null), (.bipush 6, .int (nI 6))] (Nat.le_of_ble_eq_true rfl) (by decide +kernel) ?_
        refine gx_iload_n_1 (gx_bipush ((gx_nil ?_)))
        refine g_iastore (by decide +kernel) m7 (vp_in_nI (by omega) (by omega)) ?_
        rw [nI_clamp (by omega)]
        refine g_blk [(.iinc 1 1, .int (nI 1)), (.goto (-25), .retAddr 82)] (Nat.le_of_ble_eq_true rfl) (by decide +kernel) ?_
        refine gx_iinc_1 rfl (gx_goto ((gx_nil ?_)))
        try simp only [nI_add, Nat.add_zero, Nat.zero_add, Nat.reduceAdd]
        have iO : ∀ {n n' : Nat} {f : Nat → Int32} {f' : Nat → Option Nat}, gI Γ n f ≠ gO Γ n' f' := fun z => by
          have z2 := congrArg (fun x : va_E => match x with | .inl (_, _, .inl _) => true | _ => false) z
          cases z2
        have nn : ∀ {b : Nat} {x : va_E}, hk b = some x → (∀ n f, x ≠ gI Γ n f) → gUp (gUp hk ca (gI Γ 6 (upd fc i (nI 24)))) da (gI Γ 6 (upd fd i (nI 6))) b = some x := fun {b x} hb hx9 => by
          rw [gUp_n _ _ (fun z => by rw [z, k7] at hb; exact hx9 _ _ (Option.some.inj hb).symm), gUp_n _ _ (fun z => by rw [z, k6] at hb; exact hx9 _ _ (Option.some.inj hb).symm)]
          exact hb
        have na : ∀ {a : Nat} {xs : List Nat}, gAL Γ de hk a [a] xs → gAL Γ de (gUp (gUp hk ca (gI Γ 6 (upd fc i (nI 24)))) da (gI Γ 6 (upd fd i (nI 6)))) a [a] xs := fun {a xs} G9 => by
          have y9 : ∃ fs, hk a = some (gJ 4 fs) := by
            obtain ⟨_, _, _, _, ⟨y9, -⟩, -⟩ := G9
            exact ⟨_, y9⟩
          obtain ⟨fs, y9⟩ := y9
          refine gAL_kp (gAL_kp G9 gUp_k (fun q hq z => ?_)) gUp_k (fun q hq z => ?_)
          · rw [List.mem_singleton.mp hq] at z
            rw [z, k6] at y9; cases y9
          · rw [List.mem_singleton.mp hq] at z
            rw [z, k7] at y9; cases y9
        refine ih (i + 1) _ (upd fc i (nI 24)) (upd fd i (nI 6)) (by omega) (nn k1 (fun n f z => by cases z)) (na k2) (nn k3 (fun n f z => by cases z)) (na k4) (nn k5 (fun n f z => by cases z)) ?_ (gUp_s _ _ _) ?_ (fun r hr => ?_) (gK_up (gK_up k10 (Or.inr hh.1)) (Or.inr hh.2.1))
        · rw [gUp_n _ _ hne.1, gUp_s]
        · rw [gUp_n _ _ hne.2.2.1.symm, gUp_n _ _ hne.2.1.symm]; exact k8
        · by_cases y : r = i
          · subst y; exact ⟨pk_us, pk_us⟩
          · rw [pk_un y, pk_un y]; exact k9 r (by omega)
  refine gC_of (by decide) rfl (Nat.le_of_ble_eq_true rfl) [some (.ref o), none] rfl ?_
  refine g_blk [(.aload_n 0, .null)] (Nat.le_of_ble_eq_true rfl) (by decide +kernel) ?_
  refine gx_aload_n_0 ((gx_nil ?_))
  refine g_objInit wOIRX4 wOI1 wOI2 (by decide +kernel) (by omega) (Nat.le_of_ble_eq_true rfl) ?_
  refine g_blk [(.aload_n 0, .null)] (Nat.le_of_ble_eq_true rfl) (by decide +kernel) ?_
  refine gx_aload_n_0 ((gx_nil ?_))
  refine g_new nX4_9 (rc' := 6) (rs' := 28) (by decide +kernel) (by omega) (by simp) (fun la h_la => ?_)
  have n_la : h la = none := gK_no (S := fun z => z = o) gKeep.rf (fun z y => by rw [y]; exact ⟨_, ho⟩) h_la
  have d_o_la : o ≠ la := fun z => by rw [← z, ho] at h_la; cases h_la
  obtain ⟨g1, eh⟩ : ∃ z, z = gUp h la (gJ 4 [.int 0, .null, .int 0]) := ⟨_, rfl⟩
  refine g_hp eh ?_
  have fo_g1 : g1 o = some (gJ 7 [x0, x1, x2, x3, x4, .int y0, .int y1, .int y2, .int y3, .int y4, .int y5]) := by rw [eh, gUp_n _ _ d_o_la]; exact ho
  have fla_g1 : g1 la = some (gJ 4 [.int 0, .null, .int 0]) := by rw [eh]; exact gUp_s _ _ _
  have k_g1 : gKeep (fun z => z = o) h g1 := by rw [eh]; exact gK_up gKeep.rf (Or.inr n_la)
  clear eh
  refine g_blk [(.dup, .null)] (Nat.le_of_ble_eq_true rfl) (by decide +kernel) ?_
  refine gx_dupr ((gx_nil ?_))
  refine g_callI (rc' := 6) (rs' := 28) kX4_11 (al_init hp fla_g1) (by decide +kernel) rfl rfl rfl (Nat.le_of_ble_eq_true rfl) (Nat.le_of_ble_eq_true rfl) (Nat.le_of_ble_eq_true rfl) (by omega) (by omega) rfl (fun _ _ z => z.elim) (fun v9 g2 hz => ?_)
  obtain ⟨rfl, fla_g2, hk5⟩ := hz
  have fo_g2 : g2 o = some (gJ 7 [x0, x1, x2, x3, x4, .int y0, .int y1, .int y2, .int y3, .int y4, .int y5]) := hk5 o _ d_o_la fo_g1
  have k_g2 : gKeep (fun z => z = o) h g2 := gK_tr k_g1 hk5 (fun z y => Or.inr (by rw [y]; exact n_la))
  simp only [Option.toList_some, Option.toList_none, List.cons_append, List.nil_append]
  refine g_putfF fX4_12 fin7_0 rfl (by decide +kernel) fo_g2 (by simp) rfl rfl ?_
  obtain ⟨g3, eh⟩ : ∃ z, z = gUp g2 o (gJ 7 [.ref la, x1, x2, x3, x4, .int y0, .int y1, .int y2, .int y3, .int y4, .int y5]) := ⟨_, rfl⟩
  refine g_hp eh ?_
  have fla_g3 : gAL Γ de g3 la [la] [] := by rw [eh]; exact gAL_kp fla_g2 gUp_k (fun q hq z => d_o_la.symm (by rw [← z]; exact (List.mem_singleton.mp hq).symm))
  have fo_g3 : g3 o = some (gJ 7 [.ref la, x1, x2, x3, x4, .int y0, .int y1, .int y2, .int y3, .int y4, .int y5]) := by rw [eh]; exact gUp_s _ _ _
  have k_g3 : gKeep (fun z => z = o) h g3 := by rw [eh]; exact gK_up k_g2 (Or.inl rfl)
  clear eh
  refine g_blk [(.aload_n 0, .null)] (Nat.le_of_ble_eq_true rfl) (by decide +kernel) ?_
  refine gx_aload_n_0 ((gx_nil ?_))
  refine g_new nX4_18 (rc' := 5) (rs' := 26) (by decide +kernel) (by omega) (by simp) (fun ta h_ta => ?_)
  have n_ta : h ta = none := gK_no (S := fun z => z = o) k_g3 (fun z y => by rw [y]; exact ⟨_, fo_g3⟩) h_ta
  have d_o_ta : o ≠ ta := fun z => by rw [← z, fo_g3] at h_ta; cases h_ta
  have d_la_ta : la ≠ ta := fun z => by
    obtain ⟨_, _, _, _, ⟨y9, -⟩, -⟩ := fla_g3
    rw [← z, y9] at h_ta; cases h_ta
  obtain ⟨g4, eh⟩ : ∃ z, z = gUp g3 ta (gJ 11 [.null, .null]) := ⟨_, rfl⟩
  refine g_hp eh ?_
  have fo_g4 : g4 o = some (gJ 7 [.ref la, x1, x2, x3, x4, .int y0, .int y1, .int y2, .int y3, .int y4, .int y5]) := by rw [eh, gUp_n _ _ d_o_ta]; exact fo_g3
  have fla_g4 : gAL Γ de g4 la [la] [] := by rw [eh]; exact gAL_kp fla_g3 gUp_k (fun q hq z => d_la_ta (by rw [← z]; exact (List.mem_singleton.mp hq).symm))
  have fta_g4 : g4 ta = some (gJ 11 [.null, .null]) := by rw [eh]; exact gUp_s _ _ _
  have k_g4 : gKeep (fun z => z = o) h g4 := by rw [eh]; exact gK_up k_g3 (Or.inr n_ta)
  clear eh
  refine g_blk [(.dup, .null)] (Nat.le_of_ble_eq_true rfl) (by decide +kernel) ?_
  refine gx_dupr ((gx_nil ?_))
  refine g_callIN (rc' := 3) (rs' := 18) kX4_20 (tb_init hp fta_g4) (by decide +kernel) rfl rfl rfl (Nat.le_of_ble_eq_true rfl) (Nat.le_of_ble_eq_true rfl) (Nat.le_of_ble_eq_true rfl) (by omega) (by omega) rfl (fun _ _ z => z.elim) (fun v9 g5 hz => ?_)
  obtain ⟨rfl, pa, ep, h_pa, h_ep, d_pa_ep, fta_g5, fpa_g5, fep_g5, hk5⟩ := hz
  have n_pa : h pa = none := gK_no (S := fun z => z = o) k_g4 (fun z y => by rw [y]; exact ⟨_, fo_g4⟩) h_pa
  have d_o_pa : o ≠ pa := fun z => by rw [← z, fo_g4] at h_pa; cases h_pa
  have d_la_pa : la ≠ pa := fun z => by
    obtain ⟨_, _, _, _, ⟨y9, -⟩, -⟩ := fla_g4
    rw [← z, y9] at h_pa; cases h_pa
  have d_ta_pa : ta ≠ pa := fun z => by rw [← z, fta_g4] at h_pa; cases h_pa
  have n_ep : h ep = none := gK_no (S := fun z => z = o) k_g4 (fun z y => by rw [y]; exact ⟨_, fo_g4⟩) h_ep
  have d_o_ep : o ≠ ep := fun z => by rw [← z, fo_g4] at h_ep; cases h_ep
  have d_la_ep : la ≠ ep := fun z => by
    obtain ⟨_, _, _, _, ⟨y9, -⟩, -⟩ := fla_g4
    rw [← z, y9] at h_ep; cases h_ep
  have d_ta_ep : ta ≠ ep := fun z => by rw [← z, fta_g4] at h_ep; cases h_ep
  have fo_g5 : g5 o = some (gJ 7 [.ref la, x1, x2, x3, x4, .int y0, .int y1, .int y2, .int y3, .int y4, .int y5]) := hk5 o _ d_o_ta fo_g4
  have fla_g5 : gAL Γ de g5 la [la] [] := gAL_kp fla_g4 hk5 (fun q9 hq z => d_la_ta (by rw [← z]; exact (List.mem_singleton.mp hq).symm))
  have k_g5 : gKeep (fun z => z = o) h g5 := gK_tr k_g4 hk5 (fun z y => Or.inr (by rw [y]; exact n_ta))
  simp only [Option.toList_some, Option.toList_none, List.cons_append, List.nil_append]
  refine g_putfF fX4_21 fin7_1 rfl (by decide +kernel) fo_g5 (by simp) rfl rfl ?_
  obtain ⟨g6, eh⟩ : ∃ z, z = gUp g5 o (gJ 7 [.ref la, .ref ta, x2, x3, x4, .int y0, .int y1, .int y2, .int y3, .int y4, .int y5]) := ⟨_, rfl⟩
  refine g_hp eh ?_
  have fla_g6 : gAL Γ de g6 la [la] [] := by rw [eh]; exact gAL_kp fla_g5 gUp_k (fun q hq z => d_o_la.symm (by rw [← z]; exact (List.mem_singleton.mp hq).symm))
  have fta_g6 : g6 ta = some (gJ 11 [.ref pa, .ref ep]) := by rw [eh, gUp_n _ _ d_o_ta.symm]; exact fta_g5
  have fpa_g6 : gAL Γ de g6 pa [pa] [] := by rw [eh]; exact gAL_kp fpa_g5 gUp_k (fun q hq z => d_o_pa.symm (by rw [← z]; exact (List.mem_singleton.mp hq).symm))
  have fep_g6 : g6 ep = some (gJ 9 [.int 0, .int 0, .int (-1), .int (nI 10000), .int 0]) := by rw [eh, gUp_n _ _ d_o_ep.symm]; exact fep_g5
  have fo_g6 : g6 o = some (gJ 7 [.ref la, .ref ta, x2, x3, x4, .int y0, .int y1, .int y2, .int y3, .int y4, .int y5]) := by rw [eh]; exact gUp_s _ _ _
  have k_g6 : gKeep (fun z => z = o) h g6 := by rw [eh]; exact gK_up k_g5 (Or.inl rfl)
  clear eh
  refine g_blk [(.aload_n 0, .null), (.bipush 6, .int (nI 6))] (Nat.le_of_ble_eq_true rfl) (by decide +kernel) ?_
  refine gx_aload_n_0 (gx_bipush ((gx_nil ?_)))
  refine g_newarr_i (rc' := 2) (rs' := 12) (by decide +kernel) wAI (by decide) (show (nI 6).toNatClampNeg = 6 by decide) (by decide) (by omega) (by omega) (fun ca h_ca => ?_)
  have n_ca : h ca = none := gK_no (S := fun z => z = o) k_g6 (fun z y => by rw [y]; exact ⟨_, fo_g6⟩) h_ca
  have d_o_ca : o ≠ ca := fun z => by rw [← z, fo_g6] at h_ca; cases h_ca
  have d_la_ca : la ≠ ca := fun z => by
    obtain ⟨_, _, _, _, ⟨y9, -⟩, -⟩ := fla_g6
    rw [← z, y9] at h_ca; cases h_ca
  have d_ta_ca : ta ≠ ca := fun z => by rw [← z, fta_g6] at h_ca; cases h_ca
  have d_pa_ca : pa ≠ ca := fun z => by
    obtain ⟨_, _, _, _, ⟨y9, -⟩, -⟩ := fpa_g6
    rw [← z, y9] at h_ca; cases h_ca
  have d_ep_ca : ep ≠ ca := fun z => by rw [← z, fep_g6] at h_ca; cases h_ca
  obtain ⟨g7, eh⟩ : ∃ z, z = gUp g6 ca (gI Γ 6 (fun _ => 0)) := ⟨_, rfl⟩
  refine g_hp eh ?_
  have fo_g7 : g7 o = some (gJ 7 [.ref la, .ref ta, x2, x3, x4, .int y0, .int y1, .int y2, .int y3, .int y4, .int y5]) := by rw [eh, gUp_n _ _ d_o_ca]; exact fo_g6
  have fla_g7 : gAL Γ de g7 la [la] [] := by rw [eh]; exact gAL_kp fla_g6 gUp_k (fun q hq z => d_la_ca (by rw [← z]; exact (List.mem_singleton.mp hq).symm))
  have fta_g7 : g7 ta = some (gJ 11 [.ref pa, .ref ep]) := by rw [eh, gUp_n _ _ d_ta_ca]; exact fta_g6
  have fpa_g7 : gAL Γ de g7 pa [pa] [] := by rw [eh]; exact gAL_kp fpa_g6 gUp_k (fun q hq z => d_pa_ca (by rw [← z]; exact (List.mem_singleton.mp hq).symm))
  have fep_g7 : g7 ep = some (gJ 9 [.int 0, .int 0, .int (-1), .int (nI 10000), .int 0]) := by rw [eh, gUp_n _ _ d_ep_ca]; exact fep_g6
  have fca_g7 : g7 ca = some (gI Γ 6 (fun _ => 0)) := by rw [eh]; exact gUp_s _ _ _
  have k_g7 : gKeep (fun z => z = o) h g7 := by rw [eh]; exact gK_up k_g6 (Or.inr n_ca)
  clear eh
  refine g_putfF fX4_25 fin7_2 rfl (by decide +kernel) fo_g7 (by simp) rfl rfl ?_
  obtain ⟨g8, eh⟩ : ∃ z, z = gUp g7 o (gJ 7 [.ref la, .ref ta, .ref ca, x3, x4, .int y0, .int y1, .int y2, .int y3, .int y4, .int y5]) := ⟨_, rfl⟩
  refine g_hp eh ?_
  have fla_g8 : gAL Γ de g8 la [la] [] := by rw [eh]; exact gAL_kp fla_g7 gUp_k (fun q hq z => d_o_la.symm (by rw [← z]; exact (List.mem_singleton.mp hq).symm))
  have fta_g8 : g8 ta = some (gJ 11 [.ref pa, .ref ep]) := by rw [eh, gUp_n _ _ d_o_ta.symm]; exact fta_g7
  have fpa_g8 : gAL Γ de g8 pa [pa] [] := by rw [eh]; exact gAL_kp fpa_g7 gUp_k (fun q hq z => d_o_pa.symm (by rw [← z]; exact (List.mem_singleton.mp hq).symm))
  have fep_g8 : g8 ep = some (gJ 9 [.int 0, .int 0, .int (-1), .int (nI 10000), .int 0]) := by rw [eh, gUp_n _ _ d_o_ep.symm]; exact fep_g7
  have fca_g8 : g8 ca = some (gI Γ 6 (fun _ => 0)) := by rw [eh, gUp_n _ _ d_o_ca.symm]; exact fca_g7
  have fo_g8 : g8 o = some (gJ 7 [.ref la, .ref ta, .ref ca, x3, x4, .int y0, .int y1, .int y2, .int y3, .int y4, .int y5]) := by rw [eh]; exact gUp_s _ _ _
  have k_g8 : gKeep (fun z => z = o) h g8 := by rw [eh]; exact gK_up k_g7 (Or.inl rfl)
  clear eh
  refine g_blk [(.aload_n 0, .null), (.bipush 6, .int (nI 6))] (Nat.le_of_ble_eq_true rfl) (by decide +kernel) ?_
  refine gx_aload_n_0 (gx_bipush ((gx_nil ?_)))
  refine g_newarr_i (rc' := 1) (rs' := 6) (by decide +kernel) wAI (by decide) (show (nI 6).toNatClampNeg = 6 by decide) (by decide) (by omega) (by omega) (fun da h_da => ?_)
  have n_da : h da = none := gK_no (S := fun z => z = o) k_g8 (fun z y => by rw [y]; exact ⟨_, fo_g8⟩) h_da
  have d_o_da : o ≠ da := fun z => by rw [← z, fo_g8] at h_da; cases h_da
  have d_la_da : la ≠ da := fun z => by
    obtain ⟨_, _, _, _, ⟨y9, -⟩, -⟩ := fla_g8
    rw [← z, y9] at h_da; cases h_da
  have d_ta_da : ta ≠ da := fun z => by rw [← z, fta_g8] at h_da; cases h_da
  have d_pa_da : pa ≠ da := fun z => by
    obtain ⟨_, _, _, _, ⟨y9, -⟩, -⟩ := fpa_g8
    rw [← z, y9] at h_da; cases h_da
  have d_ep_da : ep ≠ da := fun z => by rw [← z, fep_g8] at h_da; cases h_da
  have d_ca_da : ca ≠ da := fun z => by rw [← z, fca_g8] at h_da; cases h_da
  obtain ⟨g9, eh⟩ : ∃ z, z = gUp g8 da (gI Γ 6 (fun _ => 0)) := ⟨_, rfl⟩
  refine g_hp eh ?_
  have fo_g9 : g9 o = some (gJ 7 [.ref la, .ref ta, .ref ca, x3, x4, .int y0, .int y1, .int y2, .int y3, .int y4, .int y5]) := by rw [eh, gUp_n _ _ d_o_da]; exact fo_g8
  have fla_g9 : gAL Γ de g9 la [la] [] := by rw [eh]; exact gAL_kp fla_g8 gUp_k (fun q hq z => d_la_da (by rw [← z]; exact (List.mem_singleton.mp hq).symm))
  have fta_g9 : g9 ta = some (gJ 11 [.ref pa, .ref ep]) := by rw [eh, gUp_n _ _ d_ta_da]; exact fta_g8
  have fpa_g9 : gAL Γ de g9 pa [pa] [] := by rw [eh]; exact gAL_kp fpa_g8 gUp_k (fun q hq z => d_pa_da (by rw [← z]; exact (List.mem_singleton.mp hq).symm))
  have fep_g9 : g9 ep = some (gJ 9 [.int 0, .int 0, .int (-1), .int (nI 10000), .int 0]) := by rw [eh, gUp_n _ _ d_ep_da]; exact fep_g8
  have fca_g9 : g9 ca = some (gI Γ 6 (fun _ => 0)) := by rw [eh, gUp_n _ _ d_ca_da]; exact fca_g8
  have fda_g9 : g9 da = some (gI Γ 6 (fun _ => 0)) := by rw [eh]; exact gUp_s _ _ _
  have k_g9 : gKeep (fun z => z = o) h g9 := by rw [eh]; exact gK_up k_g8 (Or.inr n_da)
  clear eh
  refine g_putfF fX4_29 fin7_3 rfl (by decide +kernel) fo_g9 (by simp) rfl rfl ?_
  obtain ⟨g10, eh⟩ : ∃ z, z = gUp g9 o (gJ 7 [.ref la, .ref ta, .ref ca, .ref da, x4, .int y0, .int y1, .int y2, .int y3, .int y4, .int y5]) := ⟨_, rfl⟩
  refine g_hp eh ?_
  have fla_g10 : gAL Γ de g10 la [la] [] := by rw [eh]; exact gAL_kp fla_g9 gUp_k (fun q hq z => d_o_la.symm (by rw [← z]; exact (List.mem_singleton.mp hq).symm))
  have fta_g10 : g10 ta = some (gJ 11 [.ref pa, .ref ep]) := by rw [eh, gUp_n _ _ d_o_ta.symm]; exact fta_g9
  have fpa_g10 : gAL Γ de g10 pa [pa] [] := by rw [eh]; exact gAL_kp fpa_g9 gUp_k (fun q hq z => d_o_pa.symm (by rw [← z]; exact (List.mem_singleton.mp hq).symm))
  have fep_g10 : g10 ep = some (gJ 9 [.int 0, .int 0, .int (-1), .int (nI 10000), .int 0]) := by rw [eh, gUp_n _ _ d_o_ep.symm]; exact fep_g9
  have fca_g10 : g10 ca = some (gI Γ 6 (fun _ => 0)) := by rw [eh, gUp_n _ _ d_o_ca.symm]; exact fca_g9
  have fda_g10 : g10 da = some (gI Γ 6 (fun _ => 0)) := by rw [eh, gUp_n _ _ d_o_da.symm]; exact fda_g9
  have fo_g10 : g10 o = some (gJ 7 [.ref la, .ref ta, .ref ca, .ref da, x4, .int y0, .int y1, .int y2, .int y3, .int y4, .int y5]) := by rw [eh]; exact gUp_s _ _ _
  have k_g10 : gKeep (fun z => z = o) h g10 := by rw [eh]; exact gK_up k_g9 (Or.inl rfl)
  clear eh
  refine g_blk [(.aload_n 0, .null), (.bipush 6, .int (nI 6))] (Nat.le_of_ble_eq_true rfl) (by decide +kernel) ?_
  refine gx_aload_n_0 (gx_bipush ((gx_nil ?_)))
  refine g_newarr_i (rc' := 0) (rs' := 0) (by decide +kernel) wAI (by decide) (show (nI 6).toNatClampNeg = 6 by decide) (by decide) (by omega) (by omega) (fun ba h_ba => ?_)
  have n_ba : h ba = none := gK_no (S := fun z => z = o) k_g10 (fun z y => by rw [y]; exact ⟨_, fo_g10⟩) h_ba
  have d_o_ba : o ≠ ba := fun z => by rw [← z, fo_g10] at h_ba; cases h_ba
  have d_la_ba : la ≠ ba := fun z => by
    obtain ⟨_, _, _, _, ⟨y9, -⟩, -⟩ := fla_g10
    rw [← z, y9] at h_ba; cases h_ba
  have d_ta_ba : ta ≠ ba := fun z => by rw [← z, fta_g10] at h_ba; cases h_ba
  have d_pa_ba : pa ≠ ba := fun z => by
    obtain ⟨_, _, _, _, ⟨y9, -⟩, -⟩ := fpa_g10
    rw [← z, y9] at h_ba; cases h_ba
  have d_ep_ba : ep ≠ ba := fun z => by rw [← z, fep_g10] at h_ba; cases h_ba
  have d_ca_ba : ca ≠ ba := fun z => by rw [← z, fca_g10] at h_ba; cases h_ba
  have d_da_ba : da ≠ ba := fun z => by rw [← z, fda_g10] at h_ba; cases h_ba
  obtain ⟨g11, eh⟩ : ∃ z, z = gUp g10 ba (gI Γ 6 (fun _ => 0)) := ⟨_, rfl⟩
  refine g_hp eh ?_
  have fo_g11 : g11 o = some (gJ 7 [.ref la, .ref ta, .ref ca, .ref da, x4, .int y0, .int y1, .int y2, .int y3, .int y4, .int y5]) := by rw [eh, gUp_n _ _ d_o_ba]; exact fo_g10
  have fla_g11 : gAL Γ de g11 la [la] [] := by rw [eh]; exact gAL_kp fla_g10 gUp_k (fun q hq z => d_la_ba (by rw [← z]; exact (List.mem_singleton.mp hq).symm))
  have fta_g11 : g11 ta = some (gJ 11 [.ref pa, .ref ep]) := by rw [eh, gUp_n _ _ d_ta_ba]; exact fta_g10
  have fpa_g11 : gAL Γ de g11 pa [pa] [] := by rw [eh]; exact gAL_kp fpa_g10 gUp_k (fun q hq z => d_pa_ba (by rw [← z]; exact (List.mem_singleton.mp hq).symm))
  have fep_g11 : g11 ep = some (gJ 9 [.int 0, .int 0, .int (-1), .int (nI 10000), .int 0]) := by rw [eh, gUp_n _ _ d_ep_ba]; exact fep_g10
  have fca_g11 : g11 ca = some (gI Γ 6 (fun _ => 0)) := by rw [eh, gUp_n _ _ d_ca_ba]; exact fca_g10
  have fda_g11 : g11 da = some (gI Γ 6 (fun _ => 0)) := by rw [eh, gUp_n _ _ d_da_ba]; exact fda_g10
  have fba_g11 : g11 ba = some (gI Γ 6 (fun _ => 0)) := by rw [eh]; exact gUp_s _ _ _
  have k_g11 : gKeep (fun z => z = o) h g11 := by rw [eh]; exact gK_up k_g10 (Or.inr n_ba)
  clear eh
  refine g_putfF fX4_32 fin7_4 rfl (by decide +kernel) fo_g11 (by simp) rfl rfl ?_
  obtain ⟨g12, eh⟩ : ∃ z, z = gUp g11 o (gJ 7 [.ref la, .ref ta, .ref ca, .ref da, .ref ba, .int y0, .int y1, .int y2, .int y3, .int y4, .int y5]) := ⟨_, rfl⟩
  refine g_hp eh ?_
  have fla_g12 : gAL Γ de g12 la [la] [] := by rw [eh]; exact gAL_kp fla_g11 gUp_k (fun q hq z => d_o_la.symm (by rw [← z]; exact (List.mem_singleton.mp hq).symm))
  have fta_g12 : g12 ta = some (gJ 11 [.ref pa, .ref ep]) := by rw [eh, gUp_n _ _ d_o_ta.symm]; exact fta_g11
  have fpa_g12 : gAL Γ de g12 pa [pa] [] := by rw [eh]; exact gAL_kp fpa_g11 gUp_k (fun q hq z => d_o_pa.symm (by rw [← z]; exact (List.mem_singleton.mp hq).symm))
  have fep_g12 : g12 ep = some (gJ 9 [.int 0, .int 0, .int (-1), .int (nI 10000), .int 0]) := by rw [eh, gUp_n _ _ d_o_ep.symm]; exact fep_g11
  have fca_g12 : g12 ca = some (gI Γ 6 (fun _ => 0)) := by rw [eh, gUp_n _ _ d_o_ca.symm]; exact fca_g11
  have fda_g12 : g12 da = some (gI Γ 6 (fun _ => 0)) := by rw [eh, gUp_n _ _ d_o_da.symm]; exact fda_g11
  have fba_g12 : g12 ba = some (gI Γ 6 (fun _ => 0)) := by rw [eh, gUp_n _ _ d_o_ba.symm]; exact fba_g11
  have fo_g12 : g12 o = some (gJ 7 [.ref la, .ref ta, .ref ca, .ref da, .ref ba, .int y0, .int y1, .int y2, .int y3, .int y4, .int y5]) := by rw [eh]; exact gUp_s _ _ _
  have k_g12 : gKeep (fun z => z = o) h g12 := by rw [eh]; exact gK_up k_g11 (Or.inl rfl)
  clear eh
  refine g_blk [(.aload_n 0, .null), (.iconst 0, .int (nI 0))] (Nat.le_of_ble_eq_true rfl) (by decide +kernel) ?_
  refine gx_aload_n_0 (gx_iconst ((gx_nil ?_)))
  refine g_putf fX4_35 (by decide +kernel) fo_g12 (by simp) rfl rfl ?_
  obtain ⟨g13, eh⟩ : ∃ z, z = gUp g12 o (gJ 7 [.ref la, .ref ta, .ref ca, .ref da, .ref ba, .int 0, .int y1, .int y2, .int y3, .int y4, .int y5]) := ⟨_, rfl⟩
  refine g_hp eh ?_
  have fla_g13 : gAL Γ de g13 la [la] [] := by rw [eh]; exact gAL_kp fla_g12 gUp_k (fun q hq z => d_o_la.symm (by rw [← z]; exact (List.mem_singleton.mp hq).symm))
  have fta_g13 : g13 ta = some (gJ 11 [.ref pa, .ref ep]) := by rw [eh, gUp_n _ _ d_o_ta.symm]; exact fta_g12
  have fpa_g13 : gAL Γ de g13 pa [pa] [] := by rw [eh]; exact gAL_kp fpa_g12 gUp_k (fun q hq z => d_o_pa.symm (by rw [← z]; exact (List.mem_singleton.mp hq).symm))
  have fep_g13 : g13 ep = some (gJ 9 [.int 0, .int 0, .int (-1), .int (nI 10000), .int 0]) := by rw [eh, gUp_n _ _ d_o_ep.symm]; exact fep_g12
  have fca_g13 : g13 ca = some (gI Γ 6 (fun _ => 0)) := by rw [eh, gUp_n _ _ d_o_ca.symm]; exact fca_g12
  have fda_g13 : g13 da = some (gI Γ 6 (fun _ => 0)) := by rw [eh, gUp_n _ _ d_o_da.symm]; exact fda_g12
  have fba_g13 : g13 ba = some (gI Γ 6 (fun _ => 0)) := by rw [eh, gUp_n _ _ d_o_ba.symm]; exact fba_g12
  have fo_g13 : g13 o = some (gJ 7 [.ref la, .ref ta, .ref ca, .ref da, .ref ba, .int 0, .int y1, .int y2, .int y3, .int y4, .int y5]) := by rw [eh]; exact gUp_s _ _ _
  have k_g13 : gKeep (fun z => z = o) h g13 := by rw [eh]; exact gK_up k_g12 (Or.inl rfl)
  clear eh
  refine g_blk [(.aload_n 0, .null), (.iconst 0, .int (nI 0))] (Nat.le_of_ble_eq_true rfl) (by decide +kernel) ?_
  refine gx_aload_n_0 (gx_iconst ((gx_nil ?_)))
  refine g_putf fX4_39 (by decide +kernel) fo_g13 (by simp) rfl rfl ?_
  obtain ⟨g14, eh⟩ : ∃ z, z = gUp g13 o (gJ 7 [.ref la, .ref ta, .ref ca, .ref da, .ref ba, .int 0, .int 0, .int y2, .int y3, .int y4, .int y5]) := ⟨_, rfl⟩
  refine g_hp eh ?_
  have fla_g14 : gAL Γ de g14 la [la] [] := by rw [eh]; exact gAL_kp fla_g13 gUp_k (fun q hq z => d_o_la.symm (by rw [← z]; exact (List.mem_singleton.mp hq).symm))
  have fta_g14 : g14 ta = some (gJ 11 [.ref pa, .ref ep]) := by rw [eh, gUp_n _ _ d_o_ta.symm]; exact fta_g13
  have fpa_g14 : gAL Γ de g14 pa [pa] [] := by rw [eh]; exact gAL_kp fpa_g13 gUp_k (fun q hq z => d_o_pa.symm (by rw [← z]; exact (List.mem_singleton.mp hq).symm))
  have fep_g14 : g14 ep = some (gJ 9 [.int 0, .int 0, .int (-1), .int (nI 10000), .int 0]) := by rw [eh, gUp_n _ _ d_o_ep.symm]; exact fep_g13
  have fca_g14 : g14 ca = some (gI Γ 6 (fun _ => 0)) := by rw [eh, gUp_n _ _ d_o_ca.symm]; exact fca_g13
  have fda_g14 : g14 da = some (gI Γ 6 (fun _ => 0)) := by rw [eh, gUp_n _ _ d_o_da.symm]; exact fda_g13
  have fba_g14 : g14 ba = some (gI Γ 6 (fun _ => 0)) := by rw [eh, gUp_n _ _ d_o_ba.symm]; exact fba_g13
  have fo_g14 : g14 o = some (gJ 7 [.ref la, .ref ta, .ref ca, .ref da, .ref ba, .int 0, .int 0, .int y2, .int y3, .int y4, .int y5]) := by rw [eh]; exact gUp_s _ _ _
  have k_g14 : gKeep (fun z => z = o) h g14 := by rw [eh]; exact gK_up k_g13 (Or.inl rfl)
  clear eh
  refine g_blk [(.aload_n 0, .null), (.iconst 0, .int (nI 0))] (Nat.le_of_ble_eq_true rfl) (by decide +kernel) ?_
  refine gx_aload_n_0 (gx_iconst ((gx_nil ?_)))
  refine g_putf fX4_42 (by decide +kernel) fo_g14 (by simp) rfl rfl ?_
  obtain ⟨g15, eh⟩ : ∃ z, z = gUp g14 o (gJ 7 [.ref la, .ref ta, .ref ca, .ref da, .ref ba, .int 0, .int 0, .int 0, .int y3, .int y4, .int y5]) := ⟨_, rfl⟩
  refine g_hp eh ?_
  have fla_g15 : gAL Γ de g15 la [la] [] := by rw [eh]; exact gAL_kp fla_g14 gUp_k (fun q hq z => d_o_la.symm (by rw [← z]; exact (List.mem_singleton.mp hq).symm))
  have fta_g15 : g15 ta = some (gJ 11 [.ref pa, .ref ep]) := by rw [eh, gUp_n _ _ d_o_ta.symm]; exact fta_g14
  have fpa_g15 : gAL Γ de g15 pa [pa] [] := by rw [eh]; exact gAL_kp fpa_g14 gUp_k (fun q hq z => d_o_pa.symm (by rw [← z]; exact (List.mem_singleton.mp hq).symm))
  have fep_g15 : g15 ep = some (gJ 9 [.int 0, .int 0, .int (-1), .int (nI 10000), .int 0]) := by rw [eh, gUp_n _ _ d_o_ep.symm]; exact fep_g14
  have fca_g15 : g15 ca = some (gI Γ 6 (fun _ => 0)) := by rw [eh, gUp_n _ _ d_o_ca.symm]; exact fca_g14
  have fda_g15 : g15 da = some (gI Γ 6 (fun _ => 0)) := by rw [eh, gUp_n _ _ d_o_da.symm]; exact fda_g14
  have fba_g15 : g15 ba = some (gI Γ 6 (fun _ => 0)) := by rw [eh, gUp_n _ _ d_o_ba.symm]; exact fba_g14
  have fo_g15 : g15 o = some (gJ 7 [.ref la, .ref ta, .ref ca, .ref da, .ref ba, .int 0, .int 0, .int 0, .int y3, .int y4, .int y5]) := by rw [eh]; exact gUp_s _ _ _
  have k_g15 : gKeep (fun z => z = o) h g15 := by rw [eh]; exact gK_up k_g14 (Or.inl rfl)
  clear eh
  refine g_blk [(.aload_n 0, .null), (.iconst 0, .int (nI 0))] (Nat.le_of_ble_eq_true rfl) (by decide +kernel) ?_
  refine gx_aload_n_0 (gx_iconst ((gx_nil ?_)))
  refine g_putf fX4_45 (by decide +kernel) fo_g15 (by simp) rfl rfl ?_
  obtain ⟨g16, eh⟩ : ∃ z, z = gUp g15 o (gJ 7 [.ref la, .ref ta, .ref ca, .ref da, .ref ba, .int 0, .int 0, .int 0, .int 0, .int y4, .int y5]) := ⟨_, rfl⟩
  refine g_hp eh ?_
  have fla_g16 : gAL Γ de g16 la [la] [] := by rw [eh]; exact gAL_kp fla_g15 gUp_k (fun q hq z => d_o_la.symm (by rw [← z]; exact (List.mem_singleton.mp hq).symm))
  have fta_g16 : g16 ta = some (gJ 11 [.ref pa, .ref ep]) := by rw [eh, gUp_n _ _ d_o_ta.symm]; exact fta_g15
  have fpa_g16 : gAL Γ de g16 pa [pa] [] := by rw [eh]; exact gAL_kp fpa_g15 gUp_k (fun q hq z => d_o_pa.symm (by rw [← z]; exact (List.mem_singleton.mp hq).symm))
  have fep_g16 : g16 ep = some (gJ 9 [.int 0, .int 0, .int (-1), .int (nI 10000), .int 0]) := by rw [eh, gUp_n _ _ d_o_ep.symm]; exact fep_g15
  have fca_g16 : g16 ca = some (gI Γ 6 (fun _ => 0)) := by rw [eh, gUp_n _ _ d_o_ca.symm]; exact fca_g15
  have fda_g16 : g16 da = some (gI Γ 6 (fun _ => 0)) := by rw [eh, gUp_n _ _ d_o_da.symm]; exact fda_g15
  have fba_g16 : g16 ba = some (gI Γ 6 (fun _ => 0)) := by rw [eh, gUp_n _ _ d_o_ba.symm]; exact fba_g15
  have fo_g16 : g16 o = some (gJ 7 [.ref la, .ref ta, .ref ca, .ref da, .ref ba, .int 0, .int 0, .int 0, .int 0, .int y4, .int y5]) := by rw [eh]; exact gUp_s _ _ _
  have k_g16 : gKeep (fun z => z = o) h g16 := by rw [eh]; exact gK_up k_g15 (Or.inl rfl)
  clear eh
  refine g_blk [(.aload_n 0, .null), (.iconst 0, .int (nI 0))] (Nat.le_of_ble_eq_true rfl) (by decide +kernel) ?_
  refine gx_aload_n_0 (gx_iconst ((gx_nil ?_)))
  refine g_putf fX4_48 (by decide +kernel) fo_g16 (by simp) rfl rfl ?_
  obtain ⟨g17, eh⟩ : ∃ z, z = gUp g16 o (gJ 7 [.ref la, .ref ta, .ref ca, .ref da, .ref ba, .int 0, .int 0, .int 0, .int 0, .int 0, .int y5]) := ⟨_, rfl⟩
  refine g_hp eh ?_
  have fla_g17 : gAL Γ de g17 la [la] [] := by rw [eh]; exact gAL_kp fla_g16 gUp_k (fun q hq z => d_o_la.symm (by rw [← z]; exact (List.mem_singleton.mp hq).symm))
  have fta_g17 : g17 ta = some (gJ 11 [.ref pa, .ref ep]) := by rw [eh, gUp_n _ _ d_o_ta.symm]; exact fta_g16
  have fpa_g17 : gAL Γ de g17 pa [pa] [] := by rw [eh]; exact gAL_kp fpa_g16 gUp_k (fun q hq z => d_o_pa.symm (by rw [← z]; exact (List.mem_singleton.mp hq).symm))
  have fep_g17 : g17 ep = some (gJ 9 [.int 0, .int 0, .int (-1), .int (nI 10000), .int 0]) := by rw [eh, gUp_n _ _ d_o_ep.symm]; exact fep_g16
  have fca_g17 : g17 ca = some (gI Γ 6 (fun _ => 0)) := by rw [eh, gUp_n _ _ d_o_ca.symm]; exact fca_g16
  have fda_g17 : g17 da = some (gI Γ 6 (fun _ => 0)) := by rw [eh, gUp_n _ _ d_o_da.symm]; exact fda_g16
  have fba_g17 : g17 ba = some (gI Γ 6 (fun _ => 0)) := by rw [eh, gUp_n _ _ d_o_ba.symm]; exact fba_g16
  have fo_g17 : g17 o = some (gJ 7 [.ref la, .ref ta, .ref ca, .ref da, .ref ba, .int 0, .int 0, .int 0, .int 0, .int 0, .int y5]) := by rw [eh]; exact gUp_s _ _ _
  have k_g17 : gKeep (fun z => z = o) h g17 := by rw [eh]; exact gK_up k_g16 (Or.inl rfl)
  clear eh
  refine g_blk [(.aload_n 0, .null), (.iconst 0, .int (nI 0))] (Nat.le_of_ble_eq_true rfl) (by decide +kernel) ?_
  refine gx_aload_n_0 (gx_iconst ((gx_nil ?_)))
  refine g_putf fX4_51 (by decide +kernel) fo_g17 (by simp) rfl rfl ?_
  obtain ⟨g18, eh⟩ : ∃ z, z = gUp g17 o (gJ 7 [.ref la, .ref ta, .ref ca, .ref da, .ref ba, .int 0, .int 0, .int 0, .int 0, .int 0, .int 0]) := ⟨_, rfl⟩
  refine g_hp eh ?_
  have fla_g18 : gAL Γ de g18 la [la] [] := by rw [eh]; exact gAL_kp fla_g17 gUp_k (fun q hq z => d_o_la.symm (by rw [← z]; exact (List.mem_singleton.mp hq).symm))
  have fta_g18 : g18 ta = some (gJ 11 [.ref pa, .ref ep]) := by rw [eh, gUp_n _ _ d_o_ta.symm]; exact fta_g17
  have fpa_g18 : gAL Γ de g18 pa [pa] [] := by rw [eh]; exact gAL_kp fpa_g17 gUp_k (fun q hq z => d_o_pa.symm (by rw [← z]; exact (List.mem_singleton.mp hq).symm))
  have fep_g18 : g18 ep = some (gJ 9 [.int 0, .int 0, .int (-1), .int (nI 10000), .int 0]) := by rw [eh, gUp_n _ _ d_o_ep.symm]; exact fep_g17
  have fca_g18 : g18 ca = some (gI Γ 6 (fun _ => 0)) := by rw [eh, gUp_n _ _ d_o_ca.symm]; exact fca_g17
  have fda_g18 : g18 da = some (gI Γ 6 (fun _ => 0)) := by rw [eh, gUp_n _ _ d_o_da.symm]; exact fda_g17
  have fba_g18 : g18 ba = some (gI Γ 6 (fun _ => 0)) := by rw [eh, gUp_n _ _ d_o_ba.symm]; exact fba_g17
  have fo_g18 : g18 o = some (gJ 7 [.ref la, .ref ta, .ref ca, .ref da, .ref ba, .int 0, .int 0, .int 0, .int 0, .int 0, .int 0]) := by rw [eh]; exact gUp_s _ _ _
  have k_g18 : gKeep (fun z => z = o) h g18 := by rw [eh]; exact gK_up k_g17 (Or.inl rfl)
  clear eh
  refine g_blk [(.iconst 0, .int (nI 0)), (.istore_n 1, .null)] (Nat.le_of_ble_eq_true rfl) (by decide +kernel) ?_
  refine gx_iconst (gx_istore_n_1 rfl ((gx_nil ?_)))
  exact loop la ta ca da ba pa ep ⟨n_ca, n_da, n_ba, n_la, n_ta, n_pa⟩ ⟨d_ca_da, d_ca_ba, d_da_ba, d_la_pa⟩ 6 0 _ _ _ rfl fo_g18 fla_g18 fta_g18 fpa_g18 fep_g18 fca_g18 fda_g18 fba_g18 (fun r hr => absurd hr (Nat.not_lt_zero _)) k_g18
end GOi
